theorem dX12_init_0 : decode cX12_init 0 = .ok (.aload_n 0, 1) := by decide +kernel
theorem dX12_init_1 : decode cX12_init 1 = .ok (.invokespecial 1, 3) := by decide +kernel
theorem dX12_init_4 : decode cX12_init 4 = .ok (.aload_n 0, 1) := by decide +kernel
theorem dX12_init_5 : decode cX12_init 5 = .ok (.bipush 16, 2) := by decide +kernel
theorem dX12_init_7 : decode cX12_init 7 = .ok (.newarray .int, 2) := by decide +kernel
theorem dX12_init_9 : decode cX12_init 9 = .ok (.putfield 7, 3) := by decide +kernel
theorem dX12_init_12 : decode cX12_init 12 = .ok (.aload_n 0, 1) := by decide +kernel
theorem dX12_init_13 : decode cX12_init 13 = .ok (.iconst 4, 1) := by decide +kernel
theorem dX12_init_14 : decode cX12_init 14 = .ok (.newarray .int, 2) := by decide +kernel
theorem dX12_init_16 : decode cX12_init 16 = .ok (.putfield 13, 3) := by decide +kernel
theorem dX12_init_19 : decode cX12_init 19 = .ok (.aload_n 0, 1) := by decide +kernel
theorem dX12_init_20 : decode cX12_init 20 = .ok (.iconst 4, 1) := by decide +kernel
theorem dX12_init_21 : decode cX12_init 21 = .ok (.newarray .int, 2) := by decide +kernel
theorem dX12_init_23 : decode cX12_init 23 = .ok (.putfield 16, 3) := by decide +kernel
theorem dX12_init_26 : decode cX12_init 26 = .ok (.aload_n 0, 1) := by decide +kernel
theorem dX12_init_27 : decode cX12_init 27 = .ok (.bipush 30, 2) := by decide +kernel
theorem dX12_init_29 : decode cX12_init 29 = .ok (.newarray .int, 2) := by decide +kernel
theorem dX12_init_31 : decode cX12_init 31 = .ok (.putfield 19, 3) := by decide +kernel
theorem dX12_init_34 : decode cX12_init 34 = .ok (.aload_n 0, 1) := by decide +kernel
theorem dX12_init_35 : decode cX12_init 35 = .ok (.bipush 30, 2) := by decide +kernel
theorem dX12_init_37 : decode cX12_init 37 = .ok (.newarray .int, 2) := by decide +kernel
theorem dX12_init_39 : decode cX12_init 39 = .ok (.putfield 22, 3) := by decide +kernel
theorem dX12_init_42 : decode cX12_init 42 = .ok (.aload_n 0, 1) := by decide +kernel
theorem dX12_init_43 : decode cX12_init 43 = .ok (.bipush 14, 2) := by decide +kernel
theorem dX12_init_45 : decode cX12_init 45 = .ok (.newarray .int, 2) := by decide +kernel
theorem dX12_init_47 : decode cX12_init 47 = .ok (.putfield 25, 3) := by decide +kernel
theorem dX12_init_50 : decode cX12_init 50 = .ok (.aload_n 0, 1) := by decide +kernel
theorem dX12_init_51 : decode cX12_init 51 = .ok (.bipush 14, 2) := by decide +kernel
theorem dX12_init_53 : decode cX12_init 53 = .ok (.newarray .int, 2) := by decide +kernel
theorem dX12_init_55 : decode cX12_init 55 = .ok (.putfield 28, 3) := by decide +kernel
theorem dX12_init_58 : decode cX12_init 58 = .ok (.aload_n 0, 1) := by decide +kernel
theorem dX12_init_59 : decode cX12_init 59 = .ok (.bipush 14, 2) := by decide +kernel
theorem dX12_init_61 : decode cX12_init 61 = .ok (.newarray .int, 2) := by decide +kernel
theorem dX12_init_63 : decode cX12_init 63 = .ok (.putfield 31, 3) := by decide +kernel
theorem dX12_init_66 : decode cX12_init 66 = .ok (.aload_n 0, 1) := by decide +kernel
theorem dX12_init_67 : decode cX12_init 67 = .ok (.bipush 14, 2) := by decide +kernel
theorem dX12_init_69 : decode cX12_init 69 = .ok (.newarray .int, 2) := by decide +kernel
theorem dX12_init_71 : decode cX12_init 71 = .ok (.putfield 34, 3) := by decide +kernel
theorem dX12_init_74 : decode cX12_init 74 = .ok (.aload_n 0, 1) := by decide +kernel
theorem dX12_init_75 : decode cX12_init 75 = .ok (.bipush 14, 2) := by decide +kernel
theorem dX12_init_77 : decode cX12_init 77 = .ok (.newarray .int, 2) := by decide +kernel
theorem dX12_init_79 : decode cX12_init 79 = .ok (.putfield 37, 3) := by decide +kernel
theorem dX12_init_82 : decode cX12_init 82 = .ok (.aload_n 0, 1) := by decide +kernel
theorem dX12_init_83 : decode cX12_init 83 = .ok (.bipush 14, 2) := by decide +kernel
theorem dX12_init_85 : decode cX12_init 85 = .ok (.newarray .int, 2) := by decide +kernel
theorem dX12_init_87 : decode cX12_init 87 = .ok (.putfield 40, 3) := by decide +kernel
theorem dX12_init_90 : decode cX12_init 90 = .ok (.aload_n 0, 1) := by decide +kernel
theorem dX12_init_91 : decode cX12_init 91 = .ok (.bipush 15, 2) := by decide +kernel
theorem dX12_init_93 : decode cX12_init 93 = .ok (.newarray .int, 2) := by decide +kernel
theorem dX12_init_95 : decode cX12_init 95 = .ok (.putfield 43, 3) := by decide +kernel
theorem dX12_init_98 : decode cX12_init 98 = .ok (.aload_n 0, 1) := by decide +kernel
theorem dX12_init_99 : decode cX12_init 99 = .ok (.bipush 60, 2) := by decide +kernel
theorem dX12_init_101 : decode cX12_init 101 = .ok (.newarray .int, 2) := by decide +kernel
theorem dX12_init_103 : decode cX12_init 103 = .ok (.putfield 46, 3) := by decide +kernel
theorem dX12_init_106 : decode cX12_init 106 = .ok (.aload_n 0, 1) := by decide +kernel
theorem dX12_init_107 : decode cX12_init 107 = .ok (.bipush 60, 2) := by decide +kernel
theorem dX12_init_109 : decode cX12_init 109 = .ok (.newarray .int, 2) := by decide +kernel
theorem dX12_init_111 : decode cX12_init 111 = .ok (.putfield 49, 3) := by decide +kernel
theorem dX12_init_114 : decode cX12_init 114 = .ok (.aload_n 0, 1) := by decide +kernel
theorem dX12_init_115 : decode cX12_init 115 = .ok (.bipush 60, 2) := by decide +kernel
theorem dX12_init_117 : decode cX12_init 117 = .ok (.newarray .int, 2) := by decide +kernel
theorem dX12_init_119 : decode cX12_init 119 = .ok (.putfield 52, 3) := by decide +kernel
theorem dX12_init_122 : decode cX12_init 122 = .ok (.aload_n 0, 1) := by decide +kernel
theorem dX12_init_123 : decode cX12_init 123 = .ok (.bipush 60, 2) := by decide +kernel
theorem dX12_init_125 : decode cX12_init 125 = .ok (.newarray .int, 2) := by decide +kernel
theorem dX12_init_127 : decode cX12_init 127 = .ok (.putfield 55, 3) := by decide +kernel
theorem dX12_init_130 : decode cX12_init 130 = .ok (.aload_n 0, 1) := by decide +kernel
theorem dX12_init_131 : decode cX12_init 131 = .ok (.iconst 1, 1) := by decide +kernel
theorem dX12_init_132 : decode cX12_init 132 = .ok (.putfield 58, 3) := by decide +kernel
theorem dX12_init_135 : decode cX12_init 135 = .ok (.aload_n 0, 1) := by decide +kernel
theorem dX12_init_136 : decode cX12_init 136 = .ok (.bipush 40, 2) := by decide +kernel
theorem dX12_init_138 : decode cX12_init 138 = .ok (.newarray .int, 2) := by decide +kernel
theorem dX12_init_140 : decode cX12_init 140 = .ok (.putfield 62, 3) := by decide +kernel
theorem dX12_init_143 : decode cX12_init 143 = .ok (.aload_n 0, 1) := by decide +kernel
theorem dX12_init_144 : decode cX12_init 144 = .ok (.bipush 40, 2) := by decide +kernel
theorem dX12_init_146 : decode cX12_init 146 = .ok (.newarray .int, 2) := by decide +kernel
theorem dX12_init_148 : decode cX12_init 148 = .ok (.putfield 65, 3) := by decide +kernel
theorem dX12_init_151 : decode cX12_init 151 = .ok (.aload_n 0, 1) := by decide +kernel
theorem dX12_init_152 : decode cX12_init 152 = .ok (.bipush 40, 2) := by decide +kernel
theorem dX12_init_154 : decode cX12_init 154 = .ok (.newarray .int, 2) := by decide +kernel
theorem dX12_init_156 : decode cX12_init 156 = .ok (.putfield 68, 3) := by decide +kernel
theorem dX12_init_159 : decode cX12_init 159 = .ok (.aload_n 0, 1) := by decide +kernel
theorem dX12_init_160 : decode cX12_init 160 = .ok (.bipush 40, 2) := by decide +kernel
theorem dX12_init_162 : decode cX12_init 162 = .ok (.newarray .int, 2) := by decide +kernel
theorem dX12_init_164 : decode cX12_init 164 = .ok (.putfield 71, 3) := by decide +kernel
theorem dX12_init_167 : decode cX12_init 167 = .ok (.aload_n 0, 1) := by decide +kernel
theorem dX12_init_168 : decode cX12_init 168 = .ok (.bipush 40, 2) := by decide +kernel
theorem dX12_init_170 : decode cX12_init 170 = .ok (.newarray .int, 2) := by decide +kernel
theorem dX12_init_172 : decode cX12_init 172 = .ok (.putfield 74, 3) := by decide +kernel
theorem dX12_init_175 : decode cX12_init 175 = .ok (.aload_n 0, 1) := by decide +kernel
theorem dX12_init_176 : decode cX12_init 176 = .ok (.bipush 40, 2) := by decide +kernel
theorem dX12_init_178 : decode cX12_init 178 = .ok (.newarray .int, 2) := by decide +kernel
theorem dX12_init_180 : decode cX12_init 180 = .ok (.putfield 77, 3) := by decide +kernel
theorem dX12_init_183 : decode cX12_init 183 = .ok (.aload_n 0, 1) := by decide +kernel
theorem dX12_init_184 : decode cX12_init 184 = .ok (.bipush 40, 2) := by decide +kernel
theorem dX12_init_186 : decode cX12_init 186 = .ok (.newarray .boolean, 2) := by decide +kernel
theorem dX12_init_188 : decode cX12_init 188 = .ok (.putfield 80, 3) := by decide +kernel
theorem dX12_init_191 : decode cX12_init 191 = .ok (.aload_n 0, 1) := by decide +kernel
theorem dX12_init_192 : decode cX12_init 192 = .ok (.iconst 4, 1) := by decide +kernel
theorem dX12_init_193 : decode cX12_init 193 = .ok (.newarray .int, 2) := by decide +kernel
theorem dX12_init_195 : decode cX12_init 195 = .ok (.putfield 84, 3) := by decide +kernel
theorem dX12_init_198 : decode cX12_init 198 = .ok (.aload_n 0, 1) := by decide +kernel
theorem dX12_init_199 : decode cX12_init 199 = .ok (.iconst 4, 1) := by decide +kernel
theorem dX12_init_200 : decode cX12_init 200 = .ok (.newarray .int, 2) := by decide +kernel
theorem dX12_init_202 : decode cX12_init 202 = .ok (.putfield 87, 3) := by decide +kernel
theorem dX12_init_205 : decode cX12_init 205 = .ok (.aload_n 0, 1) := by decide +kernel
theorem dX12_init_206 : decode cX12_init 206 = .ok (.iconst 4, 1) := by decide +kernel
theorem dX12_init_207 : decode cX12_init 207 = .ok (.newarray .int, 2) := by decide +kernel
theorem dX12_init_209 : decode cX12_init 209 = .ok (.putfield 90, 3) := by decide +kernel
theorem dX12_init_212 : decode cX12_init 212 = .ok (.aload_n 0, 1) := by decide +kernel
theorem dX12_init_213 : decode cX12_init 213 = .ok (.iconst 4, 1) := by decide +kernel
theorem dX12_init_214 : decode cX12_init 214 = .ok (.newarray .int, 2) := by decide +kernel
theorem dX12_init_216 : decode cX12_init 216 = .ok (.putfield 93, 3) := by decide +kernel
theorem dX12_init_219 : decode cX12_init 219 = .ok (.aload_n 0, 1) := by decide +kernel
theorem dX12_init_220 : decode cX12_init 220 = .ok (.iconst 4, 1) := by decide +kernel
theorem dX12_init_221 : decode cX12_init 221 = .ok (.newarray .int, 2) := by decide +kernel
theorem dX12_init_223 : decode cX12_init 223 = .ok (.putfield 96, 3) := by decide +kernel
theorem dX12_init_226 : decode cX12_init 226 = .ok (.aload_n 0, 1) := by decide +kernel
theorem dX12_init_227 : decode cX12_init 227 = .ok (.iconst 4, 1) := by decide +kernel
theorem dX12_init_228 : decode cX12_init 228 = .ok (.newarray .int, 2) := by decide +kernel
theorem dX12_init_230 : decode cX12_init 230 = .ok (.putfield 99, 3) := by decide +kernel
theorem dX12_init_233 : decode cX12_init 233 = .ok (.aload_n 0, 1) := by decide +kernel
theorem dX12_init_234 : decode cX12_init 234 = .ok (.iconst 4, 1) := by decide +kernel
theorem dX12_init_235 : decode cX12_init 235 = .ok (.newarray .int, 2) := by decide +kernel
theorem dX12_init_237 : decode cX12_init 237 = .ok (.putfield 102, 3) := by decide +kernel
theorem dX12_init_240 : decode cX12_init 240 = .ok (.aload_n 0, 1) := by decide +kernel
theorem dX12_init_241 : decode cX12_init 241 = .ok (.bipush 56, 2) := by decide +kernel
theorem dX12_init_243 : decode cX12_init 243 = .ok (.newarray .int, 2) := by decide +kernel
theorem dX12_init_245 : decode cX12_init 245 = .ok (.putfield 105, 3) := by decide +kernel
theorem dX12_init_248 : decode cX12_init 248 = .ok (.aload_n 0, 1) := by decide +kernel
theorem dX12_init_249 : decode cX12_init 249 = .ok (.bipush 56, 2) := by decide +kernel
theorem dX12_init_251 : decode cX12_init 251 = .ok (.newarray .int, 2) := by decide +kernel
theorem dX12_init_253 : decode cX12_init 253 = .ok (.putfield 108, 3) := by decide +kernel
theorem dX12_init_256 : decode cX12_init 256 = .ok (.aload_n 0, 1) := by decide +kernel
theorem dX12_init_257 : decode cX12_init 257 = .ok (.bipush 56, 2) := by decide +kernel
theorem dX12_init_259 : decode cX12_init 259 = .ok (.newarray .int, 2) := by decide +kernel
theorem dX12_init_261 : decode cX12_init 261 = .ok (.putfield 111, 3) := by decide +kernel
theorem dX12_init_264 : decode cX12_init 264 = .ok (.aload_n 0, 1) := by decide +kernel
theorem dX12_init_265 : decode cX12_init 265 = .ok (.bipush 56, 2) := by decide +kernel
theorem dX12_init_267 : decode cX12_init 267 = .ok (.newarray .int, 2) := by decide +kernel
theorem dX12_init_269 : decode cX12_init 269 = .ok (.putfield 114, 3) := by decide +kernel
theorem dX12_init_272 : decode cX12_init 272 = .ok (.aload_n 0, 1) := by decide +kernel
theorem dX12_init_273 : decode cX12_init 273 = .ok (.bipush 56, 2) := by decide +kernel
theorem dX12_init_275 : decode cX12_init 275 = .ok (.newarray .boolean, 2) := by decide +kernel
theorem dX12_init_277 : decode cX12_init 277 = .ok (.putfield 117, 3) := by decide +kernel
theorem dX12_init_280 : decode cX12_init 280 = .ok (.aload_n 0, 1) := by decide +kernel
theorem dX12_init_281 : decode cX12_init 281 = .ok (.bipush 56, 2) := by decide +kernel
theorem dX12_init_283 : decode cX12_init 283 = .ok (.newarray .int, 2) := by decide +kernel
theorem dX12_init_285 : decode cX12_init 285 = .ok (.putfield 120, 3) := by decide +kernel
theorem dX12_init_288 : decode cX12_init 288 = .ok (.aload_n 0, 1) := by decide +kernel
theorem dX12_init_289 : decode cX12_init 289 = .ok (.bipush 14, 2) := by decide +kernel
theorem dX12_init_291 : decode cX12_init 291 = .ok (.newarray .int, 2) := by decide +kernel
theorem dX12_init_293 : decode cX12_init 293 = .ok (.putfield 123, 3) := by decide +kernel
theorem dX12_init_296 : decode cX12_init 296 = .ok (.aload_n 0, 1) := by decide +kernel
theorem dX12_init_297 : decode cX12_init 297 = .ok (.bipush 14, 2) := by decide +kernel
theorem dX12_init_299 : decode cX12_init 299 = .ok (.newarray .int, 2) := by decide +kernel
theorem dX12_init_301 : decode cX12_init 301 = .ok (.putfield 126, 3) := by decide +kernel
theorem dX12_init_304 : decode cX12_init 304 = .ok (.aload_n 0, 1) := by decide +kernel
theorem dX12_init_305 : decode cX12_init 305 = .ok (.iconst 5, 1) := by decide +kernel
theorem dX12_init_306 : decode cX12_init 306 = .ok (.newarray .int, 2) := by decide +kernel
theorem dX12_init_308 : decode cX12_init 308 = .ok (.putfield 129, 3) := by decide +kernel
theorem dX12_init_311 : decode cX12_init 311 = .ok (.aload_n 0, 1) := by decide +kernel
theorem dX12_init_312 : decode cX12_init 312 = .ok (.bipush 16, 2) := by decide +kernel
theorem dX12_init_314 : decode cX12_init 314 = .ok (.newarray .int, 2) := by decide +kernel
theorem dX12_init_316 : decode cX12_init 316 = .ok (.putfield 132, 3) := by decide +kernel
theorem dX12_init_319 : decode cX12_init 319 = .ok (.aload_n 0, 1) := by decide +kernel
theorem dX12_init_320 : decode cX12_init 320 = .ok (.bipush 56, 2) := by decide +kernel
theorem dX12_init_322 : decode cX12_init 322 = .ok (.newarray .int, 2) := by decide +kernel
theorem dX12_init_324 : decode cX12_init 324 = .ok (.putfield 135, 3) := by decide +kernel
theorem dX12_init_327 : decode cX12_init 327 = .ok (.aload_n 0, 1) := by decide +kernel
theorem dX12_init_328 : decode cX12_init 328 = .ok (.bipush 14, 2) := by decide +kernel
theorem dX12_init_330 : decode cX12_init 330 = .ok (.newarray .int, 2) := by decide +kernel
theorem dX12_init_332 : decode cX12_init 332 = .ok (.putfield 138, 3) := by decide +kernel
theorem dX12_init_335 : decode cX12_init 335 = .ok (.aload_n 0, 1) := by decide +kernel
theorem dX12_init_336 : decode cX12_init 336 = .ok (.bipush 14, 2) := by decide +kernel
theorem dX12_init_338 : decode cX12_init 338 = .ok (.newarray .boolean, 2) := by decide +kernel
theorem dX12_init_340 : decode cX12_init 340 = .ok (.putfield 141, 3) := by decide +kernel
theorem dX12_init_343 : decode cX12_init 343 = .ok (.aload_n 0, 1) := by decide +kernel
theorem dX12_init_344 : decode cX12_init 344 = .ok (.bipush 14, 2) := by decide +kernel
theorem dX12_init_346 : decode cX12_init 346 = .ok (.newarray .int, 2) := by decide +kernel
theorem dX12_init_348 : decode cX12_init 348 = .ok (.putfield 144, 3) := by decide +kernel
theorem dX12_init_351 : decode cX12_init 351 = .ok (.aload_n 0, 1) := by decide +kernel
theorem dX12_init_352 : decode cX12_init 352 = .ok (.bipush 14, 2) := by decide +kernel
theorem dX12_init_354 : decode cX12_init 354 = .ok (.newarray .int, 2) := by decide +kernel
theorem dX12_init_356 : decode cX12_init 356 = .ok (.putfield 147, 3) := by decide +kernel
theorem dX12_init_359 : decode cX12_init 359 = .ok (.aload_n 0, 1) := by decide +kernel
theorem dX12_init_360 : decode cX12_init 360 = .ok (.getfield 84, 3) := by decide +kernel
theorem dX12_init_363 : decode cX12_init 363 = .ok (.iconst 0, 1) := by decide +kernel
theorem dX12_init_364 : decode cX12_init 364 = .ok (.iconst 1, 1) := by decide +kernel
theorem dX12_init_365 : decode cX12_init 365 = .ok (.iastore, 1) := by decide +kernel
theorem dX12_init_366 : decode cX12_init 366 = .ok (.iconst 0, 1) := by decide +kernel
theorem dX12_init_367 : decode cX12_init 367 = .ok (.istore_n 1, 1) := by decide +kernel
theorem dX12_init_368 : decode cX12_init 368 = .ok (.iload_n 1, 1) := by decide +kernel
theorem dX12_init_369 : decode cX12_init 369 = .ok (.iconst 4, 1) := by decide +kernel
theorem dX12_init_370 : decode cX12_init 370 = .ok (.if_icmp .ge 23, 3) := by decide +kernel
theorem dX12_init_373 : decode cX12_init 373 = .ok (.aload_n 0, 1) := by decide +kernel
theorem dX12_init_374 : decode cX12_init 374 = .ok (.getfield 87, 3) := by decide +kernel
theorem dX12_init_377 : decode cX12_init 377 = .ok (.iload_n 1, 1) := by decide +kernel
theorem dX12_init_378 : decode cX12_init 378 = .ok (.iconst (-1), 1) := by decide +kernel
theorem dX12_init_379 : decode cX12_init 379 = .ok (.iastore, 1) := by decide +kernel
theorem dX12_init_380 : decode cX12_init 380 = .ok (.aload_n 0, 1) := by decide +kernel
theorem dX12_init_381 : decode cX12_init 381 = .ok (.getfield 102, 3) := by decide +kernel
theorem dX12_init_384 : decode cX12_init 384 = .ok (.iload_n 1, 1) := by decide +kernel
theorem dX12_init_385 : decode cX12_init 385 = .ok (.iconst (-1), 1) := by decide +kernel
theorem dX12_init_386 : decode cX12_init 386 = .ok (.iastore, 1) := by decide +kernel
theorem dX12_init_387 : decode cX12_init 387 = .ok (.iinc 1 1, 3) := by decide +kernel
theorem dX12_init_390 : decode cX12_init 390 = .ok (.goto (-22), 3) := by decide +kernel
theorem dX12_init_393 : decode cX12_init 393 = .ok (.iconst 0, 1) := by decide +kernel
theorem dX12_init_394 : decode cX12_init 394 = .ok (.istore_n 1, 1) := by decide +kernel
theorem dX12_init_395 : decode cX12_init 395 = .ok (.iload_n 1, 1) := by decide +kernel
theorem dX12_init_396 : decode cX12_init 396 = .ok (.bipush 14, 2) := by decide +kernel
theorem dX12_init_398 : decode cX12_init 398 = .ok (.if_icmp .ge 16, 3) := by decide +kernel
theorem dX12_init_401 : decode cX12_init 401 = .ok (.aload_n 0, 1) := by decide +kernel
theorem dX12_init_402 : decode cX12_init 402 = .ok (.getfield 126, 3) := by decide +kernel
theorem dX12_init_405 : decode cX12_init 405 = .ok (.iload_n 1, 1) := by decide +kernel
theorem dX12_init_406 : decode cX12_init 406 = .ok (.iconst (-1), 1) := by decide +kernel
theorem dX12_init_407 : decode cX12_init 407 = .ok (.iastore, 1) := by decide +kernel
theorem dX12_init_408 : decode cX12_init 408 = .ok (.iinc 1 1, 3) := by decide +kernel
theorem dX12_init_411 : decode cX12_init 411 = .ok (.goto (-16), 3) := by decide +kernel
theorem dX12_init_414 : decode cX12_init 414 = .ok (.return_, 1) := by decide +kernel
theorem dX12_thrown_0 : decode cX12_thrown 0 = .ok (.aload_n 0, 1) := by decide +kernel
theorem dX12_thrown_1 : decode cX12_thrown 1 = .ok (.getfield 150, 3) := by decide +kernel
theorem dX12_thrown_4 : decode cX12_thrown 4 = .ok (.ireturn, 1) := by decide +kernel
theorem dX12_asked_0 : decode cX12_asked 0 = .ok (.aload_n 0, 1) := by decide +kernel
theorem dX12_asked_1 : decode cX12_asked 1 = .ok (.iload_n 1, 1) := by decide +kernel
theorem dX12_asked_2 : decode cX12_asked 2 = .ok (.ifCond .eq 7, 3) := by decide +kernel
theorem dX12_asked_5 : decode cX12_asked 5 = .ok (.iconst 0, 1) := by decide +kernel
theorem dX12_asked_6 : decode cX12_asked 6 = .ok (.goto 4, 3) := by decide +kernel
theorem dX12_asked_9 : decode cX12_asked 9 = .ok (.iconst 1, 1) := by decide +kernel
theorem dX12_asked_10 : decode cX12_asked 10 = .ok (.putfield 150, 3) := by decide +kernel
theorem dX12_asked_13 : decode cX12_asked 13 = .ok (.iload_n 1, 1) := by decide +kernel
theorem dX12_asked_14 : decode cX12_asked 14 = .ok (.ireturn, 1) := by decide +kernel
theorem dX12_asked__0 : decode cX12_asked_ 0 = .ok (.aload_n 0, 1) := by decide +kernel
theorem dX12_asked__1 : decode cX12_asked_ 1 = .ok (.iload_n 1, 1) := by decide +kernel
theorem dX12_asked__2 : decode cX12_asked_ 2 = .ok (.ifCond .ne 7, 3) := by decide +kernel
theorem dX12_asked__5 : decode cX12_asked_ 5 = .ok (.iconst 1, 1) := by decide +kernel
theorem dX12_asked__6 : decode cX12_asked_ 6 = .ok (.goto 12, 3) := by decide +kernel
theorem dX12_asked__9 : decode cX12_asked_ 9 = .ok (.iload_n 2, 1) := by decide +kernel
theorem dX12_asked__10 : decode cX12_asked_ 10 = .ok (.ifCond .eq 7, 3) := by decide +kernel
theorem dX12_asked__13 : decode cX12_asked_ 13 = .ok (.iconst 0, 1) := by decide +kernel
theorem dX12_asked__14 : decode cX12_asked_ 14 = .ok (.goto 4, 3) := by decide +kernel
theorem dX12_asked__17 : decode cX12_asked_ 17 = .ok (.iconst 2, 1) := by decide +kernel
theorem dX12_asked__18 : decode cX12_asked_ 18 = .ok (.putfield 150, 3) := by decide +kernel
theorem dX12_asked__21 : decode cX12_asked_ 21 = .ok (.aload_n 0, 1) := by decide +kernel
theorem dX12_asked__22 : decode cX12_asked_ 22 = .ok (.getfield 150, 3) := by decide +kernel
theorem dX12_asked__25 : decode cX12_asked_ 25 = .ok (.ifCond .ne 7, 3) := by decide +kernel
theorem dX12_asked__28 : decode cX12_asked_ 28 = .ok (.iconst 1, 1) := by decide +kernel
theorem dX12_asked__29 : decode cX12_asked_ 29 = .ok (.goto 4, 3) := by decide +kernel
theorem dX12_asked__32 : decode cX12_asked_ 32 = .ok (.iconst 0, 1) := by decide +kernel
theorem dX12_asked__33 : decode cX12_asked_ 33 = .ok (.ireturn, 1) := by decide +kernel
theorem dX12_in_0 : decode cX12_in 0 = .ok (.iload_n 0, 1) := by decide +kernel
theorem dX12_in_1 : decode cX12_in 1 = .ok (.iload_n 1, 1) := by decide +kernel
theorem dX12_in_2 : decode cX12_in 2 = .ok (.if_icmp .lt 12, 3) := by decide +kernel
theorem dX12_in_5 : decode cX12_in 5 = .ok (.iload_n 0, 1) := by decide +kernel
theorem dX12_in_6 : decode cX12_in 6 = .ok (.iload_n 2, 1) := by decide +kernel
theorem dX12_in_7 : decode cX12_in 7 = .ok (.if_icmp .gt 7, 3) := by decide +kernel
theorem dX12_in_10 : decode cX12_in 10 = .ok (.iconst 1, 1) := by decide +kernel
theorem dX12_in_11 : decode cX12_in 11 = .ok (.goto 4, 3) := by decide +kernel
theorem dX12_in_14 : decode cX12_in 14 = .ok (.iconst 0, 1) := by decide +kernel
theorem dX12_in_15 : decode cX12_in 15 = .ok (.ireturn, 1) := by decide +kernel
theorem dX12_isTarget_0 : decode cX12_isTarget 0 = .ok (.iload_n 1, 1) := by decide +kernel
theorem dX12_isTarget_1 : decode cX12_isTarget 1 = .ok (.iconst 0, 1) := by decide +kernel
theorem dX12_isTarget_2 : decode cX12_isTarget 2 = .ok (.aload_n 0, 1) := by decide +kernel
theorem dX12_isTarget_3 : decode cX12_isTarget 3 = .ok (.getfield 154, 3) := by decide +kernel
theorem dX12_isTarget_6 : decode cX12_isTarget 6 = .ok (.iconst 1, 1) := by decide +kernel
theorem dX12_isTarget_7 : decode cX12_isTarget 7 = .ok (.isub, 1) := by decide +kernel
theorem dX12_isTarget_8 : decode cX12_isTarget 8 = .ok (.invokestatic 157, 3) := by decide +kernel
theorem dX12_isTarget_11 : decode cX12_isTarget 11 = .ok (.ireturn, 1) := by decide +kernel
theorem dX12_write_0 : decode cX12_write 0 = .ok (.aload_n 0, 1) := by decide +kernel
theorem dX12_write_1 : decode cX12_write 1 = .ok (.iload_n 1, 1) := by decide +kernel
theorem dX12_write_2 : decode cX12_write 2 = .ok (.iconst 0, 1) := by decide +kernel
theorem dX12_write_3 : decode cX12_write 3 = .ok (.bipush 15, 2) := by decide +kernel
theorem dX12_write_5 : decode cX12_write 5 = .ok (.invokestatic 157, 3) := by decide +kernel
theorem dX12_write_8 : decode cX12_write 8 = .ok (.ifCond .eq 18, 3) := by decide +kernel
theorem dX12_write_11 : decode cX12_write 11 = .ok (.iload_n 2, 1) := by decide +kernel
theorem dX12_write_12 : decode cX12_write 12 = .ok (.iconst 0, 1) := by decide +kernel
theorem dX12_write_13 : decode cX12_write 13 = .ok (.sipush 999, 3) := by decide +kernel
theorem dX12_write_16 : decode cX12_write 16 = .ok (.invokestatic 157, 3) := by decide +kernel
theorem dX12_write_19 : decode cX12_write 19 = .ok (.ifCond .eq 7, 3) := by decide +kernel
theorem dX12_write_22 : decode cX12_write 22 = .ok (.iconst 1, 1) := by decide +kernel
theorem dX12_write_23 : decode cX12_write 23 = .ok (.goto 4, 3) := by decide +kernel
theorem dX12_write_26 : decode cX12_write 26 = .ok (.iconst 0, 1) := by decide +kernel
theorem dX12_write_27 : decode cX12_write 27 = .ok (.invokevirtual 161, 3) := by decide +kernel
theorem dX12_write_30 : decode cX12_write 30 = .ok (.ifCond .ne 5, 3) := by decide +kernel
theorem dX12_write_33 : decode cX12_write 33 = .ok (.iconst 0, 1) := by decide +kernel
theorem dX12_write_34 : decode cX12_write 34 = .ok (.ireturn, 1) := by decide +kernel
theorem dX12_write_35 : decode cX12_write 35 = .ok (.aload_n 0, 1) := by decide +kernel
theorem dX12_write_36 : decode cX12_write 36 = .ok (.getfield 7, 3) := by decide +kernel
theorem dX12_write_39 : decode cX12_write 39 = .ok (.iload_n 1, 1) := by decide +kernel
theorem dX12_write_40 : decode cX12_write 40 = .ok (.iaload, 1) := by decide +kernel
theorem dX12_write_41 : decode cX12_write 41 = .ok (.istore_n 3, 1) := by decide +kernel
theorem dX12_write_42 : decode cX12_write 42 = .ok (.iload_n 3, 1) := by decide +kernel
theorem dX12_write_43 : decode cX12_write 43 = .ok (.iload_n 2, 1) := by decide +kernel
theorem dX12_write_44 : decode cX12_write 44 = .ok (.if_icmp .eq 109, 3) := by decide +kernel
theorem dX12_write_47 : decode cX12_write 47 = .ok (.aload_n 0, 1) := by decide +kernel
theorem dX12_write_48 : decode cX12_write 48 = .ok (.getfield 165, 3) := by decide +kernel
theorem dX12_write_51 : decode cX12_write 51 = .ok (.bipush 30, 2) := by decide +kernel
theorem dX12_write_53 : decode cX12_write 53 = .ok (.if_icmp .ne 63, 3) := by decide +kernel
theorem dX12_write_56 : decode cX12_write 56 = .ok (.aload_n 0, 1) := by decide +kernel
theorem dX12_write_57 : decode cX12_write 57 = .ok (.dup, 1) := by decide +kernel
theorem dX12_write_58 : decode cX12_write 58 = .ok (.getfield 165, 3) := by decide +kernel
theorem dX12_write_61 : decode cX12_write 61 = .ok (.iconst 1, 1) := by decide +kernel
theorem dX12_write_62 : decode cX12_write 62 = .ok (.isub, 1) := by decide +kernel
theorem dX12_write_63 : decode cX12_write 63 = .ok (.putfield 165, 3) := by decide +kernel
theorem dX12_write_66 : decode cX12_write 66 = .ok (.iconst 0, 1) := by decide +kernel
theorem dX12_write_67 : decode cX12_write 67 = .ok (.istore 4, 2) := by decide +kernel
theorem dX12_write_69 : decode cX12_write 69 = .ok (.iload 4, 2) := by decide +kernel
theorem dX12_write_71 : decode cX12_write 71 = .ok (.aload_n 0, 1) := by decide +kernel
theorem dX12_write_72 : decode cX12_write 72 = .ok (.getfield 165, 3) := by decide +kernel
theorem dX12_write_75 : decode cX12_write 75 = .ok (.if_icmp .ge 41, 3) := by decide +kernel
theorem dX12_write_78 : decode cX12_write 78 = .ok (.aload_n 0, 1) := by decide +kernel
theorem dX12_write_79 : decode cX12_write 79 = .ok (.getfield 19, 3) := by decide +kernel
theorem dX12_write_82 : decode cX12_write 82 = .ok (.iload 4, 2) := by decide +kernel
theorem dX12_write_84 : decode cX12_write 84 = .ok (.aload_n 0, 1) := by decide +kernel
theorem dX12_write_85 : decode cX12_write 85 = .ok (.getfield 19, 3) := by decide +kernel
theorem dX12_write_88 : decode cX12_write 88 = .ok (.iload 4, 2) := by decide +kernel
theorem dX12_write_90 : decode cX12_write 90 = .ok (.iconst 1, 1) := by decide +kernel
theorem dX12_write_91 : decode cX12_write 91 = .ok (.iadd, 1) := by decide +kernel
theorem dX12_write_92 : decode cX12_write 92 = .ok (.iaload, 1) := by decide +kernel
theorem dX12_write_93 : decode cX12_write 93 = .ok (.iastore, 1) := by decide +kernel
theorem dX12_write_94 : decode cX12_write 94 = .ok (.aload_n 0, 1) := by decide +kernel
theorem dX12_write_95 : decode cX12_write 95 = .ok (.getfield 22, 3) := by decide +kernel
theorem dX12_write_98 : decode cX12_write 98 = .ok (.iload 4, 2) := by decide +kernel
theorem dX12_write_100 : decode cX12_write 100 = .ok (.aload_n 0, 1) := by decide +kernel
theorem dX12_write_101 : decode cX12_write 101 = .ok (.getfield 22, 3) := by decide +kernel
theorem dX12_write_104 : decode cX12_write 104 = .ok (.iload 4, 2) := by decide +kernel
theorem dX12_write_106 : decode cX12_write 106 = .ok (.iconst 1, 1) := by decide +kernel
theorem dX12_write_107 : decode cX12_write 107 = .ok (.iadd, 1) := by decide +kernel
theorem dX12_write_108 : decode cX12_write 108 = .ok (.iaload, 1) := by decide +kernel
theorem dX12_write_109 : decode cX12_write 109 = .ok (.iastore, 1) := by decide +kernel
theorem dX12_write_110 : decode cX12_write 110 = .ok (.iinc 4 1, 3) := by decide +kernel
theorem dX12_write_113 : decode cX12_write 113 = .ok (.goto (-44), 3) := by decide +kernel
theorem dX12_write_116 : decode cX12_write 116 = .ok (.aload_n 0, 1) := by decide +kernel
theorem dX12_write_117 : decode cX12_write 117 = .ok (.getfield 19, 3) := by decide +kernel
theorem dX12_write_120 : decode cX12_write 120 = .ok (.aload_n 0, 1) := by decide +kernel
theorem dX12_write_121 : decode cX12_write 121 = .ok (.getfield 165, 3) := by decide +kernel
theorem dX12_write_124 : decode cX12_write 124 = .ok (.iload_n 1, 1) := by decide +kernel
theorem dX12_write_125 : decode cX12_write 125 = .ok (.iastore, 1) := by decide +kernel
theorem dX12_write_126 : decode cX12_write 126 = .ok (.aload_n 0, 1) := by decide +kernel
theorem dX12_write_127 : decode cX12_write 127 = .ok (.getfield 22, 3) := by decide +kernel
theorem dX12_write_130 : decode cX12_write 130 = .ok (.aload_n 0, 1) := by decide +kernel
theorem dX12_write_131 : decode cX12_write 131 = .ok (.getfield 165, 3) := by decide +kernel
theorem dX12_write_134 : decode cX12_write 134 = .ok (.iload_n 3, 1) := by decide +kernel
theorem dX12_write_135 : decode cX12_write 135 = .ok (.iastore, 1) := by decide +kernel
theorem dX12_write_136 : decode cX12_write 136 = .ok (.aload_n 0, 1) := by decide +kernel
theorem dX12_write_137 : decode cX12_write 137 = .ok (.dup, 1) := by decide +kernel
theorem dX12_write_138 : decode cX12_write 138 = .ok (.getfield 165, 3) := by decide +kernel
theorem dX12_write_141 : decode cX12_write 141 = .ok (.iconst 1, 1) := by decide +kernel
theorem dX12_write_142 : decode cX12_write 142 = .ok (.iadd, 1) := by decide +kernel
theorem dX12_write_143 : decode cX12_write 143 = .ok (.putfield 165, 3) := by decide +kernel
theorem dX12_write_146 : decode cX12_write 146 = .ok (.aload_n 0, 1) := by decide +kernel
theorem dX12_write_147 : decode cX12_write 147 = .ok (.getfield 7, 3) := by decide +kernel
theorem dX12_write_150 : decode cX12_write 150 = .ok (.iload_n 1, 1) := by decide +kernel
theorem dX12_write_151 : decode cX12_write 151 = .ok (.iload_n 2, 1) := by decide +kernel
theorem dX12_write_152 : decode cX12_write 152 = .ok (.iastore, 1) := by decide +kernel
theorem dX12_write_153 : decode cX12_write 153 = .ok (.iload_n 3, 1) := by decide +kernel
theorem dX12_write_154 : decode cX12_write 154 = .ok (.ireturn, 1) := by decide +kernel
theorem dX12_set_0 : decode cX12_set 0 = .ok (.aload_n 0, 1) := by decide +kernel
theorem dX12_set_1 : decode cX12_set 1 = .ok (.iload_n 1, 1) := by decide +kernel
theorem dX12_set_2 : decode cX12_set 2 = .ok (.iconst 0, 1) := by decide +kernel
theorem dX12_set_3 : decode cX12_set 3 = .ok (.iconst 3, 1) := by decide +kernel
theorem dX12_set_4 : decode cX12_set 4 = .ok (.invokestatic 157, 3) := by decide +kernel
theorem dX12_set_7 : decode cX12_set 7 = .ok (.ifCond .eq 17, 3) := by decide +kernel
theorem dX12_set_10 : decode cX12_set 10 = .ok (.iload_n 2, 1) := by decide +kernel
theorem dX12_set_11 : decode cX12_set 11 = .ok (.iconst 0, 1) := by decide +kernel
theorem dX12_set_12 : decode cX12_set 12 = .ok (.bipush 9, 2) := by decide +kernel
theorem dX12_set_14 : decode cX12_set 14 = .ok (.invokestatic 157, 3) := by decide +kernel
theorem dX12_set_17 : decode cX12_set 17 = .ok (.ifCond .eq 7, 3) := by decide +kernel
theorem dX12_set_20 : decode cX12_set 20 = .ok (.iconst 1, 1) := by decide +kernel
theorem dX12_set_21 : decode cX12_set 21 = .ok (.goto 4, 3) := by decide +kernel
theorem dX12_set_24 : decode cX12_set 24 = .ok (.iconst 0, 1) := by decide +kernel
theorem dX12_set_25 : decode cX12_set 25 = .ok (.aload_n 0, 1) := by decide +kernel
theorem dX12_set_26 : decode cX12_set 26 = .ok (.getfield 168, 3) := by decide +kernel
theorem dX12_set_29 : decode cX12_set 29 = .ok (.ifCond .ne 7, 3) := by decide +kernel
theorem dX12_set_32 : decode cX12_set 32 = .ok (.iconst 1, 1) := by decide +kernel
theorem dX12_set_33 : decode cX12_set 33 = .ok (.goto 4, 3) := by decide +kernel
theorem dX12_set_36 : decode cX12_set 36 = .ok (.iconst 0, 1) := by decide +kernel
theorem dX12_set_37 : decode cX12_set 37 = .ok (.invokevirtual 171, 3) := by decide +kernel
theorem dX12_set_40 : decode cX12_set 40 = .ok (.ifCond .ne 5, 3) := by decide +kernel
theorem dX12_set_43 : decode cX12_set 43 = .ok (.iconst 0, 1) := by decide +kernel
theorem dX12_set_44 : decode cX12_set 44 = .ok (.ireturn, 1) := by decide +kernel
theorem dX12_set_45 : decode cX12_set 45 = .ok (.aload_n 0, 1) := by decide +kernel
theorem dX12_set_46 : decode cX12_set 46 = .ok (.getfield 13, 3) := by decide +kernel
theorem dX12_set_49 : decode cX12_set 49 = .ok (.iload_n 1, 1) := by decide +kernel
theorem dX12_set_50 : decode cX12_set 50 = .ok (.iaload, 1) := by decide +kernel
theorem dX12_set_51 : decode cX12_set 51 = .ok (.istore_n 3, 1) := by decide +kernel
theorem dX12_set_52 : decode cX12_set 52 = .ok (.aload_n 0, 1) := by decide +kernel
theorem dX12_set_53 : decode cX12_set 53 = .ok (.getfield 13, 3) := by decide +kernel
theorem dX12_set_56 : decode cX12_set 56 = .ok (.iload_n 1, 1) := by decide +kernel
theorem dX12_set_57 : decode cX12_set 57 = .ok (.iload_n 2, 1) := by decide +kernel
theorem dX12_set_58 : decode cX12_set 58 = .ok (.iastore, 1) := by decide +kernel
theorem dX12_set_59 : decode cX12_set 59 = .ok (.iload_n 3, 1) := by decide +kernel
theorem dX12_set_60 : decode cX12_set 60 = .ok (.ireturn, 1) := by decide +kernel
theorem dX12_setTool_0 : decode cX12_setTool 0 = .ok (.aload_n 0, 1) := by decide +kernel
theorem dX12_setTool_1 : decode cX12_setTool 1 = .ok (.iload_n 1, 1) := by decide +kernel
theorem dX12_setTool_2 : decode cX12_setTool 2 = .ok (.iconst 0, 1) := by decide +kernel
theorem dX12_setTool_3 : decode cX12_setTool 3 = .ok (.iconst 3, 1) := by decide +kernel
theorem dX12_setTool_4 : decode cX12_setTool 4 = .ok (.invokestatic 157, 3) := by decide +kernel
theorem dX12_setTool_7 : decode cX12_setTool 7 = .ok (.ifCond .eq 17, 3) := by decide +kernel
theorem dX12_setTool_10 : decode cX12_setTool 10 = .ok (.iload_n 2, 1) := by decide +kernel
theorem dX12_setTool_11 : decode cX12_setTool 11 = .ok (.iconst 0, 1) := by decide +kernel
theorem dX12_setTool_12 : decode cX12_setTool 12 = .ok (.bipush 9, 2) := by decide +kernel
theorem dX12_setTool_14 : decode cX12_setTool 14 = .ok (.invokestatic 157, 3) := by decide +kernel
theorem dX12_setTool_17 : decode cX12_setTool 17 = .ok (.ifCond .eq 7, 3) := by decide +kernel
theorem dX12_setTool_20 : decode cX12_setTool 20 = .ok (.iconst 1, 1) := by decide +kernel
theorem dX12_setTool_21 : decode cX12_setTool 21 = .ok (.goto 4, 3) := by decide +kernel
theorem dX12_setTool_24 : decode cX12_setTool 24 = .ok (.iconst 0, 1) := by decide +kernel
theorem dX12_setTool_25 : decode cX12_setTool 25 = .ok (.aload_n 0, 1) := by decide +kernel
theorem dX12_setTool_26 : decode cX12_setTool 26 = .ok (.getfield 168, 3) := by decide +kernel
theorem dX12_setTool_29 : decode cX12_setTool 29 = .ok (.ifCond .ne 7, 3) := by decide +kernel
theorem dX12_setTool_32 : decode cX12_setTool 32 = .ok (.iconst 1, 1) := by decide +kernel
theorem dX12_setTool_33 : decode cX12_setTool 33 = .ok (.goto 4, 3) := by decide +kernel
theorem dX12_setTool_36 : decode cX12_setTool 36 = .ok (.iconst 0, 1) := by decide +kernel
theorem dX12_setTool_37 : decode cX12_setTool 37 = .ok (.invokevirtual 171, 3) := by decide +kernel
theorem dX12_setTool_40 : decode cX12_setTool 40 = .ok (.ifCond .ne 5, 3) := by decide +kernel
theorem dX12_setTool_43 : decode cX12_setTool 43 = .ok (.iconst 0, 1) := by decide +kernel
theorem dX12_setTool_44 : decode cX12_setTool 44 = .ok (.ireturn, 1) := by decide +kernel
theorem dX12_setTool_45 : decode cX12_setTool 45 = .ok (.aload_n 0, 1) := by decide +kernel
theorem dX12_setTool_46 : decode cX12_setTool 46 = .ok (.getfield 16, 3) := by decide +kernel
theorem dX12_setTool_49 : decode cX12_setTool 49 = .ok (.iload_n 1, 1) := by decide +kernel
theorem dX12_setTool_50 : decode cX12_setTool 50 = .ok (.iaload, 1) := by decide +kernel
theorem dX12_setTool_51 : decode cX12_setTool 51 = .ok (.istore_n 3, 1) := by decide +kernel
theorem dX12_setTool_52 : decode cX12_setTool 52 = .ok (.aload_n 0, 1) := by decide +kernel
theorem dX12_setTool_53 : decode cX12_setTool 53 = .ok (.getfield 16, 3) := by decide +kernel
theorem dX12_setTool_56 : decode cX12_setTool 56 = .ok (.iload_n 1, 1) := by decide +kernel
theorem dX12_setTool_57 : decode cX12_setTool 57 = .ok (.iload_n 2, 1) := by decide +kernel
theorem dX12_setTool_58 : decode cX12_setTool 58 = .ok (.iastore, 1) := by decide +kernel
theorem dX12_setTool_59 : decode cX12_setTool 59 = .ok (.iload_n 3, 1) := by decide +kernel
theorem dX12_setTool_60 : decode cX12_setTool 60 = .ok (.ireturn, 1) := by decide +kernel
theorem dX12_isInput_0 : decode cX12_isInput 0 = .ok (.iload_n 1, 1) := by decide +kernel
theorem dX12_isInput_1 : decode cX12_isInput 1 = .ok (.bipush 16, 2) := by decide +kernel
theorem dX12_isInput_3 : decode cX12_isInput 3 = .ok (.if_icmp .lt 14, 3) := by decide +kernel
theorem dX12_isInput_6 : decode cX12_isInput 6 = .ok (.aload_n 0, 1) := by decide +kernel
theorem dX12_isInput_7 : decode cX12_isInput 7 = .ok (.iload_n 1, 1) := by decide +kernel
theorem dX12_isInput_8 : decode cX12_isInput 8 = .ok (.bipush 16, 2) := by decide +kernel
theorem dX12_isInput_10 : decode cX12_isInput 10 = .ok (.isub, 1) := by decide +kernel
theorem dX12_isInput_11 : decode cX12_isInput 11 = .ok (.invokevirtual 174, 3) := by decide +kernel
theorem dX12_isInput_14 : decode cX12_isInput 14 = .ok (.ifCond .eq 7, 3) := by decide +kernel
theorem dX12_isInput_17 : decode cX12_isInput 17 = .ok (.iconst 1, 1) := by decide +kernel
theorem dX12_isInput_18 : decode cX12_isInput 18 = .ok (.goto 4, 3) := by decide +kernel
theorem dX12_isInput_21 : decode cX12_isInput 21 = .ok (.iconst 0, 1) := by decide +kernel
theorem dX12_isInput_22 : decode cX12_isInput 22 = .ok (.ireturn, 1) := by decide +kernel
theorem dX12_input_0 : decode cX12_input 0 = .ok (.iload_n 1, 1) := by decide +kernel
theorem dX12_input_1 : decode cX12_input 1 = .ok (.ifCond .lt 49, 3) := by decide +kernel
theorem dX12_input_4 : decode cX12_input 4 = .ok (.iload_n 2, 1) := by decide +kernel
theorem dX12_input_5 : decode cX12_input 5 = .ok (.iconst (-1), 1) := by decide +kernel
theorem dX12_input_6 : decode cX12_input 6 = .ok (.if_icmp .lt 44, 3) := by decide +kernel
theorem dX12_input_9 : decode cX12_input 9 = .ok (.iload_n 2, 1) := by decide +kernel
theorem dX12_input_10 : decode cX12_input 10 = .ok (.iconst (-1), 1) := by decide +kernel
theorem dX12_input_11 : decode cX12_input 11 = .ok (.if_icmp .ne 15, 3) := by decide +kernel
theorem dX12_input_14 : decode cX12_input 14 = .ok (.iload_n 3, 1) := by decide +kernel
theorem dX12_input_15 : decode cX12_input 15 = .ok (.ifCond .ne 35, 3) := by decide +kernel
theorem dX12_input_18 : decode cX12_input 18 = .ok (.iload 4, 2) := by decide +kernel
theorem dX12_input_20 : decode cX12_input 20 = .ok (.ifCond .ne 30, 3) := by decide +kernel
theorem dX12_input_23 : decode cX12_input 23 = .ok (.goto 23, 3) := by decide +kernel
theorem dX12_input_26 : decode cX12_input 26 = .ok (.iload_n 3, 1) := by decide +kernel
theorem dX12_input_27 : decode cX12_input 27 = .ok (.iconst 0, 1) := by decide +kernel
theorem dX12_input_28 : decode cX12_input 28 = .ok (.iconst 3, 1) := by decide +kernel
theorem dX12_input_29 : decode cX12_input 29 = .ok (.invokestatic 157, 3) := by decide +kernel
theorem dX12_input_32 : decode cX12_input 32 = .ok (.ifCond .eq 18, 3) := by decide +kernel
theorem dX12_input_35 : decode cX12_input 35 = .ok (.iload 4, 2) := by decide +kernel
theorem dX12_input_37 : decode cX12_input 37 = .ok (.iconst 0, 1) := by decide +kernel
theorem dX12_input_38 : decode cX12_input 38 = .ok (.bipush 9, 2) := by decide +kernel
theorem dX12_input_40 : decode cX12_input 40 = .ok (.invokestatic 157, 3) := by decide +kernel
theorem dX12_input_43 : decode cX12_input 43 = .ok (.ifCond .eq 7, 3) := by decide +kernel
theorem dX12_input_46 : decode cX12_input 46 = .ok (.iconst 1, 1) := by decide +kernel
theorem dX12_input_47 : decode cX12_input 47 = .ok (.goto 4, 3) := by decide +kernel
theorem dX12_input_50 : decode cX12_input 50 = .ok (.iconst 0, 1) := by decide +kernel
theorem dX12_input_51 : decode cX12_input 51 = .ok (.istore 5, 2) := by decide +kernel
theorem dX12_input_53 : decode cX12_input 53 = .ok (.aload_n 0, 1) := by decide +kernel
theorem dX12_input_54 : decode cX12_input 54 = .ok (.iload 5, 2) := by decide +kernel
theorem dX12_input_56 : decode cX12_input 56 = .ok (.ifCond .ne 7, 3) := by decide +kernel
theorem dX12_input_59 : decode cX12_input 59 = .ok (.iconst 1, 1) := by decide +kernel
theorem dX12_input_60 : decode cX12_input 60 = .ok (.goto 39, 3) := by decide +kernel
theorem dX12_input_63 : decode cX12_input 63 = .ok (.aload_n 0, 1) := by decide +kernel
theorem dX12_input_64 : decode cX12_input 64 = .ok (.iload_n 1, 1) := by decide +kernel
theorem dX12_input_65 : decode cX12_input 65 = .ok (.invokevirtual 178, 3) := by decide +kernel
theorem dX12_input_68 : decode cX12_input 68 = .ok (.ifCond .eq 11, 3) := by decide +kernel
theorem dX12_input_71 : decode cX12_input 71 = .ok (.aload_n 0, 1) := by decide +kernel
theorem dX12_input_72 : decode cX12_input 72 = .ok (.iload_n 2, 1) := by decide +kernel
theorem dX12_input_73 : decode cX12_input 73 = .ok (.invokevirtual 178, 3) := by decide +kernel
theorem dX12_input_76 : decode cX12_input 76 = .ok (.ifCond .ne 7, 3) := by decide +kernel
theorem dX12_input_79 : decode cX12_input 79 = .ok (.iconst 2, 1) := by decide +kernel
theorem dX12_input_80 : decode cX12_input 80 = .ok (.goto 19, 3) := by decide +kernel
theorem dX12_input_83 : decode cX12_input 83 = .ok (.aload_n 0, 1) := by decide +kernel
theorem dX12_input_84 : decode cX12_input 84 = .ok (.getfield 43, 3) := by decide +kernel
theorem dX12_input_87 : decode cX12_input 87 = .ok (.bipush 14, 2) := by decide +kernel
theorem dX12_input_89 : decode cX12_input 89 = .ok (.iaload, 1) := by decide +kernel
theorem dX12_input_90 : decode cX12_input 90 = .ok (.iconst 4, 1) := by decide +kernel
theorem dX12_input_91 : decode cX12_input 91 = .ok (.if_icmp .ne 7, 3) := by decide +kernel
theorem dX12_input_94 : decode cX12_input 94 = .ok (.iconst 3, 1) := by decide +kernel
theorem dX12_input_95 : decode cX12_input 95 = .ok (.goto 4, 3) := by decide +kernel
theorem dX12_input_98 : decode cX12_input 98 = .ok (.iconst 0, 1) := by decide +kernel
theorem dX12_input_99 : decode cX12_input 99 = .ok (.putfield 150, 3) := by decide +kernel
theorem dX12_input_102 : decode cX12_input 102 = .ok (.aload_n 0, 1) := by decide +kernel
theorem dX12_input_103 : decode cX12_input 103 = .ok (.getfield 150, 3) := by decide +kernel
theorem dX12_input_106 : decode cX12_input 106 = .ok (.ifCond .le 5, 3) := by decide +kernel
theorem dX12_input_109 : decode cX12_input 109 = .ok (.iconst 0, 1) := by decide +kernel
theorem dX12_input_110 : decode cX12_input 110 = .ok (.ireturn, 1) := by decide +kernel
theorem dX12_input_111 : decode cX12_input 111 = .ok (.bipush 56, 2) := by decide +kernel
theorem dX12_input_113 : decode cX12_input 113 = .ok (.aload_n 0, 1) := by decide +kernel
theorem dX12_input_114 : decode cX12_input 114 = .ok (.getfield 43, 3) := by decide +kernel
theorem dX12_input_117 : decode cX12_input 117 = .ok (.bipush 14, 2) := by decide +kernel
theorem dX12_input_119 : decode cX12_input 119 = .ok (.iaload, 1) := by decide +kernel
theorem dX12_input_120 : decode cX12_input 120 = .ok (.iadd, 1) := by decide +kernel
theorem dX12_input_121 : decode cX12_input 121 = .ok (.istore 6, 2) := by decide +kernel
theorem dX12_input_123 : decode cX12_input 123 = .ok (.aload_n 0, 1) := by decide +kernel
theorem dX12_input_124 : decode cX12_input 124 = .ok (.getfield 46, 3) := by decide +kernel
theorem dX12_input_127 : decode cX12_input 127 = .ok (.iload 6, 2) := by decide +kernel
theorem dX12_input_129 : decode cX12_input 129 = .ok (.iload_n 1, 1) := by decide +kernel
theorem dX12_input_130 : decode cX12_input 130 = .ok (.iastore, 1) := by decide +kernel
theorem dX12_input_131 : decode cX12_input 131 = .ok (.aload_n 0, 1) := by decide +kernel
theorem dX12_input_132 : decode cX12_input 132 = .ok (.getfield 49, 3) := by decide +kernel
theorem dX12_input_135 : decode cX12_input 135 = .ok (.iload 6, 2) := by decide +kernel
theorem dX12_input_137 : decode cX12_input 137 = .ok (.iload_n 2, 1) := by decide +kernel
theorem dX12_input_138 : decode cX12_input 138 = .ok (.iastore, 1) := by decide +kernel
theorem dX12_input_139 : decode cX12_input 139 = .ok (.aload_n 0, 1) := by decide +kernel
theorem dX12_input_140 : decode cX12_input 140 = .ok (.getfield 52, 3) := by decide +kernel
theorem dX12_input_143 : decode cX12_input 143 = .ok (.iload 6, 2) := by decide +kernel
theorem dX12_input_145 : decode cX12_input 145 = .ok (.iload_n 3, 1) := by decide +kernel
theorem dX12_input_146 : decode cX12_input 146 = .ok (.iastore, 1) := by decide +kernel
theorem dX12_input_147 : decode cX12_input 147 = .ok (.aload_n 0, 1) := by decide +kernel
theorem dX12_input_148 : decode cX12_input 148 = .ok (.getfield 55, 3) := by decide +kernel
theorem dX12_input_151 : decode cX12_input 151 = .ok (.iload 6, 2) := by decide +kernel
theorem dX12_input_153 : decode cX12_input 153 = .ok (.iload 4, 2) := by decide +kernel
theorem dX12_input_155 : decode cX12_input 155 = .ok (.iastore, 1) := by decide +kernel
theorem dX12_input_156 : decode cX12_input 156 = .ok (.aload_n 0, 1) := by decide +kernel
theorem dX12_input_157 : decode cX12_input 157 = .ok (.getfield 43, 3) := by decide +kernel
theorem dX12_input_160 : decode cX12_input 160 = .ok (.bipush 14, 2) := by decide +kernel
theorem dX12_input_162 : decode cX12_input 162 = .ok (.dup2, 1) := by decide +kernel
theorem dX12_input_163 : decode cX12_input 163 = .ok (.iaload, 1) := by decide +kernel
theorem dX12_input_164 : decode cX12_input 164 = .ok (.iconst 1, 1) := by decide +kernel
theorem dX12_input_165 : decode cX12_input 165 = .ok (.iadd, 1) := by decide +kernel
theorem dX12_input_166 : decode cX12_input 166 = .ok (.iastore, 1) := by decide +kernel
theorem dX12_input_167 : decode cX12_input 167 = .ok (.aload_n 0, 1) := by decide +kernel
theorem dX12_input_168 : decode cX12_input 168 = .ok (.getfield 43, 3) := by decide +kernel
theorem dX12_input_171 : decode cX12_input 171 = .ok (.bipush 14, 2) := by decide +kernel
theorem dX12_input_173 : decode cX12_input 173 = .ok (.iaload, 1) := by decide +kernel
theorem dX12_input_174 : decode cX12_input 174 = .ok (.ireturn, 1) := by decide +kernel
theorem dX12_lay_0 : decode cX12_lay 0 = .ok (.aload_n 0, 1) := by decide +kernel
theorem dX12_lay_1 : decode cX12_lay 1 = .ok (.getfield 43, 3) := by decide +kernel
theorem dX12_lay_4 : decode cX12_lay 4 = .ok (.iload_n 2, 1) := by decide +kernel
theorem dX12_lay_5 : decode cX12_lay 5 = .ok (.aload_n 0, 1) := by decide +kernel
theorem dX12_lay_6 : decode cX12_lay 6 = .ok (.getfield 43, 3) := by decide +kernel
theorem dX12_lay_9 : decode cX12_lay 9 = .ok (.iload_n 1, 1) := by decide +kernel
theorem dX12_lay_10 : decode cX12_lay 10 = .ok (.iaload, 1) := by decide +kernel
theorem dX12_lay_11 : decode cX12_lay 11 = .ok (.iastore, 1) := by decide +kernel
theorem dX12_lay_12 : decode cX12_lay 12 = .ok (.iconst 0, 1) := by decide +kernel
theorem dX12_lay_13 : decode cX12_lay 13 = .ok (.istore_n 3, 1) := by decide +kernel
theorem dX12_lay_14 : decode cX12_lay 14 = .ok (.iload_n 3, 1) := by decide +kernel
theorem dX12_lay_15 : decode cX12_lay 15 = .ok (.iconst 4, 1) := by decide +kernel
theorem dX12_lay_16 : decode cX12_lay 16 = .ok (.if_icmp .ge 89, 3) := by decide +kernel
theorem dX12_lay_19 : decode cX12_lay 19 = .ok (.aload_n 0, 1) := by decide +kernel
theorem dX12_lay_20 : decode cX12_lay 20 = .ok (.getfield 46, 3) := by decide +kernel
theorem dX12_lay_23 : decode cX12_lay 23 = .ok (.iconst 4, 1) := by decide +kernel
theorem dX12_lay_24 : decode cX12_lay 24 = .ok (.iload_n 2, 1) := by decide +kernel
theorem dX12_lay_25 : decode cX12_lay 25 = .ok (.imul, 1) := by decide +kernel
theorem dX12_lay_26 : decode cX12_lay 26 = .ok (.iload_n 3, 1) := by decide +kernel
theorem dX12_lay_27 : decode cX12_lay 27 = .ok (.iadd, 1) := by decide +kernel
theorem dX12_lay_28 : decode cX12_lay 28 = .ok (.aload_n 0, 1) := by decide +kernel
theorem dX12_lay_29 : decode cX12_lay 29 = .ok (.getfield 46, 3) := by decide +kernel
theorem dX12_lay_32 : decode cX12_lay 32 = .ok (.iconst 4, 1) := by decide +kernel
theorem dX12_lay_33 : decode cX12_lay 33 = .ok (.iload_n 1, 1) := by decide +kernel
theorem dX12_lay_34 : decode cX12_lay 34 = .ok (.imul, 1) := by decide +kernel
theorem dX12_lay_35 : decode cX12_lay 35 = .ok (.iload_n 3, 1) := by decide +kernel
theorem dX12_lay_36 : decode cX12_lay 36 = .ok (.iadd, 1) := by decide +kernel
theorem dX12_lay_37 : decode cX12_lay 37 = .ok (.iaload, 1) := by decide +kernel
theorem dX12_lay_38 : decode cX12_lay 38 = .ok (.iastore, 1) := by decide +kernel
theorem dX12_lay_39 : decode cX12_lay 39 = .ok (.aload_n 0, 1) := by decide +kernel
theorem dX12_lay_40 : decode cX12_lay 40 = .ok (.getfield 49, 3) := by decide +kernel
theorem dX12_lay_43 : decode cX12_lay 43 = .ok (.iconst 4, 1) := by decide +kernel
theorem dX12_lay_44 : decode cX12_lay 44 = .ok (.iload_n 2, 1) := by decide +kernel
theorem dX12_lay_45 : decode cX12_lay 45 = .ok (.imul, 1) := by decide +kernel
theorem dX12_lay_46 : decode cX12_lay 46 = .ok (.iload_n 3, 1) := by decide +kernel
theorem dX12_lay_47 : decode cX12_lay 47 = .ok (.iadd, 1) := by decide +kernel
theorem dX12_lay_48 : decode cX12_lay 48 = .ok (.aload_n 0, 1) := by decide +kernel
theorem dX12_lay_49 : decode cX12_lay 49 = .ok (.getfield 49, 3) := by decide +kernel
theorem dX12_lay_52 : decode cX12_lay 52 = .ok (.iconst 4, 1) := by decide +kernel
theorem dX12_lay_53 : decode cX12_lay 53 = .ok (.iload_n 1, 1) := by decide +kernel
theorem dX12_lay_54 : decode cX12_lay 54 = .ok (.imul, 1) := by decide +kernel
theorem dX12_lay_55 : decode cX12_lay 55 = .ok (.iload_n 3, 1) := by decide +kernel
theorem dX12_lay_56 : decode cX12_lay 56 = .ok (.iadd, 1) := by decide +kernel
theorem dX12_lay_57 : decode cX12_lay 57 = .ok (.iaload, 1) := by decide +kernel
theorem dX12_lay_58 : decode cX12_lay 58 = .ok (.iastore, 1) := by decide +kernel
theorem dX12_lay_59 : decode cX12_lay 59 = .ok (.aload_n 0, 1) := by decide +kernel
theorem dX12_lay_60 : decode cX12_lay 60 = .ok (.getfield 52, 3) := by decide +kernel
theorem dX12_lay_63 : decode cX12_lay 63 = .ok (.iconst 4, 1) := by decide +kernel
theorem dX12_lay_64 : decode cX12_lay 64 = .ok (.iload_n 2, 1) := by decide +kernel
theorem dX12_lay_65 : decode cX12_lay 65 = .ok (.imul, 1) := by decide +kernel
theorem dX12_lay_66 : decode cX12_lay 66 = .ok (.iload_n 3, 1) := by decide +kernel
theorem dX12_lay_67 : decode cX12_lay 67 = .ok (.iadd, 1) := by decide +kernel
theorem dX12_lay_68 : decode cX12_lay 68 = .ok (.aload_n 0, 1) := by decide +kernel
theorem dX12_lay_69 : decode cX12_lay 69 = .ok (.getfield 52, 3) := by decide +kernel
theorem dX12_lay_72 : decode cX12_lay 72 = .ok (.iconst 4, 1) := by decide +kernel
theorem dX12_lay_73 : decode cX12_lay 73 = .ok (.iload_n 1, 1) := by decide +kernel
theorem dX12_lay_74 : decode cX12_lay 74 = .ok (.imul, 1) := by decide +kernel
theorem dX12_lay_75 : decode cX12_lay 75 = .ok (.iload_n 3, 1) := by decide +kernel
theorem dX12_lay_76 : decode cX12_lay 76 = .ok (.iadd, 1) := by decide +kernel
theorem dX12_lay_77 : decode cX12_lay 77 = .ok (.iaload, 1) := by decide +kernel
theorem dX12_lay_78 : decode cX12_lay 78 = .ok (.iastore, 1) := by decide +kernel
theorem dX12_lay_79 : decode cX12_lay 79 = .ok (.aload_n 0, 1) := by decide +kernel
theorem dX12_lay_80 : decode cX12_lay 80 = .ok (.getfield 55, 3) := by decide +kernel
theorem dX12_lay_83 : decode cX12_lay 83 = .ok (.iconst 4, 1) := by decide +kernel
theorem dX12_lay_84 : decode cX12_lay 84 = .ok (.iload_n 2, 1) := by decide +kernel
theorem dX12_lay_85 : decode cX12_lay 85 = .ok (.imul, 1) := by decide +kernel
theorem dX12_lay_86 : decode cX12_lay 86 = .ok (.iload_n 3, 1) := by decide +kernel
theorem dX12_lay_87 : decode cX12_lay 87 = .ok (.iadd, 1) := by decide +kernel
theorem dX12_lay_88 : decode cX12_lay 88 = .ok (.aload_n 0, 1) := by decide +kernel
theorem dX12_lay_89 : decode cX12_lay 89 = .ok (.getfield 55, 3) := by decide +kernel
theorem dX12_lay_92 : decode cX12_lay 92 = .ok (.iconst 4, 1) := by decide +kernel
theorem dX12_lay_93 : decode cX12_lay 93 = .ok (.iload_n 1, 1) := by decide +kernel
theorem dX12_lay_94 : decode cX12_lay 94 = .ok (.imul, 1) := by decide +kernel
theorem dX12_lay_95 : decode cX12_lay 95 = .ok (.iload_n 3, 1) := by decide +kernel
theorem dX12_lay_96 : decode cX12_lay 96 = .ok (.iadd, 1) := by decide +kernel
theorem dX12_lay_97 : decode cX12_lay 97 = .ok (.iaload, 1) := by decide +kernel
theorem dX12_lay_98 : decode cX12_lay 98 = .ok (.iastore, 1) := by decide +kernel
theorem dX12_lay_99 : decode cX12_lay 99 = .ok (.iinc 3 1, 3) := by decide +kernel
theorem dX12_lay_102 : decode cX12_lay 102 = .ok (.goto (-88), 3) := by decide +kernel
theorem dX12_lay_105 : decode cX12_lay 105 = .ok (.return_, 1) := by decide +kernel
theorem dX12_target_0 : decode cX12_target 0 = .ok (.iload_n 1, 1) := by decide +kernel
theorem dX12_target_1 : decode cX12_target 1 = .ok (.iconst 0, 1) := by decide +kernel
theorem dX12_target_2 : decode cX12_target 2 = .ok (.iconst 2, 1) := by decide +kernel
theorem dX12_target_3 : decode cX12_target 3 = .ok (.invokestatic 157, 3) := by decide +kernel
theorem dX12_target_6 : decode cX12_target 6 = .ok (.ifCond .eq 75, 3) := by decide +kernel
theorem dX12_target_9 : decode cX12_target 9 = .ok (.iload_n 2, 1) := by decide +kernel
theorem dX12_target_10 : decode cX12_target 10 = .ok (.iconst 0, 1) := by decide +kernel
theorem dX12_target_11 : decode cX12_target 11 = .ok (.iconst 3, 1) := by decide +kernel
theorem dX12_target_12 : decode cX12_target 12 = .ok (.invokestatic 157, 3) := by decide +kernel
theorem dX12_target_15 : decode cX12_target 15 = .ok (.ifCond .eq 66, 3) := by decide +kernel
theorem dX12_target_18 : decode cX12_target 18 = .ok (.iload_n 3, 1) := by decide +kernel
theorem dX12_target_19 : decode cX12_target 19 = .ok (.iconst 0, 1) := by decide +kernel
theorem dX12_target_20 : decode cX12_target 20 = .ok (.bipush 9, 2) := by decide +kernel
theorem dX12_target_22 : decode cX12_target 22 = .ok (.invokestatic 157, 3) := by decide +kernel
theorem dX12_target_25 : decode cX12_target 25 = .ok (.ifCond .eq 56, 3) := by decide +kernel
theorem dX12_target_28 : decode cX12_target 28 = .ok (.iload 4, 2) := by decide +kernel
theorem dX12_target_30 : decode cX12_target 30 = .ok (.iconst 1, 1) := by decide +kernel
theorem dX12_target_31 : decode cX12_target 31 = .ok (.iload_n 1, 1) := by decide +kernel
theorem dX12_target_32 : decode cX12_target 32 = .ok (.iconst 2, 1) := by decide +kernel
theorem dX12_target_33 : decode cX12_target 33 = .ok (.if_icmp .ne 7, 3) := by decide +kernel
theorem dX12_target_36 : decode cX12_target 36 = .ok (.iconst 4, 1) := by decide +kernel
theorem dX12_target_37 : decode cX12_target 37 = .ok (.goto 4, 3) := by decide +kernel
theorem dX12_target_40 : decode cX12_target 40 = .ok (.iconst 1, 1) := by decide +kernel
theorem dX12_target_41 : decode cX12_target 41 = .ok (.invokestatic 157, 3) := by decide +kernel
theorem dX12_target_44 : decode cX12_target 44 = .ok (.ifCond .eq 37, 3) := by decide +kernel
theorem dX12_target_47 : decode cX12_target 47 = .ok (.iload 5, 2) := by decide +kernel
theorem dX12_target_49 : decode cX12_target 49 = .ok (.iconst (-1), 1) := by decide +kernel
theorem dX12_target_50 : decode cX12_target 50 = .ok (.ldc 181, 2) := by decide +kernel
theorem dX12_target_52 : decode cX12_target 52 = .ok (.invokestatic 157, 3) := by decide +kernel
theorem dX12_target_55 : decode cX12_target 55 = .ok (.ifCond .eq 26, 3) := by decide +kernel
theorem dX12_target_58 : decode cX12_target 58 = .ok (.iload 6, 2) := by decide +kernel
theorem dX12_target_60 : decode cX12_target 60 = .ok (.iconst 0, 1) := by decide +kernel
theorem dX12_target_61 : decode cX12_target 61 = .ok (.iload_n 1, 1) := by decide +kernel
theorem dX12_target_62 : decode cX12_target 62 = .ok (.iconst 2, 1) := by decide +kernel
theorem dX12_target_63 : decode cX12_target 63 = .ok (.if_icmp .ne 7, 3) := by decide +kernel
theorem dX12_target_66 : decode cX12_target 66 = .ok (.iconst 3, 1) := by decide +kernel
theorem dX12_target_67 : decode cX12_target 67 = .ok (.goto 4, 3) := by decide +kernel
theorem dX12_target_70 : decode cX12_target 70 = .ok (.iconst 0, 1) := by decide +kernel
theorem dX12_target_71 : decode cX12_target 71 = .ok (.invokestatic 157, 3) := by decide +kernel
theorem dX12_target_74 : decode cX12_target 74 = .ok (.ifCond .eq 7, 3) := by decide +kernel
theorem dX12_target_77 : decode cX12_target 77 = .ok (.iconst 1, 1) := by decide +kernel
theorem dX12_target_78 : decode cX12_target 78 = .ok (.goto 4, 3) := by decide +kernel
theorem dX12_target_81 : decode cX12_target 81 = .ok (.iconst 0, 1) := by decide +kernel
theorem dX12_target_82 : decode cX12_target 82 = .ok (.istore 7, 2) := by decide +kernel
theorem dX12_target_84 : decode cX12_target 84 = .ok (.aload_n 0, 1) := by decide +kernel
theorem dX12_target_85 : decode cX12_target 85 = .ok (.iload 7, 2) := by decide +kernel
theorem dX12_target_87 : decode cX12_target 87 = .ok (.aload_n 0, 1) := by decide +kernel
theorem dX12_target_88 : decode cX12_target 88 = .ok (.getfield 43, 3) := by decide +kernel
theorem dX12_target_91 : decode cX12_target 91 = .ok (.bipush 14, 2) := by decide +kernel
theorem dX12_target_93 : decode cX12_target 93 = .ok (.iaload, 1) := by decide +kernel
theorem dX12_target_94 : decode cX12_target 94 = .ok (.ifCond .le 23, 3) := by decide +kernel
theorem dX12_target_97 : decode cX12_target 97 = .ok (.aload_n 0, 1) := by decide +kernel
theorem dX12_target_98 : decode cX12_target 98 = .ok (.getfield 168, 3) := by decide +kernel
theorem dX12_target_101 : decode cX12_target 101 = .ok (.ifCond .ne 16, 3) := by decide +kernel
theorem dX12_target_104 : decode cX12_target 104 = .ok (.aload_n 0, 1) := by decide +kernel
theorem dX12_target_105 : decode cX12_target 105 = .ok (.getfield 154, 3) := by decide +kernel
theorem dX12_target_108 : decode cX12_target 108 = .ok (.bipush 14, 2) := by decide +kernel
theorem dX12_target_110 : decode cX12_target 110 = .ok (.if_icmp .ge 7, 3) := by decide +kernel
theorem dX12_target_113 : decode cX12_target 113 = .ok (.iconst 1, 1) := by decide +kernel
theorem dX12_target_114 : decode cX12_target 114 = .ok (.goto 4, 3) := by decide +kernel
theorem dX12_target_117 : decode cX12_target 117 = .ok (.iconst 0, 1) := by decide +kernel
theorem dX12_target_118 : decode cX12_target 118 = .ok (.invokevirtual 171, 3) := by decide +kernel
theorem dX12_target_121 : decode cX12_target 121 = .ok (.ifCond .ne 5, 3) := by decide +kernel
theorem dX12_target_124 : decode cX12_target 124 = .ok (.iconst 0, 1) := by decide +kernel
theorem dX12_target_125 : decode cX12_target 125 = .ok (.ireturn, 1) := by decide +kernel
theorem dX12_target_126 : decode cX12_target 126 = .ok (.aload_n 0, 1) := by decide +kernel
theorem dX12_target_127 : decode cX12_target 127 = .ok (.getfield 25, 3) := by decide +kernel
theorem dX12_target_130 : decode cX12_target 130 = .ok (.aload_n 0, 1) := by decide +kernel
theorem dX12_target_131 : decode cX12_target 131 = .ok (.getfield 154, 3) := by decide +kernel
theorem dX12_target_134 : decode cX12_target 134 = .ok (.iload_n 1, 1) := by decide +kernel
theorem dX12_target_135 : decode cX12_target 135 = .ok (.iastore, 1) := by decide +kernel
theorem dX12_target_136 : decode cX12_target 136 = .ok (.aload_n 0, 1) := by decide +kernel
theorem dX12_target_137 : decode cX12_target 137 = .ok (.getfield 28, 3) := by decide +kernel
theorem dX12_target_140 : decode cX12_target 140 = .ok (.aload_n 0, 1) := by decide +kernel
theorem dX12_target_141 : decode cX12_target 141 = .ok (.getfield 154, 3) := by decide +kernel
theorem dX12_target_144 : decode cX12_target 144 = .ok (.iload_n 2, 1) := by decide +kernel
theorem dX12_target_145 : decode cX12_target 145 = .ok (.iastore, 1) := by decide +kernel
theorem dX12_target_146 : decode cX12_target 146 = .ok (.aload_n 0, 1) := by decide +kernel
theorem dX12_target_147 : decode cX12_target 147 = .ok (.getfield 31, 3) := by decide +kernel
theorem dX12_target_150 : decode cX12_target 150 = .ok (.aload_n 0, 1) := by decide +kernel
theorem dX12_target_151 : decode cX12_target 151 = .ok (.getfield 154, 3) := by decide +kernel
theorem dX12_target_154 : decode cX12_target 154 = .ok (.iload_n 3, 1) := by decide +kernel
theorem dX12_target_155 : decode cX12_target 155 = .ok (.iastore, 1) := by decide +kernel
theorem dX12_target_156 : decode cX12_target 156 = .ok (.aload_n 0, 1) := by decide +kernel
theorem dX12_target_157 : decode cX12_target 157 = .ok (.getfield 34, 3) := by decide +kernel
theorem dX12_target_160 : decode cX12_target 160 = .ok (.aload_n 0, 1) := by decide +kernel
theorem dX12_target_161 : decode cX12_target 161 = .ok (.getfield 154, 3) := by decide +kernel
theorem dX12_target_164 : decode cX12_target 164 = .ok (.iload 4, 2) := by decide +kernel
theorem dX12_target_166 : decode cX12_target 166 = .ok (.iastore, 1) := by decide +kernel
theorem dX12_target_167 : decode cX12_target 167 = .ok (.aload_n 0, 1) := by decide +kernel
theorem dX12_target_168 : decode cX12_target 168 = .ok (.getfield 37, 3) := by decide +kernel
theorem dX12_target_171 : decode cX12_target 171 = .ok (.aload_n 0, 1) := by decide +kernel
theorem dX12_target_172 : decode cX12_target 172 = .ok (.getfield 154, 3) := by decide +kernel
theorem dX12_target_175 : decode cX12_target 175 = .ok (.iload 5, 2) := by decide +kernel
theorem dX12_target_177 : decode cX12_target 177 = .ok (.iastore, 1) := by decide +kernel
theorem dX12_target_178 : decode cX12_target 178 = .ok (.aload_n 0, 1) := by decide +kernel
theorem dX12_target_179 : decode cX12_target 179 = .ok (.getfield 40, 3) := by decide +kernel
theorem dX12_target_182 : decode cX12_target 182 = .ok (.aload_n 0, 1) := by decide +kernel
theorem dX12_target_183 : decode cX12_target 183 = .ok (.getfield 154, 3) := by decide +kernel
theorem dX12_target_186 : decode cX12_target 186 = .ok (.iload 6, 2) := by decide +kernel
theorem dX12_target_188 : decode cX12_target 188 = .ok (.iastore, 1) := by decide +kernel
theorem dX12_target_189 : decode cX12_target 189 = .ok (.aload_n 0, 1) := by decide +kernel
theorem dX12_target_190 : decode cX12_target 190 = .ok (.bipush 14, 2) := by decide +kernel
theorem dX12_target_192 : decode cX12_target 192 = .ok (.aload_n 0, 1) := by decide +kernel
theorem dX12_target_193 : decode cX12_target 193 = .ok (.getfield 154, 3) := by decide +kernel
theorem dX12_target_196 : decode cX12_target 196 = .ok (.invokevirtual 182, 3) := by decide +kernel
theorem dX12_target_199 : decode cX12_target 199 = .ok (.aload_n 0, 1) := by decide +kernel
theorem dX12_target_200 : decode cX12_target 200 = .ok (.getfield 43, 3) := by decide +kernel
theorem dX12_target_203 : decode cX12_target 203 = .ok (.bipush 14, 2) := by decide +kernel
theorem dX12_target_205 : decode cX12_target 205 = .ok (.iconst 0, 1) := by decide +kernel
theorem dX12_target_206 : decode cX12_target 206 = .ok (.iastore, 1) := by decide +kernel
theorem dX12_target_207 : decode cX12_target 207 = .ok (.aload_n 0, 1) := by decide +kernel
theorem dX12_target_208 : decode cX12_target 208 = .ok (.dup, 1) := by decide +kernel
theorem dX12_target_209 : decode cX12_target 209 = .ok (.getfield 154, 3) := by decide +kernel
theorem dX12_target_212 : decode cX12_target 212 = .ok (.iconst 1, 1) := by decide +kernel
theorem dX12_target_213 : decode cX12_target 213 = .ok (.iadd, 1) := by decide +kernel
theorem dX12_target_214 : decode cX12_target 214 = .ok (.putfield 154, 3) := by decide +kernel
theorem dX12_target_217 : decode cX12_target 217 = .ok (.aload_n 0, 1) := by decide +kernel
theorem dX12_target_218 : decode cX12_target 218 = .ok (.getfield 154, 3) := by decide +kernel
theorem dX12_target_221 : decode cX12_target 221 = .ok (.iconst 1, 1) := by decide +kernel
theorem dX12_target_222 : decode cX12_target 222 = .ok (.isub, 1) := by decide +kernel
theorem dX12_target_223 : decode cX12_target 223 = .ok (.ireturn, 1) := by decide +kernel
theorem dX12_copy_0 : decode cX12_copy 0 = .ok (.aload_n 0, 1) := by decide +kernel
theorem dX12_copy_1 : decode cX12_copy 1 = .ok (.aload_n 0, 1) := by decide +kernel
theorem dX12_copy_2 : decode cX12_copy 2 = .ok (.iload_n 1, 1) := by decide +kernel
theorem dX12_copy_3 : decode cX12_copy 3 = .ok (.invokevirtual 174, 3) := by decide +kernel
theorem dX12_copy_6 : decode cX12_copy 6 = .ok (.ifCond .ne 7, 3) := by decide +kernel
theorem dX12_copy_9 : decode cX12_copy 9 = .ok (.iconst 1, 1) := by decide +kernel
theorem dX12_copy_10 : decode cX12_copy 10 = .ok (.goto 38, 3) := by decide +kernel
theorem dX12_copy_13 : decode cX12_copy 13 = .ok (.iload_n 2, 1) := by decide +kernel
theorem dX12_copy_14 : decode cX12_copy 14 = .ok (.iconst 0, 1) := by decide +kernel
theorem dX12_copy_15 : decode cX12_copy 15 = .ok (.bipush 9, 2) := by decide +kernel
theorem dX12_copy_17 : decode cX12_copy 17 = .ok (.invokestatic 157, 3) := by decide +kernel
theorem dX12_copy_20 : decode cX12_copy 20 = .ok (.ifCond .ne 7, 3) := by decide +kernel
theorem dX12_copy_23 : decode cX12_copy 23 = .ok (.iconst 2, 1) := by decide +kernel
theorem dX12_copy_24 : decode cX12_copy 24 = .ok (.goto 24, 3) := by decide +kernel
theorem dX12_copy_27 : decode cX12_copy 27 = .ok (.aload_n 0, 1) := by decide +kernel
theorem dX12_copy_28 : decode cX12_copy 28 = .ok (.getfield 168, 3) := by decide +kernel
theorem dX12_copy_31 : decode cX12_copy 31 = .ok (.ifCond .ne 12, 3) := by decide +kernel
theorem dX12_copy_34 : decode cX12_copy 34 = .ok (.aload_n 0, 1) := by decide +kernel
theorem dX12_copy_35 : decode cX12_copy 35 = .ok (.getfield 154, 3) := by decide +kernel
theorem dX12_copy_38 : decode cX12_copy 38 = .ok (.bipush 14, 2) := by decide +kernel
theorem dX12_copy_40 : decode cX12_copy 40 = .ok (.if_icmp .ne 7, 3) := by decide +kernel
theorem dX12_copy_43 : decode cX12_copy 43 = .ok (.iconst 3, 1) := by decide +kernel
theorem dX12_copy_44 : decode cX12_copy 44 = .ok (.goto 4, 3) := by decide +kernel
theorem dX12_copy_47 : decode cX12_copy 47 = .ok (.iconst 0, 1) := by decide +kernel
theorem dX12_copy_48 : decode cX12_copy 48 = .ok (.putfield 150, 3) := by decide +kernel
theorem dX12_copy_51 : decode cX12_copy 51 = .ok (.aload_n 0, 1) := by decide +kernel
theorem dX12_copy_52 : decode cX12_copy 52 = .ok (.getfield 150, 3) := by decide +kernel
theorem dX12_copy_55 : decode cX12_copy 55 = .ok (.ifCond .le 5, 3) := by decide +kernel
theorem dX12_copy_58 : decode cX12_copy 58 = .ok (.iconst 0, 1) := by decide +kernel
theorem dX12_copy_59 : decode cX12_copy 59 = .ok (.ireturn, 1) := by decide +kernel
theorem dX12_copy_60 : decode cX12_copy 60 = .ok (.aload_n 0, 1) := by decide +kernel
theorem dX12_copy_61 : decode cX12_copy 61 = .ok (.getfield 25, 3) := by decide +kernel
theorem dX12_copy_64 : decode cX12_copy 64 = .ok (.aload_n 0, 1) := by decide +kernel
theorem dX12_copy_65 : decode cX12_copy 65 = .ok (.getfield 154, 3) := by decide +kernel
theorem dX12_copy_68 : decode cX12_copy 68 = .ok (.aload_n 0, 1) := by decide +kernel
theorem dX12_copy_69 : decode cX12_copy 69 = .ok (.getfield 25, 3) := by decide +kernel
theorem dX12_copy_72 : decode cX12_copy 72 = .ok (.iload_n 1, 1) := by decide +kernel
theorem dX12_copy_73 : decode cX12_copy 73 = .ok (.iaload, 1) := by decide +kernel
theorem dX12_copy_74 : decode cX12_copy 74 = .ok (.iastore, 1) := by decide +kernel
theorem dX12_copy_75 : decode cX12_copy 75 = .ok (.aload_n 0, 1) := by decide +kernel
theorem dX12_copy_76 : decode cX12_copy 76 = .ok (.getfield 28, 3) := by decide +kernel
theorem dX12_copy_79 : decode cX12_copy 79 = .ok (.aload_n 0, 1) := by decide +kernel
theorem dX12_copy_80 : decode cX12_copy 80 = .ok (.getfield 154, 3) := by decide +kernel
theorem dX12_copy_83 : decode cX12_copy 83 = .ok (.aload_n 0, 1) := by decide +kernel
theorem dX12_copy_84 : decode cX12_copy 84 = .ok (.getfield 28, 3) := by decide +kernel
theorem dX12_copy_87 : decode cX12_copy 87 = .ok (.iload_n 1, 1) := by decide +kernel
theorem dX12_copy_88 : decode cX12_copy 88 = .ok (.iaload, 1) := by decide +kernel
theorem dX12_copy_89 : decode cX12_copy 89 = .ok (.iastore, 1) := by decide +kernel
theorem dX12_copy_90 : decode cX12_copy 90 = .ok (.aload_n 0, 1) := by decide +kernel
theorem dX12_copy_91 : decode cX12_copy 91 = .ok (.getfield 31, 3) := by decide +kernel
theorem dX12_copy_94 : decode cX12_copy 94 = .ok (.aload_n 0, 1) := by decide +kernel
theorem dX12_copy_95 : decode cX12_copy 95 = .ok (.getfield 154, 3) := by decide +kernel
theorem dX12_copy_98 : decode cX12_copy 98 = .ok (.iload_n 2, 1) := by decide +kernel
theorem dX12_copy_99 : decode cX12_copy 99 = .ok (.iastore, 1) := by decide +kernel
theorem dX12_copy_100 : decode cX12_copy 100 = .ok (.aload_n 0, 1) := by decide +kernel
theorem dX12_copy_101 : decode cX12_copy 101 = .ok (.getfield 34, 3) := by decide +kernel
theorem dX12_copy_104 : decode cX12_copy 104 = .ok (.aload_n 0, 1) := by decide +kernel
theorem dX12_copy_105 : decode cX12_copy 105 = .ok (.getfield 154, 3) := by decide +kernel
theorem dX12_copy_108 : decode cX12_copy 108 = .ok (.aload_n 0, 1) := by decide +kernel
theorem dX12_copy_109 : decode cX12_copy 109 = .ok (.getfield 34, 3) := by decide +kernel
theorem dX12_copy_112 : decode cX12_copy 112 = .ok (.iload_n 1, 1) := by decide +kernel
theorem dX12_copy_113 : decode cX12_copy 113 = .ok (.iaload, 1) := by decide +kernel
theorem dX12_copy_114 : decode cX12_copy 114 = .ok (.iastore, 1) := by decide +kernel
theorem dX12_copy_115 : decode cX12_copy 115 = .ok (.aload_n 0, 1) := by decide +kernel
theorem dX12_copy_116 : decode cX12_copy 116 = .ok (.getfield 37, 3) := by decide +kernel
theorem dX12_copy_119 : decode cX12_copy 119 = .ok (.aload_n 0, 1) := by decide +kernel
theorem dX12_copy_120 : decode cX12_copy 120 = .ok (.getfield 154, 3) := by decide +kernel
theorem dX12_copy_123 : decode cX12_copy 123 = .ok (.aload_n 0, 1) := by decide +kernel
theorem dX12_copy_124 : decode cX12_copy 124 = .ok (.getfield 37, 3) := by decide +kernel
theorem dX12_copy_127 : decode cX12_copy 127 = .ok (.iload_n 1, 1) := by decide +kernel
theorem dX12_copy_128 : decode cX12_copy 128 = .ok (.iaload, 1) := by decide +kernel
theorem dX12_copy_129 : decode cX12_copy 129 = .ok (.iastore, 1) := by decide +kernel
theorem dX12_copy_130 : decode cX12_copy 130 = .ok (.aload_n 0, 1) := by decide +kernel
theorem dX12_copy_131 : decode cX12_copy 131 = .ok (.getfield 40, 3) := by decide +kernel
theorem dX12_copy_134 : decode cX12_copy 134 = .ok (.aload_n 0, 1) := by decide +kernel
theorem dX12_copy_135 : decode cX12_copy 135 = .ok (.getfield 154, 3) := by decide +kernel
theorem dX12_copy_138 : decode cX12_copy 138 = .ok (.aload_n 0, 1) := by decide +kernel
theorem dX12_copy_139 : decode cX12_copy 139 = .ok (.getfield 40, 3) := by decide +kernel
theorem dX12_copy_142 : decode cX12_copy 142 = .ok (.iload_n 1, 1) := by decide +kernel
theorem dX12_copy_143 : decode cX12_copy 143 = .ok (.iaload, 1) := by decide +kernel
theorem dX12_copy_144 : decode cX12_copy 144 = .ok (.iastore, 1) := by decide +kernel
theorem dX12_copy_145 : decode cX12_copy 145 = .ok (.aload_n 0, 1) := by decide +kernel
theorem dX12_copy_146 : decode cX12_copy 146 = .ok (.iload_n 1, 1) := by decide +kernel
theorem dX12_copy_147 : decode cX12_copy 147 = .ok (.aload_n 0, 1) := by decide +kernel
theorem dX12_copy_148 : decode cX12_copy 148 = .ok (.getfield 154, 3) := by decide +kernel
theorem dX12_copy_151 : decode cX12_copy 151 = .ok (.invokevirtual 182, 3) := by decide +kernel
theorem dX12_copy_154 : decode cX12_copy 154 = .ok (.aload_n 0, 1) := by decide +kernel
theorem dX12_copy_155 : decode cX12_copy 155 = .ok (.dup, 1) := by decide +kernel
theorem dX12_copy_156 : decode cX12_copy 156 = .ok (.getfield 154, 3) := by decide +kernel
theorem dX12_copy_159 : decode cX12_copy 159 = .ok (.iconst 1, 1) := by decide +kernel
theorem dX12_copy_160 : decode cX12_copy 160 = .ok (.iadd, 1) := by decide +kernel
theorem dX12_copy_161 : decode cX12_copy 161 = .ok (.putfield 154, 3) := by decide +kernel
theorem dX12_copy_164 : decode cX12_copy 164 = .ok (.aload_n 0, 1) := by decide +kernel
theorem dX12_copy_165 : decode cX12_copy 165 = .ok (.getfield 154, 3) := by decide +kernel
theorem dX12_copy_168 : decode cX12_copy 168 = .ok (.iconst 1, 1) := by decide +kernel
theorem dX12_copy_169 : decode cX12_copy 169 = .ok (.isub, 1) := by decide +kernel
theorem dX12_copy_170 : decode cX12_copy 170 = .ok (.ireturn, 1) := by decide +kernel
theorem dX12_inputOf_0 : decode cX12_inputOf 0 = .ok (.iconst 4, 1) := by decide +kernel
theorem dX12_inputOf_1 : decode cX12_inputOf 1 = .ok (.iload_n 1, 1) := by decide +kernel
theorem dX12_inputOf_2 : decode cX12_inputOf 2 = .ok (.imul, 1) := by decide +kernel
theorem dX12_inputOf_3 : decode cX12_inputOf 3 = .ok (.iload_n 2, 1) := by decide +kernel
theorem dX12_inputOf_4 : decode cX12_inputOf 4 = .ok (.iadd, 1) := by decide +kernel
theorem dX12_inputOf_5 : decode cX12_inputOf 5 = .ok (.istore_n 3, 1) := by decide +kernel
theorem dX12_inputOf_6 : decode cX12_inputOf 6 = .ok (.aload_n 0, 1) := by decide +kernel
theorem dX12_inputOf_7 : decode cX12_inputOf 7 = .ok (.getfield 49, 3) := by decide +kernel
theorem dX12_inputOf_10 : decode cX12_inputOf 10 = .ok (.iload_n 3, 1) := by decide +kernel
theorem dX12_inputOf_11 : decode cX12_inputOf 11 = .ok (.iaload, 1) := by decide +kernel
theorem dX12_inputOf_12 : decode cX12_inputOf 12 = .ok (.iconst (-1), 1) := by decide +kernel
theorem dX12_inputOf_13 : decode cX12_inputOf 13 = .ok (.if_icmp .eq 23, 3) := by decide +kernel
theorem dX12_inputOf_16 : decode cX12_inputOf 16 = .ok (.aload_n 0, 1) := by decide +kernel
theorem dX12_inputOf_17 : decode cX12_inputOf 17 = .ok (.getfield 13, 3) := by decide +kernel
theorem dX12_inputOf_20 : decode cX12_inputOf 20 = .ok (.aload_n 0, 1) := by decide +kernel
theorem dX12_inputOf_21 : decode cX12_inputOf 21 = .ok (.getfield 52, 3) := by decide +kernel
theorem dX12_inputOf_24 : decode cX12_inputOf 24 = .ok (.iload_n 3, 1) := by decide +kernel
theorem dX12_inputOf_25 : decode cX12_inputOf 25 = .ok (.iaload, 1) := by decide +kernel
theorem dX12_inputOf_26 : decode cX12_inputOf 26 = .ok (.iaload, 1) := by decide +kernel
theorem dX12_inputOf_27 : decode cX12_inputOf 27 = .ok (.aload_n 0, 1) := by decide +kernel
theorem dX12_inputOf_28 : decode cX12_inputOf 28 = .ok (.getfield 55, 3) := by decide +kernel
theorem dX12_inputOf_31 : decode cX12_inputOf 31 = .ok (.iload_n 3, 1) := by decide +kernel
theorem dX12_inputOf_32 : decode cX12_inputOf 32 = .ok (.iaload, 1) := by decide +kernel
theorem dX12_inputOf_33 : decode cX12_inputOf 33 = .ok (.if_icmp .ne 12, 3) := by decide +kernel
theorem dX12_inputOf_36 : decode cX12_inputOf 36 = .ok (.aload_n 0, 1) := by decide +kernel
theorem dX12_inputOf_37 : decode cX12_inputOf 37 = .ok (.getfield 46, 3) := by decide +kernel
theorem dX12_inputOf_40 : decode cX12_inputOf 40 = .ok (.iload_n 3, 1) := by decide +kernel
theorem dX12_inputOf_41 : decode cX12_inputOf 41 = .ok (.iaload, 1) := by decide +kernel
theorem dX12_inputOf_42 : decode cX12_inputOf 42 = .ok (.goto 9, 3) := by decide +kernel
theorem dX12_inputOf_45 : decode cX12_inputOf 45 = .ok (.aload_n 0, 1) := by decide +kernel
theorem dX12_inputOf_46 : decode cX12_inputOf 46 = .ok (.getfield 49, 3) := by decide +kernel
theorem dX12_inputOf_49 : decode cX12_inputOf 49 = .ok (.iload_n 3, 1) := by decide +kernel
theorem dX12_inputOf_50 : decode cX12_inputOf 50 = .ok (.iaload, 1) := by decide +kernel
theorem dX12_inputOf_51 : decode cX12_inputOf 51 = .ok (.ireturn, 1) := by decide +kernel
theorem dX12_neededBy_0 : decode cX12_neededBy 0 = .ok (.iload_n 1, 1) := by decide +kernel
theorem dX12_neededBy_1 : decode cX12_neededBy 1 = .ok (.istore_n 2, 1) := by decide +kernel
theorem dX12_neededBy_2 : decode cX12_neededBy 2 = .ok (.aload_n 0, 1) := by decide +kernel
theorem dX12_neededBy_3 : decode cX12_neededBy 3 = .ok (.getfield 154, 3) := by decide +kernel
theorem dX12_neededBy_6 : decode cX12_neededBy 6 = .ok (.iconst 1, 1) := by decide +kernel
theorem dX12_neededBy_7 : decode cX12_neededBy 7 = .ok (.isub, 1) := by decide +kernel
theorem dX12_neededBy_8 : decode cX12_neededBy 8 = .ok (.istore_n 3, 1) := by decide +kernel
theorem dX12_neededBy_9 : decode cX12_neededBy 9 = .ok (.iload_n 3, 1) := by decide +kernel
theorem dX12_neededBy_10 : decode cX12_neededBy 10 = .ok (.ifCond .lt 68, 3) := by decide +kernel
theorem dX12_neededBy_13 : decode cX12_neededBy 13 = .ok (.iconst 0, 1) := by decide +kernel
theorem dX12_neededBy_14 : decode cX12_neededBy 14 = .ok (.istore 4, 2) := by decide +kernel
theorem dX12_neededBy_16 : decode cX12_neededBy 16 = .ok (.iload 4, 2) := by decide +kernel
theorem dX12_neededBy_18 : decode cX12_neededBy 18 = .ok (.aload_n 0, 1) := by decide +kernel
theorem dX12_neededBy_19 : decode cX12_neededBy 19 = .ok (.getfield 43, 3) := by decide +kernel
theorem dX12_neededBy_22 : decode cX12_neededBy 22 = .ok (.iload_n 3, 1) := by decide +kernel
theorem dX12_neededBy_23 : decode cX12_neededBy 23 = .ok (.iaload, 1) := by decide +kernel
theorem dX12_neededBy_24 : decode cX12_neededBy 24 = .ok (.if_icmp .ge 48, 3) := by decide +kernel
theorem dX12_neededBy_27 : decode cX12_neededBy 27 = .ok (.iload_n 2, 1) := by decide +kernel
theorem dX12_neededBy_28 : decode cX12_neededBy 28 = .ok (.iload_n 3, 1) := by decide +kernel
theorem dX12_neededBy_29 : decode cX12_neededBy 29 = .ok (.ishr, 1) := by decide +kernel
theorem dX12_neededBy_30 : decode cX12_neededBy 30 = .ok (.iconst 1, 1) := by decide +kernel
theorem dX12_neededBy_31 : decode cX12_neededBy 31 = .ok (.iand, 1) := by decide +kernel
theorem dX12_neededBy_32 : decode cX12_neededBy 32 = .ok (.iconst 1, 1) := by decide +kernel
theorem dX12_neededBy_33 : decode cX12_neededBy 33 = .ok (.if_icmp .ne 39, 3) := by decide +kernel
theorem dX12_neededBy_36 : decode cX12_neededBy 36 = .ok (.aload_n 0, 1) := by decide +kernel
theorem dX12_neededBy_37 : decode cX12_neededBy 37 = .ok (.iload_n 3, 1) := by decide +kernel
theorem dX12_neededBy_38 : decode cX12_neededBy 38 = .ok (.iload 4, 2) := by decide +kernel
theorem dX12_neededBy_40 : decode cX12_neededBy 40 = .ok (.invokevirtual 186, 3) := by decide +kernel
theorem dX12_neededBy_43 : decode cX12_neededBy 43 = .ok (.istore 5, 2) := by decide +kernel
theorem dX12_neededBy_45 : decode cX12_neededBy 45 = .ok (.iload_n 2, 1) := by decide +kernel
theorem dX12_neededBy_46 : decode cX12_neededBy 46 = .ok (.iload 5, 2) := by decide +kernel
theorem dX12_neededBy_48 : decode cX12_neededBy 48 = .ok (.bipush 16, 2) := by decide +kernel
theorem dX12_neededBy_50 : decode cX12_neededBy 50 = .ok (.if_icmp .lt 13, 3) := by decide +kernel
theorem dX12_neededBy_53 : decode cX12_neededBy 53 = .ok (.iconst 1, 1) := by decide +kernel
theorem dX12_neededBy_54 : decode cX12_neededBy 54 = .ok (.iload 5, 2) := by decide +kernel
theorem dX12_neededBy_56 : decode cX12_neededBy 56 = .ok (.bipush 16, 2) := by decide +kernel
theorem dX12_neededBy_58 : decode cX12_neededBy 58 = .ok (.isub, 1) := by decide +kernel
theorem dX12_neededBy_59 : decode cX12_neededBy 59 = .ok (.ishl, 1) := by decide +kernel
theorem dX12_neededBy_60 : decode cX12_neededBy 60 = .ok (.goto 4, 3) := by decide +kernel
theorem dX12_neededBy_63 : decode cX12_neededBy 63 = .ok (.iconst 0, 1) := by decide +kernel
theorem dX12_neededBy_64 : decode cX12_neededBy 64 = .ok (.ior, 1) := by decide +kernel
theorem dX12_neededBy_65 : decode cX12_neededBy 65 = .ok (.istore_n 2, 1) := by decide +kernel
theorem dX12_neededBy_66 : decode cX12_neededBy 66 = .ok (.iinc 4 1, 3) := by decide +kernel
theorem dX12_neededBy_69 : decode cX12_neededBy 69 = .ok (.goto (-53), 3) := by decide +kernel
theorem dX12_neededBy_72 : decode cX12_neededBy 72 = .ok (.iinc 3 (-1), 3) := by decide +kernel
theorem dX12_neededBy_75 : decode cX12_neededBy 75 = .ok (.goto (-66), 3) := by decide +kernel
theorem dX12_neededBy_78 : decode cX12_neededBy 78 = .ok (.iload_n 2, 1) := by decide +kernel
theorem dX12_neededBy_79 : decode cX12_neededBy 79 = .ok (.ireturn, 1) := by decide +kernel
theorem dX12_put_0 : decode cX12_put 0 = .ok (.bipush 31, 2) := by decide +kernel
theorem dX12_put_2 : decode cX12_put 2 = .ok (.iload_n 0, 1) := by decide +kernel
theorem dX12_put_3 : decode cX12_put 3 = .ok (.imul, 1) := by decide +kernel
theorem dX12_put_4 : decode cX12_put 4 = .ok (.iload_n 1, 1) := by decide +kernel
theorem dX12_put_5 : decode cX12_put 5 = .ok (.iadd, 1) := by decide +kernel
theorem dX12_put_6 : decode cX12_put 6 = .ok (.iconst 1, 1) := by decide +kernel
theorem dX12_put_7 : decode cX12_put 7 = .ok (.iadd, 1) := by decide +kernel
theorem dX12_put_8 : decode cX12_put 8 = .ok (.ldc 190, 2) := by decide +kernel
theorem dX12_put_10 : decode cX12_put 10 = .ok (.irem, 1) := by decide +kernel
theorem dX12_put_11 : decode cX12_put 11 = .ok (.ireturn, 1) := by decide +kernel
theorem dX12_keyBegin_0 : decode cX12_keyBegin 0 = .ok (.bipush 7, 2) := by decide +kernel
theorem dX12_keyBegin_2 : decode cX12_keyBegin 2 = .ok (.aload_n 0, 1) := by decide +kernel
theorem dX12_keyBegin_3 : decode cX12_keyBegin 3 = .ok (.getfield 25, 3) := by decide +kernel
theorem dX12_keyBegin_6 : decode cX12_keyBegin 6 = .ok (.iload_n 1, 1) := by decide +kernel
theorem dX12_keyBegin_7 : decode cX12_keyBegin 7 = .ok (.iaload, 1) := by decide +kernel
theorem dX12_keyBegin_8 : decode cX12_keyBegin 8 = .ok (.invokestatic 191, 3) := by decide +kernel
theorem dX12_keyBegin_11 : decode cX12_keyBegin 11 = .ok (.aload_n 0, 1) := by decide +kernel
theorem dX12_keyBegin_12 : decode cX12_keyBegin 12 = .ok (.getfield 28, 3) := by decide +kernel
theorem dX12_keyBegin_15 : decode cX12_keyBegin 15 = .ok (.iload_n 1, 1) := by decide +kernel
theorem dX12_keyBegin_16 : decode cX12_keyBegin 16 = .ok (.iaload, 1) := by decide +kernel
theorem dX12_keyBegin_17 : decode cX12_keyBegin 17 = .ok (.invokestatic 191, 3) := by decide +kernel
theorem dX12_keyBegin_20 : decode cX12_keyBegin 20 = .ok (.istore_n 3, 1) := by decide +kernel
theorem dX12_keyBegin_21 : decode cX12_keyBegin 21 = .ok (.iload_n 3, 1) := by decide +kernel
theorem dX12_keyBegin_22 : decode cX12_keyBegin 22 = .ok (.aload_n 0, 1) := by decide +kernel
theorem dX12_keyBegin_23 : decode cX12_keyBegin 23 = .ok (.getfield 16, 3) := by decide +kernel
theorem dX12_keyBegin_26 : decode cX12_keyBegin 26 = .ok (.aload_n 0, 1) := by decide +kernel
theorem dX12_keyBegin_27 : decode cX12_keyBegin 27 = .ok (.getfield 28, 3) := by decide +kernel
theorem dX12_keyBegin_30 : decode cX12_keyBegin 30 = .ok (.iload_n 1, 1) := by decide +kernel
theorem dX12_keyBegin_31 : decode cX12_keyBegin 31 = .ok (.iaload, 1) := by decide +kernel
theorem dX12_keyBegin_32 : decode cX12_keyBegin 32 = .ok (.iaload, 1) := by decide +kernel
theorem dX12_keyBegin_33 : decode cX12_keyBegin 33 = .ok (.invokestatic 191, 3) := by decide +kernel
theorem dX12_keyBegin_36 : decode cX12_keyBegin 36 = .ok (.aload_n 0, 1) := by decide +kernel
theorem dX12_keyBegin_37 : decode cX12_keyBegin 37 = .ok (.getfield 31, 3) := by decide +kernel
theorem dX12_keyBegin_40 : decode cX12_keyBegin 40 = .ok (.iload_n 1, 1) := by decide +kernel
theorem dX12_keyBegin_41 : decode cX12_keyBegin 41 = .ok (.iaload, 1) := by decide +kernel
theorem dX12_keyBegin_42 : decode cX12_keyBegin 42 = .ok (.invokestatic 191, 3) := by decide +kernel
theorem dX12_keyBegin_45 : decode cX12_keyBegin 45 = .ok (.iload_n 2, 1) := by decide +kernel
theorem dX12_keyBegin_46 : decode cX12_keyBegin 46 = .ok (.invokestatic 191, 3) := by decide +kernel
theorem dX12_keyBegin_49 : decode cX12_keyBegin 49 = .ok (.ireturn, 1) := by decide +kernel
theorem dX12_foundBy_0 : decode cX12_foundBy 0 = .ok (.aload_n 0, 1) := by decide +kernel
theorem dX12_foundBy_1 : decode cX12_foundBy 1 = .ok (.getfield 37, 3) := by decide +kernel
theorem dX12_foundBy_4 : decode cX12_foundBy 4 = .ok (.iload_n 1, 1) := by decide +kernel
theorem dX12_foundBy_5 : decode cX12_foundBy 5 = .ok (.iaload, 1) := by decide +kernel
theorem dX12_foundBy_6 : decode cX12_foundBy 6 = .ok (.iconst (-1), 1) := by decide +kernel
theorem dX12_foundBy_7 : decode cX12_foundBy 7 = .ok (.if_icmp .ne 7, 3) := by decide +kernel
theorem dX12_foundBy_10 : decode cX12_foundBy 10 = .ok (.iconst (-1), 1) := by decide +kernel
theorem dX12_foundBy_11 : decode cX12_foundBy 11 = .ok (.goto 7, 3) := by decide +kernel
theorem dX12_foundBy_14 : decode cX12_foundBy 14 = .ok (.iload_n 2, 1) := by decide +kernel
theorem dX12_foundBy_15 : decode cX12_foundBy 15 = .ok (.bipush 16, 2) := by decide +kernel
theorem dX12_foundBy_17 : decode cX12_foundBy 17 = .ok (.irem, 1) := by decide +kernel
theorem dX12_foundBy_18 : decode cX12_foundBy 18 = .ok (.ireturn, 1) := by decide +kernel
theorem dX12_breaks_0 : decode cX12_breaks 0 = .ok (.aload_n 0, 1) := by decide +kernel
theorem dX12_breaks_1 : decode cX12_breaks 1 = .ok (.getfield 37, 3) := by decide +kernel
theorem dX12_breaks_4 : decode cX12_breaks 4 = .ok (.iload_n 1, 1) := by decide +kernel
theorem dX12_breaks_5 : decode cX12_breaks 5 = .ok (.iaload, 1) := by decide +kernel
theorem dX12_breaks_6 : decode cX12_breaks 6 = .ok (.iconst (-1), 1) := by decide +kernel
theorem dX12_breaks_7 : decode cX12_breaks 7 = .ok (.if_icmp .eq 23, 3) := by decide +kernel
theorem dX12_breaks_10 : decode cX12_breaks 10 = .ok (.aload_n 0, 1) := by decide +kernel
theorem dX12_breaks_11 : decode cX12_breaks 11 = .ok (.getfield 37, 3) := by decide +kernel
theorem dX12_breaks_14 : decode cX12_breaks 14 = .ok (.iload_n 1, 1) := by decide +kernel
theorem dX12_breaks_15 : decode cX12_breaks 15 = .ok (.iaload, 1) := by decide +kernel
theorem dX12_breaks_16 : decode cX12_breaks 16 = .ok (.iload_n 2, 1) := by decide +kernel
theorem dX12_breaks_17 : decode cX12_breaks 17 = .ok (.bipush 16, 2) := by decide +kernel
theorem dX12_breaks_19 : decode cX12_breaks 19 = .ok (.irem, 1) := by decide +kernel
theorem dX12_breaks_20 : decode cX12_breaks 20 = .ok (.ishr, 1) := by decide +kernel
theorem dX12_breaks_21 : decode cX12_breaks 21 = .ok (.iconst 1, 1) := by decide +kernel
theorem dX12_breaks_22 : decode cX12_breaks 22 = .ok (.iand, 1) := by decide +kernel
theorem dX12_breaks_23 : decode cX12_breaks 23 = .ok (.ifCond .ne 7, 3) := by decide +kernel
theorem dX12_breaks_26 : decode cX12_breaks 26 = .ok (.iconst 1, 1) := by decide +kernel
theorem dX12_breaks_27 : decode cX12_breaks 27 = .ok (.goto 4, 3) := by decide +kernel
theorem dX12_breaks_30 : decode cX12_breaks 30 = .ok (.iconst 0, 1) := by decide +kernel
theorem dX12_breaks_31 : decode cX12_breaks 31 = .ok (.ireturn, 1) := by decide +kernel
theorem dX12_freshen_0 : decode cX12_freshen 0 = .ok (.iconst 0, 1) := by decide +kernel
theorem dX12_freshen_1 : decode cX12_freshen 1 = .ok (.istore_n 1, 1) := by decide +kernel
theorem dX12_freshen_2 : decode cX12_freshen 2 = .ok (.iload_n 1, 1) := by decide +kernel
theorem dX12_freshen_3 : decode cX12_freshen 3 = .ok (.aload_n 0, 1) := by decide +kernel
theorem dX12_freshen_4 : decode cX12_freshen 4 = .ok (.getfield 154, 3) := by decide +kernel
theorem dX12_freshen_7 : decode cX12_freshen 7 = .ok (.if_icmp .ge 256, 3) := by decide +kernel
theorem dX12_freshen_10 : decode cX12_freshen 10 = .ok (.aload_n 0, 1) := by decide +kernel
theorem dX12_freshen_11 : decode cX12_freshen 11 = .ok (.getfield 141, 3) := by decide +kernel
theorem dX12_freshen_14 : decode cX12_freshen 14 = .ok (.iload_n 1, 1) := by decide +kernel
theorem dX12_freshen_15 : decode cX12_freshen 15 = .ok (.iconst 1, 1) := by decide +kernel
theorem dX12_freshen_16 : decode cX12_freshen 16 = .ok (.bastore, 1) := by decide +kernel
theorem dX12_freshen_17 : decode cX12_freshen 17 = .ok (.aload_n 0, 1) := by decide +kernel
theorem dX12_freshen_18 : decode cX12_freshen 18 = .ok (.getfield 138, 3) := by decide +kernel
theorem dX12_freshen_21 : decode cX12_freshen 21 = .ok (.iload_n 1, 1) := by decide +kernel
theorem dX12_freshen_22 : decode cX12_freshen 22 = .ok (.bipush 7, 2) := by decide +kernel
theorem dX12_freshen_24 : decode cX12_freshen 24 = .ok (.iastore, 1) := by decide +kernel
theorem dX12_freshen_25 : decode cX12_freshen 25 = .ok (.iconst 0, 1) := by decide +kernel
theorem dX12_freshen_26 : decode cX12_freshen 26 = .ok (.istore_n 2, 1) := by decide +kernel
theorem dX12_freshen_27 : decode cX12_freshen 27 = .ok (.iload_n 2, 1) := by decide +kernel
theorem dX12_freshen_28 : decode cX12_freshen 28 = .ok (.aload_n 0, 1) := by decide +kernel
theorem dX12_freshen_29 : decode cX12_freshen 29 = .ok (.getfield 34, 3) := by decide +kernel
theorem dX12_freshen_32 : decode cX12_freshen 32 = .ok (.iload_n 1, 1) := by decide +kernel
theorem dX12_freshen_33 : decode cX12_freshen 33 = .ok (.iaload, 1) := by decide +kernel
theorem dX12_freshen_34 : decode cX12_freshen 34 = .ok (.if_icmp .ge 223, 3) := by decide +kernel
theorem dX12_freshen_37 : decode cX12_freshen 37 = .ok (.aload_n 0, 1) := by decide +kernel
theorem dX12_freshen_38 : decode cX12_freshen 38 = .ok (.iload_n 1, 1) := by decide +kernel
theorem dX12_freshen_39 : decode cX12_freshen 39 = .ok (.iload_n 2, 1) := by decide +kernel
theorem dX12_freshen_40 : decode cX12_freshen 40 = .ok (.invokevirtual 194, 3) := by decide +kernel
theorem dX12_freshen_43 : decode cX12_freshen 43 = .ok (.istore_n 3, 1) := by decide +kernel
theorem dX12_freshen_44 : decode cX12_freshen 44 = .ok (.iconst 0, 1) := by decide +kernel
theorem dX12_freshen_45 : decode cX12_freshen 45 = .ok (.istore 4, 2) := by decide +kernel
theorem dX12_freshen_47 : decode cX12_freshen 47 = .ok (.iload 4, 2) := by decide +kernel
theorem dX12_freshen_49 : decode cX12_freshen 49 = .ok (.aload_n 0, 1) := by decide +kernel
theorem dX12_freshen_50 : decode cX12_freshen 50 = .ok (.getfield 43, 3) := by decide +kernel
theorem dX12_freshen_53 : decode cX12_freshen 53 = .ok (.iload_n 1, 1) := by decide +kernel
theorem dX12_freshen_54 : decode cX12_freshen 54 = .ok (.iaload, 1) := by decide +kernel
theorem dX12_freshen_55 : decode cX12_freshen 55 = .ok (.if_icmp .ge 84, 3) := by decide +kernel
theorem dX12_freshen_58 : decode cX12_freshen 58 = .ok (.aload_n 0, 1) := by decide +kernel
theorem dX12_freshen_59 : decode cX12_freshen 59 = .ok (.iload_n 1, 1) := by decide +kernel
theorem dX12_freshen_60 : decode cX12_freshen 60 = .ok (.iload 4, 2) := by decide +kernel
theorem dX12_freshen_62 : decode cX12_freshen 62 = .ok (.invokevirtual 186, 3) := by decide +kernel
theorem dX12_freshen_65 : decode cX12_freshen 65 = .ok (.istore 5, 2) := by decide +kernel
theorem dX12_freshen_67 : decode cX12_freshen 67 = .ok (.iload_n 3, 1) := by decide +kernel
theorem dX12_freshen_68 : decode cX12_freshen 68 = .ok (.iload 5, 2) := by decide +kernel
theorem dX12_freshen_70 : decode cX12_freshen 70 = .ok (.bipush 16, 2) := by decide +kernel
theorem dX12_freshen_72 : decode cX12_freshen 72 = .ok (.if_icmp .ge 13, 3) := by decide +kernel
theorem dX12_freshen_75 : decode cX12_freshen 75 = .ok (.aload_n 0, 1) := by decide +kernel
theorem dX12_freshen_76 : decode cX12_freshen 76 = .ok (.getfield 132, 3) := by decide +kernel
theorem dX12_freshen_79 : decode cX12_freshen 79 = .ok (.iload 5, 2) := by decide +kernel
theorem dX12_freshen_81 : decode cX12_freshen 81 = .ok (.iaload, 1) := by decide +kernel
theorem dX12_freshen_82 : decode cX12_freshen 82 = .ok (.goto 13, 3) := by decide +kernel
theorem dX12_freshen_85 : decode cX12_freshen 85 = .ok (.aload_n 0, 1) := by decide +kernel
theorem dX12_freshen_86 : decode cX12_freshen 86 = .ok (.getfield 138, 3) := by decide +kernel
theorem dX12_freshen_89 : decode cX12_freshen 89 = .ok (.iload 5, 2) := by decide +kernel
theorem dX12_freshen_91 : decode cX12_freshen 91 = .ok (.bipush 16, 2) := by decide +kernel
theorem dX12_freshen_93 : decode cX12_freshen 93 = .ok (.isub, 1) := by decide +kernel
theorem dX12_freshen_94 : decode cX12_freshen 94 = .ok (.iaload, 1) := by decide +kernel
theorem dX12_freshen_95 : decode cX12_freshen 95 = .ok (.invokestatic 191, 3) := by decide +kernel
theorem dX12_freshen_98 : decode cX12_freshen 98 = .ok (.istore_n 3, 1) := by decide +kernel
theorem dX12_freshen_99 : decode cX12_freshen 99 = .ok (.aload_n 0, 1) := by decide +kernel
theorem dX12_freshen_100 : decode cX12_freshen 100 = .ok (.getfield 141, 3) := by decide +kernel
theorem dX12_freshen_103 : decode cX12_freshen 103 = .ok (.iload_n 1, 1) := by decide +kernel
theorem dX12_freshen_104 : decode cX12_freshen 104 = .ok (.dup2, 1) := by decide +kernel
theorem dX12_freshen_105 : decode cX12_freshen 105 = .ok (.baload, 1) := by decide +kernel
theorem dX12_freshen_106 : decode cX12_freshen 106 = .ok (.iload 5, 2) := by decide +kernel
theorem dX12_freshen_108 : decode cX12_freshen 108 = .ok (.bipush 16, 2) := by decide +kernel
theorem dX12_freshen_110 : decode cX12_freshen 110 = .ok (.if_icmp .lt 16, 3) := by decide +kernel
theorem dX12_freshen_113 : decode cX12_freshen 113 = .ok (.aload_n 0, 1) := by decide +kernel
theorem dX12_freshen_114 : decode cX12_freshen 114 = .ok (.getfield 141, 3) := by decide +kernel
theorem dX12_freshen_117 : decode cX12_freshen 117 = .ok (.iload 5, 2) := by decide +kernel
theorem dX12_freshen_119 : decode cX12_freshen 119 = .ok (.bipush 16, 2) := by decide +kernel
theorem dX12_freshen_121 : decode cX12_freshen 121 = .ok (.isub, 1) := by decide +kernel
theorem dX12_freshen_122 : decode cX12_freshen 122 = .ok (.baload, 1) := by decide +kernel
theorem dX12_freshen_123 : decode cX12_freshen 123 = .ok (.ifCond .eq 7, 3) := by decide +kernel
theorem dX12_freshen_126 : decode cX12_freshen 126 = .ok (.iconst 1, 1) := by decide +kernel
theorem dX12_freshen_127 : decode cX12_freshen 127 = .ok (.goto 4, 3) := by decide +kernel
theorem dX12_freshen_130 : decode cX12_freshen 130 = .ok (.iconst 0, 1) := by decide +kernel
theorem dX12_freshen_131 : decode cX12_freshen 131 = .ok (.iand, 1) := by decide +kernel
theorem dX12_freshen_132 : decode cX12_freshen 132 = .ok (.bastore, 1) := by decide +kernel
theorem dX12_freshen_133 : decode cX12_freshen 133 = .ok (.iinc 4 1, 3) := by decide +kernel
theorem dX12_freshen_136 : decode cX12_freshen 136 = .ok (.goto (-89), 3) := by decide +kernel
theorem dX12_freshen_139 : decode cX12_freshen 139 = .ok (.aload_n 0, 1) := by decide +kernel
theorem dX12_freshen_140 : decode cX12_freshen 140 = .ok (.iload_n 1, 1) := by decide +kernel
theorem dX12_freshen_141 : decode cX12_freshen 141 = .ok (.iload_n 3, 1) := by decide +kernel
theorem dX12_freshen_142 : decode cX12_freshen 142 = .ok (.invokevirtual 197, 3) := by decide +kernel
theorem dX12_freshen_145 : decode cX12_freshen 145 = .ok (.istore 4, 2) := by decide +kernel
theorem dX12_freshen_147 : decode cX12_freshen 147 = .ok (.aload_n 0, 1) := by decide +kernel
theorem dX12_freshen_148 : decode cX12_freshen 148 = .ok (.getfield 135, 3) := by decide +kernel
theorem dX12_freshen_151 : decode cX12_freshen 151 = .ok (.iconst 4, 1) := by decide +kernel
theorem dX12_freshen_152 : decode cX12_freshen 152 = .ok (.iload_n 1, 1) := by decide +kernel
theorem dX12_freshen_153 : decode cX12_freshen 153 = .ok (.imul, 1) := by decide +kernel
theorem dX12_freshen_154 : decode cX12_freshen 154 = .ok (.iload_n 2, 1) := by decide +kernel
theorem dX12_freshen_155 : decode cX12_freshen 155 = .ok (.iadd, 1) := by decide +kernel
theorem dX12_freshen_156 : decode cX12_freshen 156 = .ok (.iload 4, 2) := by decide +kernel
theorem dX12_freshen_158 : decode cX12_freshen 158 = .ok (.iconst (-1), 1) := by decide +kernel
theorem dX12_freshen_159 : decode cX12_freshen 159 = .ok (.if_icmp .ne 7, 3) := by decide +kernel
theorem dX12_freshen_162 : decode cX12_freshen 162 = .ok (.iload_n 3, 1) := by decide +kernel
theorem dX12_freshen_163 : decode cX12_freshen 163 = .ok (.goto 14, 3) := by decide +kernel
theorem dX12_freshen_166 : decode cX12_freshen 166 = .ok (.iload_n 3, 1) := by decide +kernel
theorem dX12_freshen_167 : decode cX12_freshen 167 = .ok (.aload_n 0, 1) := by decide +kernel
theorem dX12_freshen_168 : decode cX12_freshen 168 = .ok (.getfield 132, 3) := by decide +kernel
theorem dX12_freshen_171 : decode cX12_freshen 171 = .ok (.iload 4, 2) := by decide +kernel
theorem dX12_freshen_173 : decode cX12_freshen 173 = .ok (.iaload, 1) := by decide +kernel
theorem dX12_freshen_174 : decode cX12_freshen 174 = .ok (.invokestatic 191, 3) := by decide +kernel
theorem dX12_freshen_177 : decode cX12_freshen 177 = .ok (.iastore, 1) := by decide +kernel
theorem dX12_freshen_178 : decode cX12_freshen 178 = .ok (.aload_n 0, 1) := by decide +kernel
theorem dX12_freshen_179 : decode cX12_freshen 179 = .ok (.getfield 141, 3) := by decide +kernel
theorem dX12_freshen_182 : decode cX12_freshen 182 = .ok (.iload_n 1, 1) := by decide +kernel
theorem dX12_freshen_183 : decode cX12_freshen 183 = .ok (.dup2, 1) := by decide +kernel
theorem dX12_freshen_184 : decode cX12_freshen 184 = .ok (.baload, 1) := by decide +kernel
theorem dX12_freshen_185 : decode cX12_freshen 185 = .ok (.aload_n 0, 1) := by decide +kernel
theorem dX12_freshen_186 : decode cX12_freshen 186 = .ok (.iload_n 1, 1) := by decide +kernel
theorem dX12_freshen_187 : decode cX12_freshen 187 = .ok (.iload_n 3, 1) := by decide +kernel
theorem dX12_freshen_188 : decode cX12_freshen 188 = .ok (.invokevirtual 200, 3) := by decide +kernel
theorem dX12_freshen_191 : decode cX12_freshen 191 = .ok (.ifCond .ne 32, 3) := by decide +kernel
theorem dX12_freshen_194 : decode cX12_freshen 194 = .ok (.aload_n 0, 1) := by decide +kernel
theorem dX12_freshen_195 : decode cX12_freshen 195 = .ok (.getfield 25, 3) := by decide +kernel
theorem dX12_freshen_198 : decode cX12_freshen 198 = .ok (.iload_n 1, 1) := by decide +kernel
theorem dX12_freshen_199 : decode cX12_freshen 199 = .ok (.iaload, 1) := by decide +kernel
theorem dX12_freshen_200 : decode cX12_freshen 200 = .ok (.iconst 2, 1) := by decide +kernel
theorem dX12_freshen_201 : decode cX12_freshen 201 = .ok (.if_icmp .ne 18, 3) := by decide +kernel
theorem dX12_freshen_204 : decode cX12_freshen 204 = .ok (.aload_n 0, 1) := by decide +kernel
theorem dX12_freshen_205 : decode cX12_freshen 205 = .ok (.getfield 135, 3) := by decide +kernel
theorem dX12_freshen_208 : decode cX12_freshen 208 = .ok (.iconst 4, 1) := by decide +kernel
theorem dX12_freshen_209 : decode cX12_freshen 209 = .ok (.iload_n 1, 1) := by decide +kernel
theorem dX12_freshen_210 : decode cX12_freshen 210 = .ok (.imul, 1) := by decide +kernel
theorem dX12_freshen_211 : decode cX12_freshen 211 = .ok (.iload_n 2, 1) := by decide +kernel
theorem dX12_freshen_212 : decode cX12_freshen 212 = .ok (.iadd, 1) := by decide +kernel
theorem dX12_freshen_213 : decode cX12_freshen 213 = .ok (.iaload, 1) := by decide +kernel
theorem dX12_freshen_214 : decode cX12_freshen 214 = .ok (.iconst 4, 1) := by decide +kernel
theorem dX12_freshen_215 : decode cX12_freshen 215 = .ok (.irem, 1) := by decide +kernel
theorem dX12_freshen_216 : decode cX12_freshen 216 = .ok (.ifCond .eq 7, 3) := by decide +kernel
theorem dX12_freshen_219 : decode cX12_freshen 219 = .ok (.iconst 1, 1) := by decide +kernel
theorem dX12_freshen_220 : decode cX12_freshen 220 = .ok (.goto 4, 3) := by decide +kernel
theorem dX12_freshen_223 : decode cX12_freshen 223 = .ok (.iconst 0, 1) := by decide +kernel
theorem dX12_freshen_224 : decode cX12_freshen 224 = .ok (.iand, 1) := by decide +kernel
theorem dX12_freshen_225 : decode cX12_freshen 225 = .ok (.bastore, 1) := by decide +kernel
theorem dX12_freshen_226 : decode cX12_freshen 226 = .ok (.aload_n 0, 1) := by decide +kernel
theorem dX12_freshen_227 : decode cX12_freshen 227 = .ok (.getfield 138, 3) := by decide +kernel
theorem dX12_freshen_230 : decode cX12_freshen 230 = .ok (.iload_n 1, 1) := by decide +kernel
theorem dX12_freshen_231 : decode cX12_freshen 231 = .ok (.aload_n 0, 1) := by decide +kernel
theorem dX12_freshen_232 : decode cX12_freshen 232 = .ok (.getfield 138, 3) := by decide +kernel
theorem dX12_freshen_235 : decode cX12_freshen 235 = .ok (.iload_n 1, 1) := by decide +kernel
theorem dX12_freshen_236 : decode cX12_freshen 236 = .ok (.iaload, 1) := by decide +kernel
theorem dX12_freshen_237 : decode cX12_freshen 237 = .ok (.aload_n 0, 1) := by decide +kernel
theorem dX12_freshen_238 : decode cX12_freshen 238 = .ok (.getfield 135, 3) := by decide +kernel
theorem dX12_freshen_241 : decode cX12_freshen 241 = .ok (.iconst 4, 1) := by decide +kernel
theorem dX12_freshen_242 : decode cX12_freshen 242 = .ok (.iload_n 1, 1) := by decide +kernel
theorem dX12_freshen_243 : decode cX12_freshen 243 = .ok (.imul, 1) := by decide +kernel
theorem dX12_freshen_244 : decode cX12_freshen 244 = .ok (.iload_n 2, 1) := by decide +kernel
theorem dX12_freshen_245 : decode cX12_freshen 245 = .ok (.iadd, 1) := by decide +kernel
theorem dX12_freshen_246 : decode cX12_freshen 246 = .ok (.iaload, 1) := by decide +kernel
theorem dX12_freshen_247 : decode cX12_freshen 247 = .ok (.invokestatic 191, 3) := by decide +kernel
theorem dX12_freshen_250 : decode cX12_freshen 250 = .ok (.iastore, 1) := by decide +kernel
theorem dX12_freshen_251 : decode cX12_freshen 251 = .ok (.iinc 2 1, 3) := by decide +kernel
theorem dX12_freshen_254 : decode cX12_freshen 254 = .ok (.goto (-227), 3) := by decide +kernel
theorem dX12_freshen_257 : decode cX12_freshen 257 = .ok (.iinc 1 1, 3) := by decide +kernel
theorem dX12_freshen_260 : decode cX12_freshen 260 = .ok (.goto (-258), 3) := by decide +kernel
theorem dX12_freshen_263 : decode cX12_freshen 263 = .ok (.return_, 1) := by decide +kernel
theorem dX12_freshenNow_0 : decode cX12_freshenNow 0 = .ok (.iconst 0, 1) := by decide +kernel
theorem dX12_freshenNow_1 : decode cX12_freshenNow 1 = .ok (.istore_n 1, 1) := by decide +kernel
theorem dX12_freshenNow_2 : decode cX12_freshenNow 2 = .ok (.iload_n 1, 1) := by decide +kernel
theorem dX12_freshenNow_3 : decode cX12_freshenNow 3 = .ok (.bipush 16, 2) := by decide +kernel
theorem dX12_freshenNow_5 : decode cX12_freshenNow 5 = .ok (.if_icmp .ge 21, 3) := by decide +kernel
theorem dX12_freshenNow_8 : decode cX12_freshenNow 8 = .ok (.aload_n 0, 1) := by decide +kernel
theorem dX12_freshenNow_9 : decode cX12_freshenNow 9 = .ok (.getfield 132, 3) := by decide +kernel
theorem dX12_freshenNow_12 : decode cX12_freshenNow 12 = .ok (.iload_n 1, 1) := by decide +kernel
theorem dX12_freshenNow_13 : decode cX12_freshenNow 13 = .ok (.aload_n 0, 1) := by decide +kernel
theorem dX12_freshenNow_14 : decode cX12_freshenNow 14 = .ok (.getfield 7, 3) := by decide +kernel
theorem dX12_freshenNow_17 : decode cX12_freshenNow 17 = .ok (.iload_n 1, 1) := by decide +kernel
theorem dX12_freshenNow_18 : decode cX12_freshenNow 18 = .ok (.iaload, 1) := by decide +kernel
theorem dX12_freshenNow_19 : decode cX12_freshenNow 19 = .ok (.iastore, 1) := by decide +kernel
theorem dX12_freshenNow_20 : decode cX12_freshenNow 20 = .ok (.iinc 1 1, 3) := by decide +kernel
theorem dX12_freshenNow_23 : decode cX12_freshenNow 23 = .ok (.goto (-21), 3) := by decide +kernel
theorem dX12_freshenNow_26 : decode cX12_freshenNow 26 = .ok (.aload_n 0, 1) := by decide +kernel
theorem dX12_freshenNow_27 : decode cX12_freshenNow 27 = .ok (.invokevirtual 204, 3) := by decide +kernel
theorem dX12_freshenNow_30 : decode cX12_freshenNow 30 = .ok (.return_, 1) := by decide +kernel
theorem dX12_digestOf_0 : decode cX12_digestOf 0 = .ok (.bipush 7, 2) := by decide +kernel
theorem dX12_digestOf_2 : decode cX12_digestOf 2 = .ok (.istore_n 2, 1) := by decide +kernel
theorem dX12_digestOf_3 : decode cX12_digestOf 3 = .ok (.iconst 0, 1) := by decide +kernel
theorem dX12_digestOf_4 : decode cX12_digestOf 4 = .ok (.istore_n 3, 1) := by decide +kernel
theorem dX12_digestOf_5 : decode cX12_digestOf 5 = .ok (.iload_n 3, 1) := by decide +kernel
theorem dX12_digestOf_6 : decode cX12_digestOf 6 = .ok (.aload_n 0, 1) := by decide +kernel
theorem dX12_digestOf_7 : decode cX12_digestOf 7 = .ok (.getfield 34, 3) := by decide +kernel
theorem dX12_digestOf_10 : decode cX12_digestOf 10 = .ok (.iload_n 1, 1) := by decide +kernel
theorem dX12_digestOf_11 : decode cX12_digestOf 11 = .ok (.iaload, 1) := by decide +kernel
theorem dX12_digestOf_12 : decode cX12_digestOf 12 = .ok (.if_icmp .ge 24, 3) := by decide +kernel
theorem dX12_digestOf_15 : decode cX12_digestOf 15 = .ok (.iload_n 2, 1) := by decide +kernel
theorem dX12_digestOf_16 : decode cX12_digestOf 16 = .ok (.aload_n 0, 1) := by decide +kernel
theorem dX12_digestOf_17 : decode cX12_digestOf 17 = .ok (.getfield 108, 3) := by decide +kernel
theorem dX12_digestOf_20 : decode cX12_digestOf 20 = .ok (.iconst 4, 1) := by decide +kernel
theorem dX12_digestOf_21 : decode cX12_digestOf 21 = .ok (.iload_n 1, 1) := by decide +kernel
theorem dX12_digestOf_22 : decode cX12_digestOf 22 = .ok (.imul, 1) := by decide +kernel
theorem dX12_digestOf_23 : decode cX12_digestOf 23 = .ok (.iload_n 3, 1) := by decide +kernel
theorem dX12_digestOf_24 : decode cX12_digestOf 24 = .ok (.iadd, 1) := by decide +kernel
theorem dX12_digestOf_25 : decode cX12_digestOf 25 = .ok (.iaload, 1) := by decide +kernel
theorem dX12_digestOf_26 : decode cX12_digestOf 26 = .ok (.invokestatic 191, 3) := by decide +kernel
theorem dX12_digestOf_29 : decode cX12_digestOf 29 = .ok (.istore_n 2, 1) := by decide +kernel
theorem dX12_digestOf_30 : decode cX12_digestOf 30 = .ok (.iinc 3 1, 3) := by decide +kernel
theorem dX12_digestOf_33 : decode cX12_digestOf 33 = .ok (.goto (-28), 3) := by decide +kernel
theorem dX12_digestOf_36 : decode cX12_digestOf 36 = .ok (.iload_n 2, 1) := by decide +kernel
theorem dX12_digestOf_37 : decode cX12_digestOf 37 = .ok (.ireturn, 1) := by decide +kernel
theorem dX12_keyOf_0 : decode cX12_keyOf 0 = .ok (.iload_n 1, 1) := by decide +kernel
theorem dX12_keyOf_1 : decode cX12_keyOf 1 = .ok (.iconst 4, 1) := by decide +kernel
theorem dX12_keyOf_2 : decode cX12_keyOf 2 = .ok (.idiv, 1) := by decide +kernel
theorem dX12_keyOf_3 : decode cX12_keyOf 3 = .ok (.istore_n 2, 1) := by decide +kernel
theorem dX12_keyOf_4 : decode cX12_keyOf 4 = .ok (.aload_n 0, 1) := by decide +kernel
theorem dX12_keyOf_5 : decode cX12_keyOf 5 = .ok (.iload_n 2, 1) := by decide +kernel
