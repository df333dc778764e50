theorem dX12_ends_47 : decode cX12_ends 47 = .ok (.iload 4, 2) := by decide +kernel
theorem dX12_ends_49 : decode cX12_ends 49 = .ok (.iconst (-1), 1) := by decide +kernel
theorem dX12_ends_50 : decode cX12_ends 50 = .ok (.iastore, 1) := by decide +kernel
theorem dX12_ends_51 : decode cX12_ends 51 = .ok (.aload_n 0, 1) := by decide +kernel
theorem dX12_ends_52 : decode cX12_ends 52 = .ok (.getfield 102, 3) := by decide +kernel
theorem dX12_ends_55 : decode cX12_ends 55 = .ok (.iload 4, 2) := by decide +kernel
theorem dX12_ends_57 : decode cX12_ends 57 = .ok (.iconst (-1), 1) := by decide +kernel
theorem dX12_ends_58 : decode cX12_ends 58 = .ok (.iastore, 1) := by decide +kernel
theorem dX12_ends_59 : decode cX12_ends 59 = .ok (.aload_n 0, 1) := by decide +kernel
theorem dX12_ends_60 : decode cX12_ends 60 = .ok (.iload_n 3, 1) := by decide +kernel
theorem dX12_ends_61 : decode cX12_ends 61 = .ok (.aload_n 0, 1) := by decide +kernel
theorem dX12_ends_62 : decode cX12_ends 62 = .ok (.getfield 96, 3) := by decide +kernel
theorem dX12_ends_65 : decode cX12_ends 65 = .ok (.iload_n 1, 1) := by decide +kernel
theorem dX12_ends_66 : decode cX12_ends 66 = .ok (.iaload, 1) := by decide +kernel
theorem dX12_ends_67 : decode cX12_ends 67 = .ok (.invokevirtual 197, 3) := by decide +kernel
theorem dX12_ends_70 : decode cX12_ends 70 = .ok (.istore 5, 2) := by decide +kernel
theorem dX12_ends_72 : decode cX12_ends 72 = .ok (.aload_n 0, 1) := by decide +kernel
theorem dX12_ends_73 : decode cX12_ends 73 = .ok (.iload_n 2, 1) := by decide +kernel
theorem dX12_ends_74 : decode cX12_ends 74 = .ok (.invokevirtual 215, 3) := by decide +kernel
theorem dX12_ends_77 : decode cX12_ends 77 = .ok (.aload_n 0, 1) := by decide +kernel
theorem dX12_ends_78 : decode cX12_ends 78 = .ok (.getfield 96, 3) := by decide +kernel
theorem dX12_ends_81 : decode cX12_ends 81 = .ok (.iload_n 1, 1) := by decide +kernel
theorem dX12_ends_82 : decode cX12_ends 82 = .ok (.iaload, 1) := by decide +kernel
theorem dX12_ends_83 : decode cX12_ends 83 = .ok (.if_icmp .ne 25, 3) := by decide +kernel
theorem dX12_ends_86 : decode cX12_ends 86 = .ok (.iload 5, 2) := by decide +kernel
theorem dX12_ends_88 : decode cX12_ends 88 = .ok (.iconst (-1), 1) := by decide +kernel
theorem dX12_ends_89 : decode cX12_ends 89 = .ok (.if_icmp .eq 44, 3) := by decide +kernel
theorem dX12_ends_92 : decode cX12_ends 92 = .ok (.aload_n 0, 1) := by decide +kernel
theorem dX12_ends_93 : decode cX12_ends 93 = .ok (.getfield 7, 3) := by decide +kernel
theorem dX12_ends_96 : decode cX12_ends 96 = .ok (.iload 5, 2) := by decide +kernel
theorem dX12_ends_98 : decode cX12_ends 98 = .ok (.iaload, 1) := by decide +kernel
theorem dX12_ends_99 : decode cX12_ends 99 = .ok (.aload_n 0, 1) := by decide +kernel
theorem dX12_ends_100 : decode cX12_ends 100 = .ok (.getfield 99, 3) := by decide +kernel
theorem dX12_ends_103 : decode cX12_ends 103 = .ok (.iload_n 1, 1) := by decide +kernel
theorem dX12_ends_104 : decode cX12_ends 104 = .ok (.iaload, 1) := by decide +kernel
theorem dX12_ends_105 : decode cX12_ends 105 = .ok (.if_icmp .eq 28, 3) := by decide +kernel
theorem dX12_ends_108 : decode cX12_ends 108 = .ok (.aload_n 0, 1) := by decide +kernel
theorem dX12_ends_109 : decode cX12_ends 109 = .ok (.getfield 129, 3) := by decide +kernel
theorem dX12_ends_112 : decode cX12_ends 112 = .ok (.iconst 2, 1) := by decide +kernel
theorem dX12_ends_113 : decode cX12_ends 113 = .ok (.dup2, 1) := by decide +kernel
theorem dX12_ends_114 : decode cX12_ends 114 = .ok (.iaload, 1) := by decide +kernel
theorem dX12_ends_115 : decode cX12_ends 115 = .ok (.iconst 1, 1) := by decide +kernel
theorem dX12_ends_116 : decode cX12_ends 116 = .ok (.iadd, 1) := by decide +kernel
theorem dX12_ends_117 : decode cX12_ends 117 = .ok (.iastore, 1) := by decide +kernel
theorem dX12_ends_118 : decode cX12_ends 118 = .ok (.aload_n 0, 1) := by decide +kernel
theorem dX12_ends_119 : decode cX12_ends 119 = .ok (.getfield 105, 3) := by decide +kernel
theorem dX12_ends_122 : decode cX12_ends 122 = .ok (.iload_n 2, 1) := by decide +kernel
theorem dX12_ends_123 : decode cX12_ends 123 = .ok (.iconst 0, 1) := by decide +kernel
theorem dX12_ends_124 : decode cX12_ends 124 = .ok (.iastore, 1) := by decide +kernel
theorem dX12_ends_125 : decode cX12_ends 125 = .ok (.aload_n 0, 1) := by decide +kernel
theorem dX12_ends_126 : decode cX12_ends 126 = .ok (.getfield 114, 3) := by decide +kernel
theorem dX12_ends_129 : decode cX12_ends 129 = .ok (.iload_n 2, 1) := by decide +kernel
theorem dX12_ends_130 : decode cX12_ends 130 = .ok (.iconst 0, 1) := by decide +kernel
theorem dX12_ends_131 : decode cX12_ends 131 = .ok (.iastore, 1) := by decide +kernel
theorem dX12_ends_132 : decode cX12_ends 132 = .ok (.return_, 1) := by decide +kernel
theorem dX12_ends_133 : decode cX12_ends 133 = .ok (.aload_n 0, 1) := by decide +kernel
theorem dX12_ends_134 : decode cX12_ends 134 = .ok (.iload_n 3, 1) := by decide +kernel
theorem dX12_ends_135 : decode cX12_ends 135 = .ok (.aload_n 0, 1) := by decide +kernel
theorem dX12_ends_136 : decode cX12_ends 136 = .ok (.getfield 96, 3) := by decide +kernel
theorem dX12_ends_139 : decode cX12_ends 139 = .ok (.iload_n 1, 1) := by decide +kernel
theorem dX12_ends_140 : decode cX12_ends 140 = .ok (.iaload, 1) := by decide +kernel
theorem dX12_ends_141 : decode cX12_ends 141 = .ok (.invokevirtual 200, 3) := by decide +kernel
theorem dX12_ends_144 : decode cX12_ends 144 = .ok (.ifCond .eq 11, 3) := by decide +kernel
theorem dX12_ends_147 : decode cX12_ends 147 = .ok (.aload_n 0, 1) := by decide +kernel
theorem dX12_ends_148 : decode cX12_ends 148 = .ok (.getfield 105, 3) := by decide +kernel
theorem dX12_ends_151 : decode cX12_ends 151 = .ok (.iload_n 2, 1) := by decide +kernel
theorem dX12_ends_152 : decode cX12_ends 152 = .ok (.iconst 4, 1) := by decide +kernel
theorem dX12_ends_153 : decode cX12_ends 153 = .ok (.iastore, 1) := by decide +kernel
theorem dX12_ends_154 : decode cX12_ends 154 = .ok (.return_, 1) := by decide +kernel
theorem dX12_ends_155 : decode cX12_ends 155 = .ok (.iload 5, 2) := by decide +kernel
theorem dX12_ends_157 : decode cX12_ends 157 = .ok (.iconst (-1), 1) := by decide +kernel
theorem dX12_ends_158 : decode cX12_ends 158 = .ok (.if_icmp .ne 12, 3) := by decide +kernel
theorem dX12_ends_161 : decode cX12_ends 161 = .ok (.aload_n 0, 1) := by decide +kernel
theorem dX12_ends_162 : decode cX12_ends 162 = .ok (.getfield 96, 3) := by decide +kernel
theorem dX12_ends_165 : decode cX12_ends 165 = .ok (.iload_n 1, 1) := by decide +kernel
theorem dX12_ends_166 : decode cX12_ends 166 = .ok (.iaload, 1) := by decide +kernel
theorem dX12_ends_167 : decode cX12_ends 167 = .ok (.goto 18, 3) := by decide +kernel
theorem dX12_ends_170 : decode cX12_ends 170 = .ok (.aload_n 0, 1) := by decide +kernel
theorem dX12_ends_171 : decode cX12_ends 171 = .ok (.getfield 96, 3) := by decide +kernel
theorem dX12_ends_174 : decode cX12_ends 174 = .ok (.iload_n 1, 1) := by decide +kernel
theorem dX12_ends_175 : decode cX12_ends 175 = .ok (.iaload, 1) := by decide +kernel
theorem dX12_ends_176 : decode cX12_ends 176 = .ok (.aload_n 0, 1) := by decide +kernel
theorem dX12_ends_177 : decode cX12_ends 177 = .ok (.getfield 99, 3) := by decide +kernel
theorem dX12_ends_180 : decode cX12_ends 180 = .ok (.iload_n 1, 1) := by decide +kernel
theorem dX12_ends_181 : decode cX12_ends 181 = .ok (.iaload, 1) := by decide +kernel
theorem dX12_ends_182 : decode cX12_ends 182 = .ok (.invokestatic 191, 3) := by decide +kernel
theorem dX12_ends_185 : decode cX12_ends 185 = .ok (.istore 6, 2) := by decide +kernel
theorem dX12_ends_187 : decode cX12_ends 187 = .ok (.aload_n 0, 1) := by decide +kernel
theorem dX12_ends_188 : decode cX12_ends 188 = .ok (.getfield 25, 3) := by decide +kernel
theorem dX12_ends_191 : decode cX12_ends 191 = .ok (.iload_n 3, 1) := by decide +kernel
theorem dX12_ends_192 : decode cX12_ends 192 = .ok (.iaload, 1) := by decide +kernel
theorem dX12_ends_193 : decode cX12_ends 193 = .ok (.iconst 2, 1) := by decide +kernel
theorem dX12_ends_194 : decode cX12_ends 194 = .ok (.if_icmp .ne 36, 3) := by decide +kernel
theorem dX12_ends_197 : decode cX12_ends 197 = .ok (.iload 6, 2) := by decide +kernel
theorem dX12_ends_199 : decode cX12_ends 199 = .ok (.iconst 4, 1) := by decide +kernel
theorem dX12_ends_200 : decode cX12_ends 200 = .ok (.irem, 1) := by decide +kernel
theorem dX12_ends_201 : decode cX12_ends 201 = .ok (.ifCond .eq 25, 3) := by decide +kernel
theorem dX12_ends_204 : decode cX12_ends 204 = .ok (.iconst 3, 1) := by decide +kernel
theorem dX12_ends_205 : decode cX12_ends 205 = .ok (.aload_n 0, 1) := by decide +kernel
theorem dX12_ends_206 : decode cX12_ends 206 = .ok (.getfield 120, 3) := by decide +kernel
theorem dX12_ends_209 : decode cX12_ends 209 = .ok (.iload_n 2, 1) := by decide +kernel
theorem dX12_ends_210 : decode cX12_ends 210 = .ok (.iaload, 1) := by decide +kernel
theorem dX12_ends_211 : decode cX12_ends 211 = .ok (.imul, 1) := by decide +kernel
theorem dX12_ends_212 : decode cX12_ends 212 = .ok (.iload 6, 2) := by decide +kernel
theorem dX12_ends_214 : decode cX12_ends 214 = .ok (.iadd, 1) := by decide +kernel
theorem dX12_ends_215 : decode cX12_ends 215 = .ok (.iconst 5, 1) := by decide +kernel
theorem dX12_ends_216 : decode cX12_ends 216 = .ok (.irem, 1) := by decide +kernel
theorem dX12_ends_217 : decode cX12_ends 217 = .ok (.aload_n 0, 1) := by decide +kernel
theorem dX12_ends_218 : decode cX12_ends 218 = .ok (.getfield 40, 3) := by decide +kernel
theorem dX12_ends_221 : decode cX12_ends 221 = .ok (.iload_n 3, 1) := by decide +kernel
theorem dX12_ends_222 : decode cX12_ends 222 = .ok (.iaload, 1) := by decide +kernel
theorem dX12_ends_223 : decode cX12_ends 223 = .ok (.if_icmp .ge 7, 3) := by decide +kernel
theorem dX12_ends_226 : decode cX12_ends 226 = .ok (.iconst 1, 1) := by decide +kernel
theorem dX12_ends_227 : decode cX12_ends 227 = .ok (.goto 4, 3) := by decide +kernel
theorem dX12_ends_230 : decode cX12_ends 230 = .ok (.iconst 0, 1) := by decide +kernel
theorem dX12_ends_231 : decode cX12_ends 231 = .ok (.istore 7, 2) := by decide +kernel
theorem dX12_ends_233 : decode cX12_ends 233 = .ok (.iload 7, 2) := by decide +kernel
theorem dX12_ends_235 : decode cX12_ends 235 = .ok (.ifCond .eq 59, 3) := by decide +kernel
theorem dX12_ends_238 : decode cX12_ends 238 = .ok (.aload_n 0, 1) := by decide +kernel
theorem dX12_ends_239 : decode cX12_ends 239 = .ok (.getfield 129, 3) := by decide +kernel
theorem dX12_ends_242 : decode cX12_ends 242 = .ok (.iconst 3, 1) := by decide +kernel
theorem dX12_ends_243 : decode cX12_ends 243 = .ok (.dup2, 1) := by decide +kernel
theorem dX12_ends_244 : decode cX12_ends 244 = .ok (.iaload, 1) := by decide +kernel
theorem dX12_ends_245 : decode cX12_ends 245 = .ok (.iconst 1, 1) := by decide +kernel
theorem dX12_ends_246 : decode cX12_ends 246 = .ok (.iadd, 1) := by decide +kernel
theorem dX12_ends_247 : decode cX12_ends 247 = .ok (.iastore, 1) := by decide +kernel
theorem dX12_ends_248 : decode cX12_ends 248 = .ok (.aload_n 0, 1) := by decide +kernel
theorem dX12_ends_249 : decode cX12_ends 249 = .ok (.getfield 114, 3) := by decide +kernel
theorem dX12_ends_252 : decode cX12_ends 252 = .ok (.iload_n 2, 1) := by decide +kernel
theorem dX12_ends_253 : decode cX12_ends 253 = .ok (.dup2, 1) := by decide +kernel
theorem dX12_ends_254 : decode cX12_ends 254 = .ok (.iaload, 1) := by decide +kernel
theorem dX12_ends_255 : decode cX12_ends 255 = .ok (.iconst 1, 1) := by decide +kernel
theorem dX12_ends_256 : decode cX12_ends 256 = .ok (.iadd, 1) := by decide +kernel
theorem dX12_ends_257 : decode cX12_ends 257 = .ok (.iastore, 1) := by decide +kernel
theorem dX12_ends_258 : decode cX12_ends 258 = .ok (.aload_n 0, 1) := by decide +kernel
theorem dX12_ends_259 : decode cX12_ends 259 = .ok (.getfield 114, 3) := by decide +kernel
theorem dX12_ends_262 : decode cX12_ends 262 = .ok (.iload_n 2, 1) := by decide +kernel
theorem dX12_ends_263 : decode cX12_ends 263 = .ok (.iaload, 1) := by decide +kernel
theorem dX12_ends_264 : decode cX12_ends 264 = .ok (.iconst 3, 1) := by decide +kernel
theorem dX12_ends_265 : decode cX12_ends 265 = .ok (.if_icmp .ge 11, 3) := by decide +kernel
theorem dX12_ends_268 : decode cX12_ends 268 = .ok (.aload_n 0, 1) := by decide +kernel
theorem dX12_ends_269 : decode cX12_ends 269 = .ok (.getfield 105, 3) := by decide +kernel
theorem dX12_ends_272 : decode cX12_ends 272 = .ok (.iload_n 2, 1) := by decide +kernel
theorem dX12_ends_273 : decode cX12_ends 273 = .ok (.iconst 1, 1) := by decide +kernel
theorem dX12_ends_274 : decode cX12_ends 274 = .ok (.iastore, 1) := by decide +kernel
theorem dX12_ends_275 : decode cX12_ends 275 = .ok (.return_, 1) := by decide +kernel
theorem dX12_ends_276 : decode cX12_ends 276 = .ok (.aload_n 0, 1) := by decide +kernel
theorem dX12_ends_277 : decode cX12_ends 277 = .ok (.getfield 123, 3) := by decide +kernel
theorem dX12_ends_280 : decode cX12_ends 280 = .ok (.iload_n 3, 1) := by decide +kernel
theorem dX12_ends_281 : decode cX12_ends 281 = .ok (.iaload, 1) := by decide +kernel
theorem dX12_ends_282 : decode cX12_ends 282 = .ok (.iconst 2, 1) := by decide +kernel
theorem dX12_ends_283 : decode cX12_ends 283 = .ok (.if_icmp .ge 11, 3) := by decide +kernel
theorem dX12_ends_286 : decode cX12_ends 286 = .ok (.aload_n 0, 1) := by decide +kernel
theorem dX12_ends_287 : decode cX12_ends 287 = .ok (.getfield 105, 3) := by decide +kernel
theorem dX12_ends_290 : decode cX12_ends 290 = .ok (.iload_n 2, 1) := by decide +kernel
theorem dX12_ends_291 : decode cX12_ends 291 = .ok (.iconst 4, 1) := by decide +kernel
theorem dX12_ends_292 : decode cX12_ends 292 = .ok (.iastore, 1) := by decide +kernel
theorem dX12_ends_293 : decode cX12_ends 293 = .ok (.return_, 1) := by decide +kernel
theorem dX12_ends_294 : decode cX12_ends 294 = .ok (.aload_n 0, 1) := by decide +kernel
theorem dX12_ends_295 : decode cX12_ends 295 = .ok (.getfield 105, 3) := by decide +kernel
theorem dX12_ends_298 : decode cX12_ends 298 = .ok (.iload_n 2, 1) := by decide +kernel
theorem dX12_ends_299 : decode cX12_ends 299 = .ok (.iconst 3, 1) := by decide +kernel
theorem dX12_ends_300 : decode cX12_ends 300 = .ok (.iastore, 1) := by decide +kernel
theorem dX12_ends_301 : decode cX12_ends 301 = .ok (.aload_n 0, 1) := by decide +kernel
theorem dX12_ends_302 : decode cX12_ends 302 = .ok (.getfield 108, 3) := by decide +kernel
theorem dX12_ends_305 : decode cX12_ends 305 = .ok (.iload_n 2, 1) := by decide +kernel
theorem dX12_ends_306 : decode cX12_ends 306 = .ok (.iload 6, 2) := by decide +kernel
theorem dX12_ends_308 : decode cX12_ends 308 = .ok (.iastore, 1) := by decide +kernel
theorem dX12_ends_309 : decode cX12_ends 309 = .ok (.aload_n 0, 1) := by decide +kernel
theorem dX12_ends_310 : decode cX12_ends 310 = .ok (.getfield 111, 3) := by decide +kernel
theorem dX12_ends_313 : decode cX12_ends 313 = .ok (.iload_n 2, 1) := by decide +kernel
theorem dX12_ends_314 : decode cX12_ends 314 = .ok (.iload_n 1, 1) := by decide +kernel
theorem dX12_ends_315 : decode cX12_ends 315 = .ok (.iastore, 1) := by decide +kernel
theorem dX12_ends_316 : decode cX12_ends 316 = .ok (.aload_n 0, 1) := by decide +kernel
theorem dX12_ends_317 : decode cX12_ends 317 = .ok (.getfield 126, 3) := by decide +kernel
theorem dX12_ends_320 : decode cX12_ends 320 = .ok (.iload_n 3, 1) := by decide +kernel
theorem dX12_ends_321 : decode cX12_ends 321 = .ok (.aload_n 0, 1) := by decide +kernel
theorem dX12_ends_322 : decode cX12_ends 322 = .ok (.getfield 93, 3) := by decide +kernel
theorem dX12_ends_325 : decode cX12_ends 325 = .ok (.iload_n 1, 1) := by decide +kernel
theorem dX12_ends_326 : decode cX12_ends 326 = .ok (.iaload, 1) := by decide +kernel
theorem dX12_ends_327 : decode cX12_ends 327 = .ok (.iastore, 1) := by decide +kernel
theorem dX12_ends_328 : decode cX12_ends 328 = .ok (.aload_n 0, 1) := by decide +kernel
theorem dX12_ends_329 : decode cX12_ends 329 = .ok (.getfield 117, 3) := by decide +kernel
theorem dX12_ends_332 : decode cX12_ends 332 = .ok (.iload_n 2, 1) := by decide +kernel
theorem dX12_ends_333 : decode cX12_ends 333 = .ok (.aload_n 0, 1) := by decide +kernel
theorem dX12_ends_334 : decode cX12_ends 334 = .ok (.getfield 114, 3) := by decide +kernel
theorem dX12_ends_337 : decode cX12_ends 337 = .ok (.iload_n 2, 1) := by decide +kernel
theorem dX12_ends_338 : decode cX12_ends 338 = .ok (.iaload, 1) := by decide +kernel
theorem dX12_ends_339 : decode cX12_ends 339 = .ok (.ifCond .le 7, 3) := by decide +kernel
theorem dX12_ends_342 : decode cX12_ends 342 = .ok (.iconst 1, 1) := by decide +kernel
theorem dX12_ends_343 : decode cX12_ends 343 = .ok (.goto 4, 3) := by decide +kernel
theorem dX12_ends_346 : decode cX12_ends 346 = .ok (.iconst 0, 1) := by decide +kernel
theorem dX12_ends_347 : decode cX12_ends 347 = .ok (.bastore, 1) := by decide +kernel
theorem dX12_ends_348 : decode cX12_ends 348 = .ok (.aload_n 0, 1) := by decide +kernel
theorem dX12_ends_349 : decode cX12_ends 349 = .ok (.getfield 117, 3) := by decide +kernel
theorem dX12_ends_352 : decode cX12_ends 352 = .ok (.iload_n 2, 1) := by decide +kernel
theorem dX12_ends_353 : decode cX12_ends 353 = .ok (.baload, 1) := by decide +kernel
theorem dX12_ends_354 : decode cX12_ends 354 = .ok (.ifCond .eq 53, 3) := by decide +kernel
theorem dX12_ends_357 : decode cX12_ends 357 = .ok (.aload_n 0, 1) := by decide +kernel
theorem dX12_ends_358 : decode cX12_ends 358 = .ok (.getfield 129, 3) := by decide +kernel
theorem dX12_ends_361 : decode cX12_ends 361 = .ok (.iconst 4, 1) := by decide +kernel
theorem dX12_ends_362 : decode cX12_ends 362 = .ok (.dup2, 1) := by decide +kernel
theorem dX12_ends_363 : decode cX12_ends 363 = .ok (.iaload, 1) := by decide +kernel
theorem dX12_ends_364 : decode cX12_ends 364 = .ok (.iconst 1, 1) := by decide +kernel
theorem dX12_ends_365 : decode cX12_ends 365 = .ok (.iadd, 1) := by decide +kernel
theorem dX12_ends_366 : decode cX12_ends 366 = .ok (.iastore, 1) := by decide +kernel
theorem dX12_ends_367 : decode cX12_ends 367 = .ok (.aload_n 0, 1) := by decide +kernel
theorem dX12_ends_368 : decode cX12_ends 368 = .ok (.getfield 123, 3) := by decide +kernel
theorem dX12_ends_371 : decode cX12_ends 371 = .ok (.iload_n 3, 1) := by decide +kernel
theorem dX12_ends_372 : decode cX12_ends 372 = .ok (.dup2, 1) := by decide +kernel
theorem dX12_ends_373 : decode cX12_ends 373 = .ok (.iaload, 1) := by decide +kernel
theorem dX12_ends_374 : decode cX12_ends 374 = .ok (.aload_n 0, 1) := by decide +kernel
theorem dX12_ends_375 : decode cX12_ends 375 = .ok (.getfield 237, 3) := by decide +kernel
theorem dX12_ends_378 : decode cX12_ends 378 = .ok (.iload_n 3, 1) := by decide +kernel
theorem dX12_ends_379 : decode cX12_ends 379 = .ok (.ishr, 1) := by decide +kernel
theorem dX12_ends_380 : decode cX12_ends 380 = .ok (.iconst 1, 1) := by decide +kernel
theorem dX12_ends_381 : decode cX12_ends 381 = .ok (.iand, 1) := by decide +kernel
theorem dX12_ends_382 : decode cX12_ends 382 = .ok (.ifCond .ne 7, 3) := by decide +kernel
theorem dX12_ends_385 : decode cX12_ends 385 = .ok (.iconst 1, 1) := by decide +kernel
theorem dX12_ends_386 : decode cX12_ends 386 = .ok (.goto 4, 3) := by decide +kernel
theorem dX12_ends_389 : decode cX12_ends 389 = .ok (.iconst 0, 1) := by decide +kernel
theorem dX12_ends_390 : decode cX12_ends 390 = .ok (.iadd, 1) := by decide +kernel
theorem dX12_ends_391 : decode cX12_ends 391 = .ok (.iastore, 1) := by decide +kernel
theorem dX12_ends_392 : decode cX12_ends 392 = .ok (.aload_n 0, 1) := by decide +kernel
theorem dX12_ends_393 : decode cX12_ends 393 = .ok (.dup, 1) := by decide +kernel
theorem dX12_ends_394 : decode cX12_ends 394 = .ok (.getfield 237, 3) := by decide +kernel
theorem dX12_ends_397 : decode cX12_ends 397 = .ok (.iconst 1, 1) := by decide +kernel
theorem dX12_ends_398 : decode cX12_ends 398 = .ok (.iload_n 3, 1) := by decide +kernel
theorem dX12_ends_399 : decode cX12_ends 399 = .ok (.ishl, 1) := by decide +kernel
theorem dX12_ends_400 : decode cX12_ends 400 = .ok (.ior, 1) := by decide +kernel
theorem dX12_ends_401 : decode cX12_ends 401 = .ok (.putfield 237, 3) := by decide +kernel
theorem dX12_ends_404 : decode cX12_ends 404 = .ok (.goto 24, 3) := by decide +kernel
theorem dX12_ends_407 : decode cX12_ends 407 = .ok (.aload_n 0, 1) := by decide +kernel
theorem dX12_ends_408 : decode cX12_ends 408 = .ok (.aload_n 0, 1) := by decide +kernel
theorem dX12_ends_409 : decode cX12_ends 409 = .ok (.getfield 96, 3) := by decide +kernel
theorem dX12_ends_412 : decode cX12_ends 412 = .ok (.iload_n 1, 1) := by decide +kernel
theorem dX12_ends_413 : decode cX12_ends 413 = .ok (.iaload, 1) := by decide +kernel
theorem dX12_ends_414 : decode cX12_ends 414 = .ok (.iload 5, 2) := by decide +kernel
theorem dX12_ends_416 : decode cX12_ends 416 = .ok (.aload_n 0, 1) := by decide +kernel
theorem dX12_ends_417 : decode cX12_ends 417 = .ok (.getfield 99, 3) := by decide +kernel
theorem dX12_ends_420 : decode cX12_ends 420 = .ok (.iload_n 1, 1) := by decide +kernel
theorem dX12_ends_421 : decode cX12_ends 421 = .ok (.iaload, 1) := by decide +kernel
theorem dX12_ends_422 : decode cX12_ends 422 = .ok (.iload 6, 2) := by decide +kernel
theorem dX12_ends_424 : decode cX12_ends 424 = .ok (.iload_n 1, 1) := by decide +kernel
theorem dX12_ends_425 : decode cX12_ends 425 = .ok (.invokevirtual 261, 3) := by decide +kernel
theorem dX12_ends_428 : decode cX12_ends 428 = .ok (.return_, 1) := by decide +kernel
theorem dX12_builds_0 : decode cX12_builds 0 = .ok (.aload_n 0, 1) := by decide +kernel
theorem dX12_builds_1 : decode cX12_builds 1 = .ok (.invokevirtual 265, 3) := by decide +kernel
theorem dX12_builds_4 : decode cX12_builds 4 = .ok (.istore_n 1, 1) := by decide +kernel
theorem dX12_builds_5 : decode cX12_builds 5 = .ok (.aload_n 0, 1) := by decide +kernel
theorem dX12_builds_6 : decode cX12_builds 6 = .ok (.invokevirtual 269, 3) := by decide +kernel
theorem dX12_builds_9 : decode cX12_builds 9 = .ok (.istore_n 2, 1) := by decide +kernel
theorem dX12_builds_10 : decode cX12_builds 10 = .ok (.iload_n 1, 1) := by decide +kernel
theorem dX12_builds_11 : decode cX12_builds 11 = .ok (.iconst (-1), 1) := by decide +kernel
theorem dX12_builds_12 : decode cX12_builds 12 = .ok (.if_icmp .eq 37, 3) := by decide +kernel
theorem dX12_builds_15 : decode cX12_builds 15 = .ok (.iload_n 2, 1) := by decide +kernel
theorem dX12_builds_16 : decode cX12_builds 16 = .ok (.iconst (-1), 1) := by decide +kernel
theorem dX12_builds_17 : decode cX12_builds 17 = .ok (.if_icmp .eq 32, 3) := by decide +kernel
theorem dX12_builds_20 : decode cX12_builds 20 = .ok (.aload_n 0, 1) := by decide +kernel
theorem dX12_builds_21 : decode cX12_builds 21 = .ok (.getfield 120, 3) := by decide +kernel
theorem dX12_builds_24 : decode cX12_builds 24 = .ok (.iload_n 1, 1) := by decide +kernel
theorem dX12_builds_25 : decode cX12_builds 25 = .ok (.dup2, 1) := by decide +kernel
theorem dX12_builds_26 : decode cX12_builds 26 = .ok (.iaload, 1) := by decide +kernel
theorem dX12_builds_27 : decode cX12_builds 27 = .ok (.iconst 1, 1) := by decide +kernel
theorem dX12_builds_28 : decode cX12_builds 28 = .ok (.iadd, 1) := by decide +kernel
theorem dX12_builds_29 : decode cX12_builds 29 = .ok (.iastore, 1) := by decide +kernel
theorem dX12_builds_30 : decode cX12_builds 30 = .ok (.aload_n 0, 1) := by decide +kernel
theorem dX12_builds_31 : decode cX12_builds 31 = .ok (.iload_n 1, 1) := by decide +kernel
theorem dX12_builds_32 : decode cX12_builds 32 = .ok (.iload_n 2, 1) := by decide +kernel
theorem dX12_builds_33 : decode cX12_builds 33 = .ok (.invokevirtual 272, 3) := by decide +kernel
theorem dX12_builds_36 : decode cX12_builds 36 = .ok (.aload_n 0, 1) := by decide +kernel
theorem dX12_builds_37 : decode cX12_builds 37 = .ok (.invokevirtual 265, 3) := by decide +kernel
theorem dX12_builds_40 : decode cX12_builds 40 = .ok (.istore_n 1, 1) := by decide +kernel
theorem dX12_builds_41 : decode cX12_builds 41 = .ok (.aload_n 0, 1) := by decide +kernel
theorem dX12_builds_42 : decode cX12_builds 42 = .ok (.invokevirtual 269, 3) := by decide +kernel
theorem dX12_builds_45 : decode cX12_builds 45 = .ok (.istore_n 2, 1) := by decide +kernel
theorem dX12_builds_46 : decode cX12_builds 46 = .ok (.goto (-36), 3) := by decide +kernel
theorem dX12_builds_49 : decode cX12_builds 49 = .ok (.aload_n 0, 1) := by decide +kernel
theorem dX12_builds_50 : decode cX12_builds 50 = .ok (.getfield 228, 3) := by decide +kernel
theorem dX12_builds_53 : decode cX12_builds 53 = .ok (.ifCond .eq 94, 3) := by decide +kernel
theorem dX12_builds_56 : decode cX12_builds 56 = .ok (.aload_n 0, 1) := by decide +kernel
theorem dX12_builds_57 : decode cX12_builds 57 = .ok (.getfield 84, 3) := by decide +kernel
theorem dX12_builds_60 : decode cX12_builds 60 = .ok (.iconst 0, 1) := by decide +kernel
theorem dX12_builds_61 : decode cX12_builds 61 = .ok (.iaload, 1) := by decide +kernel
theorem dX12_builds_62 : decode cX12_builds 62 = .ok (.ifCond .le 85, 3) := by decide +kernel
theorem dX12_builds_65 : decode cX12_builds 65 = .ok (.aload_n 0, 1) := by decide +kernel
theorem dX12_builds_66 : decode cX12_builds 66 = .ok (.getfield 87, 3) := by decide +kernel
theorem dX12_builds_69 : decode cX12_builds 69 = .ok (.iconst 0, 1) := by decide +kernel
theorem dX12_builds_70 : decode cX12_builds 70 = .ok (.iaload, 1) := by decide +kernel
theorem dX12_builds_71 : decode cX12_builds 71 = .ok (.iconst (-1), 1) := by decide +kernel
theorem dX12_builds_72 : decode cX12_builds 72 = .ok (.if_icmp .ne 75, 3) := by decide +kernel
theorem dX12_builds_75 : decode cX12_builds 75 = .ok (.iconst (-1), 1) := by decide +kernel
theorem dX12_builds_76 : decode cX12_builds 76 = .ok (.istore_n 3, 1) := by decide +kernel
theorem dX12_builds_77 : decode cX12_builds 77 = .ok (.iconst 1, 1) := by decide +kernel
theorem dX12_builds_78 : decode cX12_builds 78 = .ok (.istore 4, 2) := by decide +kernel
theorem dX12_builds_80 : decode cX12_builds 80 = .ok (.iload 4, 2) := by decide +kernel
theorem dX12_builds_82 : decode cX12_builds 82 = .ok (.iconst 4, 1) := by decide +kernel
theorem dX12_builds_83 : decode cX12_builds 83 = .ok (.if_icmp .ge 48, 3) := by decide +kernel
theorem dX12_builds_86 : decode cX12_builds 86 = .ok (.aload_n 0, 1) := by decide +kernel
theorem dX12_builds_87 : decode cX12_builds 87 = .ok (.getfield 87, 3) := by decide +kernel
theorem dX12_builds_90 : decode cX12_builds 90 = .ok (.iload 4, 2) := by decide +kernel
theorem dX12_builds_92 : decode cX12_builds 92 = .ok (.iaload, 1) := by decide +kernel
theorem dX12_builds_93 : decode cX12_builds 93 = .ok (.iconst (-1), 1) := by decide +kernel
theorem dX12_builds_94 : decode cX12_builds 94 = .ok (.if_icmp .eq 29, 3) := by decide +kernel
theorem dX12_builds_97 : decode cX12_builds 97 = .ok (.iload_n 3, 1) := by decide +kernel
theorem dX12_builds_98 : decode cX12_builds 98 = .ok (.iconst (-1), 1) := by decide +kernel
theorem dX12_builds_99 : decode cX12_builds 99 = .ok (.if_icmp .eq 19, 3) := by decide +kernel
theorem dX12_builds_102 : decode cX12_builds 102 = .ok (.aload_n 0, 1) := by decide +kernel
theorem dX12_builds_103 : decode cX12_builds 103 = .ok (.getfield 90, 3) := by decide +kernel
theorem dX12_builds_106 : decode cX12_builds 106 = .ok (.iload 4, 2) := by decide +kernel
theorem dX12_builds_108 : decode cX12_builds 108 = .ok (.iaload, 1) := by decide +kernel
theorem dX12_builds_109 : decode cX12_builds 109 = .ok (.aload_n 0, 1) := by decide +kernel
theorem dX12_builds_110 : decode cX12_builds 110 = .ok (.getfield 90, 3) := by decide +kernel
theorem dX12_builds_113 : decode cX12_builds 113 = .ok (.iload_n 3, 1) := by decide +kernel
theorem dX12_builds_114 : decode cX12_builds 114 = .ok (.iaload, 1) := by decide +kernel
theorem dX12_builds_115 : decode cX12_builds 115 = .ok (.if_icmp .le 8, 3) := by decide +kernel
theorem dX12_builds_118 : decode cX12_builds 118 = .ok (.iload 4, 2) := by decide +kernel
theorem dX12_builds_120 : decode cX12_builds 120 = .ok (.goto 4, 3) := by decide +kernel
theorem dX12_builds_123 : decode cX12_builds 123 = .ok (.iload_n 3, 1) := by decide +kernel
theorem dX12_builds_124 : decode cX12_builds 124 = .ok (.istore_n 3, 1) := by decide +kernel
theorem dX12_builds_125 : decode cX12_builds 125 = .ok (.iinc 4 1, 3) := by decide +kernel
theorem dX12_builds_128 : decode cX12_builds 128 = .ok (.goto (-48), 3) := by decide +kernel
theorem dX12_builds_131 : decode cX12_builds 131 = .ok (.iload_n 3, 1) := by decide +kernel
theorem dX12_builds_132 : decode cX12_builds 132 = .ok (.iconst (-1), 1) := by decide +kernel
theorem dX12_builds_133 : decode cX12_builds 133 = .ok (.if_icmp .eq 14, 3) := by decide +kernel
theorem dX12_builds_136 : decode cX12_builds 136 = .ok (.aload_n 0, 1) := by decide +kernel
theorem dX12_builds_137 : decode cX12_builds 137 = .ok (.aload_n 0, 1) := by decide +kernel
theorem dX12_builds_138 : decode cX12_builds 138 = .ok (.getfield 87, 3) := by decide +kernel
theorem dX12_builds_141 : decode cX12_builds 141 = .ok (.iload_n 3, 1) := by decide +kernel
theorem dX12_builds_142 : decode cX12_builds 142 = .ok (.iaload, 1) := by decide +kernel
theorem dX12_builds_143 : decode cX12_builds 143 = .ok (.iconst 0, 1) := by decide +kernel
theorem dX12_builds_144 : decode cX12_builds 144 = .ok (.invokevirtual 272, 3) := by decide +kernel
theorem dX12_builds_147 : decode cX12_builds 147 = .ok (.iconst 0, 1) := by decide +kernel
theorem dX12_builds_148 : decode cX12_builds 148 = .ok (.istore_n 3, 1) := by decide +kernel
theorem dX12_builds_149 : decode cX12_builds 149 = .ok (.iload_n 3, 1) := by decide +kernel
theorem dX12_builds_150 : decode cX12_builds 150 = .ok (.iconst 4, 1) := by decide +kernel
theorem dX12_builds_151 : decode cX12_builds 151 = .ok (.if_icmp .ge 33, 3) := by decide +kernel
theorem dX12_builds_154 : decode cX12_builds 154 = .ok (.aload_n 0, 1) := by decide +kernel
theorem dX12_builds_155 : decode cX12_builds 155 = .ok (.getfield 90, 3) := by decide +kernel
theorem dX12_builds_158 : decode cX12_builds 158 = .ok (.iload_n 3, 1) := by decide +kernel
theorem dX12_builds_159 : decode cX12_builds 159 = .ok (.dup2, 1) := by decide +kernel
theorem dX12_builds_160 : decode cX12_builds 160 = .ok (.iaload, 1) := by decide +kernel
theorem dX12_builds_161 : decode cX12_builds 161 = .ok (.aload_n 0, 1) := by decide +kernel
theorem dX12_builds_162 : decode cX12_builds 162 = .ok (.getfield 87, 3) := by decide +kernel
theorem dX12_builds_165 : decode cX12_builds 165 = .ok (.iload_n 3, 1) := by decide +kernel
theorem dX12_builds_166 : decode cX12_builds 166 = .ok (.iaload, 1) := by decide +kernel
theorem dX12_builds_167 : decode cX12_builds 167 = .ok (.iconst (-1), 1) := by decide +kernel
theorem dX12_builds_168 : decode cX12_builds 168 = .ok (.if_icmp .ne 7, 3) := by decide +kernel
theorem dX12_builds_171 : decode cX12_builds 171 = .ok (.iconst 0, 1) := by decide +kernel
theorem dX12_builds_172 : decode cX12_builds 172 = .ok (.goto 4, 3) := by decide +kernel
theorem dX12_builds_175 : decode cX12_builds 175 = .ok (.iconst 1, 1) := by decide +kernel
theorem dX12_builds_176 : decode cX12_builds 176 = .ok (.isub, 1) := by decide +kernel
theorem dX12_builds_177 : decode cX12_builds 177 = .ok (.iastore, 1) := by decide +kernel
theorem dX12_builds_178 : decode cX12_builds 178 = .ok (.iinc 3 1, 3) := by decide +kernel
theorem dX12_builds_181 : decode cX12_builds 181 = .ok (.goto (-32), 3) := by decide +kernel
theorem dX12_builds_184 : decode cX12_builds 184 = .ok (.iconst 0, 1) := by decide +kernel
theorem dX12_builds_185 : decode cX12_builds 185 = .ok (.istore_n 3, 1) := by decide +kernel
theorem dX12_builds_186 : decode cX12_builds 186 = .ok (.iload_n 3, 1) := by decide +kernel
theorem dX12_builds_187 : decode cX12_builds 187 = .ok (.iconst 4, 1) := by decide +kernel
theorem dX12_builds_188 : decode cX12_builds 188 = .ok (.if_icmp .ge 33, 3) := by decide +kernel
theorem dX12_builds_191 : decode cX12_builds 191 = .ok (.aload_n 0, 1) := by decide +kernel
theorem dX12_builds_192 : decode cX12_builds 192 = .ok (.getfield 87, 3) := by decide +kernel
theorem dX12_builds_195 : decode cX12_builds 195 = .ok (.iload_n 3, 1) := by decide +kernel
theorem dX12_builds_196 : decode cX12_builds 196 = .ok (.iaload, 1) := by decide +kernel
theorem dX12_builds_197 : decode cX12_builds 197 = .ok (.iconst (-1), 1) := by decide +kernel
theorem dX12_builds_198 : decode cX12_builds 198 = .ok (.if_icmp .eq 17, 3) := by decide +kernel
theorem dX12_builds_201 : decode cX12_builds 201 = .ok (.aload_n 0, 1) := by decide +kernel
theorem dX12_builds_202 : decode cX12_builds 202 = .ok (.getfield 90, 3) := by decide +kernel
theorem dX12_builds_205 : decode cX12_builds 205 = .ok (.iload_n 3, 1) := by decide +kernel
theorem dX12_builds_206 : decode cX12_builds 206 = .ok (.iaload, 1) := by decide +kernel
theorem dX12_builds_207 : decode cX12_builds 207 = .ok (.ifCond .ne 8, 3) := by decide +kernel
theorem dX12_builds_210 : decode cX12_builds 210 = .ok (.aload_n 0, 1) := by decide +kernel
theorem dX12_builds_211 : decode cX12_builds 211 = .ok (.iload_n 3, 1) := by decide +kernel
theorem dX12_builds_212 : decode cX12_builds 212 = .ok (.invokevirtual 275, 3) := by decide +kernel
theorem dX12_builds_215 : decode cX12_builds 215 = .ok (.iinc 3 1, 3) := by decide +kernel
theorem dX12_builds_218 : decode cX12_builds 218 = .ok (.goto (-32), 3) := by decide +kernel
theorem dX12_builds_221 : decode cX12_builds 221 = .ok (.return_, 1) := by decide +kernel
theorem dX12_pass_0 : decode cX12_pass 0 = .ok (.aload_n 0, 1) := by decide +kernel
theorem dX12_pass_1 : decode cX12_pass 1 = .ok (.iload_n 1, 1) := by decide +kernel
theorem dX12_pass_2 : decode cX12_pass 2 = .ok (.iconst 1, 1) := by decide +kernel
theorem dX12_pass_3 : decode cX12_pass 3 = .ok (.bipush 50, 2) := by decide +kernel
theorem dX12_pass_5 : decode cX12_pass 5 = .ok (.invokestatic 157, 3) := by decide +kernel
theorem dX12_pass_8 : decode cX12_pass 8 = .ok (.invokevirtual 161, 3) := by decide +kernel
theorem dX12_pass_11 : decode cX12_pass 11 = .ok (.ifCond .ne 5, 3) := by decide +kernel
theorem dX12_pass_14 : decode cX12_pass 14 = .ok (.iconst 0, 1) := by decide +kernel
theorem dX12_pass_15 : decode cX12_pass 15 = .ok (.ireturn, 1) := by decide +kernel
theorem dX12_pass_16 : decode cX12_pass 16 = .ok (.iconst 0, 1) := by decide +kernel
theorem dX12_pass_17 : decode cX12_pass 17 = .ok (.istore_n 2, 1) := by decide +kernel
theorem dX12_pass_18 : decode cX12_pass 18 = .ok (.iload_n 2, 1) := by decide +kernel
theorem dX12_pass_19 : decode cX12_pass 19 = .ok (.iload_n 1, 1) := by decide +kernel
theorem dX12_pass_20 : decode cX12_pass 20 = .ok (.if_icmp .ge 47, 3) := by decide +kernel
theorem dX12_pass_23 : decode cX12_pass 23 = .ok (.aload_n 0, 1) := by decide +kernel
theorem dX12_pass_24 : decode cX12_pass 24 = .ok (.getfield 168, 3) := by decide +kernel
theorem dX12_pass_27 : decode cX12_pass 27 = .ok (.ifCond .eq 24, 3) := by decide +kernel
theorem dX12_pass_30 : decode cX12_pass 30 = .ok (.aload_n 0, 1) := by decide +kernel
theorem dX12_pass_31 : decode cX12_pass 31 = .ok (.invokevirtual 279, 3) := by decide +kernel
theorem dX12_pass_34 : decode cX12_pass 34 = .ok (.aload_n 0, 1) := by decide +kernel
theorem dX12_pass_35 : decode cX12_pass 35 = .ok (.dup, 1) := by decide +kernel
theorem dX12_pass_36 : decode cX12_pass 36 = .ok (.getfield 282, 3) := by decide +kernel
theorem dX12_pass_39 : decode cX12_pass 39 = .ok (.iconst 1, 1) := by decide +kernel
theorem dX12_pass_40 : decode cX12_pass 40 = .ok (.iadd, 1) := by decide +kernel
theorem dX12_pass_41 : decode cX12_pass 41 = .ok (.putfield 282, 3) := by decide +kernel
theorem dX12_pass_44 : decode cX12_pass 44 = .ok (.aload_n 0, 1) := by decide +kernel
theorem dX12_pass_45 : decode cX12_pass 45 = .ok (.invokevirtual 243, 3) := by decide +kernel
theorem dX12_pass_48 : decode cX12_pass 48 = .ok (.goto 13, 3) := by decide +kernel
theorem dX12_pass_51 : decode cX12_pass 51 = .ok (.aload_n 0, 1) := by decide +kernel
theorem dX12_pass_52 : decode cX12_pass 52 = .ok (.dup, 1) := by decide +kernel
theorem dX12_pass_53 : decode cX12_pass 53 = .ok (.getfield 282, 3) := by decide +kernel
theorem dX12_pass_56 : decode cX12_pass 56 = .ok (.iconst 1, 1) := by decide +kernel
theorem dX12_pass_57 : decode cX12_pass 57 = .ok (.iadd, 1) := by decide +kernel
theorem dX12_pass_58 : decode cX12_pass 58 = .ok (.putfield 282, 3) := by decide +kernel
theorem dX12_pass_61 : decode cX12_pass 61 = .ok (.iinc 2 1, 3) := by decide +kernel
theorem dX12_pass_64 : decode cX12_pass 64 = .ok (.goto (-46), 3) := by decide +kernel
theorem dX12_pass_67 : decode cX12_pass 67 = .ok (.aload_n 0, 1) := by decide +kernel
theorem dX12_pass_68 : decode cX12_pass 68 = .ok (.getfield 282, 3) := by decide +kernel
theorem dX12_pass_71 : decode cX12_pass 71 = .ok (.ireturn, 1) := by decide +kernel
theorem dX12_goesOn_0 : decode cX12_goesOn 0 = .ok (.aload_n 0, 1) := by decide +kernel
theorem dX12_goesOn_1 : decode cX12_goesOn 1 = .ok (.iconst 0, 1) := by decide +kernel
theorem dX12_goesOn_2 : decode cX12_goesOn 2 = .ok (.putfield 150, 3) := by decide +kernel
theorem dX12_goesOn_5 : decode cX12_goesOn 5 = .ok (.aload_n 0, 1) := by decide +kernel
theorem dX12_goesOn_6 : decode cX12_goesOn 6 = .ok (.getfield 168, 3) := by decide +kernel
theorem dX12_goesOn_9 : decode cX12_goesOn 9 = .ok (.ireturn, 1) := by decide +kernel
theorem dX12_state_0 : decode cX12_state 0 = .ok (.aload_n 0, 1) := by decide +kernel
theorem dX12_state_1 : decode cX12_state 1 = .ok (.aload_n 0, 1) := by decide +kernel
theorem dX12_state_2 : decode cX12_state 2 = .ok (.iload_n 1, 1) := by decide +kernel
theorem dX12_state_3 : decode cX12_state 3 = .ok (.invokevirtual 174, 3) := by decide +kernel
theorem dX12_state_6 : decode cX12_state 6 = .ok (.aload_n 0, 1) := by decide +kernel
theorem dX12_state_7 : decode cX12_state 7 = .ok (.iload_n 1, 1) := by decide +kernel
theorem dX12_state_8 : decode cX12_state 8 = .ok (.invokevirtual 174, 3) := by decide +kernel
theorem dX12_state_11 : decode cX12_state 11 = .ok (.ifCond .eq 23, 3) := by decide +kernel
theorem dX12_state_14 : decode cX12_state 14 = .ok (.iload_n 2, 1) := by decide +kernel
theorem dX12_state_15 : decode cX12_state 15 = .ok (.iconst 0, 1) := by decide +kernel
theorem dX12_state_16 : decode cX12_state 16 = .ok (.aload_n 0, 1) := by decide +kernel
theorem dX12_state_17 : decode cX12_state 17 = .ok (.getfield 34, 3) := by decide +kernel
theorem dX12_state_20 : decode cX12_state 20 = .ok (.iload_n 1, 1) := by decide +kernel
theorem dX12_state_21 : decode cX12_state 21 = .ok (.iaload, 1) := by decide +kernel
theorem dX12_state_22 : decode cX12_state 22 = .ok (.iconst 1, 1) := by decide +kernel
theorem dX12_state_23 : decode cX12_state 23 = .ok (.isub, 1) := by decide +kernel
theorem dX12_state_24 : decode cX12_state 24 = .ok (.invokestatic 157, 3) := by decide +kernel
theorem dX12_state_27 : decode cX12_state 27 = .ok (.ifCond .eq 7, 3) := by decide +kernel
theorem dX12_state_30 : decode cX12_state 30 = .ok (.iconst 1, 1) := by decide +kernel
theorem dX12_state_31 : decode cX12_state 31 = .ok (.goto 4, 3) := by decide +kernel
theorem dX12_state_34 : decode cX12_state 34 = .ok (.iconst 0, 1) := by decide +kernel
theorem dX12_state_35 : decode cX12_state 35 = .ok (.invokevirtual 171, 3) := by decide +kernel
theorem dX12_state_38 : decode cX12_state 38 = .ok (.ifCond .ne 5, 3) := by decide +kernel
theorem dX12_state_41 : decode cX12_state 41 = .ok (.iconst 0, 1) := by decide +kernel
theorem dX12_state_42 : decode cX12_state 42 = .ok (.ireturn, 1) := by decide +kernel
theorem dX12_state_43 : decode cX12_state 43 = .ok (.aload_n 0, 1) := by decide +kernel
theorem dX12_state_44 : decode cX12_state 44 = .ok (.iload_n 1, 1) := by decide +kernel
theorem dX12_state_45 : decode cX12_state 45 = .ok (.invokevirtual 240, 3) := by decide +kernel
theorem dX12_state_48 : decode cX12_state 48 = .ok (.ifCond .eq 16, 3) := by decide +kernel
theorem dX12_state_51 : decode cX12_state 51 = .ok (.aload_n 0, 1) := by decide +kernel
theorem dX12_state_52 : decode cX12_state 52 = .ok (.getfield 105, 3) := by decide +kernel
theorem dX12_state_55 : decode cX12_state 55 = .ok (.iconst 4, 1) := by decide +kernel
theorem dX12_state_56 : decode cX12_state 56 = .ok (.iload_n 1, 1) := by decide +kernel
theorem dX12_state_57 : decode cX12_state 57 = .ok (.imul, 1) := by decide +kernel
theorem dX12_state_58 : decode cX12_state 58 = .ok (.iload_n 2, 1) := by decide +kernel
theorem dX12_state_59 : decode cX12_state 59 = .ok (.iadd, 1) := by decide +kernel
theorem dX12_state_60 : decode cX12_state 60 = .ok (.iaload, 1) := by decide +kernel
theorem dX12_state_61 : decode cX12_state 61 = .ok (.goto 4, 3) := by decide +kernel
theorem dX12_state_64 : decode cX12_state 64 = .ok (.iconst (-1), 1) := by decide +kernel
theorem dX12_state_65 : decode cX12_state 65 = .ok (.ireturn, 1) := by decide +kernel
theorem dX12_result_0 : decode cX12_result 0 = .ok (.aload_n 0, 1) := by decide +kernel
theorem dX12_result_1 : decode cX12_result 1 = .ok (.aload_n 0, 1) := by decide +kernel
theorem dX12_result_2 : decode cX12_result 2 = .ok (.iload_n 1, 1) := by decide +kernel
theorem dX12_result_3 : decode cX12_result 3 = .ok (.invokevirtual 174, 3) := by decide +kernel
theorem dX12_result_6 : decode cX12_result 6 = .ok (.aload_n 0, 1) := by decide +kernel
theorem dX12_result_7 : decode cX12_result 7 = .ok (.iload_n 1, 1) := by decide +kernel
theorem dX12_result_8 : decode cX12_result 8 = .ok (.invokevirtual 174, 3) := by decide +kernel
theorem dX12_result_11 : decode cX12_result 11 = .ok (.ifCond .eq 23, 3) := by decide +kernel
theorem dX12_result_14 : decode cX12_result 14 = .ok (.iload_n 2, 1) := by decide +kernel
theorem dX12_result_15 : decode cX12_result 15 = .ok (.iconst 0, 1) := by decide +kernel
theorem dX12_result_16 : decode cX12_result 16 = .ok (.aload_n 0, 1) := by decide +kernel
theorem dX12_result_17 : decode cX12_result 17 = .ok (.getfield 34, 3) := by decide +kernel
theorem dX12_result_20 : decode cX12_result 20 = .ok (.iload_n 1, 1) := by decide +kernel
theorem dX12_result_21 : decode cX12_result 21 = .ok (.iaload, 1) := by decide +kernel
theorem dX12_result_22 : decode cX12_result 22 = .ok (.iconst 1, 1) := by decide +kernel
theorem dX12_result_23 : decode cX12_result 23 = .ok (.isub, 1) := by decide +kernel
theorem dX12_result_24 : decode cX12_result 24 = .ok (.invokestatic 157, 3) := by decide +kernel
theorem dX12_result_27 : decode cX12_result 27 = .ok (.ifCond .eq 7, 3) := by decide +kernel
theorem dX12_result_30 : decode cX12_result 30 = .ok (.iconst 1, 1) := by decide +kernel
theorem dX12_result_31 : decode cX12_result 31 = .ok (.goto 4, 3) := by decide +kernel
theorem dX12_result_34 : decode cX12_result 34 = .ok (.iconst 0, 1) := by decide +kernel
theorem dX12_result_35 : decode cX12_result 35 = .ok (.invokevirtual 171, 3) := by decide +kernel
theorem dX12_result_38 : decode cX12_result 38 = .ok (.ifCond .ne 5, 3) := by decide +kernel
theorem dX12_result_41 : decode cX12_result 41 = .ok (.iconst 0, 1) := by decide +kernel
theorem dX12_result_42 : decode cX12_result 42 = .ok (.ireturn, 1) := by decide +kernel
theorem dX12_result_43 : decode cX12_result 43 = .ok (.aload_n 0, 1) := by decide +kernel
theorem dX12_result_44 : decode cX12_result 44 = .ok (.iload_n 1, 1) := by decide +kernel
theorem dX12_result_45 : decode cX12_result 45 = .ok (.invokevirtual 240, 3) := by decide +kernel
theorem dX12_result_48 : decode cX12_result 48 = .ok (.ifCond .eq 30, 3) := by decide +kernel
theorem dX12_result_51 : decode cX12_result 51 = .ok (.aload_n 0, 1) := by decide +kernel
theorem dX12_result_52 : decode cX12_result 52 = .ok (.getfield 105, 3) := by decide +kernel
theorem dX12_result_55 : decode cX12_result 55 = .ok (.iconst 4, 1) := by decide +kernel
theorem dX12_result_56 : decode cX12_result 56 = .ok (.iload_n 1, 1) := by decide +kernel
theorem dX12_result_57 : decode cX12_result 57 = .ok (.imul, 1) := by decide +kernel
theorem dX12_result_58 : decode cX12_result 58 = .ok (.iload_n 2, 1) := by decide +kernel
theorem dX12_result_59 : decode cX12_result 59 = .ok (.iadd, 1) := by decide +kernel
theorem dX12_result_60 : decode cX12_result 60 = .ok (.iaload, 1) := by decide +kernel
theorem dX12_result_61 : decode cX12_result 61 = .ok (.iconst 3, 1) := by decide +kernel
theorem dX12_result_62 : decode cX12_result 62 = .ok (.if_icmp .ne 16, 3) := by decide +kernel
theorem dX12_result_65 : decode cX12_result 65 = .ok (.aload_n 0, 1) := by decide +kernel
theorem dX12_result_66 : decode cX12_result 66 = .ok (.getfield 108, 3) := by decide +kernel
theorem dX12_result_69 : decode cX12_result 69 = .ok (.iconst 4, 1) := by decide +kernel
theorem dX12_result_70 : decode cX12_result 70 = .ok (.iload_n 1, 1) := by decide +kernel
theorem dX12_result_71 : decode cX12_result 71 = .ok (.imul, 1) := by decide +kernel
theorem dX12_result_72 : decode cX12_result 72 = .ok (.iload_n 2, 1) := by decide +kernel
theorem dX12_result_73 : decode cX12_result 73 = .ok (.iadd, 1) := by decide +kernel
theorem dX12_result_74 : decode cX12_result 74 = .ok (.iaload, 1) := by decide +kernel
theorem dX12_result_75 : decode cX12_result 75 = .ok (.goto 4, 3) := by decide +kernel
theorem dX12_result_78 : decode cX12_result 78 = .ok (.iconst (-1), 1) := by decide +kernel
theorem dX12_result_79 : decode cX12_result 79 = .ok (.ireturn, 1) := by decide +kernel
theorem dX12_isDone_0 : decode cX12_isDone 0 = .ok (.aload_n 0, 1) := by decide +kernel
theorem dX12_isDone_1 : decode cX12_isDone 1 = .ok (.iload_n 1, 1) := by decide +kernel
theorem dX12_isDone_2 : decode cX12_isDone 2 = .ok (.invokevirtual 240, 3) := by decide +kernel
theorem dX12_isDone_5 : decode cX12_isDone 5 = .ok (.istore_n 2, 1) := by decide +kernel
theorem dX12_isDone_6 : decode cX12_isDone 6 = .ok (.iconst 0, 1) := by decide +kernel
theorem dX12_isDone_7 : decode cX12_isDone 7 = .ok (.istore_n 3, 1) := by decide +kernel
theorem dX12_isDone_8 : decode cX12_isDone 8 = .ok (.iload_n 3, 1) := by decide +kernel
theorem dX12_isDone_9 : decode cX12_isDone 9 = .ok (.aload_n 0, 1) := by decide +kernel
theorem dX12_isDone_10 : decode cX12_isDone 10 = .ok (.getfield 34, 3) := by decide +kernel
theorem dX12_isDone_13 : decode cX12_isDone 13 = .ok (.iload_n 1, 1) := by decide +kernel
theorem dX12_isDone_14 : decode cX12_isDone 14 = .ok (.iaload, 1) := by decide +kernel
theorem dX12_isDone_15 : decode cX12_isDone 15 = .ok (.if_icmp .ge 31, 3) := by decide +kernel
theorem dX12_isDone_18 : decode cX12_isDone 18 = .ok (.iload_n 2, 1) := by decide +kernel
theorem dX12_isDone_19 : decode cX12_isDone 19 = .ok (.aload_n 0, 1) := by decide +kernel
theorem dX12_isDone_20 : decode cX12_isDone 20 = .ok (.getfield 105, 3) := by decide +kernel
theorem dX12_isDone_23 : decode cX12_isDone 23 = .ok (.iconst 4, 1) := by decide +kernel
theorem dX12_isDone_24 : decode cX12_isDone 24 = .ok (.iload_n 1, 1) := by decide +kernel
theorem dX12_isDone_25 : decode cX12_isDone 25 = .ok (.imul, 1) := by decide +kernel
theorem dX12_isDone_26 : decode cX12_isDone 26 = .ok (.iload_n 3, 1) := by decide +kernel
theorem dX12_isDone_27 : decode cX12_isDone 27 = .ok (.iadd, 1) := by decide +kernel
theorem dX12_isDone_28 : decode cX12_isDone 28 = .ok (.iaload, 1) := by decide +kernel
theorem dX12_isDone_29 : decode cX12_isDone 29 = .ok (.iconst 3, 1) := by decide +kernel
theorem dX12_isDone_30 : decode cX12_isDone 30 = .ok (.if_icmp .ne 7, 3) := by decide +kernel
theorem dX12_isDone_33 : decode cX12_isDone 33 = .ok (.iconst 1, 1) := by decide +kernel
theorem dX12_isDone_34 : decode cX12_isDone 34 = .ok (.goto 4, 3) := by decide +kernel
theorem dX12_isDone_37 : decode cX12_isDone 37 = .ok (.iconst 0, 1) := by decide +kernel
theorem dX12_isDone_38 : decode cX12_isDone 38 = .ok (.iand, 1) := by decide +kernel
theorem dX12_isDone_39 : decode cX12_isDone 39 = .ok (.istore_n 2, 1) := by decide +kernel
theorem dX12_isDone_40 : decode cX12_isDone 40 = .ok (.iinc 3 1, 3) := by decide +kernel
theorem dX12_isDone_43 : decode cX12_isDone 43 = .ok (.goto (-35), 3) := by decide +kernel
theorem dX12_isDone_46 : decode cX12_isDone 46 = .ok (.iload_n 2, 1) := by decide +kernel
theorem dX12_isDone_47 : decode cX12_isDone 47 = .ok (.ireturn, 1) := by decide +kernel
theorem dX12_isSound_0 : decode cX12_isSound 0 = .ok (.aload_n 0, 1) := by decide +kernel
theorem dX12_isSound_1 : decode cX12_isSound 1 = .ok (.iconst 1, 1) := by decide +kernel
theorem dX12_isSound_2 : decode cX12_isSound 2 = .ok (.iload_n 1, 1) := by decide +kernel
theorem dX12_isSound_3 : decode cX12_isSound 3 = .ok (.ishl, 1) := by decide +kernel
theorem dX12_isSound_4 : decode cX12_isSound 4 = .ok (.invokevirtual 234, 3) := by decide +kernel
theorem dX12_isSound_7 : decode cX12_isSound 7 = .ok (.istore_n 3, 1) := by decide +kernel
theorem dX12_isSound_8 : decode cX12_isSound 8 = .ok (.iconst 1, 1) := by decide +kernel
theorem dX12_isSound_9 : decode cX12_isSound 9 = .ok (.istore 4, 2) := by decide +kernel
theorem dX12_isSound_11 : decode cX12_isSound 11 = .ok (.iconst 0, 1) := by decide +kernel
theorem dX12_isSound_12 : decode cX12_isSound 12 = .ok (.istore 5, 2) := by decide +kernel
theorem dX12_isSound_14 : decode cX12_isSound 14 = .ok (.iload 5, 2) := by decide +kernel
theorem dX12_isSound_16 : decode cX12_isSound 16 = .ok (.aload_n 0, 1) := by decide +kernel
theorem dX12_isSound_17 : decode cX12_isSound 17 = .ok (.getfield 154, 3) := by decide +kernel
theorem dX12_isSound_20 : decode cX12_isSound 20 = .ok (.if_icmp .ge 84, 3) := by decide +kernel
theorem dX12_isSound_23 : decode cX12_isSound 23 = .ok (.iload 4, 2) := by decide +kernel
theorem dX12_isSound_25 : decode cX12_isSound 25 = .ok (.ifCond .eq 79, 3) := by decide +kernel
theorem dX12_isSound_28 : decode cX12_isSound 28 = .ok (.iload_n 3, 1) := by decide +kernel
theorem dX12_isSound_29 : decode cX12_isSound 29 = .ok (.iload 5, 2) := by decide +kernel
theorem dX12_isSound_31 : decode cX12_isSound 31 = .ok (.ishr, 1) := by decide +kernel
theorem dX12_isSound_32 : decode cX12_isSound 32 = .ok (.iconst 1, 1) := by decide +kernel
theorem dX12_isSound_33 : decode cX12_isSound 33 = .ok (.iand, 1) := by decide +kernel
theorem dX12_isSound_34 : decode cX12_isSound 34 = .ok (.iconst 1, 1) := by decide +kernel
theorem dX12_isSound_35 : decode cX12_isSound 35 = .ok (.if_icmp .ne 63, 3) := by decide +kernel
theorem dX12_isSound_38 : decode cX12_isSound 38 = .ok (.aload_n 0, 1) := by decide +kernel
theorem dX12_isSound_39 : decode cX12_isSound 39 = .ok (.iload 5, 2) := by decide +kernel
theorem dX12_isSound_41 : decode cX12_isSound 41 = .ok (.invokevirtual 285, 3) := by decide +kernel
theorem dX12_isSound_44 : decode cX12_isSound 44 = .ok (.istore 4, 2) := by decide +kernel
theorem dX12_isSound_46 : decode cX12_isSound 46 = .ok (.iconst 0, 1) := by decide +kernel
theorem dX12_isSound_47 : decode cX12_isSound 47 = .ok (.istore 6, 2) := by decide +kernel
theorem dX12_isSound_49 : decode cX12_isSound 49 = .ok (.iload 6, 2) := by decide +kernel
theorem dX12_isSound_51 : decode cX12_isSound 51 = .ok (.aload_n 0, 1) := by decide +kernel
theorem dX12_isSound_52 : decode cX12_isSound 52 = .ok (.getfield 34, 3) := by decide +kernel
theorem dX12_isSound_55 : decode cX12_isSound 55 = .ok (.iload 5, 2) := by decide +kernel
theorem dX12_isSound_57 : decode cX12_isSound 57 = .ok (.iaload, 1) := by decide +kernel
theorem dX12_isSound_58 : decode cX12_isSound 58 = .ok (.if_icmp .ge 40, 3) := by decide +kernel
theorem dX12_isSound_61 : decode cX12_isSound 61 = .ok (.iload 4, 2) := by decide +kernel
theorem dX12_isSound_63 : decode cX12_isSound 63 = .ok (.ifCond .eq 35, 3) := by decide +kernel
theorem dX12_isSound_66 : decode cX12_isSound 66 = .ok (.iload_n 2, 1) := by decide +kernel
theorem dX12_isSound_67 : decode cX12_isSound 67 = .ok (.ifCond .ne 18, 3) := by decide +kernel
theorem dX12_isSound_70 : decode cX12_isSound 70 = .ok (.aload_n 0, 1) := by decide +kernel
theorem dX12_isSound_71 : decode cX12_isSound 71 = .ok (.getfield 117, 3) := by decide +kernel
theorem dX12_isSound_74 : decode cX12_isSound 74 = .ok (.iconst 4, 1) := by decide +kernel
theorem dX12_isSound_75 : decode cX12_isSound 75 = .ok (.iload 5, 2) := by decide +kernel
theorem dX12_isSound_77 : decode cX12_isSound 77 = .ok (.imul, 1) := by decide +kernel
theorem dX12_isSound_78 : decode cX12_isSound 78 = .ok (.iload 6, 2) := by decide +kernel
theorem dX12_isSound_80 : decode cX12_isSound 80 = .ok (.iadd, 1) := by decide +kernel
theorem dX12_isSound_81 : decode cX12_isSound 81 = .ok (.baload, 1) := by decide +kernel
theorem dX12_isSound_82 : decode cX12_isSound 82 = .ok (.ifCond .ne 7, 3) := by decide +kernel
theorem dX12_isSound_85 : decode cX12_isSound 85 = .ok (.iconst 1, 1) := by decide +kernel
theorem dX12_isSound_86 : decode cX12_isSound 86 = .ok (.goto 4, 3) := by decide +kernel
theorem dX12_isSound_89 : decode cX12_isSound 89 = .ok (.iconst 0, 1) := by decide +kernel
theorem dX12_isSound_90 : decode cX12_isSound 90 = .ok (.istore 4, 2) := by decide +kernel
theorem dX12_isSound_92 : decode cX12_isSound 92 = .ok (.iinc 6 1, 3) := by decide +kernel
theorem dX12_isSound_95 : decode cX12_isSound 95 = .ok (.goto (-46), 3) := by decide +kernel
theorem dX12_isSound_98 : decode cX12_isSound 98 = .ok (.iinc 5 1, 3) := by decide +kernel
theorem dX12_isSound_101 : decode cX12_isSound 101 = .ok (.goto (-87), 3) := by decide +kernel
theorem dX12_isSound_104 : decode cX12_isSound 104 = .ok (.iload 4, 2) := by decide +kernel
theorem dX12_isSound_106 : decode cX12_isSound 106 = .ok (.ireturn, 1) := by decide +kernel
theorem dX12_isStale_0 : decode cX12_isStale 0 = .ok (.iconst 0, 1) := by decide +kernel
theorem dX12_isStale_1 : decode cX12_isStale 1 = .ok (.istore_n 2, 1) := by decide +kernel
theorem dX12_isStale_2 : decode cX12_isStale 2 = .ok (.aload_n 0, 1) := by decide +kernel
theorem dX12_isStale_3 : decode cX12_isStale 3 = .ok (.invokevirtual 288, 3) := by decide +kernel
theorem dX12_isStale_6 : decode cX12_isStale 6 = .ok (.iconst 0, 1) := by decide +kernel
theorem dX12_isStale_7 : decode cX12_isStale 7 = .ok (.istore_n 3, 1) := by decide +kernel
theorem dX12_isStale_8 : decode cX12_isStale 8 = .ok (.iload_n 3, 1) := by decide +kernel
theorem dX12_isStale_9 : decode cX12_isStale 9 = .ok (.aload_n 0, 1) := by decide +kernel
theorem dX12_isStale_10 : decode cX12_isStale 10 = .ok (.getfield 34, 3) := by decide +kernel
theorem dX12_isStale_13 : decode cX12_isStale 13 = .ok (.iload_n 1, 1) := by decide +kernel
theorem dX12_isStale_14 : decode cX12_isStale 14 = .ok (.iaload, 1) := by decide +kernel
theorem dX12_isStale_15 : decode cX12_isStale 15 = .ok (.if_icmp .ge 40, 3) := by decide +kernel
theorem dX12_isStale_18 : decode cX12_isStale 18 = .ok (.iload_n 2, 1) := by decide +kernel
theorem dX12_isStale_19 : decode cX12_isStale 19 = .ok (.aload_n 0, 1) := by decide +kernel
theorem dX12_isStale_20 : decode cX12_isStale 20 = .ok (.getfield 108, 3) := by decide +kernel
theorem dX12_isStale_23 : decode cX12_isStale 23 = .ok (.iconst 4, 1) := by decide +kernel
theorem dX12_isStale_24 : decode cX12_isStale 24 = .ok (.iload_n 1, 1) := by decide +kernel
theorem dX12_isStale_25 : decode cX12_isStale 25 = .ok (.imul, 1) := by decide +kernel
theorem dX12_isStale_26 : decode cX12_isStale 26 = .ok (.iload_n 3, 1) := by decide +kernel
theorem dX12_isStale_27 : decode cX12_isStale 27 = .ok (.iadd, 1) := by decide +kernel
theorem dX12_isStale_28 : decode cX12_isStale 28 = .ok (.iaload, 1) := by decide +kernel
theorem dX12_isStale_29 : decode cX12_isStale 29 = .ok (.aload_n 0, 1) := by decide +kernel
theorem dX12_isStale_30 : decode cX12_isStale 30 = .ok (.getfield 135, 3) := by decide +kernel
theorem dX12_isStale_33 : decode cX12_isStale 33 = .ok (.iconst 4, 1) := by decide +kernel
theorem dX12_isStale_34 : decode cX12_isStale 34 = .ok (.iload_n 1, 1) := by decide +kernel
theorem dX12_isStale_35 : decode cX12_isStale 35 = .ok (.imul, 1) := by decide +kernel
theorem dX12_isStale_36 : decode cX12_isStale 36 = .ok (.iload_n 3, 1) := by decide +kernel
theorem dX12_isStale_37 : decode cX12_isStale 37 = .ok (.iadd, 1) := by decide +kernel
theorem dX12_isStale_38 : decode cX12_isStale 38 = .ok (.iaload, 1) := by decide +kernel
theorem dX12_isStale_39 : decode cX12_isStale 39 = .ok (.if_icmp .eq 7, 3) := by decide +kernel
theorem dX12_isStale_42 : decode cX12_isStale 42 = .ok (.iconst 1, 1) := by decide +kernel
theorem dX12_isStale_43 : decode cX12_isStale 43 = .ok (.goto 4, 3) := by decide +kernel
theorem dX12_isStale_46 : decode cX12_isStale 46 = .ok (.iconst 0, 1) := by decide +kernel
theorem dX12_isStale_47 : decode cX12_isStale 47 = .ok (.ior, 1) := by decide +kernel
theorem dX12_isStale_48 : decode cX12_isStale 48 = .ok (.istore_n 2, 1) := by decide +kernel
theorem dX12_isStale_49 : decode cX12_isStale 49 = .ok (.iinc 3 1, 3) := by decide +kernel
theorem dX12_isStale_52 : decode cX12_isStale 52 = .ok (.goto (-44), 3) := by decide +kernel
theorem dX12_isStale_55 : decode cX12_isStale 55 = .ok (.iload_n 2, 1) := by decide +kernel
theorem dX12_isStale_56 : decode cX12_isStale 56 = .ok (.ifCond .eq 15, 3) := by decide +kernel
theorem dX12_isStale_59 : decode cX12_isStale 59 = .ok (.aload_n 0, 1) := by decide +kernel
theorem dX12_isStale_60 : decode cX12_isStale 60 = .ok (.iload_n 1, 1) := by decide +kernel
theorem dX12_isStale_61 : decode cX12_isStale 61 = .ok (.invokevirtual 285, 3) := by decide +kernel
theorem dX12_isStale_64 : decode cX12_isStale 64 = .ok (.ifCond .eq 7, 3) := by decide +kernel
theorem dX12_isStale_67 : decode cX12_isStale 67 = .ok (.iconst 1, 1) := by decide +kernel
theorem dX12_isStale_68 : decode cX12_isStale 68 = .ok (.goto 4, 3) := by decide +kernel
theorem dX12_isStale_71 : decode cX12_isStale 71 = .ok (.iconst 0, 1) := by decide +kernel
theorem dX12_isStale_72 : decode cX12_isStale 72 = .ok (.ireturn, 1) := by decide +kernel
theorem dX12_about_0 : decode cX12_about 0 = .ok (.aload_n 0, 1) := by decide +kernel
theorem dX12_about_1 : decode cX12_about 1 = .ok (.aload_n 0, 1) := by decide +kernel
theorem dX12_about_2 : decode cX12_about 2 = .ok (.iload_n 1, 1) := by decide +kernel
theorem dX12_about_3 : decode cX12_about 3 = .ok (.invokevirtual 174, 3) := by decide +kernel
theorem dX12_about_6 : decode cX12_about 6 = .ok (.iload_n 2, 1) := by decide +kernel
theorem dX12_about_7 : decode cX12_about 7 = .ok (.iconst 0, 1) := by decide +kernel
theorem dX12_about_8 : decode cX12_about 8 = .ok (.iconst 5, 1) := by decide +kernel
theorem dX12_about_9 : decode cX12_about 9 = .ok (.invokestatic 157, 3) := by decide +kernel
theorem dX12_about_12 : decode cX12_about 12 = .ok (.invokevirtual 171, 3) := by decide +kernel
theorem dX12_about_15 : decode cX12_about 15 = .ok (.ifCond .ne 5, 3) := by decide +kernel
theorem dX12_about_18 : decode cX12_about 18 = .ok (.iconst 0, 1) := by decide +kernel
theorem dX12_about_19 : decode cX12_about 19 = .ok (.ireturn, 1) := by decide +kernel
theorem dX12_about_20 : decode cX12_about 20 = .ok (.iload_n 2, 1) := by decide +kernel
theorem dX12_about_21 : decode cX12_about 21 = .ok (.iconst 5, 1) := by decide +kernel
theorem dX12_about_22 : decode cX12_about 22 = .ok (.if_icmp .ne 21, 3) := by decide +kernel
theorem dX12_about_25 : decode cX12_about 25 = .ok (.aload_n 0, 1) := by decide +kernel
theorem dX12_about_26 : decode cX12_about 26 = .ok (.iload_n 1, 1) := by decide +kernel
theorem dX12_about_27 : decode cX12_about 27 = .ok (.invokevirtual 240, 3) := by decide +kernel
theorem dX12_about_30 : decode cX12_about 30 = .ok (.ifCond .eq 11, 3) := by decide +kernel
theorem dX12_about_33 : decode cX12_about 33 = .ok (.aload_n 0, 1) := by decide +kernel
theorem dX12_about_34 : decode cX12_about 34 = .ok (.iload_n 1, 1) := by decide +kernel
theorem dX12_about_35 : decode cX12_about 35 = .ok (.invokevirtual 258, 3) := by decide +kernel
theorem dX12_about_38 : decode cX12_about 38 = .ok (.goto 4, 3) := by decide +kernel
theorem dX12_about_41 : decode cX12_about 41 = .ok (.iconst (-1), 1) := by decide +kernel
theorem dX12_about_42 : decode cX12_about 42 = .ok (.ireturn, 1) := by decide +kernel
theorem dX12_about_43 : decode cX12_about 43 = .ok (.aload_n 0, 1) := by decide +kernel
theorem dX12_about_44 : decode cX12_about 44 = .ok (.invokevirtual 288, 3) := by decide +kernel
theorem dX12_about_47 : decode cX12_about 47 = .ok (.iload_n 2, 1) := by decide +kernel
theorem dX12_about_48 : decode cX12_about 48 = .ok (.iconst 4, 1) := by decide +kernel
theorem dX12_about_49 : decode cX12_about 49 = .ok (.if_icmp .ne 10, 3) := by decide +kernel
theorem dX12_about_52 : decode cX12_about 52 = .ok (.aload_n 0, 1) := by decide +kernel
theorem dX12_about_53 : decode cX12_about 53 = .ok (.getfield 138, 3) := by decide +kernel
theorem dX12_about_56 : decode cX12_about 56 = .ok (.iload_n 1, 1) := by decide +kernel
theorem dX12_about_57 : decode cX12_about 57 = .ok (.iaload, 1) := by decide +kernel
theorem dX12_about_58 : decode cX12_about 58 = .ok (.ireturn, 1) := by decide +kernel
theorem dX12_about_59 : decode cX12_about 59 = .ok (.iload_n 2, 1) := by decide +kernel
theorem dX12_about_60 : decode cX12_about 60 = .ok (.ifCond .ne 12, 3) := by decide +kernel
theorem dX12_about_63 : decode cX12_about 63 = .ok (.aload_n 0, 1) := by decide +kernel
theorem dX12_about_64 : decode cX12_about 64 = .ok (.iload_n 1, 1) := by decide +kernel
theorem dX12_about_65 : decode cX12_about 65 = .ok (.iconst 0, 1) := by decide +kernel
theorem dX12_about_66 : decode cX12_about 66 = .ok (.invokevirtual 291, 3) := by decide +kernel
theorem dX12_about_69 : decode cX12_about 69 = .ok (.goto 45, 3) := by decide +kernel
theorem dX12_about_72 : decode cX12_about 72 = .ok (.iload_n 2, 1) := by decide +kernel
theorem dX12_about_73 : decode cX12_about 73 = .ok (.iconst 1, 1) := by decide +kernel
theorem dX12_about_74 : decode cX12_about 74 = .ok (.if_icmp .ne 11, 3) := by decide +kernel
theorem dX12_about_77 : decode cX12_about 77 = .ok (.aload_n 0, 1) := by decide +kernel
theorem dX12_about_78 : decode cX12_about 78 = .ok (.iload_n 1, 1) := by decide +kernel
theorem dX12_about_79 : decode cX12_about 79 = .ok (.invokevirtual 295, 3) := by decide +kernel
theorem dX12_about_82 : decode cX12_about 82 = .ok (.goto 32, 3) := by decide +kernel
theorem dX12_about_85 : decode cX12_about 85 = .ok (.iload_n 2, 1) := by decide +kernel
theorem dX12_about_86 : decode cX12_about 86 = .ok (.iconst 2, 1) := by decide +kernel
theorem dX12_about_87 : decode cX12_about 87 = .ok (.if_icmp .ne 21, 3) := by decide +kernel
theorem dX12_about_90 : decode cX12_about 90 = .ok (.aload_n 0, 1) := by decide +kernel
theorem dX12_about_91 : decode cX12_about 91 = .ok (.getfield 123, 3) := by decide +kernel
theorem dX12_about_94 : decode cX12_about 94 = .ok (.iload_n 1, 1) := by decide +kernel
theorem dX12_about_95 : decode cX12_about 95 = .ok (.iaload, 1) := by decide +kernel
theorem dX12_about_96 : decode cX12_about 96 = .ok (.iconst 2, 1) := by decide +kernel
theorem dX12_about_97 : decode cX12_about 97 = .ok (.if_icmp .lt 7, 3) := by decide +kernel
theorem dX12_about_100 : decode cX12_about 100 = .ok (.iconst 1, 1) := by decide +kernel
theorem dX12_about_101 : decode cX12_about 101 = .ok (.goto 13, 3) := by decide +kernel
theorem dX12_about_104 : decode cX12_about 104 = .ok (.iconst 0, 1) := by decide +kernel
theorem dX12_about_105 : decode cX12_about 105 = .ok (.goto 9, 3) := by decide +kernel
theorem dX12_about_108 : decode cX12_about 108 = .ok (.aload_n 0, 1) := by decide +kernel
theorem dX12_about_109 : decode cX12_about 109 = .ok (.getfield 141, 3) := by decide +kernel
theorem dX12_about_112 : decode cX12_about 112 = .ok (.iload_n 1, 1) := by decide +kernel
theorem dX12_about_113 : decode cX12_about 113 = .ok (.baload, 1) := by decide +kernel
theorem dX12_about_114 : decode cX12_about 114 = .ok (.istore_n 3, 1) := by decide +kernel
theorem dX12_about_115 : decode cX12_about 115 = .ok (.iload_n 3, 1) := by decide +kernel
theorem dX12_about_116 : decode cX12_about 116 = .ok (.ifCond .eq 7, 3) := by decide +kernel
theorem dX12_about_119 : decode cX12_about 119 = .ok (.iconst 1, 1) := by decide +kernel
theorem dX12_about_120 : decode cX12_about 120 = .ok (.goto 4, 3) := by decide +kernel
theorem dX12_about_123 : decode cX12_about 123 = .ok (.iconst 0, 1) := by decide +kernel
theorem dX12_about_124 : decode cX12_about 124 = .ok (.ireturn, 1) := by decide +kernel
theorem dX12_proof_0 : decode cX12_proof 0 = .ok (.aload_n 0, 1) := by decide +kernel
theorem dX12_proof_1 : decode cX12_proof 1 = .ok (.aload_n 0, 1) := by decide +kernel
theorem dX12_proof_2 : decode cX12_proof 2 = .ok (.iload_n 1, 1) := by decide +kernel
theorem dX12_proof_3 : decode cX12_proof 3 = .ok (.invokevirtual 174, 3) := by decide +kernel
theorem dX12_proof_6 : decode cX12_proof 6 = .ok (.aload_n 0, 1) := by decide +kernel
theorem dX12_proof_7 : decode cX12_proof 7 = .ok (.iload_n 1, 1) := by decide +kernel
theorem dX12_proof_8 : decode cX12_proof 8 = .ok (.invokevirtual 174, 3) := by decide +kernel
theorem dX12_proof_11 : decode cX12_proof 11 = .ok (.ifCond .eq 24, 3) := by decide +kernel
theorem dX12_proof_14 : decode cX12_proof 14 = .ok (.aload_n 0, 1) := by decide +kernel
theorem dX12_proof_15 : decode cX12_proof 15 = .ok (.iload_n 1, 1) := by decide +kernel
theorem dX12_proof_16 : decode cX12_proof 16 = .ok (.invokevirtual 240, 3) := by decide +kernel
theorem dX12_proof_19 : decode cX12_proof 19 = .ok (.ifCond .eq 16, 3) := by decide +kernel
theorem dX12_proof_22 : decode cX12_proof 22 = .ok (.aload_n 0, 1) := by decide +kernel
theorem dX12_proof_23 : decode cX12_proof 23 = .ok (.iload_n 1, 1) := by decide +kernel
theorem dX12_proof_24 : decode cX12_proof 24 = .ok (.iconst 1, 1) := by decide +kernel
theorem dX12_proof_25 : decode cX12_proof 25 = .ok (.invokevirtual 291, 3) := by decide +kernel
theorem dX12_proof_28 : decode cX12_proof 28 = .ok (.ifCond .eq 7, 3) := by decide +kernel
theorem dX12_proof_31 : decode cX12_proof 31 = .ok (.iconst 1, 1) := by decide +kernel
theorem dX12_proof_32 : decode cX12_proof 32 = .ok (.goto 4, 3) := by decide +kernel
theorem dX12_proof_35 : decode cX12_proof 35 = .ok (.iconst 0, 1) := by decide +kernel
theorem dX12_proof_36 : decode cX12_proof 36 = .ok (.invokevirtual 171, 3) := by decide +kernel
theorem dX12_proof_39 : decode cX12_proof 39 = .ok (.ifCond .ne 5, 3) := by decide +kernel
theorem dX12_proof_42 : decode cX12_proof 42 = .ok (.iconst 0, 1) := by decide +kernel
theorem dX12_proof_43 : decode cX12_proof 43 = .ok (.ireturn, 1) := by decide +kernel
theorem dX12_proof_44 : decode cX12_proof 44 = .ok (.aload_n 0, 1) := by decide +kernel
theorem dX12_proof_45 : decode cX12_proof 45 = .ok (.iconst 1, 1) := by decide +kernel
theorem dX12_proof_46 : decode cX12_proof 46 = .ok (.iload_n 1, 1) := by decide +kernel
theorem dX12_proof_47 : decode cX12_proof 47 = .ok (.ishl, 1) := by decide +kernel
theorem dX12_proof_48 : decode cX12_proof 48 = .ok (.invokevirtual 234, 3) := by decide +kernel
theorem dX12_proof_51 : decode cX12_proof 51 = .ok (.istore_n 2, 1) := by decide +kernel
theorem dX12_proof_52 : decode cX12_proof 52 = .ok (.iconst 0, 1) := by decide +kernel
theorem dX12_proof_53 : decode cX12_proof 53 = .ok (.istore_n 3, 1) := by decide +kernel
theorem dX12_proof_54 : decode cX12_proof 54 = .ok (.iload_n 3, 1) := by decide +kernel
theorem dX12_proof_55 : decode cX12_proof 55 = .ok (.iload_n 1, 1) := by decide +kernel
theorem dX12_proof_56 : decode cX12_proof 56 = .ok (.if_icmp .gt 140, 3) := by decide +kernel
theorem dX12_proof_59 : decode cX12_proof 59 = .ok (.iload_n 2, 1) := by decide +kernel
theorem dX12_proof_60 : decode cX12_proof 60 = .ok (.iload_n 3, 1) := by decide +kernel
theorem dX12_proof_61 : decode cX12_proof 61 = .ok (.ishr, 1) := by decide +kernel
theorem dX12_proof_62 : decode cX12_proof 62 = .ok (.iconst 1, 1) := by decide +kernel
theorem dX12_proof_63 : decode cX12_proof 63 = .ok (.iand, 1) := by decide +kernel
theorem dX12_proof_64 : decode cX12_proof 64 = .ok (.iconst 1, 1) := by decide +kernel
theorem dX12_proof_65 : decode cX12_proof 65 = .ok (.if_icmp .ne 125, 3) := by decide +kernel
theorem dX12_proof_68 : decode cX12_proof 68 = .ok (.bipush 7, 2) := by decide +kernel
theorem dX12_proof_70 : decode cX12_proof 70 = .ok (.istore 4, 2) := by decide +kernel
theorem dX12_proof_72 : decode cX12_proof 72 = .ok (.iconst 0, 1) := by decide +kernel
theorem dX12_proof_73 : decode cX12_proof 73 = .ok (.istore 5, 2) := by decide +kernel
theorem dX12_proof_75 : decode cX12_proof 75 = .ok (.iload 5, 2) := by decide +kernel
theorem dX12_proof_77 : decode cX12_proof 77 = .ok (.aload_n 0, 1) := by decide +kernel
theorem dX12_proof_78 : decode cX12_proof 78 = .ok (.getfield 34, 3) := by decide +kernel
theorem dX12_proof_81 : decode cX12_proof 81 = .ok (.iload_n 3, 1) := by decide +kernel
theorem dX12_proof_82 : decode cX12_proof 82 = .ok (.iaload, 1) := by decide +kernel
theorem dX12_proof_83 : decode cX12_proof 83 = .ok (.if_icmp .ge 41, 3) := by decide +kernel
theorem dX12_proof_86 : decode cX12_proof 86 = .ok (.iload 4, 2) := by decide +kernel
theorem dX12_proof_88 : decode cX12_proof 88 = .ok (.aload_n 0, 1) := by decide +kernel
theorem dX12_proof_89 : decode cX12_proof 89 = .ok (.getfield 108, 3) := by decide +kernel
theorem dX12_proof_92 : decode cX12_proof 92 = .ok (.iconst 4, 1) := by decide +kernel
theorem dX12_proof_93 : decode cX12_proof 93 = .ok (.iload_n 3, 1) := by decide +kernel
theorem dX12_proof_94 : decode cX12_proof 94 = .ok (.imul, 1) := by decide +kernel
theorem dX12_proof_95 : decode cX12_proof 95 = .ok (.iload 5, 2) := by decide +kernel
theorem dX12_proof_97 : decode cX12_proof 97 = .ok (.iadd, 1) := by decide +kernel
theorem dX12_proof_98 : decode cX12_proof 98 = .ok (.iaload, 1) := by decide +kernel
theorem dX12_proof_99 : decode cX12_proof 99 = .ok (.invokestatic 191, 3) := by decide +kernel
theorem dX12_proof_102 : decode cX12_proof 102 = .ok (.aload_n 0, 1) := by decide +kernel
theorem dX12_proof_103 : decode cX12_proof 103 = .ok (.getfield 111, 3) := by decide +kernel
theorem dX12_proof_106 : decode cX12_proof 106 = .ok (.iconst 4, 1) := by decide +kernel
theorem dX12_proof_107 : decode cX12_proof 107 = .ok (.iload_n 3, 1) := by decide +kernel
theorem dX12_proof_108 : decode cX12_proof 108 = .ok (.imul, 1) := by decide +kernel
theorem dX12_proof_109 : decode cX12_proof 109 = .ok (.iload 5, 2) := by decide +kernel
theorem dX12_proof_111 : decode cX12_proof 111 = .ok (.iadd, 1) := by decide +kernel
theorem dX12_proof_112 : decode cX12_proof 112 = .ok (.iaload, 1) := by decide +kernel
theorem dX12_proof_113 : decode cX12_proof 113 = .ok (.invokestatic 191, 3) := by decide +kernel
theorem dX12_proof_116 : decode cX12_proof 116 = .ok (.istore 4, 2) := by decide +kernel
theorem dX12_proof_118 : decode cX12_proof 118 = .ok (.iinc 5 1, 3) := by decide +kernel
theorem dX12_proof_121 : decode cX12_proof 121 = .ok (.goto (-46), 3) := by decide +kernel
theorem dX12_proof_124 : decode cX12_proof 124 = .ok (.iconst 0, 1) := by decide +kernel
theorem dX12_proof_125 : decode cX12_proof 125 = .ok (.istore 5, 2) := by decide +kernel
theorem dX12_proof_127 : decode cX12_proof 127 = .ok (.iload 5, 2) := by decide +kernel
theorem dX12_proof_129 : decode cX12_proof 129 = .ok (.aload_n 0, 1) := by decide +kernel
theorem dX12_proof_130 : decode cX12_proof 130 = .ok (.getfield 43, 3) := by decide +kernel
theorem dX12_proof_133 : decode cX12_proof 133 = .ok (.iload_n 3, 1) := by decide +kernel
theorem dX12_proof_134 : decode cX12_proof 134 = .ok (.iaload, 1) := by decide +kernel
theorem dX12_proof_135 : decode cX12_proof 135 = .ok (.if_icmp .ge 47, 3) := by decide +kernel
theorem dX12_proof_138 : decode cX12_proof 138 = .ok (.aload_n 0, 1) := by decide +kernel
theorem dX12_proof_139 : decode cX12_proof 139 = .ok (.iload_n 3, 1) := by decide +kernel
theorem dX12_proof_140 : decode cX12_proof 140 = .ok (.iload 5, 2) := by decide +kernel
theorem dX12_proof_142 : decode cX12_proof 142 = .ok (.invokevirtual 186, 3) := by decide +kernel
theorem dX12_proof_145 : decode cX12_proof 145 = .ok (.istore 6, 2) := by decide +kernel
theorem dX12_proof_147 : decode cX12_proof 147 = .ok (.iload 6, 2) := by decide +kernel
theorem dX12_proof_149 : decode cX12_proof 149 = .ok (.bipush 16, 2) := by decide +kernel
theorem dX12_proof_151 : decode cX12_proof 151 = .ok (.if_icmp .ge 8, 3) := by decide +kernel
theorem dX12_proof_154 : decode cX12_proof 154 = .ok (.iload 4, 2) := by decide +kernel
theorem dX12_proof_156 : decode cX12_proof 156 = .ok (.goto 18, 3) := by decide +kernel
theorem dX12_proof_159 : decode cX12_proof 159 = .ok (.iload 4, 2) := by decide +kernel
theorem dX12_proof_161 : decode cX12_proof 161 = .ok (.aload_n 0, 1) := by decide +kernel
theorem dX12_proof_162 : decode cX12_proof 162 = .ok (.getfield 147, 3) := by decide +kernel
theorem dX12_proof_165 : decode cX12_proof 165 = .ok (.iload 6, 2) := by decide +kernel
theorem dX12_proof_167 : decode cX12_proof 167 = .ok (.bipush 16, 2) := by decide +kernel
theorem dX12_proof_169 : decode cX12_proof 169 = .ok (.isub, 1) := by decide +kernel
theorem dX12_proof_170 : decode cX12_proof 170 = .ok (.iaload, 1) := by decide +kernel
theorem dX12_proof_171 : decode cX12_proof 171 = .ok (.invokestatic 191, 3) := by decide +kernel
theorem dX12_proof_174 : decode cX12_proof 174 = .ok (.istore 4, 2) := by decide +kernel
theorem dX12_proof_176 : decode cX12_proof 176 = .ok (.iinc 5 1, 3) := by decide +kernel
theorem dX12_proof_179 : decode cX12_proof 179 = .ok (.goto (-52), 3) := by decide +kernel
theorem dX12_proof_182 : decode cX12_proof 182 = .ok (.aload_n 0, 1) := by decide +kernel
theorem dX12_proof_183 : decode cX12_proof 183 = .ok (.getfield 147, 3) := by decide +kernel
theorem dX12_proof_186 : decode cX12_proof 186 = .ok (.iload_n 3, 1) := by decide +kernel
theorem dX12_proof_187 : decode cX12_proof 187 = .ok (.iload 4, 2) := by decide +kernel
theorem dX12_proof_189 : decode cX12_proof 189 = .ok (.iastore, 1) := by decide +kernel
theorem dX12_proof_190 : decode cX12_proof 190 = .ok (.iinc 3 1, 3) := by decide +kernel
theorem dX12_proof_193 : decode cX12_proof 193 = .ok (.goto (-139), 3) := by decide +kernel
theorem dX12_proof_196 : decode cX12_proof 196 = .ok (.aload_n 0, 1) := by decide +kernel
theorem dX12_proof_197 : decode cX12_proof 197 = .ok (.getfield 147, 3) := by decide +kernel
theorem dX12_proof_200 : decode cX12_proof 200 = .ok (.iload_n 1, 1) := by decide +kernel
theorem dX12_proof_201 : decode cX12_proof 201 = .ok (.iaload, 1) := by decide +kernel
theorem dX12_proof_202 : decode cX12_proof 202 = .ok (.ireturn, 1) := by decide +kernel
theorem dX12_count_0 : decode cX12_count 0 = .ok (.aload_n 0, 1) := by decide +kernel
theorem dX12_count_1 : decode cX12_count 1 = .ok (.iload_n 1, 1) := by decide +kernel
theorem dX12_count_2 : decode cX12_count 2 = .ok (.iconst 0, 1) := by decide +kernel
theorem dX12_count_3 : decode cX12_count 3 = .ok (.iconst 4, 1) := by decide +kernel
theorem dX12_count_4 : decode cX12_count 4 = .ok (.invokestatic 157, 3) := by decide +kernel
theorem dX12_count_7 : decode cX12_count 7 = .ok (.invokevirtual 161, 3) := by decide +kernel
theorem dX12_count_10 : decode cX12_count 10 = .ok (.ifCond .eq 12, 3) := by decide +kernel
theorem dX12_count_13 : decode cX12_count 13 = .ok (.aload_n 0, 1) := by decide +kernel
theorem dX12_count_14 : decode cX12_count 14 = .ok (.getfield 129, 3) := by decide +kernel
theorem dX12_count_17 : decode cX12_count 17 = .ok (.iload_n 1, 1) := by decide +kernel
theorem dX12_count_18 : decode cX12_count 18 = .ok (.iaload, 1) := by decide +kernel
theorem dX12_count_19 : decode cX12_count 19 = .ok (.goto 4, 3) := by decide +kernel
theorem dX12_count_22 : decode cX12_count 22 = .ok (.iconst 0, 1) := by decide +kernel
theorem dX12_count_23 : decode cX12_count 23 = .ok (.ireturn, 1) := by decide +kernel
theorem dX12_needed_0 : decode cX12_needed 0 = .ok (.aload_n 0, 1) := by decide +kernel
theorem dX12_needed_1 : decode cX12_needed 1 = .ok (.aload_n 0, 1) := by decide +kernel
theorem dX12_needed_2 : decode cX12_needed 2 = .ok (.iload_n 1, 1) := by decide +kernel
theorem dX12_needed_3 : decode cX12_needed 3 = .ok (.invokevirtual 174, 3) := by decide +kernel
theorem dX12_needed_6 : decode cX12_needed 6 = .ok (.invokevirtual 161, 3) := by decide +kernel
theorem dX12_needed_9 : decode cX12_needed 9 = .ok (.ifCond .eq 13, 3) := by decide +kernel
theorem dX12_needed_12 : decode cX12_needed 12 = .ok (.aload_n 0, 1) := by decide +kernel
theorem dX12_needed_13 : decode cX12_needed 13 = .ok (.iconst 1, 1) := by decide +kernel
theorem dX12_needed_14 : decode cX12_needed 14 = .ok (.iload_n 1, 1) := by decide +kernel
theorem dX12_needed_15 : decode cX12_needed 15 = .ok (.ishl, 1) := by decide +kernel
theorem dX12_needed_16 : decode cX12_needed 16 = .ok (.invokevirtual 234, 3) := by decide +kernel
theorem dX12_needed_19 : decode cX12_needed 19 = .ok (.goto 4, 3) := by decide +kernel
theorem dX12_needed_22 : decode cX12_needed 22 = .ok (.iconst 0, 1) := by decide +kernel
theorem dX12_needed_23 : decode cX12_needed 23 = .ok (.ireturn, 1) := by decide +kernel
theorem dX12_needing_0 : decode cX12_needing 0 = .ok (.aload_n 0, 1) := by decide +kernel
theorem dX12_needing_1 : decode cX12_needing 1 = .ok (.iload_n 1, 1) := by decide +kernel
theorem dX12_needing_2 : decode cX12_needing 2 = .ok (.ifCond .lt 7, 3) := by decide +kernel
theorem dX12_needing_5 : decode cX12_needing 5 = .ok (.iconst 1, 1) := by decide +kernel
theorem dX12_needing_6 : decode cX12_needing 6 = .ok (.goto 4, 3) := by decide +kernel
theorem dX12_needing_9 : decode cX12_needing 9 = .ok (.iconst 0, 1) := by decide +kernel
theorem dX12_needing_10 : decode cX12_needing 10 = .ok (.aload_n 0, 1) := by decide +kernel
theorem dX12_needing_11 : decode cX12_needing 11 = .ok (.iload_n 1, 1) := by decide +kernel
theorem dX12_needing_12 : decode cX12_needing 12 = .ok (.invokevirtual 178, 3) := by decide +kernel
theorem dX12_needing_15 : decode cX12_needing 15 = .ok (.invokevirtual 171, 3) := by decide +kernel
theorem dX12_needing_18 : decode cX12_needing 18 = .ok (.ifCond .ne 5, 3) := by decide +kernel
theorem dX12_needing_21 : decode cX12_needing 21 = .ok (.iconst 0, 1) := by decide +kernel
theorem dX12_needing_22 : decode cX12_needing 22 = .ok (.ireturn, 1) := by decide +kernel
theorem dX12_needing_23 : decode cX12_needing 23 = .ok (.iconst 0, 1) := by decide +kernel
theorem dX12_needing_24 : decode cX12_needing 24 = .ok (.istore_n 2, 1) := by decide +kernel
theorem dX12_needing_25 : decode cX12_needing 25 = .ok (.iconst 0, 1) := by decide +kernel
theorem dX12_needing_26 : decode cX12_needing 26 = .ok (.istore_n 3, 1) := by decide +kernel
theorem dX12_needing_27 : decode cX12_needing 27 = .ok (.iload_n 3, 1) := by decide +kernel
theorem dX12_needing_28 : decode cX12_needing 28 = .ok (.aload_n 0, 1) := by decide +kernel
theorem dX12_needing_29 : decode cX12_needing 29 = .ok (.getfield 154, 3) := by decide +kernel
theorem dX12_needing_32 : decode cX12_needing 32 = .ok (.if_icmp .ge 137, 3) := by decide +kernel
theorem dX12_needing_35 : decode cX12_needing 35 = .ok (.aload_n 0, 1) := by decide +kernel
theorem dX12_needing_36 : decode cX12_needing 36 = .ok (.iconst 1, 1) := by decide +kernel
theorem dX12_needing_37 : decode cX12_needing 37 = .ok (.iload_n 3, 1) := by decide +kernel
theorem dX12_needing_38 : decode cX12_needing 38 = .ok (.ishl, 1) := by decide +kernel
theorem dX12_needing_39 : decode cX12_needing 39 = .ok (.invokevirtual 234, 3) := by decide +kernel
theorem dX12_needing_42 : decode cX12_needing 42 = .ok (.istore 4, 2) := by decide +kernel
theorem dX12_needing_44 : decode cX12_needing 44 = .ok (.iload_n 1, 1) := by decide +kernel
theorem dX12_needing_45 : decode cX12_needing 45 = .ok (.bipush 16, 2) := by decide +kernel
theorem dX12_needing_47 : decode cX12_needing 47 = .ok (.if_icmp .lt 20, 3) := by decide +kernel
theorem dX12_needing_50 : decode cX12_needing 50 = .ok (.iload 4, 2) := by decide +kernel
theorem dX12_needing_52 : decode cX12_needing 52 = .ok (.iload_n 1, 1) := by decide +kernel
theorem dX12_needing_53 : decode cX12_needing 53 = .ok (.bipush 16, 2) := by decide +kernel
theorem dX12_needing_55 : decode cX12_needing 55 = .ok (.isub, 1) := by decide +kernel
theorem dX12_needing_56 : decode cX12_needing 56 = .ok (.ishr, 1) := by decide +kernel
theorem dX12_needing_57 : decode cX12_needing 57 = .ok (.iconst 1, 1) := by decide +kernel
theorem dX12_needing_58 : decode cX12_needing 58 = .ok (.iand, 1) := by decide +kernel
theorem dX12_needing_59 : decode cX12_needing 59 = .ok (.iconst 1, 1) := by decide +kernel
theorem dX12_needing_60 : decode cX12_needing 60 = .ok (.if_icmp .ne 7, 3) := by decide +kernel
theorem dX12_needing_63 : decode cX12_needing 63 = .ok (.iconst 1, 1) := by decide +kernel
theorem dX12_needing_64 : decode cX12_needing 64 = .ok (.goto 4, 3) := by decide +kernel
theorem dX12_needing_67 : decode cX12_needing 67 = .ok (.iconst 0, 1) := by decide +kernel
theorem dX12_needing_68 : decode cX12_needing 68 = .ok (.istore 5, 2) := by decide +kernel
theorem dX12_needing_70 : decode cX12_needing 70 = .ok (.iconst 0, 1) := by decide +kernel
theorem dX12_needing_71 : decode cX12_needing 71 = .ok (.istore 6, 2) := by decide +kernel
theorem dX12_needing_73 : decode cX12_needing 73 = .ok (.iload 6, 2) := by decide +kernel
theorem dX12_needing_75 : decode cX12_needing 75 = .ok (.aload_n 0, 1) := by decide +kernel
theorem dX12_needing_76 : decode cX12_needing 76 = .ok (.getfield 154, 3) := by decide +kernel
theorem dX12_needing_79 : decode cX12_needing 79 = .ok (.if_icmp .ge 69, 3) := by decide +kernel
theorem dX12_needing_82 : decode cX12_needing 82 = .ok (.iload_n 1, 1) := by decide +kernel
theorem dX12_needing_83 : decode cX12_needing 83 = .ok (.bipush 16, 2) := by decide +kernel
theorem dX12_needing_85 : decode cX12_needing 85 = .ok (.if_icmp .ge 63, 3) := by decide +kernel
theorem dX12_needing_88 : decode cX12_needing 88 = .ok (.iconst 0, 1) := by decide +kernel
theorem dX12_needing_89 : decode cX12_needing 89 = .ok (.istore 7, 2) := by decide +kernel
theorem dX12_needing_91 : decode cX12_needing 91 = .ok (.iload 7, 2) := by decide +kernel
theorem dX12_needing_93 : decode cX12_needing 93 = .ok (.aload_n 0, 1) := by decide +kernel
theorem dX12_needing_94 : decode cX12_needing 94 = .ok (.getfield 43, 3) := by decide +kernel
theorem dX12_needing_97 : decode cX12_needing 97 = .ok (.iload 6, 2) := by decide +kernel
theorem dX12_needing_99 : decode cX12_needing 99 = .ok (.iaload, 1) := by decide +kernel
theorem dX12_needing_100 : decode cX12_needing 100 = .ok (.if_icmp .ge 42, 3) := by decide +kernel
theorem dX12_needing_103 : decode cX12_needing 103 = .ok (.iload 4, 2) := by decide +kernel
theorem dX12_needing_105 : decode cX12_needing 105 = .ok (.iload 6, 2) := by decide +kernel
theorem dX12_needing_107 : decode cX12_needing 107 = .ok (.ishr, 1) := by decide +kernel
theorem dX12_needing_108 : decode cX12_needing 108 = .ok (.iconst 1, 1) := by decide +kernel
theorem dX12_needing_109 : decode cX12_needing 109 = .ok (.iand, 1) := by decide +kernel
theorem dX12_needing_110 : decode cX12_needing 110 = .ok (.iconst 1, 1) := by decide +kernel
theorem dX12_needing_111 : decode cX12_needing 111 = .ok (.if_icmp .ne 31, 3) := by decide +kernel
theorem dX12_needing_114 : decode cX12_needing 114 = .ok (.iload 5, 2) := by decide +kernel
theorem dX12_needing_116 : decode cX12_needing 116 = .ok (.aload_n 0, 1) := by decide +kernel
theorem dX12_needing_117 : decode cX12_needing 117 = .ok (.iload 6, 2) := by decide +kernel
theorem dX12_needing_119 : decode cX12_needing 119 = .ok (.iload 7, 2) := by decide +kernel
theorem dX12_needing_121 : decode cX12_needing 121 = .ok (.invokevirtual 186, 3) := by decide +kernel
theorem dX12_needing_124 : decode cX12_needing 124 = .ok (.iload_n 1, 1) := by decide +kernel
theorem dX12_needing_125 : decode cX12_needing 125 = .ok (.if_icmp .ne 7, 3) := by decide +kernel
theorem dX12_needing_128 : decode cX12_needing 128 = .ok (.iconst 1, 1) := by decide +kernel
theorem dX12_needing_129 : decode cX12_needing 129 = .ok (.goto 4, 3) := by decide +kernel
theorem dX12_needing_132 : decode cX12_needing 132 = .ok (.iconst 0, 1) := by decide +kernel
theorem dX12_needing_133 : decode cX12_needing 133 = .ok (.ior, 1) := by decide +kernel
theorem dX12_needing_134 : decode cX12_needing 134 = .ok (.istore 5, 2) := by decide +kernel
theorem dX12_needing_136 : decode cX12_needing 136 = .ok (.iinc 7 1, 3) := by decide +kernel
theorem dX12_needing_139 : decode cX12_needing 139 = .ok (.goto (-48), 3) := by decide +kernel
theorem dX12_needing_142 : decode cX12_needing 142 = .ok (.iinc 6 1, 3) := by decide +kernel
theorem dX12_needing_145 : decode cX12_needing 145 = .ok (.goto (-72), 3) := by decide +kernel
theorem dX12_needing_148 : decode cX12_needing 148 = .ok (.iload_n 2, 1) := by decide +kernel
theorem dX12_needing_149 : decode cX12_needing 149 = .ok (.iload 5, 2) := by decide +kernel
theorem dX12_needing_151 : decode cX12_needing 151 = .ok (.ifCond .eq 9, 3) := by decide +kernel
theorem dX12_needing_154 : decode cX12_needing 154 = .ok (.iconst 1, 1) := by decide +kernel
theorem dX12_needing_155 : decode cX12_needing 155 = .ok (.iload_n 3, 1) := by decide +kernel
theorem dX12_needing_156 : decode cX12_needing 156 = .ok (.ishl, 1) := by decide +kernel
theorem dX12_needing_157 : decode cX12_needing 157 = .ok (.goto 4, 3) := by decide +kernel
theorem dX12_needing_160 : decode cX12_needing 160 = .ok (.iconst 0, 1) := by decide +kernel
theorem dX12_needing_161 : decode cX12_needing 161 = .ok (.ior, 1) := by decide +kernel
theorem dX12_needing_162 : decode cX12_needing 162 = .ok (.istore_n 2, 1) := by decide +kernel
theorem dX12_needing_163 : decode cX12_needing 163 = .ok (.iinc 3 1, 3) := by decide +kernel
theorem dX12_needing_166 : decode cX12_needing 166 = .ok (.goto (-139), 3) := by decide +kernel
theorem dX12_needing_169 : decode cX12_needing 169 = .ok (.iload_n 2, 1) := by decide +kernel
theorem dX12_needing_170 : decode cX12_needing 170 = .ok (.ireturn, 1) := by decide +kernel
theorem dX12_steps_0 : decode cX12_steps 0 = .ok (.aload_n 0, 1) := by decide +kernel
theorem dX12_steps_1 : decode cX12_steps 1 = .ok (.aload_n 0, 1) := by decide +kernel
theorem dX12_steps_2 : decode cX12_steps 2 = .ok (.iload_n 1, 1) := by decide +kernel
theorem dX12_steps_3 : decode cX12_steps 3 = .ok (.invokevirtual 174, 3) := by decide +kernel
theorem dX12_steps_6 : decode cX12_steps 6 = .ok (.ifCond .eq 15, 3) := by decide +kernel
theorem dX12_steps_9 : decode cX12_steps 9 = .ok (.aload_n 0, 1) := by decide +kernel
theorem dX12_steps_10 : decode cX12_steps 10 = .ok (.iload_n 2, 1) := by decide +kernel
theorem dX12_steps_11 : decode cX12_steps 11 = .ok (.invokevirtual 174, 3) := by decide +kernel
theorem dX12_steps_14 : decode cX12_steps 14 = .ok (.ifCond .eq 7, 3) := by decide +kernel
theorem dX12_steps_17 : decode cX12_steps 17 = .ok (.iconst 1, 1) := by decide +kernel
theorem dX12_steps_18 : decode cX12_steps 18 = .ok (.goto 4, 3) := by decide +kernel
theorem dX12_steps_21 : decode cX12_steps 21 = .ok (.iconst 0, 1) := by decide +kernel
theorem dX12_steps_22 : decode cX12_steps 22 = .ok (.invokevirtual 161, 3) := by decide +kernel
theorem dX12_steps_25 : decode cX12_steps 25 = .ok (.ifCond .ne 5, 3) := by decide +kernel
theorem dX12_steps_28 : decode cX12_steps 28 = .ok (.iconst 0, 1) := by decide +kernel
theorem dX12_steps_29 : decode cX12_steps 29 = .ok (.ireturn, 1) := by decide +kernel
theorem dX12_steps_30 : decode cX12_steps 30 = .ok (.iconst 1, 1) := by decide +kernel
theorem dX12_steps_31 : decode cX12_steps 31 = .ok (.iload_n 1, 1) := by decide +kernel
theorem dX12_steps_32 : decode cX12_steps 32 = .ok (.ishl, 1) := by decide +kernel
theorem dX12_steps_33 : decode cX12_steps 33 = .ok (.istore_n 3, 1) := by decide +kernel
theorem dX12_steps_34 : decode cX12_steps 34 = .ok (.iconst 0, 1) := by decide +kernel
theorem dX12_steps_35 : decode cX12_steps 35 = .ok (.istore 4, 2) := by decide +kernel
theorem dX12_steps_37 : decode cX12_steps 37 = .ok (.iload 4, 2) := by decide +kernel
theorem dX12_steps_39 : decode cX12_steps 39 = .ok (.aload_n 0, 1) := by decide +kernel
theorem dX12_steps_40 : decode cX12_steps 40 = .ok (.getfield 154, 3) := by decide +kernel
theorem dX12_steps_43 : decode cX12_steps 43 = .ok (.if_icmp .gt 109, 3) := by decide +kernel
theorem dX12_steps_46 : decode cX12_steps 46 = .ok (.iload_n 3, 1) := by decide +kernel
theorem dX12_steps_47 : decode cX12_steps 47 = .ok (.iload_n 2, 1) := by decide +kernel
theorem dX12_steps_48 : decode cX12_steps 48 = .ok (.ishr, 1) := by decide +kernel
theorem dX12_steps_49 : decode cX12_steps 49 = .ok (.iconst 1, 1) := by decide +kernel
theorem dX12_steps_50 : decode cX12_steps 50 = .ok (.iand, 1) := by decide +kernel
theorem dX12_steps_51 : decode cX12_steps 51 = .ok (.iconst 1, 1) := by decide +kernel
theorem dX12_steps_52 : decode cX12_steps 52 = .ok (.if_icmp .ne 6, 3) := by decide +kernel
theorem dX12_steps_55 : decode cX12_steps 55 = .ok (.iload 4, 2) := by decide +kernel
theorem dX12_steps_57 : decode cX12_steps 57 = .ok (.ireturn, 1) := by decide +kernel
theorem dX12_steps_58 : decode cX12_steps 58 = .ok (.iload_n 3, 1) := by decide +kernel
theorem dX12_steps_59 : decode cX12_steps 59 = .ok (.istore 5, 2) := by decide +kernel
theorem dX12_steps_61 : decode cX12_steps 61 = .ok (.iconst 0, 1) := by decide +kernel
theorem dX12_steps_62 : decode cX12_steps 62 = .ok (.istore 6, 2) := by decide +kernel
theorem dX12_steps_64 : decode cX12_steps 64 = .ok (.iload 6, 2) := by decide +kernel
theorem dX12_steps_66 : decode cX12_steps 66 = .ok (.aload_n 0, 1) := by decide +kernel
theorem dX12_steps_67 : decode cX12_steps 67 = .ok (.getfield 154, 3) := by decide +kernel
theorem dX12_steps_70 : decode cX12_steps 70 = .ok (.if_icmp .ge 73, 3) := by decide +kernel
theorem dX12_steps_73 : decode cX12_steps 73 = .ok (.iconst 0, 1) := by decide +kernel
theorem dX12_steps_74 : decode cX12_steps 74 = .ok (.istore 7, 2) := by decide +kernel
theorem dX12_steps_76 : decode cX12_steps 76 = .ok (.iload 7, 2) := by decide +kernel
theorem dX12_steps_78 : decode cX12_steps 78 = .ok (.aload_n 0, 1) := by decide +kernel
theorem dX12_steps_79 : decode cX12_steps 79 = .ok (.getfield 43, 3) := by decide +kernel
theorem dX12_steps_82 : decode cX12_steps 82 = .ok (.iload 6, 2) := by decide +kernel
theorem dX12_steps_84 : decode cX12_steps 84 = .ok (.iaload, 1) := by decide +kernel
theorem dX12_steps_85 : decode cX12_steps 85 = .ok (.if_icmp .ge 52, 3) := by decide +kernel
theorem dX12_steps_88 : decode cX12_steps 88 = .ok (.iload_n 3, 1) := by decide +kernel
theorem dX12_steps_89 : decode cX12_steps 89 = .ok (.iload 6, 2) := by decide +kernel
theorem dX12_steps_91 : decode cX12_steps 91 = .ok (.ishr, 1) := by decide +kernel
theorem dX12_steps_92 : decode cX12_steps 92 = .ok (.iconst 1, 1) := by decide +kernel
theorem dX12_steps_93 : decode cX12_steps 93 = .ok (.iand, 1) := by decide +kernel
theorem dX12_steps_94 : decode cX12_steps 94 = .ok (.iconst 1, 1) := by decide +kernel
theorem dX12_steps_95 : decode cX12_steps 95 = .ok (.if_icmp .ne 42, 3) := by decide +kernel
theorem dX12_steps_98 : decode cX12_steps 98 = .ok (.aload_n 0, 1) := by decide +kernel
theorem dX12_steps_99 : decode cX12_steps 99 = .ok (.iload 6, 2) := by decide +kernel
theorem dX12_steps_101 : decode cX12_steps 101 = .ok (.iload 7, 2) := by decide +kernel
theorem dX12_steps_103 : decode cX12_steps 103 = .ok (.invokevirtual 186, 3) := by decide +kernel
theorem dX12_steps_106 : decode cX12_steps 106 = .ok (.istore 8, 2) := by decide +kernel
theorem dX12_steps_108 : decode cX12_steps 108 = .ok (.iload 5, 2) := by decide +kernel
theorem dX12_steps_110 : decode cX12_steps 110 = .ok (.iload 8, 2) := by decide +kernel
theorem dX12_steps_112 : decode cX12_steps 112 = .ok (.bipush 16, 2) := by decide +kernel
theorem dX12_steps_114 : decode cX12_steps 114 = .ok (.if_icmp .ge 7, 3) := by decide +kernel
theorem dX12_steps_117 : decode cX12_steps 117 = .ok (.iconst 0, 1) := by decide +kernel
theorem dX12_steps_118 : decode cX12_steps 118 = .ok (.goto 10, 3) := by decide +kernel
theorem dX12_steps_121 : decode cX12_steps 121 = .ok (.iconst 1, 1) := by decide +kernel
theorem dX12_steps_122 : decode cX12_steps 122 = .ok (.iload 8, 2) := by decide +kernel
theorem dX12_steps_124 : decode cX12_steps 124 = .ok (.bipush 16, 2) := by decide +kernel
theorem dX12_steps_126 : decode cX12_steps 126 = .ok (.isub, 1) := by decide +kernel
theorem dX12_steps_127 : decode cX12_steps 127 = .ok (.ishl, 1) := by decide +kernel
theorem dX12_steps_128 : decode cX12_steps 128 = .ok (.ior, 1) := by decide +kernel
theorem dX12_steps_129 : decode cX12_steps 129 = .ok (.istore 5, 2) := by decide +kernel
theorem dX12_steps_131 : decode cX12_steps 131 = .ok (.iinc 7 1, 3) := by decide +kernel
theorem dX12_steps_134 : decode cX12_steps 134 = .ok (.goto (-58), 3) := by decide +kernel
theorem dX12_steps_137 : decode cX12_steps 137 = .ok (.iinc 6 1, 3) := by decide +kernel
theorem dX12_steps_140 : decode cX12_steps 140 = .ok (.goto (-76), 3) := by decide +kernel
theorem dX12_steps_143 : decode cX12_steps 143 = .ok (.iload 5, 2) := by decide +kernel
theorem dX12_steps_145 : decode cX12_steps 145 = .ok (.istore_n 3, 1) := by decide +kernel
theorem dX12_steps_146 : decode cX12_steps 146 = .ok (.iinc 4 1, 3) := by decide +kernel
theorem dX12_steps_149 : decode cX12_steps 149 = .ok (.goto (-112), 3) := by decide +kernel
theorem dX12_steps_152 : decode cX12_steps 152 = .ok (.iconst (-1), 1) := by decide +kernel
theorem dX12_steps_153 : decode cX12_steps 153 = .ok (.ireturn, 1) := by decide +kernel
theorem dX12_changes_0 : decode cX12_changes 0 = .ok (.aload_n 0, 1) := by decide +kernel
theorem dX12_changes_1 : decode cX12_changes 1 = .ok (.iconst 0, 1) := by decide +kernel
theorem dX12_changes_2 : decode cX12_changes 2 = .ok (.putfield 150, 3) := by decide +kernel
theorem dX12_changes_5 : decode cX12_changes 5 = .ok (.aload_n 0, 1) := by decide +kernel
theorem dX12_changes_6 : decode cX12_changes 6 = .ok (.getfield 165, 3) := by decide +kernel
theorem dX12_changes_9 : decode cX12_changes 9 = .ok (.ireturn, 1) := by decide +kernel
theorem dX12_isGood_0 : decode cX12_isGood 0 = .ok (.iconst 0, 1) := by decide +kernel
theorem dX12_isGood_1 : decode cX12_isGood 1 = .ok (.istore_n 3, 1) := by decide +kernel
theorem dX12_isGood_2 : decode cX12_isGood 2 = .ok (.iload_n 3, 1) := by decide +kernel
theorem dX12_isGood_3 : decode cX12_isGood 3 = .ok (.bipush 16, 2) := by decide +kernel
theorem dX12_isGood_5 : decode cX12_isGood 5 = .ok (.if_icmp .ge 21, 3) := by decide +kernel
theorem dX12_isGood_8 : decode cX12_isGood 8 = .ok (.aload_n 0, 1) := by decide +kernel
theorem dX12_isGood_9 : decode cX12_isGood 9 = .ok (.getfield 132, 3) := by decide +kernel
theorem dX12_isGood_12 : decode cX12_isGood 12 = .ok (.iload_n 3, 1) := by decide +kernel
theorem dX12_isGood_13 : decode cX12_isGood 13 = .ok (.aload_n 0, 1) := by decide +kernel
theorem dX12_isGood_14 : decode cX12_isGood 14 = .ok (.getfield 7, 3) := by decide +kernel
theorem dX12_isGood_17 : decode cX12_isGood 17 = .ok (.iload_n 3, 1) := by decide +kernel
theorem dX12_isGood_18 : decode cX12_isGood 18 = .ok (.iaload, 1) := by decide +kernel
theorem dX12_isGood_19 : decode cX12_isGood 19 = .ok (.iastore, 1) := by decide +kernel
theorem dX12_isGood_20 : decode cX12_isGood 20 = .ok (.iinc 3 1, 3) := by decide +kernel
theorem dX12_isGood_23 : decode cX12_isGood 23 = .ok (.goto (-21), 3) := by decide +kernel
theorem dX12_isGood_26 : decode cX12_isGood 26 = .ok (.aload_n 0, 1) := by decide +kernel
theorem dX12_isGood_27 : decode cX12_isGood 27 = .ok (.getfield 165, 3) := by decide +kernel
theorem dX12_isGood_30 : decode cX12_isGood 30 = .ok (.iconst 1, 1) := by decide +kernel
theorem dX12_isGood_31 : decode cX12_isGood 31 = .ok (.isub, 1) := by decide +kernel
theorem dX12_isGood_32 : decode cX12_isGood 32 = .ok (.istore_n 3, 1) := by decide +kernel
theorem dX12_isGood_33 : decode cX12_isGood 33 = .ok (.iload_n 3, 1) := by decide +kernel
theorem dX12_isGood_34 : decode cX12_isGood 34 = .ok (.iload_n 2, 1) := by decide +kernel
theorem dX12_isGood_35 : decode cX12_isGood 35 = .ok (.if_icmp .lt 26, 3) := by decide +kernel
theorem dX12_isGood_38 : decode cX12_isGood 38 = .ok (.aload_n 0, 1) := by decide +kernel
theorem dX12_isGood_39 : decode cX12_isGood 39 = .ok (.getfield 132, 3) := by decide +kernel
theorem dX12_isGood_42 : decode cX12_isGood 42 = .ok (.aload_n 0, 1) := by decide +kernel
theorem dX12_isGood_43 : decode cX12_isGood 43 = .ok (.getfield 19, 3) := by decide +kernel
theorem dX12_isGood_46 : decode cX12_isGood 46 = .ok (.iload_n 3, 1) := by decide +kernel
theorem dX12_isGood_47 : decode cX12_isGood 47 = .ok (.iaload, 1) := by decide +kernel
theorem dX12_isGood_48 : decode cX12_isGood 48 = .ok (.aload_n 0, 1) := by decide +kernel
theorem dX12_isGood_49 : decode cX12_isGood 49 = .ok (.getfield 22, 3) := by decide +kernel
theorem dX12_isGood_52 : decode cX12_isGood 52 = .ok (.iload_n 3, 1) := by decide +kernel
theorem dX12_isGood_53 : decode cX12_isGood 53 = .ok (.iaload, 1) := by decide +kernel
theorem dX12_isGood_54 : decode cX12_isGood 54 = .ok (.iastore, 1) := by decide +kernel
theorem dX12_isGood_55 : decode cX12_isGood 55 = .ok (.iinc 3 (-1), 3) := by decide +kernel
theorem dX12_isGood_58 : decode cX12_isGood 58 = .ok (.goto (-25), 3) := by decide +kernel
theorem dX12_isGood_61 : decode cX12_isGood 61 = .ok (.aload_n 0, 1) := by decide +kernel
theorem dX12_isGood_62 : decode cX12_isGood 62 = .ok (.invokevirtual 204, 3) := by decide +kernel
theorem dX12_isGood_65 : decode cX12_isGood 65 = .ok (.aload_n 0, 1) := by decide +kernel
theorem dX12_isGood_66 : decode cX12_isGood 66 = .ok (.getfield 141, 3) := by decide +kernel
theorem dX12_isGood_69 : decode cX12_isGood 69 = .ok (.iload_n 1, 1) := by decide +kernel
theorem dX12_isGood_70 : decode cX12_isGood 70 = .ok (.baload, 1) := by decide +kernel
theorem dX12_isGood_71 : decode cX12_isGood 71 = .ok (.ireturn, 1) := by decide +kernel
theorem dX12_bisect_0 : decode cX12_bisect 0 = .ok (.aload_n 0, 1) := by decide +kernel
theorem dX12_bisect_1 : decode cX12_bisect 1 = .ok (.aload_n 0, 1) := by decide +kernel
theorem dX12_bisect_2 : decode cX12_bisect 2 = .ok (.iload_n 1, 1) := by decide +kernel
theorem dX12_bisect_3 : decode cX12_bisect 3 = .ok (.invokevirtual 174, 3) := by decide +kernel
theorem dX12_bisect_6 : decode cX12_bisect 6 = .ok (.invokevirtual 161, 3) := by decide +kernel
theorem dX12_bisect_9 : decode cX12_bisect 9 = .ok (.ifCond .ne 5, 3) := by decide +kernel
theorem dX12_bisect_12 : decode cX12_bisect 12 = .ok (.iconst 0, 1) := by decide +kernel
theorem dX12_bisect_13 : decode cX12_bisect 13 = .ok (.ireturn, 1) := by decide +kernel
theorem dX12_bisect_14 : decode cX12_bisect 14 = .ok (.aload_n 0, 1) := by decide +kernel
theorem dX12_bisect_15 : decode cX12_bisect 15 = .ok (.iconst 0, 1) := by decide +kernel
theorem dX12_bisect_16 : decode cX12_bisect 16 = .ok (.putfield 298, 3) := by decide +kernel
theorem dX12_bisect_19 : decode cX12_bisect 19 = .ok (.aload_n 0, 1) := by decide +kernel
theorem dX12_bisect_20 : decode cX12_bisect 20 = .ok (.iload_n 1, 1) := by decide +kernel
theorem dX12_bisect_21 : decode cX12_bisect 21 = .ok (.iconst 0, 1) := by decide +kernel
theorem dX12_bisect_22 : decode cX12_bisect 22 = .ok (.invokevirtual 301, 3) := by decide +kernel
theorem dX12_bisect_25 : decode cX12_bisect 25 = .ok (.ifCond .eq 15, 3) := by decide +kernel
theorem dX12_bisect_28 : decode cX12_bisect 28 = .ok (.aload_n 0, 1) := by decide +kernel
theorem dX12_bisect_29 : decode cX12_bisect 29 = .ok (.iload_n 1, 1) := by decide +kernel
theorem dX12_bisect_30 : decode cX12_bisect 30 = .ok (.aload_n 0, 1) := by decide +kernel
theorem dX12_bisect_31 : decode cX12_bisect 31 = .ok (.getfield 165, 3) := by decide +kernel
theorem dX12_bisect_34 : decode cX12_bisect 34 = .ok (.invokevirtual 301, 3) := by decide +kernel
theorem dX12_bisect_37 : decode cX12_bisect 37 = .ok (.ifCond .eq 5, 3) := by decide +kernel
theorem dX12_bisect_40 : decode cX12_bisect 40 = .ok (.iconst (-1), 1) := by decide +kernel
theorem dX12_bisect_41 : decode cX12_bisect 41 = .ok (.ireturn, 1) := by decide +kernel
theorem dX12_bisect_42 : decode cX12_bisect 42 = .ok (.iconst 0, 1) := by decide +kernel
theorem dX12_bisect_43 : decode cX12_bisect 43 = .ok (.istore_n 2, 1) := by decide +kernel
theorem dX12_bisect_44 : decode cX12_bisect 44 = .ok (.aload_n 0, 1) := by decide +kernel
theorem dX12_bisect_45 : decode cX12_bisect 45 = .ok (.getfield 165, 3) := by decide +kernel
theorem dX12_bisect_48 : decode cX12_bisect 48 = .ok (.istore_n 3, 1) := by decide +kernel
theorem dX12_bisect_49 : decode cX12_bisect 49 = .ok (.iload_n 3, 1) := by decide +kernel
theorem dX12_bisect_50 : decode cX12_bisect 50 = .ok (.iload_n 2, 1) := by decide +kernel
theorem dX12_bisect_51 : decode cX12_bisect 51 = .ok (.isub, 1) := by decide +kernel
theorem dX12_bisect_52 : decode cX12_bisect 52 = .ok (.iconst 1, 1) := by decide +kernel
theorem dX12_bisect_53 : decode cX12_bisect 53 = .ok (.if_icmp .le 42, 3) := by decide +kernel
theorem dX12_bisect_56 : decode cX12_bisect 56 = .ok (.iload_n 2, 1) := by decide +kernel
theorem dX12_bisect_57 : decode cX12_bisect 57 = .ok (.iload_n 3, 1) := by decide +kernel
theorem dX12_bisect_58 : decode cX12_bisect 58 = .ok (.iadd, 1) := by decide +kernel
theorem dX12_bisect_59 : decode cX12_bisect 59 = .ok (.iconst 2, 1) := by decide +kernel
theorem dX12_bisect_60 : decode cX12_bisect 60 = .ok (.idiv, 1) := by decide +kernel
theorem dX12_bisect_61 : decode cX12_bisect 61 = .ok (.istore 4, 2) := by decide +kernel
theorem dX12_bisect_63 : decode cX12_bisect 63 = .ok (.aload_n 0, 1) := by decide +kernel
theorem dX12_bisect_64 : decode cX12_bisect 64 = .ok (.dup, 1) := by decide +kernel
theorem dX12_bisect_65 : decode cX12_bisect 65 = .ok (.getfield 298, 3) := by decide +kernel
theorem dX12_bisect_68 : decode cX12_bisect 68 = .ok (.iconst 1, 1) := by decide +kernel
theorem dX12_bisect_69 : decode cX12_bisect 69 = .ok (.iadd, 1) := by decide +kernel
theorem dX12_bisect_70 : decode cX12_bisect 70 = .ok (.putfield 298, 3) := by decide +kernel
theorem dX12_bisect_73 : decode cX12_bisect 73 = .ok (.aload_n 0, 1) := by decide +kernel
theorem dX12_bisect_74 : decode cX12_bisect 74 = .ok (.iload_n 1, 1) := by decide +kernel
theorem dX12_bisect_75 : decode cX12_bisect 75 = .ok (.iload 4, 2) := by decide +kernel
theorem dX12_bisect_77 : decode cX12_bisect 77 = .ok (.invokevirtual 301, 3) := by decide +kernel
theorem dX12_bisect_80 : decode cX12_bisect 80 = .ok (.ifCond .eq 9, 3) := by decide +kernel
theorem dX12_bisect_83 : decode cX12_bisect 83 = .ok (.iload 4, 2) := by decide +kernel
theorem dX12_bisect_85 : decode cX12_bisect 85 = .ok (.istore_n 2, 1) := by decide +kernel
theorem dX12_bisect_86 : decode cX12_bisect 86 = .ok (.goto 6, 3) := by decide +kernel
theorem dX12_bisect_89 : decode cX12_bisect 89 = .ok (.iload 4, 2) := by decide +kernel
theorem dX12_bisect_91 : decode cX12_bisect 91 = .ok (.istore_n 3, 1) := by decide +kernel
theorem dX12_bisect_92 : decode cX12_bisect 92 = .ok (.goto (-43), 3) := by decide +kernel
theorem dX12_bisect_95 : decode cX12_bisect 95 = .ok (.iload_n 3, 1) := by decide +kernel
theorem dX12_bisect_96 : decode cX12_bisect 96 = .ok (.iconst 1, 1) := by decide +kernel
theorem dX12_bisect_97 : decode cX12_bisect 97 = .ok (.isub, 1) := by decide +kernel
theorem dX12_bisect_98 : decode cX12_bisect 98 = .ok (.ireturn, 1) := by decide +kernel
theorem dX12_looks_0 : decode cX12_looks 0 = .ok (.aload_n 0, 1) := by decide +kernel
theorem dX12_looks_1 : decode cX12_looks 1 = .ok (.iconst 0, 1) := by decide +kernel
theorem dX12_looks_2 : decode cX12_looks 2 = .ok (.putfield 150, 3) := by decide +kernel
theorem dX12_looks_5 : decode cX12_looks 5 = .ok (.aload_n 0, 1) := by decide +kernel
theorem dX12_looks_6 : decode cX12_looks 6 = .ok (.getfield 298, 3) := by decide +kernel
theorem dX12_looks_9 : decode cX12_looks 9 = .ok (.ireturn, 1) := by decide +kernel
