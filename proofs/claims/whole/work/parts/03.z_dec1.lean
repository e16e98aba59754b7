/-! the printed decode rows -/
theorem dX12_init_0 : decode cX12_init 0 = .ok (.aload_n 0, 1) := by decide +kernel
theorem dX12_init_1 : decode cX12_init 1 = .ok (.invokespecial 1, 3) := by decide +kernel
theorem dX12_init_4 : decode cX12_init 4 = .ok (.aload_n 0, 1) := by decide +kernel
theorem dX12_init_5 : decode cX12_init 5 = .ok (.bipush 90, 2) := by decide +kernel
theorem dX12_init_7 : decode cX12_init 7 = .ok (.newarray .int, 2) := by decide +kernel
theorem dX12_init_9 : decode cX12_init 9 = .ok (.putfield 7, 3) := by decide +kernel
theorem dX12_init_12 : decode cX12_init 12 = .ok (.aload_n 0, 1) := by decide +kernel
theorem dX12_init_13 : decode cX12_init 13 = .ok (.bipush 96, 2) := by decide +kernel
theorem dX12_init_15 : decode cX12_init 15 = .ok (.newarray .int, 2) := by decide +kernel
theorem dX12_init_17 : decode cX12_init 17 = .ok (.putfield 13, 3) := by decide +kernel
theorem dX12_init_20 : decode cX12_init 20 = .ok (.aload_n 0, 1) := by decide +kernel
theorem dX12_init_21 : decode cX12_init 21 = .ok (.bipush 96, 2) := by decide +kernel
theorem dX12_init_23 : decode cX12_init 23 = .ok (.newarray .boolean, 2) := by decide +kernel
theorem dX12_init_25 : decode cX12_init 25 = .ok (.putfield 16, 3) := by decide +kernel
theorem dX12_init_28 : decode cX12_init 28 = .ok (.aload_n 0, 1) := by decide +kernel
theorem dX12_init_29 : decode cX12_init 29 = .ok (.bipush 96, 2) := by decide +kernel
theorem dX12_init_31 : decode cX12_init 31 = .ok (.newarray .int, 2) := by decide +kernel
theorem dX12_init_33 : decode cX12_init 33 = .ok (.putfield 20, 3) := by decide +kernel
theorem dX12_init_36 : decode cX12_init 36 = .ok (.aload_n 0, 1) := by decide +kernel
theorem dX12_init_37 : decode cX12_init 37 = .ok (.sipush 480, 3) := by decide +kernel
theorem dX12_init_40 : decode cX12_init 40 = .ok (.newarray .int, 2) := by decide +kernel
theorem dX12_init_42 : decode cX12_init 42 = .ok (.putfield 23, 3) := by decide +kernel
theorem dX12_init_45 : decode cX12_init 45 = .ok (.aload_n 0, 1) := by decide +kernel
theorem dX12_init_46 : decode cX12_init 46 = .ok (.bipush 80, 2) := by decide +kernel
theorem dX12_init_48 : decode cX12_init 48 = .ok (.newarray .int, 2) := by decide +kernel
theorem dX12_init_50 : decode cX12_init 50 = .ok (.putfield 26, 3) := by decide +kernel
theorem dX12_init_53 : decode cX12_init 53 = .ok (.aload_n 0, 1) := by decide +kernel
theorem dX12_init_54 : decode cX12_init 54 = .ok (.bipush 80, 2) := by decide +kernel
theorem dX12_init_56 : decode cX12_init 56 = .ok (.newarray .int, 2) := by decide +kernel
theorem dX12_init_58 : decode cX12_init 58 = .ok (.putfield 29, 3) := by decide +kernel
theorem dX12_init_61 : decode cX12_init 61 = .ok (.aload_n 0, 1) := by decide +kernel
theorem dX12_init_62 : decode cX12_init 62 = .ok (.bipush 80, 2) := by decide +kernel
theorem dX12_init_64 : decode cX12_init 64 = .ok (.newarray .int, 2) := by decide +kernel
theorem dX12_init_66 : decode cX12_init 66 = .ok (.putfield 32, 3) := by decide +kernel
theorem dX12_init_69 : decode cX12_init 69 = .ok (.aload_n 0, 1) := by decide +kernel
theorem dX12_init_70 : decode cX12_init 70 = .ok (.bipush 80, 2) := by decide +kernel
theorem dX12_init_72 : decode cX12_init 72 = .ok (.newarray .int, 2) := by decide +kernel
theorem dX12_init_74 : decode cX12_init 74 = .ok (.putfield 35, 3) := by decide +kernel
theorem dX12_init_77 : decode cX12_init 77 = .ok (.aload_n 0, 1) := by decide +kernel
theorem dX12_init_78 : decode cX12_init 78 = .ok (.bipush 80, 2) := by decide +kernel
theorem dX12_init_80 : decode cX12_init 80 = .ok (.newarray .int, 2) := by decide +kernel
theorem dX12_init_82 : decode cX12_init 82 = .ok (.putfield 38, 3) := by decide +kernel
theorem dX12_init_85 : decode cX12_init 85 = .ok (.aload_n 0, 1) := by decide +kernel
theorem dX12_init_86 : decode cX12_init 86 = .ok (.bipush 80, 2) := by decide +kernel
theorem dX12_init_88 : decode cX12_init 88 = .ok (.newarray .int, 2) := by decide +kernel
theorem dX12_init_90 : decode cX12_init 90 = .ok (.putfield 41, 3) := by decide +kernel
theorem dX12_init_93 : decode cX12_init 93 = .ok (.aload_n 0, 1) := by decide +kernel
theorem dX12_init_94 : decode cX12_init 94 = .ok (.bipush 80, 2) := by decide +kernel
theorem dX12_init_96 : decode cX12_init 96 = .ok (.newarray .int, 2) := by decide +kernel
theorem dX12_init_98 : decode cX12_init 98 = .ok (.putfield 44, 3) := by decide +kernel
theorem dX12_init_101 : decode cX12_init 101 = .ok (.aload_n 0, 1) := by decide +kernel
theorem dX12_init_102 : decode cX12_init 102 = .ok (.bipush 80, 2) := by decide +kernel
theorem dX12_init_104 : decode cX12_init 104 = .ok (.newarray .int, 2) := by decide +kernel
theorem dX12_init_106 : decode cX12_init 106 = .ok (.putfield 47, 3) := by decide +kernel
theorem dX12_init_109 : decode cX12_init 109 = .ok (.aload_n 0, 1) := by decide +kernel
theorem dX12_init_110 : decode cX12_init 110 = .ok (.bipush 80, 2) := by decide +kernel
theorem dX12_init_112 : decode cX12_init 112 = .ok (.newarray .int, 2) := by decide +kernel
theorem dX12_init_114 : decode cX12_init 114 = .ok (.putfield 50, 3) := by decide +kernel
theorem dX12_init_117 : decode cX12_init 117 = .ok (.aload_n 0, 1) := by decide +kernel
theorem dX12_init_118 : decode cX12_init 118 = .ok (.sipush 1600, 3) := by decide +kernel
theorem dX12_init_121 : decode cX12_init 121 = .ok (.newarray .int, 2) := by decide +kernel
theorem dX12_init_123 : decode cX12_init 123 = .ok (.putfield 53, 3) := by decide +kernel
theorem dX12_init_126 : decode cX12_init 126 = .ok (.aload_n 0, 1) := by decide +kernel
theorem dX12_init_127 : decode cX12_init 127 = .ok (.bipush 8, 2) := by decide +kernel
theorem dX12_init_129 : decode cX12_init 129 = .ok (.newarray .int, 2) := by decide +kernel
theorem dX12_init_131 : decode cX12_init 131 = .ok (.putfield 56, 3) := by decide +kernel
theorem dX12_init_134 : decode cX12_init 134 = .ok (.aload_n 0, 1) := by decide +kernel
theorem dX12_init_135 : decode cX12_init 135 = .ok (.bipush 8, 2) := by decide +kernel
theorem dX12_init_137 : decode cX12_init 137 = .ok (.newarray .int, 2) := by decide +kernel
theorem dX12_init_139 : decode cX12_init 139 = .ok (.putfield 59, 3) := by decide +kernel
theorem dX12_init_142 : decode cX12_init 142 = .ok (.aload_n 0, 1) := by decide +kernel
theorem dX12_init_143 : decode cX12_init 143 = .ok (.bipush 8, 2) := by decide +kernel
theorem dX12_init_145 : decode cX12_init 145 = .ok (.newarray .int, 2) := by decide +kernel
theorem dX12_init_147 : decode cX12_init 147 = .ok (.putfield 62, 3) := by decide +kernel
theorem dX12_init_150 : decode cX12_init 150 = .ok (.aload_n 0, 1) := by decide +kernel
theorem dX12_init_151 : decode cX12_init 151 = .ok (.iconst 2, 1) := by decide +kernel
theorem dX12_init_152 : decode cX12_init 152 = .ok (.putfield 65, 3) := by decide +kernel
theorem dX12_init_155 : decode cX12_init 155 = .ok (.aload_n 0, 1) := by decide +kernel
theorem dX12_init_156 : decode cX12_init 156 = .ok (.bipush 100, 2) := by decide +kernel
theorem dX12_init_158 : decode cX12_init 158 = .ok (.newarray .int, 2) := by decide +kernel
theorem dX12_init_160 : decode cX12_init 160 = .ok (.putfield 69, 3) := by decide +kernel
theorem dX12_init_163 : decode cX12_init 163 = .ok (.aload_n 0, 1) := by decide +kernel
theorem dX12_init_164 : decode cX12_init 164 = .ok (.bipush 100, 2) := by decide +kernel
theorem dX12_init_166 : decode cX12_init 166 = .ok (.newarray .int, 2) := by decide +kernel
theorem dX12_init_168 : decode cX12_init 168 = .ok (.putfield 72, 3) := by decide +kernel
theorem dX12_init_171 : decode cX12_init 171 = .ok (.aload_n 0, 1) := by decide +kernel
theorem dX12_init_172 : decode cX12_init 172 = .ok (.bipush 100, 2) := by decide +kernel
theorem dX12_init_174 : decode cX12_init 174 = .ok (.newarray .int, 2) := by decide +kernel
theorem dX12_init_176 : decode cX12_init 176 = .ok (.putfield 75, 3) := by decide +kernel
theorem dX12_init_179 : decode cX12_init 179 = .ok (.aload_n 0, 1) := by decide +kernel
theorem dX12_init_180 : decode cX12_init 180 = .ok (.bipush 60, 2) := by decide +kernel
theorem dX12_init_182 : decode cX12_init 182 = .ok (.newarray .int, 2) := by decide +kernel
theorem dX12_init_184 : decode cX12_init 184 = .ok (.putfield 78, 3) := by decide +kernel
theorem dX12_init_187 : decode cX12_init 187 = .ok (.aload_n 0, 1) := by decide +kernel
theorem dX12_init_188 : decode cX12_init 188 = .ok (.bipush 60, 2) := by decide +kernel
theorem dX12_init_190 : decode cX12_init 190 = .ok (.newarray .int, 2) := by decide +kernel
theorem dX12_init_192 : decode cX12_init 192 = .ok (.putfield 81, 3) := by decide +kernel
theorem dX12_init_195 : decode cX12_init 195 = .ok (.aload_n 0, 1) := by decide +kernel
theorem dX12_init_196 : decode cX12_init 196 = .ok (.bipush 60, 2) := by decide +kernel
theorem dX12_init_198 : decode cX12_init 198 = .ok (.newarray .int, 2) := by decide +kernel
theorem dX12_init_200 : decode cX12_init 200 = .ok (.putfield 84, 3) := by decide +kernel
theorem dX12_init_203 : decode cX12_init 203 = .ok (.aload_n 0, 1) := by decide +kernel
theorem dX12_init_204 : decode cX12_init 204 = .ok (.bipush 30, 2) := by decide +kernel
theorem dX12_init_206 : decode cX12_init 206 = .ok (.newarray .int, 2) := by decide +kernel
theorem dX12_init_208 : decode cX12_init 208 = .ok (.putfield 87, 3) := by decide +kernel
theorem dX12_init_211 : decode cX12_init 211 = .ok (.aload_n 0, 1) := by decide +kernel
theorem dX12_init_212 : decode cX12_init 212 = .ok (.bipush 30, 2) := by decide +kernel
theorem dX12_init_214 : decode cX12_init 214 = .ok (.newarray .int, 2) := by decide +kernel
theorem dX12_init_216 : decode cX12_init 216 = .ok (.putfield 90, 3) := by decide +kernel
theorem dX12_init_219 : decode cX12_init 219 = .ok (.aload_n 0, 1) := by decide +kernel
theorem dX12_init_220 : decode cX12_init 220 = .ok (.bipush 30, 2) := by decide +kernel
theorem dX12_init_222 : decode cX12_init 222 = .ok (.newarray .int, 2) := by decide +kernel
theorem dX12_init_224 : decode cX12_init 224 = .ok (.putfield 93, 3) := by decide +kernel
theorem dX12_init_227 : decode cX12_init 227 = .ok (.aload_n 0, 1) := by decide +kernel
theorem dX12_init_228 : decode cX12_init 228 = .ok (.bipush 30, 2) := by decide +kernel
theorem dX12_init_230 : decode cX12_init 230 = .ok (.newarray .int, 2) := by decide +kernel
theorem dX12_init_232 : decode cX12_init 232 = .ok (.putfield 96, 3) := by decide +kernel
theorem dX12_init_235 : decode cX12_init 235 = .ok (.aload_n 0, 1) := by decide +kernel
theorem dX12_init_236 : decode cX12_init 236 = .ok (.bipush 30, 2) := by decide +kernel
theorem dX12_init_238 : decode cX12_init 238 = .ok (.newarray .int, 2) := by decide +kernel
theorem dX12_init_240 : decode cX12_init 240 = .ok (.putfield 99, 3) := by decide +kernel
theorem dX12_init_243 : decode cX12_init 243 = .ok (.aload_n 0, 1) := by decide +kernel
theorem dX12_init_244 : decode cX12_init 244 = .ok (.bipush 30, 2) := by decide +kernel
theorem dX12_init_246 : decode cX12_init 246 = .ok (.newarray .int, 2) := by decide +kernel
theorem dX12_init_248 : decode cX12_init 248 = .ok (.putfield 102, 3) := by decide +kernel
theorem dX12_init_251 : decode cX12_init 251 = .ok (.aload_n 0, 1) := by decide +kernel
theorem dX12_init_252 : decode cX12_init 252 = .ok (.bipush 30, 2) := by decide +kernel
theorem dX12_init_254 : decode cX12_init 254 = .ok (.newarray .int, 2) := by decide +kernel
theorem dX12_init_256 : decode cX12_init 256 = .ok (.putfield 105, 3) := by decide +kernel
theorem dX12_init_259 : decode cX12_init 259 = .ok (.aload_n 0, 1) := by decide +kernel
theorem dX12_init_260 : decode cX12_init 260 = .ok (.bipush 30, 2) := by decide +kernel
theorem dX12_init_262 : decode cX12_init 262 = .ok (.newarray .int, 2) := by decide +kernel
theorem dX12_init_264 : decode cX12_init 264 = .ok (.putfield 108, 3) := by decide +kernel
theorem dX12_init_267 : decode cX12_init 267 = .ok (.aload_n 0, 1) := by decide +kernel
theorem dX12_init_268 : decode cX12_init 268 = .ok (.bipush 8, 2) := by decide +kernel
theorem dX12_init_270 : decode cX12_init 270 = .ok (.newarray .int, 2) := by decide +kernel
theorem dX12_init_272 : decode cX12_init 272 = .ok (.putfield 111, 3) := by decide +kernel
theorem dX12_init_275 : decode cX12_init 275 = .ok (.aload_n 0, 1) := by decide +kernel
theorem dX12_init_276 : decode cX12_init 276 = .ok (.iconst 5, 1) := by decide +kernel
theorem dX12_init_277 : decode cX12_init 277 = .ok (.newarray .int, 2) := by decide +kernel
theorem dX12_init_279 : decode cX12_init 279 = .ok (.putfield 114, 3) := by decide +kernel
theorem dX12_init_282 : decode cX12_init 282 = .ok (.aload_n 0, 1) := by decide +kernel
theorem dX12_init_283 : decode cX12_init 283 = .ok (.bipush 15, 2) := by decide +kernel
theorem dX12_init_285 : decode cX12_init 285 = .ok (.newarray .int, 2) := by decide +kernel
theorem dX12_init_287 : decode cX12_init 287 = .ok (.putfield 117, 3) := by decide +kernel
theorem dX12_init_290 : decode cX12_init 290 = .ok (.aload_n 0, 1) := by decide +kernel
theorem dX12_init_291 : decode cX12_init 291 = .ok (.bipush 7, 2) := by decide +kernel
theorem dX12_init_293 : decode cX12_init 293 = .ok (.newarray .int, 2) := by decide +kernel
theorem dX12_init_295 : decode cX12_init 295 = .ok (.putfield 120, 3) := by decide +kernel
theorem dX12_init_298 : decode cX12_init 298 = .ok (.aload_n 0, 1) := by decide +kernel
theorem dX12_init_299 : decode cX12_init 299 = .ok (.bipush 63, 2) := by decide +kernel
theorem dX12_init_301 : decode cX12_init 301 = .ok (.newarray .int, 2) := by decide +kernel
theorem dX12_init_303 : decode cX12_init 303 = .ok (.putfield 123, 3) := by decide +kernel
theorem dX12_init_306 : decode cX12_init 306 = .ok (.aload_n 0, 1) := by decide +kernel
theorem dX12_init_307 : decode cX12_init 307 = .ok (.bipush 8, 2) := by decide +kernel
theorem dX12_init_309 : decode cX12_init 309 = .ok (.newarray .int, 2) := by decide +kernel
theorem dX12_init_311 : decode cX12_init 311 = .ok (.dup, 1) := by decide +kernel
theorem dX12_init_312 : decode cX12_init 312 = .ok (.iconst 0, 1) := by decide +kernel
theorem dX12_init_313 : decode cX12_init 313 = .ok (.iconst 1, 1) := by decide +kernel
theorem dX12_init_314 : decode cX12_init 314 = .ok (.iastore, 1) := by decide +kernel
theorem dX12_init_315 : decode cX12_init 315 = .ok (.dup, 1) := by decide +kernel
theorem dX12_init_316 : decode cX12_init 316 = .ok (.iconst 1, 1) := by decide +kernel
theorem dX12_init_317 : decode cX12_init 317 = .ok (.iconst 1, 1) := by decide +kernel
theorem dX12_init_318 : decode cX12_init 318 = .ok (.iastore, 1) := by decide +kernel
theorem dX12_init_319 : decode cX12_init 319 = .ok (.dup, 1) := by decide +kernel
theorem dX12_init_320 : decode cX12_init 320 = .ok (.iconst 2, 1) := by decide +kernel
theorem dX12_init_321 : decode cX12_init 321 = .ok (.iconst 1, 1) := by decide +kernel
theorem dX12_init_322 : decode cX12_init 322 = .ok (.iastore, 1) := by decide +kernel
theorem dX12_init_323 : decode cX12_init 323 = .ok (.dup, 1) := by decide +kernel
theorem dX12_init_324 : decode cX12_init 324 = .ok (.iconst 3, 1) := by decide +kernel
theorem dX12_init_325 : decode cX12_init 325 = .ok (.iconst 1, 1) := by decide +kernel
theorem dX12_init_326 : decode cX12_init 326 = .ok (.iastore, 1) := by decide +kernel
theorem dX12_init_327 : decode cX12_init 327 = .ok (.dup, 1) := by decide +kernel
theorem dX12_init_328 : decode cX12_init 328 = .ok (.iconst 4, 1) := by decide +kernel
theorem dX12_init_329 : decode cX12_init 329 = .ok (.iconst 1, 1) := by decide +kernel
theorem dX12_init_330 : decode cX12_init 330 = .ok (.iastore, 1) := by decide +kernel
theorem dX12_init_331 : decode cX12_init 331 = .ok (.dup, 1) := by decide +kernel
theorem dX12_init_332 : decode cX12_init 332 = .ok (.iconst 5, 1) := by decide +kernel
theorem dX12_init_333 : decode cX12_init 333 = .ok (.iconst 1, 1) := by decide +kernel
theorem dX12_init_334 : decode cX12_init 334 = .ok (.iastore, 1) := by decide +kernel
theorem dX12_init_335 : decode cX12_init 335 = .ok (.dup, 1) := by decide +kernel
theorem dX12_init_336 : decode cX12_init 336 = .ok (.bipush 6, 2) := by decide +kernel
theorem dX12_init_338 : decode cX12_init 338 = .ok (.iconst 1, 1) := by decide +kernel
theorem dX12_init_339 : decode cX12_init 339 = .ok (.iastore, 1) := by decide +kernel
theorem dX12_init_340 : decode cX12_init 340 = .ok (.dup, 1) := by decide +kernel
theorem dX12_init_341 : decode cX12_init 341 = .ok (.bipush 7, 2) := by decide +kernel
theorem dX12_init_343 : decode cX12_init 343 = .ok (.iconst 1, 1) := by decide +kernel
theorem dX12_init_344 : decode cX12_init 344 = .ok (.iastore, 1) := by decide +kernel
theorem dX12_init_345 : decode cX12_init 345 = .ok (.putfield 126, 3) := by decide +kernel
theorem dX12_init_348 : decode cX12_init 348 = .ok (.aload_n 0, 1) := by decide +kernel
theorem dX12_init_349 : decode cX12_init 349 = .ok (.bipush 8, 2) := by decide +kernel
theorem dX12_init_351 : decode cX12_init 351 = .ok (.newarray .int, 2) := by decide +kernel
theorem dX12_init_353 : decode cX12_init 353 = .ok (.putfield 129, 3) := by decide +kernel
theorem dX12_init_356 : decode cX12_init 356 = .ok (.aload_n 0, 1) := by decide +kernel
theorem dX12_init_357 : decode cX12_init 357 = .ok (.bipush 8, 2) := by decide +kernel
theorem dX12_init_359 : decode cX12_init 359 = .ok (.newarray .int, 2) := by decide +kernel
theorem dX12_init_361 : decode cX12_init 361 = .ok (.dup, 1) := by decide +kernel
theorem dX12_init_362 : decode cX12_init 362 = .ok (.iconst 0, 1) := by decide +kernel
theorem dX12_init_363 : decode cX12_init 363 = .ok (.iconst (-1), 1) := by decide +kernel
theorem dX12_init_364 : decode cX12_init 364 = .ok (.iastore, 1) := by decide +kernel
theorem dX12_init_365 : decode cX12_init 365 = .ok (.dup, 1) := by decide +kernel
theorem dX12_init_366 : decode cX12_init 366 = .ok (.iconst 1, 1) := by decide +kernel
theorem dX12_init_367 : decode cX12_init 367 = .ok (.iconst (-1), 1) := by decide +kernel
theorem dX12_init_368 : decode cX12_init 368 = .ok (.iastore, 1) := by decide +kernel
theorem dX12_init_369 : decode cX12_init 369 = .ok (.dup, 1) := by decide +kernel
theorem dX12_init_370 : decode cX12_init 370 = .ok (.iconst 2, 1) := by decide +kernel
theorem dX12_init_371 : decode cX12_init 371 = .ok (.iconst (-1), 1) := by decide +kernel
theorem dX12_init_372 : decode cX12_init 372 = .ok (.iastore, 1) := by decide +kernel
theorem dX12_init_373 : decode cX12_init 373 = .ok (.dup, 1) := by decide +kernel
theorem dX12_init_374 : decode cX12_init 374 = .ok (.iconst 3, 1) := by decide +kernel
theorem dX12_init_375 : decode cX12_init 375 = .ok (.iconst (-1), 1) := by decide +kernel
theorem dX12_init_376 : decode cX12_init 376 = .ok (.iastore, 1) := by decide +kernel
theorem dX12_init_377 : decode cX12_init 377 = .ok (.dup, 1) := by decide +kernel
theorem dX12_init_378 : decode cX12_init 378 = .ok (.iconst 4, 1) := by decide +kernel
theorem dX12_init_379 : decode cX12_init 379 = .ok (.iconst (-1), 1) := by decide +kernel
theorem dX12_init_380 : decode cX12_init 380 = .ok (.iastore, 1) := by decide +kernel
theorem dX12_init_381 : decode cX12_init 381 = .ok (.dup, 1) := by decide +kernel
theorem dX12_init_382 : decode cX12_init 382 = .ok (.iconst 5, 1) := by decide +kernel
theorem dX12_init_383 : decode cX12_init 383 = .ok (.iconst (-1), 1) := by decide +kernel
theorem dX12_init_384 : decode cX12_init 384 = .ok (.iastore, 1) := by decide +kernel
theorem dX12_init_385 : decode cX12_init 385 = .ok (.dup, 1) := by decide +kernel
theorem dX12_init_386 : decode cX12_init 386 = .ok (.bipush 6, 2) := by decide +kernel
theorem dX12_init_388 : decode cX12_init 388 = .ok (.iconst (-1), 1) := by decide +kernel
theorem dX12_init_389 : decode cX12_init 389 = .ok (.iastore, 1) := by decide +kernel
theorem dX12_init_390 : decode cX12_init 390 = .ok (.dup, 1) := by decide +kernel
theorem dX12_init_391 : decode cX12_init 391 = .ok (.bipush 7, 2) := by decide +kernel
theorem dX12_init_393 : decode cX12_init 393 = .ok (.iconst (-1), 1) := by decide +kernel
theorem dX12_init_394 : decode cX12_init 394 = .ok (.iastore, 1) := by decide +kernel
theorem dX12_init_395 : decode cX12_init 395 = .ok (.putfield 132, 3) := by decide +kernel
theorem dX12_init_398 : decode cX12_init 398 = .ok (.aload_n 0, 1) := by decide +kernel
theorem dX12_init_399 : decode cX12_init 399 = .ok (.bipush 20, 2) := by decide +kernel
theorem dX12_init_401 : decode cX12_init 401 = .ok (.newarray .int, 2) := by decide +kernel
theorem dX12_init_403 : decode cX12_init 403 = .ok (.putfield 135, 3) := by decide +kernel
theorem dX12_init_406 : decode cX12_init 406 = .ok (.aload_n 0, 1) := by decide +kernel
theorem dX12_init_407 : decode cX12_init 407 = .ok (.iconst 3, 1) := by decide +kernel
theorem dX12_init_408 : decode cX12_init 408 = .ok (.newarray .int, 2) := by decide +kernel
theorem dX12_init_410 : decode cX12_init 410 = .ok (.dup, 1) := by decide +kernel
theorem dX12_init_411 : decode cX12_init 411 = .ok (.iconst 0, 1) := by decide +kernel
theorem dX12_init_412 : decode cX12_init 412 = .ok (.iconst (-1), 1) := by decide +kernel
theorem dX12_init_413 : decode cX12_init 413 = .ok (.iastore, 1) := by decide +kernel
theorem dX12_init_414 : decode cX12_init 414 = .ok (.dup, 1) := by decide +kernel
theorem dX12_init_415 : decode cX12_init 415 = .ok (.iconst 1, 1) := by decide +kernel
theorem dX12_init_416 : decode cX12_init 416 = .ok (.iconst (-1), 1) := by decide +kernel
theorem dX12_init_417 : decode cX12_init 417 = .ok (.iastore, 1) := by decide +kernel
theorem dX12_init_418 : decode cX12_init 418 = .ok (.dup, 1) := by decide +kernel
theorem dX12_init_419 : decode cX12_init 419 = .ok (.iconst 2, 1) := by decide +kernel
theorem dX12_init_420 : decode cX12_init 420 = .ok (.iconst (-1), 1) := by decide +kernel
theorem dX12_init_421 : decode cX12_init 421 = .ok (.iastore, 1) := by decide +kernel
theorem dX12_init_422 : decode cX12_init 422 = .ok (.putfield 138, 3) := by decide +kernel
theorem dX12_init_425 : decode cX12_init 425 = .ok (.aload_n 0, 1) := by decide +kernel
theorem dX12_init_426 : decode cX12_init 426 = .ok (.iconst 3, 1) := by decide +kernel
theorem dX12_init_427 : decode cX12_init 427 = .ok (.newarray .int, 2) := by decide +kernel
theorem dX12_init_429 : decode cX12_init 429 = .ok (.putfield 141, 3) := by decide +kernel
theorem dX12_init_432 : decode cX12_init 432 = .ok (.aload_n 0, 1) := by decide +kernel
theorem dX12_init_433 : decode cX12_init 433 = .ok (.bipush 120, 2) := by decide +kernel
theorem dX12_init_435 : decode cX12_init 435 = .ok (.newarray .int, 2) := by decide +kernel
theorem dX12_init_437 : decode cX12_init 437 = .ok (.putfield 144, 3) := by decide +kernel
theorem dX12_init_440 : decode cX12_init 440 = .ok (.aload_n 0, 1) := by decide +kernel
theorem dX12_init_441 : decode cX12_init 441 = .ok (.iconst (-1), 1) := by decide +kernel
theorem dX12_init_442 : decode cX12_init 442 = .ok (.putfield 147, 3) := by decide +kernel
theorem dX12_init_445 : decode cX12_init 445 = .ok (.aload_n 0, 1) := by decide +kernel
theorem dX12_init_446 : decode cX12_init 446 = .ok (.sipush 1536, 3) := by decide +kernel
theorem dX12_init_449 : decode cX12_init 449 = .ok (.newarray .boolean, 2) := by decide +kernel
theorem dX12_init_451 : decode cX12_init 451 = .ok (.putfield 150, 3) := by decide +kernel
theorem dX12_init_454 : decode cX12_init 454 = .ok (.aload_n 0, 1) := by decide +kernel
theorem dX12_init_455 : decode cX12_init 455 = .ok (.bipush 72, 2) := by decide +kernel
theorem dX12_init_457 : decode cX12_init 457 = .ok (.newarray .boolean, 2) := by decide +kernel
theorem dX12_init_459 : decode cX12_init 459 = .ok (.putfield 153, 3) := by decide +kernel
theorem dX12_init_462 : decode cX12_init 462 = .ok (.aload_n 0, 1) := by decide +kernel
theorem dX12_init_463 : decode cX12_init 463 = .ok (.sipush 7680, 3) := by decide +kernel
theorem dX12_init_466 : decode cX12_init 466 = .ok (.newarray .int, 2) := by decide +kernel
theorem dX12_init_468 : decode cX12_init 468 = .ok (.putfield 156, 3) := by decide +kernel
theorem dX12_init_471 : decode cX12_init 471 = .ok (.aload_n 0, 1) := by decide +kernel
theorem dX12_init_472 : decode cX12_init 472 = .ok (.sipush 1536, 3) := by decide +kernel
theorem dX12_init_475 : decode cX12_init 475 = .ok (.newarray .int, 2) := by decide +kernel
theorem dX12_init_477 : decode cX12_init 477 = .ok (.putfield 159, 3) := by decide +kernel
theorem dX12_init_480 : decode cX12_init 480 = .ok (.aload_n 0, 1) := by decide +kernel
theorem dX12_init_481 : decode cX12_init 481 = .ok (.sipush 1536, 3) := by decide +kernel
theorem dX12_init_484 : decode cX12_init 484 = .ok (.newarray .int, 2) := by decide +kernel
theorem dX12_init_486 : decode cX12_init 486 = .ok (.putfield 162, 3) := by decide +kernel
theorem dX12_init_489 : decode cX12_init 489 = .ok (.aload_n 0, 1) := by decide +kernel
theorem dX12_init_490 : decode cX12_init 490 = .ok (.iconst 5, 1) := by decide +kernel
theorem dX12_init_491 : decode cX12_init 491 = .ok (.newarray .int, 2) := by decide +kernel
theorem dX12_init_493 : decode cX12_init 493 = .ok (.putfield 165, 3) := by decide +kernel
theorem dX12_init_496 : decode cX12_init 496 = .ok (.aload_n 0, 1) := by decide +kernel
theorem dX12_init_497 : decode cX12_init 497 = .ok (.iconst 5, 1) := by decide +kernel
theorem dX12_init_498 : decode cX12_init 498 = .ok (.newarray .int, 2) := by decide +kernel
theorem dX12_init_500 : decode cX12_init 500 = .ok (.putfield 168, 3) := by decide +kernel
theorem dX12_init_503 : decode cX12_init 503 = .ok (.aload_n 0, 1) := by decide +kernel
theorem dX12_init_504 : decode cX12_init 504 = .ok (.sipush 256, 3) := by decide +kernel
theorem dX12_init_507 : decode cX12_init 507 = .ok (.newarray .int, 2) := by decide +kernel
theorem dX12_init_509 : decode cX12_init 509 = .ok (.putfield 171, 3) := by decide +kernel
theorem dX12_init_512 : decode cX12_init 512 = .ok (.aload_n 0, 1) := by decide +kernel
theorem dX12_init_513 : decode cX12_init 513 = .ok (.bipush 8, 2) := by decide +kernel
theorem dX12_init_515 : decode cX12_init 515 = .ok (.newarray .int, 2) := by decide +kernel
theorem dX12_init_517 : decode cX12_init 517 = .ok (.putfield 174, 3) := by decide +kernel
theorem dX12_init_520 : decode cX12_init 520 = .ok (.return_, 1) := by decide +kernel
theorem dX12_in_0 : decode cX12_in 0 = .ok (.iload_n 0, 1) := by decide +kernel
theorem dX12_in_1 : decode cX12_in 1 = .ok (.iload_n 1, 1) := by decide +kernel
theorem dX12_in_2 : decode cX12_in 2 = .ok (.if_icmp .lt 12, 3) := by decide +kernel
theorem dX12_in_5 : decode cX12_in 5 = .ok (.iload_n 0, 1) := by decide +kernel
theorem dX12_in_6 : decode cX12_in 6 = .ok (.iload_n 2, 1) := by decide +kernel
theorem dX12_in_7 : decode cX12_in 7 = .ok (.if_icmp .gt 7, 3) := by decide +kernel
theorem dX12_in_10 : decode cX12_in 10 = .ok (.iconst 1, 1) := by decide +kernel
theorem dX12_in_11 : decode cX12_in 11 = .ok (.goto 4, 3) := by decide +kernel
theorem dX12_in_14 : decode cX12_in 14 = .ok (.iconst 0, 1) := by decide +kernel
theorem dX12_in_15 : decode cX12_in 15 = .ok (.ireturn, 1) := by decide +kernel
theorem dX12_isSort_0 : decode cX12_isSort 0 = .ok (.iload_n 0, 1) := by decide +kernel
theorem dX12_isSort_1 : decode cX12_isSort 1 = .ok (.iconst 0, 1) := by decide +kernel
theorem dX12_isSort_2 : decode cX12_isSort 2 = .ok (.sipush 1535, 3) := by decide +kernel
theorem dX12_isSort_5 : decode cX12_isSort 5 = .ok (.invokestatic 177, 3) := by decide +kernel
theorem dX12_isSort_8 : decode cX12_isSort 8 = .ok (.ireturn, 1) := by decide +kernel
theorem dX12_isRule_0 : decode cX12_isRule 0 = .ok (.iload_n 1, 1) := by decide +kernel
theorem dX12_isRule_1 : decode cX12_isRule 1 = .ok (.iconst 0, 1) := by decide +kernel
theorem dX12_isRule_2 : decode cX12_isRule 2 = .ok (.aload_n 0, 1) := by decide +kernel
theorem dX12_isRule_3 : decode cX12_isRule 3 = .ok (.getfield 181, 3) := by decide +kernel
theorem dX12_isRule_6 : decode cX12_isRule 6 = .ok (.iconst 1, 1) := by decide +kernel
theorem dX12_isRule_7 : decode cX12_isRule 7 = .ok (.isub, 1) := by decide +kernel
theorem dX12_isRule_8 : decode cX12_isRule 8 = .ok (.invokestatic 177, 3) := by decide +kernel
theorem dX12_isRule_11 : decode cX12_isRule 11 = .ok (.ireturn, 1) := by decide +kernel
theorem dX12_isDistrict_0 : decode cX12_isDistrict 0 = .ok (.iload_n 1, 1) := by decide +kernel
theorem dX12_isDistrict_1 : decode cX12_isDistrict 1 = .ok (.iconst 0, 1) := by decide +kernel
theorem dX12_isDistrict_2 : decode cX12_isDistrict 2 = .ok (.aload_n 0, 1) := by decide +kernel
theorem dX12_isDistrict_3 : decode cX12_isDistrict 3 = .ok (.getfield 184, 3) := by decide +kernel
theorem dX12_isDistrict_6 : decode cX12_isDistrict 6 = .ok (.iconst 1, 1) := by decide +kernel
theorem dX12_isDistrict_7 : decode cX12_isDistrict 7 = .ok (.isub, 1) := by decide +kernel
theorem dX12_isDistrict_8 : decode cX12_isDistrict 8 = .ok (.invokestatic 177, 3) := by decide +kernel
theorem dX12_isDistrict_11 : decode cX12_isDistrict 11 = .ok (.ireturn, 1) := by decide +kernel
theorem dX12_isEnd_0 : decode cX12_isEnd 0 = .ok (.iload_n 0, 1) := by decide +kernel
theorem dX12_isEnd_1 : decode cX12_isEnd 1 = .ok (.ifCond .eq 33, 3) := by decide +kernel
theorem dX12_isEnd_4 : decode cX12_isEnd 4 = .ok (.iload_n 0, 1) := by decide +kernel
theorem dX12_isEnd_5 : decode cX12_isEnd 5 = .ok (.iconst 1, 1) := by decide +kernel
theorem dX12_isEnd_6 : decode cX12_isEnd 6 = .ok (.if_icmp .eq 28, 3) := by decide +kernel
theorem dX12_isEnd_9 : decode cX12_isEnd 9 = .ok (.iload_n 0, 1) := by decide +kernel
theorem dX12_isEnd_10 : decode cX12_isEnd 10 = .ok (.bipush 100, 2) := by decide +kernel
theorem dX12_isEnd_12 : decode cX12_isEnd 12 = .ok (.sipush 199, 3) := by decide +kernel
theorem dX12_isEnd_15 : decode cX12_isEnd 15 = .ok (.invokestatic 177, 3) := by decide +kernel
theorem dX12_isEnd_18 : decode cX12_isEnd 18 = .ok (.ifCond .ne 16, 3) := by decide +kernel
theorem dX12_isEnd_21 : decode cX12_isEnd 21 = .ok (.iload_n 0, 1) := by decide +kernel
theorem dX12_isEnd_22 : decode cX12_isEnd 22 = .ok (.sipush 200, 3) := by decide +kernel
theorem dX12_isEnd_25 : decode cX12_isEnd 25 = .ok (.sipush 203, 3) := by decide +kernel
theorem dX12_isEnd_28 : decode cX12_isEnd 28 = .ok (.invokestatic 177, 3) := by decide +kernel
theorem dX12_isEnd_31 : decode cX12_isEnd 31 = .ok (.ifCond .eq 7, 3) := by decide +kernel
theorem dX12_isEnd_34 : decode cX12_isEnd 34 = .ok (.iconst 1, 1) := by decide +kernel
theorem dX12_isEnd_35 : decode cX12_isEnd 35 = .ok (.goto 4, 3) := by decide +kernel
theorem dX12_isEnd_38 : decode cX12_isEnd 38 = .ok (.iconst 0, 1) := by decide +kernel
theorem dX12_isEnd_39 : decode cX12_isEnd 39 = .ok (.ireturn, 1) := by decide +kernel
theorem dX12_unit_0 : decode cX12_unit 0 = .ok (.iload_n 0, 1) := by decide +kernel
theorem dX12_unit_1 : decode cX12_unit 1 = .ok (.ifCond .ne 9, 3) := by decide +kernel
theorem dX12_unit_4 : decode cX12_unit 4 = .ok (.sipush 384, 3) := by decide +kernel
theorem dX12_unit_7 : decode cX12_unit 7 = .ok (.goto 43, 3) := by decide +kernel
theorem dX12_unit_10 : decode cX12_unit 10 = .ok (.iload_n 0, 1) := by decide +kernel
theorem dX12_unit_11 : decode cX12_unit 11 = .ok (.iconst 1, 1) := by decide +kernel
theorem dX12_unit_12 : decode cX12_unit 12 = .ok (.if_icmp .ne 8, 3) := by decide +kernel
theorem dX12_unit_15 : decode cX12_unit 15 = .ok (.bipush 96, 2) := by decide +kernel
theorem dX12_unit_17 : decode cX12_unit 17 = .ok (.goto 33, 3) := by decide +kernel
theorem dX12_unit_20 : decode cX12_unit 20 = .ok (.iload_n 0, 1) := by decide +kernel
theorem dX12_unit_21 : decode cX12_unit 21 = .ok (.iconst 2, 1) := by decide +kernel
theorem dX12_unit_22 : decode cX12_unit 22 = .ok (.if_icmp .ne 8, 3) := by decide +kernel
theorem dX12_unit_25 : decode cX12_unit 25 = .ok (.bipush 32, 2) := by decide +kernel
theorem dX12_unit_27 : decode cX12_unit 27 = .ok (.goto 23, 3) := by decide +kernel
theorem dX12_unit_30 : decode cX12_unit 30 = .ok (.iload_n 0, 1) := by decide +kernel
theorem dX12_unit_31 : decode cX12_unit 31 = .ok (.iconst 3, 1) := by decide +kernel
theorem dX12_unit_32 : decode cX12_unit 32 = .ok (.if_icmp .ne 8, 3) := by decide +kernel
theorem dX12_unit_35 : decode cX12_unit 35 = .ok (.bipush 8, 2) := by decide +kernel
theorem dX12_unit_37 : decode cX12_unit 37 = .ok (.goto 13, 3) := by decide +kernel
theorem dX12_unit_40 : decode cX12_unit 40 = .ok (.iload_n 0, 1) := by decide +kernel
theorem dX12_unit_41 : decode cX12_unit 41 = .ok (.iconst 4, 1) := by decide +kernel
theorem dX12_unit_42 : decode cX12_unit 42 = .ok (.if_icmp .ne 7, 3) := by decide +kernel
theorem dX12_unit_45 : decode cX12_unit 45 = .ok (.iconst 4, 1) := by decide +kernel
theorem dX12_unit_46 : decode cX12_unit 46 = .ok (.goto 4, 3) := by decide +kernel
theorem dX12_unit_49 : decode cX12_unit 49 = .ok (.iconst 1, 1) := by decide +kernel
theorem dX12_unit_50 : decode cX12_unit 50 = .ok (.ireturn, 1) := by decide +kernel
theorem dX12_sizeOf_0 : decode cX12_sizeOf 0 = .ok (.iload_n 0, 1) := by decide +kernel
theorem dX12_sizeOf_1 : decode cX12_sizeOf 1 = .ok (.iconst 2, 1) := by decide +kernel
theorem dX12_sizeOf_2 : decode cX12_sizeOf 2 = .ok (.if_icmp .ne 7, 3) := by decide +kernel
theorem dX12_sizeOf_5 : decode cX12_sizeOf 5 = .ok (.iconst 3, 1) := by decide +kernel
theorem dX12_sizeOf_6 : decode cX12_sizeOf 6 = .ok (.goto 13, 3) := by decide +kernel
theorem dX12_sizeOf_9 : decode cX12_sizeOf 9 = .ok (.iload_n 0, 1) := by decide +kernel
theorem dX12_sizeOf_10 : decode cX12_sizeOf 10 = .ok (.iconst 4, 1) := by decide +kernel
theorem dX12_sizeOf_11 : decode cX12_sizeOf 11 = .ok (.if_icmp .ne 7, 3) := by decide +kernel
theorem dX12_sizeOf_14 : decode cX12_sizeOf 14 = .ok (.iconst 2, 1) := by decide +kernel
theorem dX12_sizeOf_15 : decode cX12_sizeOf 15 = .ok (.goto 4, 3) := by decide +kernel
theorem dX12_sizeOf_18 : decode cX12_sizeOf 18 = .ok (.iconst 4, 1) := by decide +kernel
theorem dX12_sizeOf_19 : decode cX12_sizeOf 19 = .ok (.ireturn, 1) := by decide +kernel
theorem dX12_field_0 : decode cX12_field 0 = .ok (.iload_n 0, 1) := by decide +kernel
theorem dX12_field_1 : decode cX12_field 1 = .ok (.iload_n 1, 1) := by decide +kernel
theorem dX12_field_2 : decode cX12_field 2 = .ok (.invokestatic 187, 3) := by decide +kernel
theorem dX12_field_5 : decode cX12_field 5 = .ok (.idiv, 1) := by decide +kernel
theorem dX12_field_6 : decode cX12_field 6 = .ok (.iload_n 1, 1) := by decide +kernel
theorem dX12_field_7 : decode cX12_field 7 = .ok (.invokestatic 191, 3) := by decide +kernel
theorem dX12_field_10 : decode cX12_field 10 = .ok (.irem, 1) := by decide +kernel
theorem dX12_field_11 : decode cX12_field 11 = .ok (.ireturn, 1) := by decide +kernel
theorem dX12_days_0 : decode cX12_days 0 = .ok (.iload_n 1, 1) := by decide +kernel
theorem dX12_days_1 : decode cX12_days 1 = .ok (.iconst 1, 1) := by decide +kernel
theorem dX12_days_2 : decode cX12_days 2 = .ok (.sipush 400, 3) := by decide +kernel
theorem dX12_days_5 : decode cX12_days 5 = .ok (.invokestatic 177, 3) := by decide +kernel
theorem dX12_days_8 : decode cX12_days 8 = .ok (.ifCond .eq 15, 3) := by decide +kernel
theorem dX12_days_11 : decode cX12_days 11 = .ok (.aload_n 0, 1) := by decide +kernel
theorem dX12_days_12 : decode cX12_days 12 = .ok (.getfield 194, 3) := by decide +kernel
theorem dX12_days_15 : decode cX12_days 15 = .ok (.iload_n 1, 1) := by decide +kernel
theorem dX12_days_16 : decode cX12_days 16 = .ok (.iadd, 1) := by decide +kernel
theorem dX12_days_17 : decode cX12_days 17 = .ok (.sipush 3999, 3) := by decide +kernel
theorem dX12_days_20 : decode cX12_days 20 = .ok (.if_icmp .le 6, 3) := by decide +kernel
theorem dX12_days_23 : decode cX12_days 23 = .ok (.bipush (-2), 2) := by decide +kernel
theorem dX12_days_25 : decode cX12_days 25 = .ok (.ireturn, 1) := by decide +kernel
theorem dX12_days_26 : decode cX12_days 26 = .ok (.aload_n 0, 1) := by decide +kernel
theorem dX12_days_27 : decode cX12_days 27 = .ok (.dup, 1) := by decide +kernel
theorem dX12_days_28 : decode cX12_days 28 = .ok (.getfield 194, 3) := by decide +kernel
theorem dX12_days_31 : decode cX12_days 31 = .ok (.iload_n 1, 1) := by decide +kernel
theorem dX12_days_32 : decode cX12_days 32 = .ok (.iadd, 1) := by decide +kernel
theorem dX12_days_33 : decode cX12_days 33 = .ok (.putfield 194, 3) := by decide +kernel
theorem dX12_days_36 : decode cX12_days 36 = .ok (.aload_n 0, 1) := by decide +kernel
theorem dX12_days_37 : decode cX12_days 37 = .ok (.getfield 194, 3) := by decide +kernel
theorem dX12_days_40 : decode cX12_days 40 = .ok (.ireturn, 1) := by decide +kernel
theorem dX12_feed_0 : decode cX12_feed 0 = .ok (.iload_n 2, 1) := by decide +kernel
theorem dX12_feed_1 : decode cX12_feed 1 = .ok (.iconst 0, 1) := by decide +kernel
theorem dX12_feed_2 : decode cX12_feed 2 = .ok (.iconst 4, 1) := by decide +kernel
theorem dX12_feed_3 : decode cX12_feed 3 = .ok (.invokestatic 177, 3) := by decide +kernel
theorem dX12_feed_6 : decode cX12_feed 6 = .ok (.ifCond .ne 6, 3) := by decide +kernel
theorem dX12_feed_9 : decode cX12_feed 9 = .ok (.bipush (-2), 2) := by decide +kernel
theorem dX12_feed_11 : decode cX12_feed 11 = .ok (.ireturn, 1) := by decide +kernel
theorem dX12_feed_12 : decode cX12_feed 12 = .ok (.aload_n 0, 1) := by decide +kernel
theorem dX12_feed_13 : decode cX12_feed 13 = .ok (.getfield 197, 3) := by decide +kernel
theorem dX12_feed_16 : decode cX12_feed 16 = .ok (.iload_n 2, 1) := by decide +kernel
theorem dX12_feed_17 : decode cX12_feed 17 = .ok (.iadd, 1) := by decide +kernel
theorem dX12_feed_18 : decode cX12_feed 18 = .ok (.bipush 90, 2) := by decide +kernel
theorem dX12_feed_20 : decode cX12_feed 20 = .ok (.if_icmp .le 6, 3) := by decide +kernel
theorem dX12_feed_23 : decode cX12_feed 23 = .ok (.bipush (-4), 2) := by decide +kernel
theorem dX12_feed_25 : decode cX12_feed 25 = .ok (.ireturn, 1) := by decide +kernel
theorem dX12_feed_26 : decode cX12_feed 26 = .ok (.iload_n 2, 1) := by decide +kernel
theorem dX12_feed_27 : decode cX12_feed 27 = .ok (.iconst 1, 1) := by decide +kernel
theorem dX12_feed_28 : decode cX12_feed 28 = .ok (.isub, 1) := by decide +kernel
theorem dX12_feed_29 : decode cX12_feed 29 = .ok (.istore_n 3, 1) := by decide +kernel
theorem dX12_feed_30 : decode cX12_feed 30 = .ok (.iload_n 3, 1) := by decide +kernel
theorem dX12_feed_31 : decode cX12_feed 31 = .ok (.ifCond .lt 38, 3) := by decide +kernel
theorem dX12_feed_34 : decode cX12_feed 34 = .ok (.aload_n 0, 1) := by decide +kernel
theorem dX12_feed_35 : decode cX12_feed 35 = .ok (.getfield 7, 3) := by decide +kernel
theorem dX12_feed_38 : decode cX12_feed 38 = .ok (.aload_n 0, 1) := by decide +kernel
theorem dX12_feed_39 : decode cX12_feed 39 = .ok (.getfield 197, 3) := by decide +kernel
theorem dX12_feed_42 : decode cX12_feed 42 = .ok (.iload_n 1, 1) := by decide +kernel
theorem dX12_feed_43 : decode cX12_feed 43 = .ok (.bipush 8, 2) := by decide +kernel
theorem dX12_feed_45 : decode cX12_feed 45 = .ok (.iload_n 3, 1) := by decide +kernel
theorem dX12_feed_46 : decode cX12_feed 46 = .ok (.imul, 1) := by decide +kernel
theorem dX12_feed_47 : decode cX12_feed 47 = .ok (.ishr, 1) := by decide +kernel
theorem dX12_feed_48 : decode cX12_feed 48 = .ok (.sipush 255, 3) := by decide +kernel
theorem dX12_feed_51 : decode cX12_feed 51 = .ok (.iand, 1) := by decide +kernel
theorem dX12_feed_52 : decode cX12_feed 52 = .ok (.iastore, 1) := by decide +kernel
theorem dX12_feed_53 : decode cX12_feed 53 = .ok (.aload_n 0, 1) := by decide +kernel
theorem dX12_feed_54 : decode cX12_feed 54 = .ok (.dup, 1) := by decide +kernel
theorem dX12_feed_55 : decode cX12_feed 55 = .ok (.getfield 197, 3) := by decide +kernel
theorem dX12_feed_58 : decode cX12_feed 58 = .ok (.iconst 1, 1) := by decide +kernel
theorem dX12_feed_59 : decode cX12_feed 59 = .ok (.iadd, 1) := by decide +kernel
theorem dX12_feed_60 : decode cX12_feed 60 = .ok (.putfield 197, 3) := by decide +kernel
theorem dX12_feed_63 : decode cX12_feed 63 = .ok (.iinc 3 (-1), 3) := by decide +kernel
theorem dX12_feed_66 : decode cX12_feed 66 = .ok (.goto (-36), 3) := by decide +kernel
theorem dX12_feed_69 : decode cX12_feed 69 = .ok (.aload_n 0, 1) := by decide +kernel
theorem dX12_feed_70 : decode cX12_feed 70 = .ok (.getfield 197, 3) := by decide +kernel
theorem dX12_feed_73 : decode cX12_feed 73 = .ok (.ireturn, 1) := by decide +kernel
theorem dX12_here_0 : decode cX12_here 0 = .ok (.aload_n 0, 1) := by decide +kernel
theorem dX12_here_1 : decode cX12_here 1 = .ok (.getfield 200, 3) := by decide +kernel
theorem dX12_here_4 : decode cX12_here 4 = .ok (.aload_n 0, 1) := by decide +kernel
theorem dX12_here_5 : decode cX12_here 5 = .ok (.getfield 197, 3) := by decide +kernel
theorem dX12_here_8 : decode cX12_here 8 = .ok (.if_icmp .ge 15, 3) := by decide +kernel
theorem dX12_here_11 : decode cX12_here 11 = .ok (.aload_n 0, 1) := by decide +kernel
theorem dX12_here_12 : decode cX12_here 12 = .ok (.getfield 7, 3) := by decide +kernel
theorem dX12_here_15 : decode cX12_here 15 = .ok (.aload_n 0, 1) := by decide +kernel
theorem dX12_here_16 : decode cX12_here 16 = .ok (.getfield 200, 3) := by decide +kernel
theorem dX12_here_19 : decode cX12_here 19 = .ok (.iaload, 1) := by decide +kernel
theorem dX12_here_20 : decode cX12_here 20 = .ok (.goto 4, 3) := by decide +kernel
theorem dX12_here_23 : decode cX12_here 23 = .ok (.iconst (-1), 1) := by decide +kernel
theorem dX12_here_24 : decode cX12_here 24 = .ok (.ireturn, 1) := by decide +kernel
theorem dX12_eats_0 : decode cX12_eats 0 = .ok (.aload_n 0, 1) := by decide +kernel
theorem dX12_eats_1 : decode cX12_eats 1 = .ok (.getfield 203, 3) := by decide +kernel
theorem dX12_eats_4 : decode cX12_eats 4 = .ok (.ifCond .ne 24, 3) := by decide +kernel
theorem dX12_eats_7 : decode cX12_eats 7 = .ok (.aload_n 0, 1) := by decide +kernel
theorem dX12_eats_8 : decode cX12_eats 8 = .ok (.invokevirtual 207, 3) := by decide +kernel
theorem dX12_eats_11 : decode cX12_eats 11 = .ok (.iload_n 1, 1) := by decide +kernel
theorem dX12_eats_12 : decode cX12_eats 12 = .ok (.if_icmp .ne 16, 3) := by decide +kernel
theorem dX12_eats_15 : decode cX12_eats 15 = .ok (.aload_n 0, 1) := by decide +kernel
theorem dX12_eats_16 : decode cX12_eats 16 = .ok (.dup, 1) := by decide +kernel
theorem dX12_eats_17 : decode cX12_eats 17 = .ok (.getfield 200, 3) := by decide +kernel
theorem dX12_eats_20 : decode cX12_eats 20 = .ok (.iconst 1, 1) := by decide +kernel
theorem dX12_eats_21 : decode cX12_eats 21 = .ok (.iadd, 1) := by decide +kernel
theorem dX12_eats_22 : decode cX12_eats 22 = .ok (.putfield 200, 3) := by decide +kernel
theorem dX12_eats_25 : decode cX12_eats 25 = .ok (.goto 8, 3) := by decide +kernel
theorem dX12_eats_28 : decode cX12_eats 28 = .ok (.aload_n 0, 1) := by decide +kernel
theorem dX12_eats_29 : decode cX12_eats 29 = .ok (.iconst 1, 1) := by decide +kernel
theorem dX12_eats_30 : decode cX12_eats 30 = .ok (.putfield 203, 3) := by decide +kernel
theorem dX12_eats_33 : decode cX12_eats 33 = .ok (.return_, 1) := by decide +kernel
theorem dX12_eats4_0 : decode cX12_eats4 0 = .ok (.aload_n 0, 1) := by decide +kernel
theorem dX12_eats4_1 : decode cX12_eats4 1 = .ok (.iload_n 1, 1) := by decide +kernel
theorem dX12_eats4_2 : decode cX12_eats4 2 = .ok (.invokevirtual 211, 3) := by decide +kernel
theorem dX12_eats4_5 : decode cX12_eats4 5 = .ok (.aload_n 0, 1) := by decide +kernel
theorem dX12_eats4_6 : decode cX12_eats4 6 = .ok (.iload_n 2, 1) := by decide +kernel
theorem dX12_eats4_7 : decode cX12_eats4 7 = .ok (.invokevirtual 211, 3) := by decide +kernel
theorem dX12_eats4_10 : decode cX12_eats4 10 = .ok (.aload_n 0, 1) := by decide +kernel
theorem dX12_eats4_11 : decode cX12_eats4 11 = .ok (.iload_n 3, 1) := by decide +kernel
theorem dX12_eats4_12 : decode cX12_eats4 12 = .ok (.invokevirtual 211, 3) := by decide +kernel
theorem dX12_eats4_15 : decode cX12_eats4 15 = .ok (.aload_n 0, 1) := by decide +kernel
theorem dX12_eats4_16 : decode cX12_eats4 16 = .ok (.iload 4, 2) := by decide +kernel
theorem dX12_eats4_18 : decode cX12_eats4 18 = .ok (.invokevirtual 211, 3) := by decide +kernel
theorem dX12_eats4_21 : decode cX12_eats4 21 = .ok (.return_, 1) := by decide +kernel
theorem dX12_digit_0 : decode cX12_digit 0 = .ok (.aload_n 0, 1) := by decide +kernel
theorem dX12_digit_1 : decode cX12_digit 1 = .ok (.invokevirtual 207, 3) := by decide +kernel
theorem dX12_digit_4 : decode cX12_digit 4 = .ok (.istore_n 3, 1) := by decide +kernel
theorem dX12_digit_5 : decode cX12_digit 5 = .ok (.aload_n 0, 1) := by decide +kernel
theorem dX12_digit_6 : decode cX12_digit 6 = .ok (.getfield 203, 3) := by decide +kernel
theorem dX12_digit_9 : decode cX12_digit 9 = .ok (.ifCond .ne 12, 3) := by decide +kernel
theorem dX12_digit_12 : decode cX12_digit 12 = .ok (.iload_n 3, 1) := by decide +kernel
theorem dX12_digit_13 : decode cX12_digit 13 = .ok (.iload_n 1, 1) := by decide +kernel
theorem dX12_digit_14 : decode cX12_digit 14 = .ok (.iload_n 2, 1) := by decide +kernel
theorem dX12_digit_15 : decode cX12_digit 15 = .ok (.invokestatic 177, 3) := by decide +kernel
theorem dX12_digit_18 : decode cX12_digit 18 = .ok (.ifCond .ne 10, 3) := by decide +kernel
theorem dX12_digit_21 : decode cX12_digit 21 = .ok (.aload_n 0, 1) := by decide +kernel
theorem dX12_digit_22 : decode cX12_digit 22 = .ok (.iconst 1, 1) := by decide +kernel
theorem dX12_digit_23 : decode cX12_digit 23 = .ok (.putfield 203, 3) := by decide +kernel
theorem dX12_digit_26 : decode cX12_digit 26 = .ok (.iconst 0, 1) := by decide +kernel
theorem dX12_digit_27 : decode cX12_digit 27 = .ok (.ireturn, 1) := by decide +kernel
theorem dX12_digit_28 : decode cX12_digit 28 = .ok (.aload_n 0, 1) := by decide +kernel
theorem dX12_digit_29 : decode cX12_digit 29 = .ok (.dup, 1) := by decide +kernel
theorem dX12_digit_30 : decode cX12_digit 30 = .ok (.getfield 200, 3) := by decide +kernel
theorem dX12_digit_33 : decode cX12_digit 33 = .ok (.iconst 1, 1) := by decide +kernel
theorem dX12_digit_34 : decode cX12_digit 34 = .ok (.iadd, 1) := by decide +kernel
theorem dX12_digit_35 : decode cX12_digit 35 = .ok (.putfield 200, 3) := by decide +kernel
theorem dX12_digit_38 : decode cX12_digit 38 = .ok (.iload_n 3, 1) := by decide +kernel
theorem dX12_digit_39 : decode cX12_digit 39 = .ok (.bipush 48, 2) := by decide +kernel
theorem dX12_digit_41 : decode cX12_digit 41 = .ok (.isub, 1) := by decide +kernel
theorem dX12_digit_42 : decode cX12_digit 42 = .ok (.ireturn, 1) := by decide +kernel
theorem dX12_endRead_0 : decode cX12_endRead 0 = .ok (.iconst 0, 1) := by decide +kernel
theorem dX12_endRead_1 : decode cX12_endRead 1 = .ok (.istore_n 1, 1) := by decide +kernel
theorem dX12_endRead_2 : decode cX12_endRead 2 = .ok (.aload_n 0, 1) := by decide +kernel
theorem dX12_endRead_3 : decode cX12_endRead 3 = .ok (.invokevirtual 207, 3) := by decide +kernel
theorem dX12_endRead_6 : decode cX12_endRead 6 = .ok (.lookupswitch 135 #[(104, 48), (111, 68), (118, 34)], 34) := by decide +kernel
theorem dX12_endRead_40 : decode cX12_endRead 40 = .ok (.aload_n 0, 1) := by decide +kernel
theorem dX12_endRead_41 : decode cX12_endRead 41 = .ok (.bipush 118, 2) := by decide +kernel
theorem dX12_endRead_43 : decode cX12_endRead 43 = .ok (.bipush 111, 2) := by decide +kernel
theorem dX12_endRead_45 : decode cX12_endRead 45 = .ok (.bipush 105, 2) := by decide +kernel
theorem dX12_endRead_47 : decode cX12_endRead 47 = .ok (.bipush 100, 2) := by decide +kernel
theorem dX12_endRead_49 : decode cX12_endRead 49 = .ok (.invokevirtual 215, 3) := by decide +kernel
theorem dX12_endRead_52 : decode cX12_endRead 52 = .ok (.iconst 0, 1) := by decide +kernel
theorem dX12_endRead_53 : decode cX12_endRead 53 = .ok (.ireturn, 1) := by decide +kernel
theorem dX12_endRead_54 : decode cX12_endRead 54 = .ok (.aload_n 0, 1) := by decide +kernel
theorem dX12_endRead_55 : decode cX12_endRead 55 = .ok (.bipush 104, 2) := by decide +kernel
theorem dX12_endRead_57 : decode cX12_endRead 57 = .ok (.bipush 111, 2) := by decide +kernel
theorem dX12_endRead_59 : decode cX12_endRead 59 = .ok (.bipush 108, 2) := by decide +kernel
theorem dX12_endRead_61 : decode cX12_endRead 61 = .ok (.bipush 100, 2) := by decide +kernel
theorem dX12_endRead_63 : decode cX12_endRead 63 = .ok (.invokevirtual 215, 3) := by decide +kernel
theorem dX12_endRead_66 : decode cX12_endRead 66 = .ok (.aload_n 0, 1) := by decide +kernel
theorem dX12_endRead_67 : decode cX12_endRead 67 = .ok (.bipush 115, 2) := by decide +kernel
theorem dX12_endRead_69 : decode cX12_endRead 69 = .ok (.invokevirtual 211, 3) := by decide +kernel
theorem dX12_endRead_72 : decode cX12_endRead 72 = .ok (.iconst 1, 1) := by decide +kernel
theorem dX12_endRead_73 : decode cX12_endRead 73 = .ok (.ireturn, 1) := by decide +kernel
theorem dX12_endRead_74 : decode cX12_endRead 74 = .ok (.aload_n 0, 1) := by decide +kernel
theorem dX12_endRead_75 : decode cX12_endRead 75 = .ok (.bipush 111, 2) := by decide +kernel
theorem dX12_endRead_77 : decode cX12_endRead 77 = .ok (.bipush 119, 2) := by decide +kernel
theorem dX12_endRead_79 : decode cX12_endRead 79 = .ok (.bipush 101, 2) := by decide +kernel
theorem dX12_endRead_81 : decode cX12_endRead 81 = .ok (.bipush 100, 2) := by decide +kernel
theorem dX12_endRead_83 : decode cX12_endRead 83 = .ok (.invokevirtual 215, 3) := by decide +kernel
theorem dX12_endRead_86 : decode cX12_endRead 86 = .ok (.aload_n 0, 1) := by decide +kernel
theorem dX12_endRead_87 : decode cX12_endRead 87 = .ok (.bipush 32, 2) := by decide +kernel
theorem dX12_endRead_89 : decode cX12_endRead 89 = .ok (.invokevirtual 211, 3) := by decide +kernel
theorem dX12_endRead_92 : decode cX12_endRead 92 = .ok (.aload_n 0, 1) := by decide +kernel
theorem dX12_endRead_93 : decode cX12_endRead 93 = .ok (.bipush 48, 2) := by decide +kernel
theorem dX12_endRead_95 : decode cX12_endRead 95 = .ok (.bipush 57, 2) := by decide +kernel
theorem dX12_endRead_97 : decode cX12_endRead 97 = .ok (.invokevirtual 219, 3) := by decide +kernel
theorem dX12_endRead_100 : decode cX12_endRead 100 = .ok (.istore_n 1, 1) := by decide +kernel
theorem dX12_endRead_101 : decode cX12_endRead 101 = .ok (.aload_n 0, 1) := by decide +kernel
theorem dX12_endRead_102 : decode cX12_endRead 102 = .ok (.getfield 203, 3) := by decide +kernel
theorem dX12_endRead_105 : decode cX12_endRead 105 = .ok (.ifCond .ne 31, 3) := by decide +kernel
theorem dX12_endRead_108 : decode cX12_endRead 108 = .ok (.aload_n 0, 1) := by decide +kernel
theorem dX12_endRead_109 : decode cX12_endRead 109 = .ok (.invokevirtual 207, 3) := by decide +kernel
theorem dX12_endRead_112 : decode cX12_endRead 112 = .ok (.bipush 48, 2) := by decide +kernel
theorem dX12_endRead_114 : decode cX12_endRead 114 = .ok (.bipush 57, 2) := by decide +kernel
theorem dX12_endRead_116 : decode cX12_endRead 116 = .ok (.invokestatic 177, 3) := by decide +kernel
theorem dX12_endRead_119 : decode cX12_endRead 119 = .ok (.ifCond .eq 17, 3) := by decide +kernel
theorem dX12_endRead_122 : decode cX12_endRead 122 = .ok (.bipush 10, 2) := by decide +kernel
theorem dX12_endRead_124 : decode cX12_endRead 124 = .ok (.iload_n 1, 1) := by decide +kernel
theorem dX12_endRead_125 : decode cX12_endRead 125 = .ok (.imul, 1) := by decide +kernel
theorem dX12_endRead_126 : decode cX12_endRead 126 = .ok (.aload_n 0, 1) := by decide +kernel
theorem dX12_endRead_127 : decode cX12_endRead 127 = .ok (.bipush 48, 2) := by decide +kernel
theorem dX12_endRead_129 : decode cX12_endRead 129 = .ok (.bipush 57, 2) := by decide +kernel
theorem dX12_endRead_131 : decode cX12_endRead 131 = .ok (.invokevirtual 219, 3) := by decide +kernel
theorem dX12_endRead_134 : decode cX12_endRead 134 = .ok (.iadd, 1) := by decide +kernel
theorem dX12_endRead_135 : decode cX12_endRead 135 = .ok (.istore_n 1, 1) := by decide +kernel
theorem dX12_endRead_136 : decode cX12_endRead 136 = .ok (.bipush 100, 2) := by decide +kernel
theorem dX12_endRead_138 : decode cX12_endRead 138 = .ok (.iload_n 1, 1) := by decide +kernel
theorem dX12_endRead_139 : decode cX12_endRead 139 = .ok (.iadd, 1) := by decide +kernel
theorem dX12_endRead_140 : decode cX12_endRead 140 = .ok (.ireturn, 1) := by decide +kernel
theorem dX12_endRead_141 : decode cX12_endRead 141 = .ok (.aload_n 0, 1) := by decide +kernel
theorem dX12_endRead_142 : decode cX12_endRead 142 = .ok (.bipush 116, 2) := by decide +kernel
theorem dX12_endRead_144 : decode cX12_endRead 144 = .ok (.invokevirtual 211, 3) := by decide +kernel
theorem dX12_endRead_147 : decode cX12_endRead 147 = .ok (.aload_n 0, 1) := by decide +kernel
theorem dX12_endRead_148 : decode cX12_endRead 148 = .ok (.bipush 111, 2) := by decide +kernel
theorem dX12_endRead_150 : decode cX12_endRead 150 = .ok (.invokevirtual 211, 3) := by decide +kernel
theorem dX12_endRead_153 : decode cX12_endRead 153 = .ok (.aload_n 0, 1) := by decide +kernel
theorem dX12_endRead_154 : decode cX12_endRead 154 = .ok (.bipush 32, 2) := by decide +kernel
theorem dX12_endRead_156 : decode cX12_endRead 156 = .ok (.invokevirtual 211, 3) := by decide +kernel
theorem dX12_endRead_159 : decode cX12_endRead 159 = .ok (.sipush 200, 3) := by decide +kernel
theorem dX12_endRead_162 : decode cX12_endRead 162 = .ok (.aload_n 0, 1) := by decide +kernel
theorem dX12_endRead_163 : decode cX12_endRead 163 = .ok (.bipush 48, 2) := by decide +kernel
theorem dX12_endRead_165 : decode cX12_endRead 165 = .ok (.bipush 51, 2) := by decide +kernel
theorem dX12_endRead_167 : decode cX12_endRead 167 = .ok (.invokevirtual 219, 3) := by decide +kernel
theorem dX12_endRead_170 : decode cX12_endRead 170 = .ok (.iadd, 1) := by decide +kernel
theorem dX12_endRead_171 : decode cX12_endRead 171 = .ok (.ireturn, 1) := by decide +kernel
theorem dX12_fieldRead_0 : decode cX12_fieldRead 0 = .ok (.aload_n 0, 1) := by decide +kernel
theorem dX12_fieldRead_1 : decode cX12_fieldRead 1 = .ok (.invokevirtual 207, 3) := by decide +kernel
theorem dX12_fieldRead_4 : decode cX12_fieldRead 4 = .ok (.lookupswitch 134 #[(97, 66), (104, 86), (107, 106), (111, 120), (119, 52)], 52) := by decide +kernel
theorem dX12_fieldRead_56 : decode cX12_fieldRead 56 = .ok (.aload_n 0, 1) := by decide +kernel
theorem dX12_fieldRead_57 : decode cX12_fieldRead 57 = .ok (.bipush 119, 2) := by decide +kernel
theorem dX12_fieldRead_59 : decode cX12_fieldRead 59 = .ok (.bipush 104, 2) := by decide +kernel
theorem dX12_fieldRead_61 : decode cX12_fieldRead 61 = .ok (.bipush 97, 2) := by decide +kernel
theorem dX12_fieldRead_63 : decode cX12_fieldRead 63 = .ok (.bipush 116, 2) := by decide +kernel
theorem dX12_fieldRead_65 : decode cX12_fieldRead 65 = .ok (.invokevirtual 215, 3) := by decide +kernel
theorem dX12_fieldRead_68 : decode cX12_fieldRead 68 = .ok (.iconst 0, 1) := by decide +kernel
theorem dX12_fieldRead_69 : decode cX12_fieldRead 69 = .ok (.ireturn, 1) := by decide +kernel
theorem dX12_fieldRead_70 : decode cX12_fieldRead 70 = .ok (.aload_n 0, 1) := by decide +kernel
theorem dX12_fieldRead_71 : decode cX12_fieldRead 71 = .ok (.bipush 97, 2) := by decide +kernel
theorem dX12_fieldRead_73 : decode cX12_fieldRead 73 = .ok (.invokevirtual 211, 3) := by decide +kernel
theorem dX12_fieldRead_76 : decode cX12_fieldRead 76 = .ok (.aload_n 0, 1) := by decide +kernel
theorem dX12_fieldRead_77 : decode cX12_fieldRead 77 = .ok (.bipush 103, 2) := by decide +kernel
theorem dX12_fieldRead_79 : decode cX12_fieldRead 79 = .ok (.invokevirtual 211, 3) := by decide +kernel
theorem dX12_fieldRead_82 : decode cX12_fieldRead 82 = .ok (.aload_n 0, 1) := by decide +kernel
theorem dX12_fieldRead_83 : decode cX12_fieldRead 83 = .ok (.bipush 101, 2) := by decide +kernel
theorem dX12_fieldRead_85 : decode cX12_fieldRead 85 = .ok (.invokevirtual 211, 3) := by decide +kernel
theorem dX12_fieldRead_88 : decode cX12_fieldRead 88 = .ok (.iconst 1, 1) := by decide +kernel
theorem dX12_fieldRead_89 : decode cX12_fieldRead 89 = .ok (.ireturn, 1) := by decide +kernel
theorem dX12_fieldRead_90 : decode cX12_fieldRead 90 = .ok (.aload_n 0, 1) := by decide +kernel
theorem dX12_fieldRead_91 : decode cX12_fieldRead 91 = .ok (.bipush 104, 2) := by decide +kernel
theorem dX12_fieldRead_93 : decode cX12_fieldRead 93 = .ok (.bipush 111, 2) := by decide +kernel
theorem dX12_fieldRead_95 : decode cX12_fieldRead 95 = .ok (.bipush 117, 2) := by decide +kernel
theorem dX12_fieldRead_97 : decode cX12_fieldRead 97 = .ok (.bipush 115, 2) := by decide +kernel
theorem dX12_fieldRead_99 : decode cX12_fieldRead 99 = .ok (.invokevirtual 215, 3) := by decide +kernel
theorem dX12_fieldRead_102 : decode cX12_fieldRead 102 = .ok (.aload_n 0, 1) := by decide +kernel
theorem dX12_fieldRead_103 : decode cX12_fieldRead 103 = .ok (.bipush 101, 2) := by decide +kernel
theorem dX12_fieldRead_105 : decode cX12_fieldRead 105 = .ok (.invokevirtual 211, 3) := by decide +kernel
theorem dX12_fieldRead_108 : decode cX12_fieldRead 108 = .ok (.iconst 2, 1) := by decide +kernel
theorem dX12_fieldRead_109 : decode cX12_fieldRead 109 = .ok (.ireturn, 1) := by decide +kernel
theorem dX12_fieldRead_110 : decode cX12_fieldRead 110 = .ok (.aload_n 0, 1) := by decide +kernel
theorem dX12_fieldRead_111 : decode cX12_fieldRead 111 = .ok (.bipush 107, 2) := by decide +kernel
theorem dX12_fieldRead_113 : decode cX12_fieldRead 113 = .ok (.bipush 105, 2) := by decide +kernel
theorem dX12_fieldRead_115 : decode cX12_fieldRead 115 = .ok (.bipush 100, 2) := by decide +kernel
theorem dX12_fieldRead_117 : decode cX12_fieldRead 117 = .ok (.bipush 115, 2) := by decide +kernel
theorem dX12_fieldRead_119 : decode cX12_fieldRead 119 = .ok (.invokevirtual 215, 3) := by decide +kernel
theorem dX12_fieldRead_122 : decode cX12_fieldRead 122 = .ok (.iconst 3, 1) := by decide +kernel
theorem dX12_fieldRead_123 : decode cX12_fieldRead 123 = .ok (.ireturn, 1) := by decide +kernel
theorem dX12_fieldRead_124 : decode cX12_fieldRead 124 = .ok (.aload_n 0, 1) := by decide +kernel
theorem dX12_fieldRead_125 : decode cX12_fieldRead 125 = .ok (.bipush 111, 2) := by decide +kernel
theorem dX12_fieldRead_127 : decode cX12_fieldRead 127 = .ok (.bipush 97, 2) := by decide +kernel
theorem dX12_fieldRead_129 : decode cX12_fieldRead 129 = .ok (.bipush 116, 2) := by decide +kernel
theorem dX12_fieldRead_131 : decode cX12_fieldRead 131 = .ok (.bipush 104, 2) := by decide +kernel
theorem dX12_fieldRead_133 : decode cX12_fieldRead 133 = .ok (.invokevirtual 215, 3) := by decide +kernel
theorem dX12_fieldRead_136 : decode cX12_fieldRead 136 = .ok (.iconst 4, 1) := by decide +kernel
theorem dX12_fieldRead_137 : decode cX12_fieldRead 137 = .ok (.ireturn, 1) := by decide +kernel
theorem dX12_fieldRead_138 : decode cX12_fieldRead 138 = .ok (.aload_n 0, 1) := by decide +kernel
theorem dX12_fieldRead_139 : decode cX12_fieldRead 139 = .ok (.bipush 103, 2) := by decide +kernel
theorem dX12_fieldRead_141 : decode cX12_fieldRead 141 = .ok (.bipush 111, 2) := by decide +kernel
theorem dX12_fieldRead_143 : decode cX12_fieldRead 143 = .ok (.bipush 111, 2) := by decide +kernel
theorem dX12_fieldRead_145 : decode cX12_fieldRead 145 = .ok (.bipush 100, 2) := by decide +kernel
theorem dX12_fieldRead_147 : decode cX12_fieldRead 147 = .ok (.invokevirtual 215, 3) := by decide +kernel
theorem dX12_fieldRead_150 : decode cX12_fieldRead 150 = .ok (.aload_n 0, 1) := by decide +kernel
theorem dX12_fieldRead_151 : decode cX12_fieldRead 151 = .ok (.bipush 115, 2) := by decide +kernel
theorem dX12_fieldRead_153 : decode cX12_fieldRead 153 = .ok (.invokevirtual 211, 3) := by decide +kernel
theorem dX12_fieldRead_156 : decode cX12_fieldRead 156 = .ok (.iconst 5, 1) := by decide +kernel
theorem dX12_fieldRead_157 : decode cX12_fieldRead 157 = .ok (.ireturn, 1) := by decide +kernel
theorem dX12_testRead_0 : decode cX12_testRead 0 = .ok (.sipush 1000, 3) := by decide +kernel
theorem dX12_testRead_3 : decode cX12_testRead 3 = .ok (.iload_n 1, 1) := by decide +kernel
theorem dX12_testRead_4 : decode cX12_testRead 4 = .ok (.imul, 1) := by decide +kernel
theorem dX12_testRead_5 : decode cX12_testRead 5 = .ok (.istore_n 2, 1) := by decide +kernel
theorem dX12_testRead_6 : decode cX12_testRead 6 = .ok (.aload_n 0, 1) := by decide +kernel
theorem dX12_testRead_7 : decode cX12_testRead 7 = .ok (.invokevirtual 207, 3) := by decide +kernel
theorem dX12_testRead_10 : decode cX12_testRead 10 = .ok (.bipush 110, 2) := by decide +kernel
theorem dX12_testRead_12 : decode cX12_testRead 12 = .ok (.if_icmp .ne 21, 3) := by decide +kernel
theorem dX12_testRead_15 : decode cX12_testRead 15 = .ok (.aload_n 0, 1) := by decide +kernel
theorem dX12_testRead_16 : decode cX12_testRead 16 = .ok (.bipush 110, 2) := by decide +kernel
theorem dX12_testRead_18 : decode cX12_testRead 18 = .ok (.bipush 111, 2) := by decide +kernel
theorem dX12_testRead_20 : decode cX12_testRead 20 = .ok (.bipush 116, 2) := by decide +kernel
theorem dX12_testRead_22 : decode cX12_testRead 22 = .ok (.bipush 32, 2) := by decide +kernel
theorem dX12_testRead_24 : decode cX12_testRead 24 = .ok (.invokevirtual 215, 3) := by decide +kernel
theorem dX12_testRead_27 : decode cX12_testRead 27 = .ok (.iinc 2 500, 6) := by decide +kernel
theorem dX12_testRead_33 : decode cX12_testRead 33 = .ok (.iload_n 2, 1) := by decide +kernel
theorem dX12_testRead_34 : decode cX12_testRead 34 = .ok (.bipush 40, 2) := by decide +kernel
theorem dX12_testRead_36 : decode cX12_testRead 36 = .ok (.aload_n 0, 1) := by decide +kernel
theorem dX12_testRead_37 : decode cX12_testRead 37 = .ok (.invokevirtual 223, 3) := by decide +kernel
theorem dX12_testRead_40 : decode cX12_testRead 40 = .ok (.imul, 1) := by decide +kernel
theorem dX12_testRead_41 : decode cX12_testRead 41 = .ok (.iadd, 1) := by decide +kernel
theorem dX12_testRead_42 : decode cX12_testRead 42 = .ok (.istore_n 2, 1) := by decide +kernel
theorem dX12_testRead_43 : decode cX12_testRead 43 = .ok (.aload_n 0, 1) := by decide +kernel
theorem dX12_testRead_44 : decode cX12_testRead 44 = .ok (.invokevirtual 207, 3) := by decide +kernel
theorem dX12_testRead_47 : decode cX12_testRead 47 = .ok (.istore_n 3, 1) := by decide +kernel
theorem dX12_testRead_48 : decode cX12_testRead 48 = .ok (.aload_n 0, 1) := by decide +kernel
theorem dX12_testRead_49 : decode cX12_testRead 49 = .ok (.getfield 203, 3) := by decide +kernel
theorem dX12_testRead_52 : decode cX12_testRead 52 = .ok (.ifCond .ne 34, 3) := by decide +kernel
theorem dX12_testRead_55 : decode cX12_testRead 55 = .ok (.iload_n 3, 1) := by decide +kernel
theorem dX12_testRead_56 : decode cX12_testRead 56 = .ok (.bipush 60, 2) := by decide +kernel
theorem dX12_testRead_58 : decode cX12_testRead 58 = .ok (.if_icmp .eq 15, 3) := by decide +kernel
theorem dX12_testRead_61 : decode cX12_testRead 61 = .ok (.iload_n 3, 1) := by decide +kernel
theorem dX12_testRead_62 : decode cX12_testRead 62 = .ok (.bipush 61, 2) := by decide +kernel
theorem dX12_testRead_64 : decode cX12_testRead 64 = .ok (.if_icmp .eq 9, 3) := by decide +kernel
theorem dX12_testRead_67 : decode cX12_testRead 67 = .ok (.iload_n 3, 1) := by decide +kernel
theorem dX12_testRead_68 : decode cX12_testRead 68 = .ok (.bipush 62, 2) := by decide +kernel
theorem dX12_testRead_70 : decode cX12_testRead 70 = .ok (.if_icmp .ne 16, 3) := by decide +kernel
theorem dX12_testRead_73 : decode cX12_testRead 73 = .ok (.aload_n 0, 1) := by decide +kernel
theorem dX12_testRead_74 : decode cX12_testRead 74 = .ok (.dup, 1) := by decide +kernel
theorem dX12_testRead_75 : decode cX12_testRead 75 = .ok (.getfield 200, 3) := by decide +kernel
theorem dX12_testRead_78 : decode cX12_testRead 78 = .ok (.iconst 1, 1) := by decide +kernel
theorem dX12_testRead_79 : decode cX12_testRead 79 = .ok (.iadd, 1) := by decide +kernel
theorem dX12_testRead_80 : decode cX12_testRead 80 = .ok (.putfield 200, 3) := by decide +kernel
theorem dX12_testRead_83 : decode cX12_testRead 83 = .ok (.goto 8, 3) := by decide +kernel
theorem dX12_testRead_86 : decode cX12_testRead 86 = .ok (.aload_n 0, 1) := by decide +kernel
theorem dX12_testRead_87 : decode cX12_testRead 87 = .ok (.iconst 1, 1) := by decide +kernel
theorem dX12_testRead_88 : decode cX12_testRead 88 = .ok (.putfield 203, 3) := by decide +kernel
theorem dX12_testRead_91 : decode cX12_testRead 91 = .ok (.iload_n 2, 1) := by decide +kernel
theorem dX12_testRead_92 : decode cX12_testRead 92 = .ok (.iload_n 3, 1) := by decide +kernel
theorem dX12_testRead_93 : decode cX12_testRead 93 = .ok (.bipush 60, 2) := by decide +kernel
theorem dX12_testRead_95 : decode cX12_testRead 95 = .ok (.if_icmp .ne 7, 3) := by decide +kernel
theorem dX12_testRead_98 : decode cX12_testRead 98 = .ok (.iconst 0, 1) := by decide +kernel
theorem dX12_testRead_99 : decode cX12_testRead 99 = .ok (.goto 16, 3) := by decide +kernel
theorem dX12_testRead_102 : decode cX12_testRead 102 = .ok (.iload_n 3, 1) := by decide +kernel
theorem dX12_testRead_103 : decode cX12_testRead 103 = .ok (.bipush 61, 2) := by decide +kernel
theorem dX12_testRead_105 : decode cX12_testRead 105 = .ok (.if_icmp .ne 8, 3) := by decide +kernel
theorem dX12_testRead_108 : decode cX12_testRead 108 = .ok (.bipush 10, 2) := by decide +kernel
theorem dX12_testRead_110 : decode cX12_testRead 110 = .ok (.goto 5, 3) := by decide +kernel
theorem dX12_testRead_113 : decode cX12_testRead 113 = .ok (.bipush 20, 2) := by decide +kernel
theorem dX12_testRead_115 : decode cX12_testRead 115 = .ok (.iadd, 1) := by decide +kernel
theorem dX12_testRead_116 : decode cX12_testRead 116 = .ok (.istore_n 2, 1) := by decide +kernel
theorem dX12_testRead_117 : decode cX12_testRead 117 = .ok (.iload_n 2, 1) := by decide +kernel
theorem dX12_testRead_118 : decode cX12_testRead 118 = .ok (.aload_n 0, 1) := by decide +kernel
theorem dX12_testRead_119 : decode cX12_testRead 119 = .ok (.bipush 48, 2) := by decide +kernel
theorem dX12_testRead_121 : decode cX12_testRead 121 = .ok (.bipush 57, 2) := by decide +kernel
theorem dX12_testRead_123 : decode cX12_testRead 123 = .ok (.invokevirtual 219, 3) := by decide +kernel
theorem dX12_testRead_126 : decode cX12_testRead 126 = .ok (.iadd, 1) := by decide +kernel
theorem dX12_testRead_127 : decode cX12_testRead 127 = .ok (.ireturn, 1) := by decide +kernel
theorem dX12_read_0 : decode cX12_read 0 = .ok (.aload_n 0, 1) := by decide +kernel
theorem dX12_read_1 : decode cX12_read 1 = .ok (.iconst 0, 1) := by decide +kernel
theorem dX12_read_2 : decode cX12_read 2 = .ok (.putfield 200, 3) := by decide +kernel
theorem dX12_read_5 : decode cX12_read 5 = .ok (.aload_n 0, 1) := by decide +kernel
theorem dX12_read_6 : decode cX12_read 6 = .ok (.iconst 0, 1) := by decide +kernel
theorem dX12_read_7 : decode cX12_read 7 = .ok (.putfield 203, 3) := by decide +kernel
theorem dX12_read_10 : decode cX12_read 10 = .ok (.iconst 0, 1) := by decide +kernel
theorem dX12_read_11 : decode cX12_read 11 = .ok (.istore_n 2, 1) := by decide +kernel
theorem dX12_read_12 : decode cX12_read 12 = .ok (.iconst 0, 1) := by decide +kernel
theorem dX12_read_13 : decode cX12_read 13 = .ok (.istore_n 3, 1) := by decide +kernel
theorem dX12_read_14 : decode cX12_read 14 = .ok (.aload_n 0, 1) := by decide +kernel
theorem dX12_read_15 : decode cX12_read 15 = .ok (.invokevirtual 226, 3) := by decide +kernel
theorem dX12_read_18 : decode cX12_read 18 = .ok (.istore 4, 2) := by decide +kernel
theorem dX12_read_20 : decode cX12_read 20 = .ok (.aload_n 0, 1) := by decide +kernel
theorem dX12_read_21 : decode cX12_read 21 = .ok (.getfield 203, 3) := by decide +kernel
theorem dX12_read_24 : decode cX12_read 24 = .ok (.ifCond .ne 18, 3) := by decide +kernel
theorem dX12_read_27 : decode cX12_read 27 = .ok (.aload_n 0, 1) := by decide +kernel
theorem dX12_read_28 : decode cX12_read 28 = .ok (.getfield 200, 3) := by decide +kernel
theorem dX12_read_31 : decode cX12_read 31 = .ok (.aload_n 0, 1) := by decide +kernel
theorem dX12_read_32 : decode cX12_read 32 = .ok (.getfield 197, 3) := by decide +kernel
theorem dX12_read_35 : decode cX12_read 35 = .ok (.if_icmp .ge 7, 3) := by decide +kernel
theorem dX12_read_38 : decode cX12_read 38 = .ok (.iconst 1, 1) := by decide +kernel
theorem dX12_read_39 : decode cX12_read 39 = .ok (.goto 4, 3) := by decide +kernel
theorem dX12_read_42 : decode cX12_read 42 = .ok (.iconst 0, 1) := by decide +kernel
theorem dX12_read_43 : decode cX12_read 43 = .ok (.istore 5, 2) := by decide +kernel
theorem dX12_read_45 : decode cX12_read 45 = .ok (.iload 5, 2) := by decide +kernel
theorem dX12_read_47 : decode cX12_read 47 = .ok (.ifCond .eq 65, 3) := by decide +kernel
theorem dX12_read_50 : decode cX12_read 50 = .ok (.aload_n 0, 1) := by decide +kernel
theorem dX12_read_51 : decode cX12_read 51 = .ok (.bipush 32, 2) := by decide +kernel
theorem dX12_read_53 : decode cX12_read 53 = .ok (.invokevirtual 211, 3) := by decide +kernel
theorem dX12_read_56 : decode cX12_read 56 = .ok (.aload_n 0, 1) := by decide +kernel
theorem dX12_read_57 : decode cX12_read 57 = .ok (.invokevirtual 207, 3) := by decide +kernel
theorem dX12_read_60 : decode cX12_read 60 = .ok (.bipush 117, 2) := by decide +kernel
theorem dX12_read_62 : decode cX12_read 62 = .ok (.if_icmp .ne 32, 3) := by decide +kernel
theorem dX12_read_65 : decode cX12_read 65 = .ok (.iconst 1, 1) := by decide +kernel
theorem dX12_read_66 : decode cX12_read 66 = .ok (.istore_n 3, 1) := by decide +kernel
theorem dX12_read_67 : decode cX12_read 67 = .ok (.aload_n 0, 1) := by decide +kernel
theorem dX12_read_68 : decode cX12_read 68 = .ok (.bipush 117, 2) := by decide +kernel
theorem dX12_read_70 : decode cX12_read 70 = .ok (.bipush 110, 2) := by decide +kernel
theorem dX12_read_72 : decode cX12_read 72 = .ok (.bipush 108, 2) := by decide +kernel
theorem dX12_read_74 : decode cX12_read 74 = .ok (.bipush 101, 2) := by decide +kernel
theorem dX12_read_76 : decode cX12_read 76 = .ok (.invokevirtual 215, 3) := by decide +kernel
theorem dX12_read_79 : decode cX12_read 79 = .ok (.aload_n 0, 1) := by decide +kernel
theorem dX12_read_80 : decode cX12_read 80 = .ok (.bipush 115, 2) := by decide +kernel
theorem dX12_read_82 : decode cX12_read 82 = .ok (.invokevirtual 211, 3) := by decide +kernel
theorem dX12_read_85 : decode cX12_read 85 = .ok (.aload_n 0, 1) := by decide +kernel
theorem dX12_read_86 : decode cX12_read 86 = .ok (.bipush 115, 2) := by decide +kernel
theorem dX12_read_88 : decode cX12_read 88 = .ok (.invokevirtual 211, 3) := by decide +kernel
theorem dX12_read_91 : decode cX12_read 91 = .ok (.goto 15, 3) := by decide +kernel
theorem dX12_read_94 : decode cX12_read 94 = .ok (.aload_n 0, 1) := by decide +kernel
theorem dX12_read_95 : decode cX12_read 95 = .ok (.bipush 105, 2) := by decide +kernel
theorem dX12_read_97 : decode cX12_read 97 = .ok (.invokevirtual 211, 3) := by decide +kernel
theorem dX12_read_100 : decode cX12_read 100 = .ok (.aload_n 0, 1) := by decide +kernel
theorem dX12_read_101 : decode cX12_read 101 = .ok (.bipush 102, 2) := by decide +kernel
theorem dX12_read_103 : decode cX12_read 103 = .ok (.invokevirtual 211, 3) := by decide +kernel
theorem dX12_read_106 : decode cX12_read 106 = .ok (.aload_n 0, 1) := by decide +kernel
theorem dX12_read_107 : decode cX12_read 107 = .ok (.bipush 32, 2) := by decide +kernel
theorem dX12_read_109 : decode cX12_read 109 = .ok (.invokevirtual 211, 3) := by decide +kernel
theorem dX12_read_112 : decode cX12_read 112 = .ok (.iconst 0, 1) := by decide +kernel
theorem dX12_read_113 : decode cX12_read 113 = .ok (.istore 6, 2) := by decide +kernel
theorem dX12_read_115 : decode cX12_read 115 = .ok (.iload 5, 2) := by decide +kernel
theorem dX12_read_117 : decode cX12_read 117 = .ok (.ifCond .eq 140, 3) := by decide +kernel
theorem dX12_read_120 : decode cX12_read 120 = .ok (.aload_n 0, 1) := by decide +kernel
theorem dX12_read_121 : decode cX12_read 121 = .ok (.getfield 203, 3) := by decide +kernel
theorem dX12_read_124 : decode cX12_read 124 = .ok (.ifCond .ne 133, 3) := by decide +kernel
theorem dX12_read_127 : decode cX12_read 127 = .ok (.aload_n 0, 1) := by decide +kernel
theorem dX12_read_128 : decode cX12_read 128 = .ok (.getfield 23, 3) := by decide +kernel
theorem dX12_read_131 : decode cX12_read 131 = .ok (.iconst 5, 1) := by decide +kernel
theorem dX12_read_132 : decode cX12_read 132 = .ok (.iload_n 1, 1) := by decide +kernel
theorem dX12_read_133 : decode cX12_read 133 = .ok (.imul, 1) := by decide +kernel
theorem dX12_read_134 : decode cX12_read 134 = .ok (.iload_n 2, 1) := by decide +kernel
theorem dX12_read_135 : decode cX12_read 135 = .ok (.iadd, 1) := by decide +kernel
theorem dX12_read_136 : decode cX12_read 136 = .ok (.aload_n 0, 1) := by decide +kernel
theorem dX12_read_137 : decode cX12_read 137 = .ok (.iload 6, 2) := by decide +kernel
theorem dX12_read_139 : decode cX12_read 139 = .ok (.invokevirtual 229, 3) := by decide +kernel
theorem dX12_read_142 : decode cX12_read 142 = .ok (.iastore, 1) := by decide +kernel
theorem dX12_read_143 : decode cX12_read 143 = .ok (.iinc 2 1, 3) := by decide +kernel
theorem dX12_read_146 : decode cX12_read 146 = .ok (.aload_n 0, 1) := by decide +kernel
theorem dX12_read_147 : decode cX12_read 147 = .ok (.getfield 203, 3) := by decide +kernel
theorem dX12_read_150 : decode cX12_read 150 = .ok (.ifCond .ne 18, 3) := by decide +kernel
theorem dX12_read_153 : decode cX12_read 153 = .ok (.aload_n 0, 1) := by decide +kernel
theorem dX12_read_154 : decode cX12_read 154 = .ok (.getfield 200, 3) := by decide +kernel
theorem dX12_read_157 : decode cX12_read 157 = .ok (.aload_n 0, 1) := by decide +kernel
theorem dX12_read_158 : decode cX12_read 158 = .ok (.getfield 197, 3) := by decide +kernel
theorem dX12_read_161 : decode cX12_read 161 = .ok (.if_icmp .ge 7, 3) := by decide +kernel
theorem dX12_read_164 : decode cX12_read 164 = .ok (.iconst 1, 1) := by decide +kernel
theorem dX12_read_165 : decode cX12_read 165 = .ok (.goto 4, 3) := by decide +kernel
theorem dX12_read_168 : decode cX12_read 168 = .ok (.iconst 0, 1) := by decide +kernel
theorem dX12_read_169 : decode cX12_read 169 = .ok (.istore 5, 2) := by decide +kernel
theorem dX12_read_171 : decode cX12_read 171 = .ok (.iload 5, 2) := by decide +kernel
theorem dX12_read_173 : decode cX12_read 173 = .ok (.ifCond .eq 16, 3) := by decide +kernel
theorem dX12_read_176 : decode cX12_read 176 = .ok (.iload_n 2, 1) := by decide +kernel
theorem dX12_read_177 : decode cX12_read 177 = .ok (.iconst 5, 1) := by decide +kernel
theorem dX12_read_178 : decode cX12_read 178 = .ok (.if_icmp .ne 11, 3) := by decide +kernel
theorem dX12_read_181 : decode cX12_read 181 = .ok (.aload_n 0, 1) := by decide +kernel
theorem dX12_read_182 : decode cX12_read 182 = .ok (.iconst 1, 1) := by decide +kernel
theorem dX12_read_183 : decode cX12_read 183 = .ok (.putfield 203, 3) := by decide +kernel
theorem dX12_read_186 : decode cX12_read 186 = .ok (.goto (-71), 3) := by decide +kernel
theorem dX12_read_189 : decode cX12_read 189 = .ok (.iload 5, 2) := by decide +kernel
theorem dX12_read_191 : decode cX12_read 191 = .ok (.ifCond .eq (-76), 3) := by decide +kernel
theorem dX12_read_194 : decode cX12_read 194 = .ok (.aload_n 0, 1) := by decide +kernel
theorem dX12_read_195 : decode cX12_read 195 = .ok (.bipush 32, 2) := by decide +kernel
theorem dX12_read_197 : decode cX12_read 197 = .ok (.invokevirtual 211, 3) := by decide +kernel
theorem dX12_read_200 : decode cX12_read 200 = .ok (.aload_n 0, 1) := by decide +kernel
theorem dX12_read_201 : decode cX12_read 201 = .ok (.invokevirtual 207, 3) := by decide +kernel
theorem dX12_read_204 : decode cX12_read 204 = .ok (.bipush 111, 2) := by decide +kernel
theorem dX12_read_206 : decode cX12_read 206 = .ok (.if_icmp .ne 21, 3) := by decide +kernel
theorem dX12_read_209 : decode cX12_read 209 = .ok (.aload_n 0, 1) := by decide +kernel
theorem dX12_read_210 : decode cX12_read 210 = .ok (.bipush 111, 2) := by decide +kernel
theorem dX12_read_212 : decode cX12_read 212 = .ok (.invokevirtual 211, 3) := by decide +kernel
theorem dX12_read_215 : decode cX12_read 215 = .ok (.aload_n 0, 1) := by decide +kernel
theorem dX12_read_216 : decode cX12_read 216 = .ok (.bipush 114, 2) := by decide +kernel
theorem dX12_read_218 : decode cX12_read 218 = .ok (.invokevirtual 211, 3) := by decide +kernel
theorem dX12_read_221 : decode cX12_read 221 = .ok (.iconst 1, 1) := by decide +kernel
theorem dX12_read_222 : decode cX12_read 222 = .ok (.istore 6, 2) := by decide +kernel
theorem dX12_read_224 : decode cX12_read 224 = .ok (.goto 24, 3) := by decide +kernel
theorem dX12_read_227 : decode cX12_read 227 = .ok (.aload_n 0, 1) := by decide +kernel
theorem dX12_read_228 : decode cX12_read 228 = .ok (.bipush 97, 2) := by decide +kernel
theorem dX12_read_230 : decode cX12_read 230 = .ok (.invokevirtual 211, 3) := by decide +kernel
theorem dX12_read_233 : decode cX12_read 233 = .ok (.aload_n 0, 1) := by decide +kernel
theorem dX12_read_234 : decode cX12_read 234 = .ok (.bipush 110, 2) := by decide +kernel
theorem dX12_read_236 : decode cX12_read 236 = .ok (.invokevirtual 211, 3) := by decide +kernel
theorem dX12_read_239 : decode cX12_read 239 = .ok (.aload_n 0, 1) := by decide +kernel
theorem dX12_read_240 : decode cX12_read 240 = .ok (.bipush 100, 2) := by decide +kernel
theorem dX12_read_242 : decode cX12_read 242 = .ok (.invokevirtual 211, 3) := by decide +kernel
theorem dX12_read_245 : decode cX12_read 245 = .ok (.iconst 0, 1) := by decide +kernel
theorem dX12_read_246 : decode cX12_read 246 = .ok (.istore 6, 2) := by decide +kernel
theorem dX12_read_248 : decode cX12_read 248 = .ok (.aload_n 0, 1) := by decide +kernel
theorem dX12_read_249 : decode cX12_read 249 = .ok (.bipush 32, 2) := by decide +kernel
theorem dX12_read_251 : decode cX12_read 251 = .ok (.invokevirtual 211, 3) := by decide +kernel
theorem dX12_read_254 : decode cX12_read 254 = .ok (.goto (-139), 3) := by decide +kernel
theorem dX12_read_257 : decode cX12_read 257 = .ok (.aload_n 0, 1) := by decide +kernel
theorem dX12_read_258 : decode cX12_read 258 = .ok (.getfield 203, 3) := by decide +kernel
theorem dX12_read_261 : decode cX12_read 261 = .ok (.ifCond .eq 8, 3) := by decide +kernel
theorem dX12_read_264 : decode cX12_read 264 = .ok (.aload_n 0, 1) := by decide +kernel
theorem dX12_read_265 : decode cX12_read 265 = .ok (.getfield 200, 3) := by decide +kernel
theorem dX12_read_268 : decode cX12_read 268 = .ok (.ireturn, 1) := by decide +kernel
theorem dX12_read_269 : decode cX12_read 269 = .ok (.aload_n 0, 1) := by decide +kernel
theorem dX12_read_270 : decode cX12_read 270 = .ok (.getfield 13, 3) := by decide +kernel
theorem dX12_read_273 : decode cX12_read 273 = .ok (.iload_n 1, 1) := by decide +kernel
theorem dX12_read_274 : decode cX12_read 274 = .ok (.iload 4, 2) := by decide +kernel
theorem dX12_read_276 : decode cX12_read 276 = .ok (.iastore, 1) := by decide +kernel
theorem dX12_read_277 : decode cX12_read 277 = .ok (.aload_n 0, 1) := by decide +kernel
theorem dX12_read_278 : decode cX12_read 278 = .ok (.getfield 16, 3) := by decide +kernel
theorem dX12_read_281 : decode cX12_read 281 = .ok (.iload_n 1, 1) := by decide +kernel
theorem dX12_read_282 : decode cX12_read 282 = .ok (.iload_n 3, 1) := by decide +kernel
theorem dX12_read_283 : decode cX12_read 283 = .ok (.bastore, 1) := by decide +kernel
theorem dX12_read_284 : decode cX12_read 284 = .ok (.aload_n 0, 1) := by decide +kernel
theorem dX12_read_285 : decode cX12_read 285 = .ok (.getfield 20, 3) := by decide +kernel
theorem dX12_read_288 : decode cX12_read 288 = .ok (.iload_n 1, 1) := by decide +kernel
theorem dX12_read_289 : decode cX12_read 289 = .ok (.iload_n 2, 1) := by decide +kernel
theorem dX12_read_290 : decode cX12_read 290 = .ok (.iastore, 1) := by decide +kernel
theorem dX12_read_291 : decode cX12_read 291 = .ok (.iconst (-1), 1) := by decide +kernel
theorem dX12_read_292 : decode cX12_read 292 = .ok (.ireturn, 1) := by decide +kernel
theorem dX12_holds_0 : decode cX12_holds 0 = .ok (.iload_n 1, 1) := by decide +kernel
theorem dX12_holds_1 : decode cX12_holds 1 = .ok (.iload_n 0, 1) := by decide +kernel
theorem dX12_holds_2 : decode cX12_holds 2 = .ok (.sipush 500, 3) := by decide +kernel
theorem dX12_holds_5 : decode cX12_holds 5 = .ok (.irem, 1) := by decide +kernel
theorem dX12_holds_6 : decode cX12_holds 6 = .ok (.bipush 40, 2) := by decide +kernel
theorem dX12_holds_8 : decode cX12_holds 8 = .ok (.idiv, 1) := by decide +kernel
theorem dX12_holds_9 : decode cX12_holds 9 = .ok (.invokestatic 232, 3) := by decide +kernel
theorem dX12_holds_12 : decode cX12_holds 12 = .ok (.istore_n 2, 1) := by decide +kernel
theorem dX12_holds_13 : decode cX12_holds 13 = .ok (.iload_n 0, 1) := by decide +kernel
theorem dX12_holds_14 : decode cX12_holds 14 = .ok (.sipush 500, 3) := by decide +kernel
theorem dX12_holds_17 : decode cX12_holds 17 = .ok (.irem, 1) := by decide +kernel
theorem dX12_holds_18 : decode cX12_holds 18 = .ok (.bipush 40, 2) := by decide +kernel
theorem dX12_holds_20 : decode cX12_holds 20 = .ok (.irem, 1) := by decide +kernel
theorem dX12_holds_21 : decode cX12_holds 21 = .ok (.bipush 10, 2) := by decide +kernel
theorem dX12_holds_23 : decode cX12_holds 23 = .ok (.idiv, 1) := by decide +kernel
theorem dX12_holds_24 : decode cX12_holds 24 = .ok (.istore_n 3, 1) := by decide +kernel
theorem dX12_holds_25 : decode cX12_holds 25 = .ok (.iload_n 0, 1) := by decide +kernel
theorem dX12_holds_26 : decode cX12_holds 26 = .ok (.bipush 10, 2) := by decide +kernel
theorem dX12_holds_28 : decode cX12_holds 28 = .ok (.irem, 1) := by decide +kernel
theorem dX12_holds_29 : decode cX12_holds 29 = .ok (.istore 4, 2) := by decide +kernel
theorem dX12_holds_31 : decode cX12_holds 31 = .ok (.iload_n 3, 1) := by decide +kernel
theorem dX12_holds_32 : decode cX12_holds 32 = .ok (.ifCond .ne 17, 3) := by decide +kernel
theorem dX12_holds_35 : decode cX12_holds 35 = .ok (.iload_n 2, 1) := by decide +kernel
theorem dX12_holds_36 : decode cX12_holds 36 = .ok (.iload 4, 2) := by decide +kernel
theorem dX12_holds_38 : decode cX12_holds 38 = .ok (.if_icmp .ge 7, 3) := by decide +kernel
theorem dX12_holds_41 : decode cX12_holds 41 = .ok (.iconst 1, 1) := by decide +kernel
theorem dX12_holds_42 : decode cX12_holds 42 = .ok (.goto 37, 3) := by decide +kernel
theorem dX12_holds_45 : decode cX12_holds 45 = .ok (.iconst 0, 1) := by decide +kernel
theorem dX12_holds_46 : decode cX12_holds 46 = .ok (.goto 33, 3) := by decide +kernel
theorem dX12_holds_49 : decode cX12_holds 49 = .ok (.iload_n 3, 1) := by decide +kernel
theorem dX12_holds_50 : decode cX12_holds 50 = .ok (.iconst 1, 1) := by decide +kernel
theorem dX12_holds_51 : decode cX12_holds 51 = .ok (.if_icmp .ne 17, 3) := by decide +kernel
theorem dX12_holds_54 : decode cX12_holds 54 = .ok (.iload_n 2, 1) := by decide +kernel
theorem dX12_holds_55 : decode cX12_holds 55 = .ok (.iload 4, 2) := by decide +kernel
theorem dX12_holds_57 : decode cX12_holds 57 = .ok (.if_icmp .ne 7, 3) := by decide +kernel
theorem dX12_holds_60 : decode cX12_holds 60 = .ok (.iconst 1, 1) := by decide +kernel
theorem dX12_holds_61 : decode cX12_holds 61 = .ok (.goto 18, 3) := by decide +kernel
theorem dX12_holds_64 : decode cX12_holds 64 = .ok (.iconst 0, 1) := by decide +kernel
theorem dX12_holds_65 : decode cX12_holds 65 = .ok (.goto 14, 3) := by decide +kernel
theorem dX12_holds_68 : decode cX12_holds 68 = .ok (.iload_n 2, 1) := by decide +kernel
theorem dX12_holds_69 : decode cX12_holds 69 = .ok (.iload 4, 2) := by decide +kernel
theorem dX12_holds_71 : decode cX12_holds 71 = .ok (.if_icmp .le 7, 3) := by decide +kernel
theorem dX12_holds_74 : decode cX12_holds 74 = .ok (.iconst 1, 1) := by decide +kernel
theorem dX12_holds_75 : decode cX12_holds 75 = .ok (.goto 4, 3) := by decide +kernel
theorem dX12_holds_78 : decode cX12_holds 78 = .ok (.iconst 0, 1) := by decide +kernel
theorem dX12_holds_79 : decode cX12_holds 79 = .ok (.istore 5, 2) := by decide +kernel
theorem dX12_holds_81 : decode cX12_holds 81 = .ok (.iload 5, 2) := by decide +kernel
theorem dX12_holds_83 : decode cX12_holds 83 = .ok (.iload_n 0, 1) := by decide +kernel
theorem dX12_holds_84 : decode cX12_holds 84 = .ok (.sipush 1000, 3) := by decide +kernel
theorem dX12_holds_87 : decode cX12_holds 87 = .ok (.irem, 1) := by decide +kernel
theorem dX12_holds_88 : decode cX12_holds 88 = .ok (.sipush 500, 3) := by decide +kernel
theorem dX12_holds_91 : decode cX12_holds 91 = .ok (.if_icmp .lt 7, 3) := by decide +kernel
theorem dX12_holds_94 : decode cX12_holds 94 = .ok (.iconst 1, 1) := by decide +kernel
theorem dX12_holds_95 : decode cX12_holds 95 = .ok (.goto 4, 3) := by decide +kernel
theorem dX12_holds_98 : decode cX12_holds 98 = .ok (.iconst 0, 1) := by decide +kernel
theorem dX12_holds_99 : decode cX12_holds 99 = .ok (.if_icmp .eq 7, 3) := by decide +kernel
theorem dX12_holds_102 : decode cX12_holds 102 = .ok (.iconst 1, 1) := by decide +kernel
theorem dX12_holds_103 : decode cX12_holds 103 = .ok (.goto 4, 3) := by decide +kernel
theorem dX12_holds_106 : decode cX12_holds 106 = .ok (.iconst 0, 1) := by decide +kernel
theorem dX12_holds_107 : decode cX12_holds 107 = .ok (.ireturn, 1) := by decide +kernel
theorem dX12_fitsText_0 : decode cX12_fitsText 0 = .ok (.aload_n 0, 1) := by decide +kernel
theorem dX12_fitsText_1 : decode cX12_fitsText 1 = .ok (.getfield 20, 3) := by decide +kernel
theorem dX12_fitsText_4 : decode cX12_fitsText 4 = .ok (.iload_n 1, 1) := by decide +kernel
theorem dX12_fitsText_5 : decode cX12_fitsText 5 = .ok (.iaload, 1) := by decide +kernel
theorem dX12_fitsText_6 : decode cX12_fitsText 6 = .ok (.ifCond .ne 5, 3) := by decide +kernel
theorem dX12_fitsText_9 : decode cX12_fitsText 9 = .ok (.iconst 1, 1) := by decide +kernel
theorem dX12_fitsText_10 : decode cX12_fitsText 10 = .ok (.ireturn, 1) := by decide +kernel
theorem dX12_fitsText_11 : decode cX12_fitsText 11 = .ok (.iconst 0, 1) := by decide +kernel
theorem dX12_fitsText_12 : decode cX12_fitsText 12 = .ok (.istore_n 3, 1) := by decide +kernel
theorem dX12_fitsText_13 : decode cX12_fitsText 13 = .ok (.iconst 1, 1) := by decide +kernel
theorem dX12_fitsText_14 : decode cX12_fitsText 14 = .ok (.istore 4, 2) := by decide +kernel
theorem dX12_fitsText_16 : decode cX12_fitsText 16 = .ok (.iconst 0, 1) := by decide +kernel
theorem dX12_fitsText_17 : decode cX12_fitsText 17 = .ok (.istore 5, 2) := by decide +kernel
theorem dX12_fitsText_19 : decode cX12_fitsText 19 = .ok (.iload 5, 2) := by decide +kernel
theorem dX12_fitsText_21 : decode cX12_fitsText 21 = .ok (.aload_n 0, 1) := by decide +kernel
theorem dX12_fitsText_22 : decode cX12_fitsText 22 = .ok (.getfield 20, 3) := by decide +kernel
theorem dX12_fitsText_25 : decode cX12_fitsText 25 = .ok (.iload_n 1, 1) := by decide +kernel
theorem dX12_fitsText_26 : decode cX12_fitsText 26 = .ok (.iaload, 1) := by decide +kernel
theorem dX12_fitsText_27 : decode cX12_fitsText 27 = .ok (.if_icmp .ge 69, 3) := by decide +kernel
theorem dX12_fitsText_30 : decode cX12_fitsText 30 = .ok (.aload_n 0, 1) := by decide +kernel
theorem dX12_fitsText_31 : decode cX12_fitsText 31 = .ok (.getfield 23, 3) := by decide +kernel
theorem dX12_fitsText_34 : decode cX12_fitsText 34 = .ok (.iconst 5, 1) := by decide +kernel
theorem dX12_fitsText_35 : decode cX12_fitsText 35 = .ok (.iload_n 1, 1) := by decide +kernel
theorem dX12_fitsText_36 : decode cX12_fitsText 36 = .ok (.imul, 1) := by decide +kernel
theorem dX12_fitsText_37 : decode cX12_fitsText 37 = .ok (.iload 5, 2) := by decide +kernel
theorem dX12_fitsText_39 : decode cX12_fitsText 39 = .ok (.iadd, 1) := by decide +kernel
theorem dX12_fitsText_40 : decode cX12_fitsText 40 = .ok (.iaload, 1) := by decide +kernel
theorem dX12_fitsText_41 : decode cX12_fitsText 41 = .ok (.istore 6, 2) := by decide +kernel
theorem dX12_fitsText_43 : decode cX12_fitsText 43 = .ok (.iload 6, 2) := by decide +kernel
theorem dX12_fitsText_45 : decode cX12_fitsText 45 = .ok (.sipush 1000, 3) := by decide +kernel
theorem dX12_fitsText_48 : decode cX12_fitsText 48 = .ok (.if_icmp .lt 21, 3) := by decide +kernel
theorem dX12_fitsText_51 : decode cX12_fitsText 51 = .ok (.iload_n 3, 1) := by decide +kernel
theorem dX12_fitsText_52 : decode cX12_fitsText 52 = .ok (.ifCond .ne 8, 3) := by decide +kernel
theorem dX12_fitsText_55 : decode cX12_fitsText 55 = .ok (.iload 4, 2) := by decide +kernel
theorem dX12_fitsText_57 : decode cX12_fitsText 57 = .ok (.ifCond .eq 7, 3) := by decide +kernel
theorem dX12_fitsText_60 : decode cX12_fitsText 60 = .ok (.iconst 1, 1) := by decide +kernel
theorem dX12_fitsText_61 : decode cX12_fitsText 61 = .ok (.goto 4, 3) := by decide +kernel
theorem dX12_fitsText_64 : decode cX12_fitsText 64 = .ok (.iconst 0, 1) := by decide +kernel
theorem dX12_fitsText_65 : decode cX12_fitsText 65 = .ok (.istore_n 3, 1) := by decide +kernel
theorem dX12_fitsText_66 : decode cX12_fitsText 66 = .ok (.iconst 1, 1) := by decide +kernel
theorem dX12_fitsText_67 : decode cX12_fitsText 67 = .ok (.istore 4, 2) := by decide +kernel
theorem dX12_fitsText_69 : decode cX12_fitsText 69 = .ok (.iload 4, 2) := by decide +kernel
theorem dX12_fitsText_71 : decode cX12_fitsText 71 = .ok (.ifCond .eq 16, 3) := by decide +kernel
theorem dX12_fitsText_74 : decode cX12_fitsText 74 = .ok (.iload 6, 2) := by decide +kernel
theorem dX12_fitsText_76 : decode cX12_fitsText 76 = .ok (.iload_n 2, 1) := by decide +kernel
theorem dX12_fitsText_77 : decode cX12_fitsText 77 = .ok (.invokestatic 235, 3) := by decide +kernel
theorem dX12_fitsText_80 : decode cX12_fitsText 80 = .ok (.ifCond .eq 7, 3) := by decide +kernel
theorem dX12_fitsText_83 : decode cX12_fitsText 83 = .ok (.iconst 1, 1) := by decide +kernel
theorem dX12_fitsText_84 : decode cX12_fitsText 84 = .ok (.goto 4, 3) := by decide +kernel
theorem dX12_fitsText_87 : decode cX12_fitsText 87 = .ok (.iconst 0, 1) := by decide +kernel
theorem dX12_fitsText_88 : decode cX12_fitsText 88 = .ok (.istore 4, 2) := by decide +kernel
theorem dX12_fitsText_90 : decode cX12_fitsText 90 = .ok (.iinc 5 1, 3) := by decide +kernel
theorem dX12_fitsText_93 : decode cX12_fitsText 93 = .ok (.goto (-74), 3) := by decide +kernel
theorem dX12_fitsText_96 : decode cX12_fitsText 96 = .ok (.iload_n 3, 1) := by decide +kernel
theorem dX12_fitsText_97 : decode cX12_fitsText 97 = .ok (.ifCond .ne 8, 3) := by decide +kernel
theorem dX12_fitsText_100 : decode cX12_fitsText 100 = .ok (.iload 4, 2) := by decide +kernel
theorem dX12_fitsText_102 : decode cX12_fitsText 102 = .ok (.ifCond .eq 7, 3) := by decide +kernel
theorem dX12_fitsText_105 : decode cX12_fitsText 105 = .ok (.iconst 1, 1) := by decide +kernel
theorem dX12_fitsText_106 : decode cX12_fitsText 106 = .ok (.goto 4, 3) := by decide +kernel
theorem dX12_fitsText_109 : decode cX12_fitsText 109 = .ok (.iconst 0, 1) := by decide +kernel
theorem dX12_fitsText_110 : decode cX12_fitsText 110 = .ok (.aload_n 0, 1) := by decide +kernel
theorem dX12_fitsText_111 : decode cX12_fitsText 111 = .ok (.getfield 16, 3) := by decide +kernel
theorem dX12_fitsText_114 : decode cX12_fitsText 114 = .ok (.iload_n 1, 1) := by decide +kernel
theorem dX12_fitsText_115 : decode cX12_fitsText 115 = .ok (.baload, 1) := by decide +kernel
theorem dX12_fitsText_116 : decode cX12_fitsText 116 = .ok (.if_icmp .eq 7, 3) := by decide +kernel
theorem dX12_fitsText_119 : decode cX12_fitsText 119 = .ok (.iconst 1, 1) := by decide +kernel
theorem dX12_fitsText_120 : decode cX12_fitsText 120 = .ok (.goto 4, 3) := by decide +kernel
theorem dX12_fitsText_123 : decode cX12_fitsText 123 = .ok (.iconst 0, 1) := by decide +kernel
theorem dX12_fitsText_124 : decode cX12_fitsText 124 = .ok (.ireturn, 1) := by decide +kernel
theorem dX12_rule_0 : decode cX12_rule 0 = .ok (.iload_n 1, 1) := by decide +kernel
theorem dX12_rule_1 : decode cX12_rule 1 = .ok (.iconst 0, 1) := by decide +kernel
theorem dX12_rule_2 : decode cX12_rule 2 = .ok (.iconst 5, 1) := by decide +kernel
theorem dX12_rule_3 : decode cX12_rule 3 = .ok (.invokestatic 177, 3) := by decide +kernel
theorem dX12_rule_6 : decode cX12_rule 6 = .ok (.ifCond .eq 12, 3) := by decide +kernel
theorem dX12_rule_9 : decode cX12_rule 9 = .ok (.iload_n 2, 1) := by decide +kernel
theorem dX12_rule_10 : decode cX12_rule 10 = .ok (.iconst 1, 1) := by decide +kernel
theorem dX12_rule_11 : decode cX12_rule 11 = .ok (.iconst 5, 1) := by decide +kernel
theorem dX12_rule_12 : decode cX12_rule 12 = .ok (.invokestatic 177, 3) := by decide +kernel
theorem dX12_rule_15 : decode cX12_rule 15 = .ok (.ifCond .ne 5, 3) := by decide +kernel
theorem dX12_rule_18 : decode cX12_rule 18 = .ok (.iconst (-1), 1) := by decide +kernel
theorem dX12_rule_19 : decode cX12_rule 19 = .ok (.ireturn, 1) := by decide +kernel
theorem dX12_rule_20 : decode cX12_rule 20 = .ok (.iload_n 1, 1) := by decide +kernel
theorem dX12_rule_21 : decode cX12_rule 21 = .ok (.iconst 5, 1) := by decide +kernel
theorem dX12_rule_22 : decode cX12_rule 22 = .ok (.if_icmp .ne 16, 3) := by decide +kernel
theorem dX12_rule_25 : decode cX12_rule 25 = .ok (.iload_n 2, 1) := by decide +kernel
theorem dX12_rule_26 : decode cX12_rule 26 = .ok (.iconst 4, 1) := by decide +kernel
theorem dX12_rule_27 : decode cX12_rule 27 = .ok (.if_icmp .lt 7, 3) := by decide +kernel
theorem dX12_rule_30 : decode cX12_rule 30 = .ok (.iconst 1, 1) := by decide +kernel
theorem dX12_rule_31 : decode cX12_rule 31 = .ok (.goto 17, 3) := by decide +kernel
theorem dX12_rule_34 : decode cX12_rule 34 = .ok (.iconst 0, 1) := by decide +kernel
theorem dX12_rule_35 : decode cX12_rule 35 = .ok (.goto 13, 3) := by decide +kernel
theorem dX12_rule_38 : decode cX12_rule 38 = .ok (.iload_n 2, 1) := by decide +kernel
theorem dX12_rule_39 : decode cX12_rule 39 = .ok (.iconst 3, 1) := by decide +kernel
theorem dX12_rule_40 : decode cX12_rule 40 = .ok (.if_icmp .gt 7, 3) := by decide +kernel
theorem dX12_rule_43 : decode cX12_rule 43 = .ok (.iconst 1, 1) := by decide +kernel
theorem dX12_rule_44 : decode cX12_rule 44 = .ok (.goto 4, 3) := by decide +kernel
theorem dX12_rule_47 : decode cX12_rule 47 = .ok (.iconst 0, 1) := by decide +kernel
theorem dX12_rule_48 : decode cX12_rule 48 = .ok (.istore 6, 2) := by decide +kernel
theorem dX12_rule_50 : decode cX12_rule 50 = .ok (.iload 6, 2) := by decide +kernel
theorem dX12_rule_52 : decode cX12_rule 52 = .ok (.ifCond .eq 49, 3) := by decide +kernel
theorem dX12_rule_55 : decode cX12_rule 55 = .ok (.iload_n 3, 1) := by decide +kernel
theorem dX12_rule_56 : decode cX12_rule 56 = .ok (.iconst 0, 1) := by decide +kernel
theorem dX12_rule_57 : decode cX12_rule 57 = .ok (.bipush 9, 2) := by decide +kernel
theorem dX12_rule_59 : decode cX12_rule 59 = .ok (.invokestatic 177, 3) := by decide +kernel
theorem dX12_rule_62 : decode cX12_rule 62 = .ok (.ifCond .eq 39, 3) := by decide +kernel
theorem dX12_rule_65 : decode cX12_rule 65 = .ok (.iload 4, 2) := by decide +kernel
theorem dX12_rule_67 : decode cX12_rule 67 = .ok (.iconst 0, 1) := by decide +kernel
theorem dX12_rule_68 : decode cX12_rule 68 = .ok (.sipush 3999, 3) := by decide +kernel
theorem dX12_rule_71 : decode cX12_rule 71 = .ok (.invokestatic 177, 3) := by decide +kernel
theorem dX12_rule_74 : decode cX12_rule 74 = .ok (.ifCond .eq 27, 3) := by decide +kernel
theorem dX12_rule_77 : decode cX12_rule 77 = .ok (.iload_n 2, 1) := by decide +kernel
theorem dX12_rule_78 : decode cX12_rule 78 = .ok (.iconst 2, 1) := by decide +kernel
theorem dX12_rule_79 : decode cX12_rule 79 = .ok (.if_icmp .ne 17, 3) := by decide +kernel
theorem dX12_rule_82 : decode cX12_rule 82 = .ok (.iload 5, 2) := by decide +kernel
theorem dX12_rule_84 : decode cX12_rule 84 = .ok (.iconst 1, 1) := by decide +kernel
theorem dX12_rule_85 : decode cX12_rule 85 = .ok (.bipush 20, 2) := by decide +kernel
theorem dX12_rule_87 : decode cX12_rule 87 = .ok (.invokestatic 177, 3) := by decide +kernel
theorem dX12_rule_90 : decode cX12_rule 90 = .ok (.ifCond .ne 14, 3) := by decide +kernel
theorem dX12_rule_93 : decode cX12_rule 93 = .ok (.goto 8, 3) := by decide +kernel
theorem dX12_rule_96 : decode cX12_rule 96 = .ok (.iload 5, 2) := by decide +kernel
theorem dX12_rule_98 : decode cX12_rule 98 = .ok (.ifCond .eq 6, 3) := by decide +kernel
theorem dX12_rule_101 : decode cX12_rule 101 = .ok (.bipush (-2), 2) := by decide +kernel
theorem dX12_rule_103 : decode cX12_rule 103 = .ok (.ireturn, 1) := by decide +kernel
theorem dX12_rule_104 : decode cX12_rule 104 = .ok (.aload_n 0, 1) := by decide +kernel
theorem dX12_rule_105 : decode cX12_rule 105 = .ok (.getfield 181, 3) := by decide +kernel
theorem dX12_rule_108 : decode cX12_rule 108 = .ok (.bipush 80, 2) := by decide +kernel
theorem dX12_rule_110 : decode cX12_rule 110 = .ok (.if_icmp .ne 6, 3) := by decide +kernel
theorem dX12_rule_113 : decode cX12_rule 113 = .ok (.bipush (-4), 2) := by decide +kernel
theorem dX12_rule_115 : decode cX12_rule 115 = .ok (.ireturn, 1) := by decide +kernel
theorem dX12_rule_116 : decode cX12_rule 116 = .ok (.aload_n 0, 1) := by decide +kernel
theorem dX12_rule_117 : decode cX12_rule 117 = .ok (.aload_n 0, 1) := by decide +kernel
theorem dX12_rule_118 : decode cX12_rule 118 = .ok (.getfield 181, 3) := by decide +kernel
theorem dX12_rule_121 : decode cX12_rule 121 = .ok (.invokevirtual 239, 3) := by decide +kernel
theorem dX12_rule_124 : decode cX12_rule 124 = .ok (.istore 7, 2) := by decide +kernel
theorem dX12_rule_126 : decode cX12_rule 126 = .ok (.aload_n 0, 1) := by decide +kernel
theorem dX12_rule_127 : decode cX12_rule 127 = .ok (.iconst 0, 1) := by decide +kernel
theorem dX12_rule_128 : decode cX12_rule 128 = .ok (.putfield 197, 3) := by decide +kernel
theorem dX12_rule_131 : decode cX12_rule 131 = .ok (.iload 7, 2) := by decide +kernel
theorem dX12_rule_133 : decode cX12_rule 133 = .ok (.iconst (-1), 1) := by decide +kernel
theorem dX12_rule_134 : decode cX12_rule 134 = .ok (.if_icmp .eq 9, 3) := by decide +kernel
theorem dX12_rule_137 : decode cX12_rule 137 = .ok (.bipush (-10), 2) := by decide +kernel
theorem dX12_rule_139 : decode cX12_rule 139 = .ok (.iload 7, 2) := by decide +kernel
theorem dX12_rule_141 : decode cX12_rule 141 = .ok (.isub, 1) := by decide +kernel
theorem dX12_rule_142 : decode cX12_rule 142 = .ok (.ireturn, 1) := by decide +kernel
theorem dX12_rule_143 : decode cX12_rule 143 = .ok (.aload_n 0, 1) := by decide +kernel
theorem dX12_rule_144 : decode cX12_rule 144 = .ok (.getfield 26, 3) := by decide +kernel
theorem dX12_rule_147 : decode cX12_rule 147 = .ok (.aload_n 0, 1) := by decide +kernel
theorem dX12_rule_148 : decode cX12_rule 148 = .ok (.getfield 181, 3) := by decide +kernel
theorem dX12_rule_151 : decode cX12_rule 151 = .ok (.iload_n 2, 1) := by decide +kernel
theorem dX12_rule_152 : decode cX12_rule 152 = .ok (.iastore, 1) := by decide +kernel
theorem dX12_rule_153 : decode cX12_rule 153 = .ok (.aload_n 0, 1) := by decide +kernel
theorem dX12_rule_154 : decode cX12_rule 154 = .ok (.getfield 29, 3) := by decide +kernel
theorem dX12_rule_157 : decode cX12_rule 157 = .ok (.aload_n 0, 1) := by decide +kernel
theorem dX12_rule_158 : decode cX12_rule 158 = .ok (.getfield 181, 3) := by decide +kernel
theorem dX12_rule_161 : decode cX12_rule 161 = .ok (.iload_n 1, 1) := by decide +kernel
theorem dX12_rule_162 : decode cX12_rule 162 = .ok (.iastore, 1) := by decide +kernel
theorem dX12_rule_163 : decode cX12_rule 163 = .ok (.aload_n 0, 1) := by decide +kernel
theorem dX12_rule_164 : decode cX12_rule 164 = .ok (.getfield 32, 3) := by decide +kernel
theorem dX12_rule_167 : decode cX12_rule 167 = .ok (.aload_n 0, 1) := by decide +kernel
theorem dX12_rule_168 : decode cX12_rule 168 = .ok (.getfield 181, 3) := by decide +kernel
theorem dX12_rule_171 : decode cX12_rule 171 = .ok (.iload_n 3, 1) := by decide +kernel
theorem dX12_rule_172 : decode cX12_rule 172 = .ok (.iastore, 1) := by decide +kernel
theorem dX12_rule_173 : decode cX12_rule 173 = .ok (.aload_n 0, 1) := by decide +kernel
theorem dX12_rule_174 : decode cX12_rule 174 = .ok (.getfield 35, 3) := by decide +kernel
theorem dX12_rule_177 : decode cX12_rule 177 = .ok (.aload_n 0, 1) := by decide +kernel
theorem dX12_rule_178 : decode cX12_rule 178 = .ok (.getfield 181, 3) := by decide +kernel
theorem dX12_rule_181 : decode cX12_rule 181 = .ok (.iload 4, 2) := by decide +kernel
theorem dX12_rule_183 : decode cX12_rule 183 = .ok (.iastore, 1) := by decide +kernel
theorem dX12_rule_184 : decode cX12_rule 184 = .ok (.aload_n 0, 1) := by decide +kernel
theorem dX12_rule_185 : decode cX12_rule 185 = .ok (.getfield 38, 3) := by decide +kernel
theorem dX12_rule_188 : decode cX12_rule 188 = .ok (.aload_n 0, 1) := by decide +kernel
theorem dX12_rule_189 : decode cX12_rule 189 = .ok (.getfield 181, 3) := by decide +kernel
theorem dX12_rule_192 : decode cX12_rule 192 = .ok (.aload_n 0, 1) := by decide +kernel
theorem dX12_rule_193 : decode cX12_rule 193 = .ok (.getfield 194, 3) := by decide +kernel
theorem dX12_rule_196 : decode cX12_rule 196 = .ok (.iastore, 1) := by decide +kernel
theorem dX12_rule_197 : decode cX12_rule 197 = .ok (.aload_n 0, 1) := by decide +kernel
theorem dX12_rule_198 : decode cX12_rule 198 = .ok (.getfield 41, 3) := by decide +kernel
theorem dX12_rule_201 : decode cX12_rule 201 = .ok (.aload_n 0, 1) := by decide +kernel
theorem dX12_rule_202 : decode cX12_rule 202 = .ok (.getfield 181, 3) := by decide +kernel
theorem dX12_rule_205 : decode cX12_rule 205 = .ok (.iconst (-1), 1) := by decide +kernel
theorem dX12_rule_206 : decode cX12_rule 206 = .ok (.iastore, 1) := by decide +kernel
theorem dX12_rule_207 : decode cX12_rule 207 = .ok (.aload_n 0, 1) := by decide +kernel
theorem dX12_rule_208 : decode cX12_rule 208 = .ok (.getfield 47, 3) := by decide +kernel
theorem dX12_rule_211 : decode cX12_rule 211 = .ok (.aload_n 0, 1) := by decide +kernel
theorem dX12_rule_212 : decode cX12_rule 212 = .ok (.getfield 181, 3) := by decide +kernel
theorem dX12_rule_215 : decode cX12_rule 215 = .ok (.iload 5, 2) := by decide +kernel
theorem dX12_rule_217 : decode cX12_rule 217 = .ok (.iastore, 1) := by decide +kernel
theorem dX12_rule_218 : decode cX12_rule 218 = .ok (.aload_n 0, 1) := by decide +kernel
theorem dX12_rule_219 : decode cX12_rule 219 = .ok (.dup, 1) := by decide +kernel
theorem dX12_rule_220 : decode cX12_rule 220 = .ok (.getfield 181, 3) := by decide +kernel
theorem dX12_rule_223 : decode cX12_rule 223 = .ok (.iconst 1, 1) := by decide +kernel
theorem dX12_rule_224 : decode cX12_rule 224 = .ok (.iadd, 1) := by decide +kernel
theorem dX12_rule_225 : decode cX12_rule 225 = .ok (.putfield 181, 3) := by decide +kernel
theorem dX12_rule_228 : decode cX12_rule 228 = .ok (.aload_n 0, 1) := by decide +kernel
theorem dX12_rule_229 : decode cX12_rule 229 = .ok (.getfield 181, 3) := by decide +kernel
theorem dX12_rule_232 : decode cX12_rule 232 = .ok (.iconst 1, 1) := by decide +kernel
theorem dX12_rule_233 : decode cX12_rule 233 = .ok (.isub, 1) := by decide +kernel
theorem dX12_rule_234 : decode cX12_rule 234 = .ok (.ireturn, 1) := by decide +kernel
theorem dX12_strike_0 : decode cX12_strike 0 = .ok (.aload_n 0, 1) := by decide +kernel
theorem dX12_strike_1 : decode cX12_strike 1 = .ok (.iload_n 1, 1) := by decide +kernel
theorem dX12_strike_2 : decode cX12_strike 2 = .ok (.invokevirtual 242, 3) := by decide +kernel
theorem dX12_strike_5 : decode cX12_strike 5 = .ok (.ifCond .ne 5, 3) := by decide +kernel
theorem dX12_strike_8 : decode cX12_strike 8 = .ok (.iconst (-1), 1) := by decide +kernel
theorem dX12_strike_9 : decode cX12_strike 9 = .ok (.ireturn, 1) := by decide +kernel
theorem dX12_strike_10 : decode cX12_strike 10 = .ok (.iload_n 2, 1) := by decide +kernel
theorem dX12_strike_11 : decode cX12_strike 11 = .ok (.iconst 0, 1) := by decide +kernel
theorem dX12_strike_12 : decode cX12_strike 12 = .ok (.sipush 3999, 3) := by decide +kernel
theorem dX12_strike_15 : decode cX12_strike 15 = .ok (.invokestatic 177, 3) := by decide +kernel
theorem dX12_strike_18 : decode cX12_strike 18 = .ok (.ifCond .ne 6, 3) := by decide +kernel
theorem dX12_strike_21 : decode cX12_strike 21 = .ok (.bipush (-2), 2) := by decide +kernel
theorem dX12_strike_23 : decode cX12_strike 23 = .ok (.ireturn, 1) := by decide +kernel
theorem dX12_strike_24 : decode cX12_strike 24 = .ok (.aload_n 0, 1) := by decide +kernel
theorem dX12_strike_25 : decode cX12_strike 25 = .ok (.getfield 41, 3) := by decide +kernel
theorem dX12_strike_28 : decode cX12_strike 28 = .ok (.iload_n 1, 1) := by decide +kernel
theorem dX12_strike_29 : decode cX12_strike 29 = .ok (.iaload, 1) := by decide +kernel
theorem dX12_strike_30 : decode cX12_strike 30 = .ok (.iconst (-1), 1) := by decide +kernel
theorem dX12_strike_31 : decode cX12_strike 31 = .ok (.if_icmp .eq 6, 3) := by decide +kernel
theorem dX12_strike_34 : decode cX12_strike 34 = .ok (.bipush (-3), 2) := by decide +kernel
theorem dX12_strike_36 : decode cX12_strike 36 = .ok (.ireturn, 1) := by decide +kernel
theorem dX12_strike_37 : decode cX12_strike 37 = .ok (.aload_n 0, 1) := by decide +kernel
theorem dX12_strike_38 : decode cX12_strike 38 = .ok (.getfield 41, 3) := by decide +kernel
theorem dX12_strike_41 : decode cX12_strike 41 = .ok (.iload_n 1, 1) := by decide +kernel
theorem dX12_strike_42 : decode cX12_strike 42 = .ok (.iload_n 2, 1) := by decide +kernel
theorem dX12_strike_43 : decode cX12_strike 43 = .ok (.iastore, 1) := by decide +kernel
theorem dX12_strike_44 : decode cX12_strike 44 = .ok (.aload_n 0, 1) := by decide +kernel
theorem dX12_strike_45 : decode cX12_strike 45 = .ok (.getfield 44, 3) := by decide +kernel
theorem dX12_strike_48 : decode cX12_strike 48 = .ok (.iload_n 1, 1) := by decide +kernel
theorem dX12_strike_49 : decode cX12_strike 49 = .ok (.aload_n 0, 1) := by decide +kernel
theorem dX12_strike_50 : decode cX12_strike 50 = .ok (.getfield 194, 3) := by decide +kernel
theorem dX12_strike_53 : decode cX12_strike 53 = .ok (.iastore, 1) := by decide +kernel
theorem dX12_strike_54 : decode cX12_strike 54 = .ok (.iconst 1, 1) := by decide +kernel
theorem dX12_strike_55 : decode cX12_strike 55 = .ok (.ireturn, 1) := by decide +kernel
theorem dX12_fall_0 : decode cX12_fall 0 = .ok (.aload_n 0, 1) := by decide +kernel
theorem dX12_fall_1 : decode cX12_fall 1 = .ok (.iload_n 1, 1) := by decide +kernel
theorem dX12_fall_2 : decode cX12_fall 2 = .ok (.invokevirtual 242, 3) := by decide +kernel
theorem dX12_fall_5 : decode cX12_fall 5 = .ok (.ifCond .ne 5, 3) := by decide +kernel
theorem dX12_fall_8 : decode cX12_fall 8 = .ok (.iconst (-1), 1) := by decide +kernel
theorem dX12_fall_9 : decode cX12_fall 9 = .ok (.ireturn, 1) := by decide +kernel
theorem dX12_fall_10 : decode cX12_fall 10 = .ok (.aload_n 0, 1) := by decide +kernel
theorem dX12_fall_11 : decode cX12_fall 11 = .ok (.getfield 26, 3) := by decide +kernel
theorem dX12_fall_14 : decode cX12_fall 14 = .ok (.iload_n 1, 1) := by decide +kernel
theorem dX12_fall_15 : decode cX12_fall 15 = .ok (.iaload, 1) := by decide +kernel
theorem dX12_fall_16 : decode cX12_fall 16 = .ok (.iconst 2, 1) := by decide +kernel
theorem dX12_fall_17 : decode cX12_fall 17 = .ok (.if_icmp .ne 18, 3) := by decide +kernel
theorem dX12_fall_20 : decode cX12_fall 20 = .ok (.aload_n 0, 1) := by decide +kernel
theorem dX12_fall_21 : decode cX12_fall 21 = .ok (.getfield 50, 3) := by decide +kernel
theorem dX12_fall_24 : decode cX12_fall 24 = .ok (.iload_n 1, 1) := by decide +kernel
theorem dX12_fall_25 : decode cX12_fall 25 = .ok (.iaload, 1) := by decide +kernel
theorem dX12_fall_26 : decode cX12_fall 26 = .ok (.aload_n 0, 1) := by decide +kernel
theorem dX12_fall_27 : decode cX12_fall 27 = .ok (.getfield 47, 3) := by decide +kernel
theorem dX12_fall_30 : decode cX12_fall 30 = .ok (.iload_n 1, 1) := by decide +kernel
theorem dX12_fall_31 : decode cX12_fall 31 = .ok (.iaload, 1) := by decide +kernel
theorem dX12_fall_32 : decode cX12_fall 32 = .ok (.if_icmp .ne 6, 3) := by decide +kernel
theorem dX12_fall_35 : decode cX12_fall 35 = .ok (.bipush (-3), 2) := by decide +kernel
theorem dX12_fall_37 : decode cX12_fall 37 = .ok (.ireturn, 1) := by decide +kernel
theorem dX12_fall_38 : decode cX12_fall 38 = .ok (.aload_n 0, 1) := by decide +kernel
theorem dX12_fall_39 : decode cX12_fall 39 = .ok (.getfield 53, 3) := by decide +kernel
theorem dX12_fall_42 : decode cX12_fall 42 = .ok (.bipush 20, 2) := by decide +kernel
theorem dX12_fall_44 : decode cX12_fall 44 = .ok (.iload_n 1, 1) := by decide +kernel
theorem dX12_fall_45 : decode cX12_fall 45 = .ok (.imul, 1) := by decide +kernel
theorem dX12_fall_46 : decode cX12_fall 46 = .ok (.aload_n 0, 1) := by decide +kernel
theorem dX12_fall_47 : decode cX12_fall 47 = .ok (.getfield 50, 3) := by decide +kernel
theorem dX12_fall_50 : decode cX12_fall 50 = .ok (.iload_n 1, 1) := by decide +kernel
theorem dX12_fall_51 : decode cX12_fall 51 = .ok (.iaload, 1) := by decide +kernel
theorem dX12_fall_52 : decode cX12_fall 52 = .ok (.iadd, 1) := by decide +kernel
theorem dX12_fall_53 : decode cX12_fall 53 = .ok (.aload_n 0, 1) := by decide +kernel
theorem dX12_fall_54 : decode cX12_fall 54 = .ok (.getfield 194, 3) := by decide +kernel
theorem dX12_fall_57 : decode cX12_fall 57 = .ok (.iastore, 1) := by decide +kernel
theorem dX12_fall_58 : decode cX12_fall 58 = .ok (.aload_n 0, 1) := by decide +kernel
theorem dX12_fall_59 : decode cX12_fall 59 = .ok (.getfield 50, 3) := by decide +kernel
theorem dX12_fall_62 : decode cX12_fall 62 = .ok (.iload_n 1, 1) := by decide +kernel
theorem dX12_fall_63 : decode cX12_fall 63 = .ok (.dup2, 1) := by decide +kernel
theorem dX12_fall_64 : decode cX12_fall 64 = .ok (.iaload, 1) := by decide +kernel
theorem dX12_fall_65 : decode cX12_fall 65 = .ok (.iconst 1, 1) := by decide +kernel
theorem dX12_fall_66 : decode cX12_fall 66 = .ok (.iadd, 1) := by decide +kernel
theorem dX12_fall_67 : decode cX12_fall 67 = .ok (.iastore, 1) := by decide +kernel
theorem dX12_fall_68 : decode cX12_fall 68 = .ok (.aload_n 0, 1) := by decide +kernel
theorem dX12_fall_69 : decode cX12_fall 69 = .ok (.getfield 47, 3) := by decide +kernel
theorem dX12_fall_72 : decode cX12_fall 72 = .ok (.iload_n 1, 1) := by decide +kernel
theorem dX12_fall_73 : decode cX12_fall 73 = .ok (.iaload, 1) := by decide +kernel
theorem dX12_fall_74 : decode cX12_fall 74 = .ok (.aload_n 0, 1) := by decide +kernel
theorem dX12_fall_75 : decode cX12_fall 75 = .ok (.getfield 50, 3) := by decide +kernel
theorem dX12_fall_78 : decode cX12_fall 78 = .ok (.iload_n 1, 1) := by decide +kernel
theorem dX12_fall_79 : decode cX12_fall 79 = .ok (.iaload, 1) := by decide +kernel
theorem dX12_fall_80 : decode cX12_fall 80 = .ok (.isub, 1) := by decide +kernel
theorem dX12_fall_81 : decode cX12_fall 81 = .ok (.ireturn, 1) := by decide +kernel
theorem dX12_ruleOf_0 : decode cX12_ruleOf 0 = .ok (.aload_n 0, 1) := by decide +kernel
theorem dX12_ruleOf_1 : decode cX12_ruleOf 1 = .ok (.iload_n 1, 1) := by decide +kernel
theorem dX12_ruleOf_2 : decode cX12_ruleOf 2 = .ok (.invokevirtual 242, 3) := by decide +kernel
theorem dX12_ruleOf_5 : decode cX12_ruleOf 5 = .ok (.ifCond .ne 6, 3) := by decide +kernel
theorem dX12_ruleOf_8 : decode cX12_ruleOf 8 = .ok (.bipush (-5), 2) := by decide +kernel
theorem dX12_ruleOf_10 : decode cX12_ruleOf 10 = .ok (.ireturn, 1) := by decide +kernel
theorem dX12_ruleOf_11 : decode cX12_ruleOf 11 = .ok (.iload_n 2, 1) := by decide +kernel
theorem dX12_ruleOf_12 : decode cX12_ruleOf 12 = .ok (.tableswitch 111 0 7 #[48, 55, 62, 69, 76, 83, 90, 104], 48) := by decide +kernel
theorem dX12_ruleOf_60 : decode cX12_ruleOf 60 = .ok (.aload_n 0, 1) := by decide +kernel
theorem dX12_ruleOf_61 : decode cX12_ruleOf 61 = .ok (.getfield 26, 3) := by decide +kernel
theorem dX12_ruleOf_64 : decode cX12_ruleOf 64 = .ok (.iload_n 1, 1) := by decide +kernel
theorem dX12_ruleOf_65 : decode cX12_ruleOf 65 = .ok (.iaload, 1) := by decide +kernel
theorem dX12_ruleOf_66 : decode cX12_ruleOf 66 = .ok (.ireturn, 1) := by decide +kernel
theorem dX12_ruleOf_67 : decode cX12_ruleOf 67 = .ok (.aload_n 0, 1) := by decide +kernel
theorem dX12_ruleOf_68 : decode cX12_ruleOf 68 = .ok (.getfield 29, 3) := by decide +kernel
theorem dX12_ruleOf_71 : decode cX12_ruleOf 71 = .ok (.iload_n 1, 1) := by decide +kernel
theorem dX12_ruleOf_72 : decode cX12_ruleOf 72 = .ok (.iaload, 1) := by decide +kernel
theorem dX12_ruleOf_73 : decode cX12_ruleOf 73 = .ok (.ireturn, 1) := by decide +kernel
theorem dX12_ruleOf_74 : decode cX12_ruleOf 74 = .ok (.aload_n 0, 1) := by decide +kernel
theorem dX12_ruleOf_75 : decode cX12_ruleOf 75 = .ok (.getfield 32, 3) := by decide +kernel
theorem dX12_ruleOf_78 : decode cX12_ruleOf 78 = .ok (.iload_n 1, 1) := by decide +kernel
theorem dX12_ruleOf_79 : decode cX12_ruleOf 79 = .ok (.iaload, 1) := by decide +kernel
theorem dX12_ruleOf_80 : decode cX12_ruleOf 80 = .ok (.ireturn, 1) := by decide +kernel
theorem dX12_ruleOf_81 : decode cX12_ruleOf 81 = .ok (.aload_n 0, 1) := by decide +kernel
theorem dX12_ruleOf_82 : decode cX12_ruleOf 82 = .ok (.getfield 35, 3) := by decide +kernel
theorem dX12_ruleOf_85 : decode cX12_ruleOf 85 = .ok (.iload_n 1, 1) := by decide +kernel
theorem dX12_ruleOf_86 : decode cX12_ruleOf 86 = .ok (.iaload, 1) := by decide +kernel
theorem dX12_ruleOf_87 : decode cX12_ruleOf 87 = .ok (.ireturn, 1) := by decide +kernel
theorem dX12_ruleOf_88 : decode cX12_ruleOf 88 = .ok (.aload_n 0, 1) := by decide +kernel
theorem dX12_ruleOf_89 : decode cX12_ruleOf 89 = .ok (.getfield 13, 3) := by decide +kernel
theorem dX12_ruleOf_92 : decode cX12_ruleOf 92 = .ok (.iload_n 1, 1) := by decide +kernel
theorem dX12_ruleOf_93 : decode cX12_ruleOf 93 = .ok (.iaload, 1) := by decide +kernel
theorem dX12_ruleOf_94 : decode cX12_ruleOf 94 = .ok (.ireturn, 1) := by decide +kernel
theorem dX12_ruleOf_95 : decode cX12_ruleOf 95 = .ok (.aload_n 0, 1) := by decide +kernel
theorem dX12_ruleOf_96 : decode cX12_ruleOf 96 = .ok (.getfield 20, 3) := by decide +kernel
theorem dX12_ruleOf_99 : decode cX12_ruleOf 99 = .ok (.iload_n 1, 1) := by decide +kernel
theorem dX12_ruleOf_100 : decode cX12_ruleOf 100 = .ok (.iaload, 1) := by decide +kernel
theorem dX12_ruleOf_101 : decode cX12_ruleOf 101 = .ok (.ireturn, 1) := by decide +kernel
theorem dX12_ruleOf_102 : decode cX12_ruleOf 102 = .ok (.aload_n 0, 1) := by decide +kernel
theorem dX12_ruleOf_103 : decode cX12_ruleOf 103 = .ok (.getfield 47, 3) := by decide +kernel
theorem dX12_ruleOf_106 : decode cX12_ruleOf 106 = .ok (.iload_n 1, 1) := by decide +kernel
theorem dX12_ruleOf_107 : decode cX12_ruleOf 107 = .ok (.iaload, 1) := by decide +kernel
theorem dX12_ruleOf_108 : decode cX12_ruleOf 108 = .ok (.aload_n 0, 1) := by decide +kernel
theorem dX12_ruleOf_109 : decode cX12_ruleOf 109 = .ok (.getfield 50, 3) := by decide +kernel
theorem dX12_ruleOf_112 : decode cX12_ruleOf 112 = .ok (.iload_n 1, 1) := by decide +kernel
theorem dX12_ruleOf_113 : decode cX12_ruleOf 113 = .ok (.iaload, 1) := by decide +kernel
theorem dX12_ruleOf_114 : decode cX12_ruleOf 114 = .ok (.isub, 1) := by decide +kernel
theorem dX12_ruleOf_115 : decode cX12_ruleOf 115 = .ok (.ireturn, 1) := by decide +kernel
theorem dX12_ruleOf_116 : decode cX12_ruleOf 116 = .ok (.aload_n 0, 1) := by decide +kernel
theorem dX12_ruleOf_117 : decode cX12_ruleOf 117 = .ok (.getfield 41, 3) := by decide +kernel
theorem dX12_ruleOf_120 : decode cX12_ruleOf 120 = .ok (.iload_n 1, 1) := by decide +kernel
theorem dX12_ruleOf_121 : decode cX12_ruleOf 121 = .ok (.iaload, 1) := by decide +kernel
theorem dX12_ruleOf_122 : decode cX12_ruleOf 122 = .ok (.ireturn, 1) := by decide +kernel
theorem dX12_ruleOf_123 : decode cX12_ruleOf 123 = .ok (.bipush (-5), 2) := by decide +kernel
theorem dX12_ruleOf_125 : decode cX12_ruleOf 125 = .ok (.ireturn, 1) := by decide +kernel
theorem dX12_fits_0 : decode cX12_fits 0 = .ok (.aload_n 0, 1) := by decide +kernel
theorem dX12_fits_1 : decode cX12_fits 1 = .ok (.iload_n 1, 1) := by decide +kernel
theorem dX12_fits_2 : decode cX12_fits 2 = .ok (.invokevirtual 242, 3) := by decide +kernel
theorem dX12_fits_5 : decode cX12_fits 5 = .ok (.ifCond .eq 27, 3) := by decide +kernel
theorem dX12_fits_8 : decode cX12_fits 8 = .ok (.iload_n 2, 1) := by decide +kernel
theorem dX12_fits_9 : decode cX12_fits 9 = .ok (.invokestatic 246, 3) := by decide +kernel
theorem dX12_fits_12 : decode cX12_fits 12 = .ok (.ifCond .eq 20, 3) := by decide +kernel
theorem dX12_fits_15 : decode cX12_fits 15 = .ok (.aload_n 0, 1) := by decide +kernel
theorem dX12_fits_16 : decode cX12_fits 16 = .ok (.iload_n 1, 1) := by decide +kernel
theorem dX12_fits_17 : decode cX12_fits 17 = .ok (.iload_n 2, 1) := by decide +kernel
theorem dX12_fits_18 : decode cX12_fits 18 = .ok (.invokevirtual 249, 3) := by decide +kernel
theorem dX12_fits_21 : decode cX12_fits 21 = .ok (.ifCond .eq 7, 3) := by decide +kernel
theorem dX12_fits_24 : decode cX12_fits 24 = .ok (.iconst 1, 1) := by decide +kernel
theorem dX12_fits_25 : decode cX12_fits 25 = .ok (.goto 8, 3) := by decide +kernel
theorem dX12_fits_28 : decode cX12_fits 28 = .ok (.iconst 0, 1) := by decide +kernel
theorem dX12_fits_29 : decode cX12_fits 29 = .ok (.goto 4, 3) := by decide +kernel
theorem dX12_fits_32 : decode cX12_fits 32 = .ok (.iconst (-1), 1) := by decide +kernel
theorem dX12_fits_33 : decode cX12_fits 33 = .ok (.ireturn, 1) := by decide +kernel
theorem dX12_isInForce_0 : decode cX12_isInForce 0 = .ok (.aload_n 0, 1) := by decide +kernel
theorem dX12_isInForce_1 : decode cX12_isInForce 1 = .ok (.getfield 38, 3) := by decide +kernel
theorem dX12_isInForce_4 : decode cX12_isInForce 4 = .ok (.iload_n 1, 1) := by decide +kernel
theorem dX12_isInForce_5 : decode cX12_isInForce 5 = .ok (.iaload, 1) := by decide +kernel
theorem dX12_isInForce_6 : decode cX12_isInForce 6 = .ok (.iload_n 3, 1) := by decide +kernel
theorem dX12_isInForce_7 : decode cX12_isInForce 7 = .ok (.if_icmp .gt 43, 3) := by decide +kernel
theorem dX12_isInForce_10 : decode cX12_isInForce 10 = .ok (.aload_n 0, 1) := by decide +kernel
theorem dX12_isInForce_11 : decode cX12_isInForce 11 = .ok (.getfield 35, 3) := by decide +kernel
theorem dX12_isInForce_14 : decode cX12_isInForce 14 = .ok (.iload_n 1, 1) := by decide +kernel
theorem dX12_isInForce_15 : decode cX12_isInForce 15 = .ok (.iaload, 1) := by decide +kernel
theorem dX12_isInForce_16 : decode cX12_isInForce 16 = .ok (.iload_n 2, 1) := by decide +kernel
theorem dX12_isInForce_17 : decode cX12_isInForce 17 = .ok (.if_icmp .gt 33, 3) := by decide +kernel
theorem dX12_isInForce_20 : decode cX12_isInForce 20 = .ok (.aload_n 0, 1) := by decide +kernel
theorem dX12_isInForce_21 : decode cX12_isInForce 21 = .ok (.getfield 41, 3) := by decide +kernel
theorem dX12_isInForce_24 : decode cX12_isInForce 24 = .ok (.iload_n 1, 1) := by decide +kernel
theorem dX12_isInForce_25 : decode cX12_isInForce 25 = .ok (.iaload, 1) := by decide +kernel
theorem dX12_isInForce_26 : decode cX12_isInForce 26 = .ok (.iconst (-1), 1) := by decide +kernel
theorem dX12_isInForce_27 : decode cX12_isInForce 27 = .ok (.if_icmp .eq 25, 3) := by decide +kernel
theorem dX12_isInForce_30 : decode cX12_isInForce 30 = .ok (.aload_n 0, 1) := by decide +kernel
theorem dX12_isInForce_31 : decode cX12_isInForce 31 = .ok (.getfield 44, 3) := by decide +kernel
theorem dX12_isInForce_34 : decode cX12_isInForce 34 = .ok (.iload_n 1, 1) := by decide +kernel
theorem dX12_isInForce_35 : decode cX12_isInForce 35 = .ok (.iaload, 1) := by decide +kernel
theorem dX12_isInForce_36 : decode cX12_isInForce 36 = .ok (.iload_n 3, 1) := by decide +kernel
theorem dX12_isInForce_37 : decode cX12_isInForce 37 = .ok (.if_icmp .gt 15, 3) := by decide +kernel
theorem dX12_isInForce_40 : decode cX12_isInForce 40 = .ok (.aload_n 0, 1) := by decide +kernel
theorem dX12_isInForce_41 : decode cX12_isInForce 41 = .ok (.getfield 41, 3) := by decide +kernel
theorem dX12_isInForce_44 : decode cX12_isInForce 44 = .ok (.iload_n 1, 1) := by decide +kernel
theorem dX12_isInForce_45 : decode cX12_isInForce 45 = .ok (.iaload, 1) := by decide +kernel
theorem dX12_isInForce_46 : decode cX12_isInForce 46 = .ok (.iload_n 2, 1) := by decide +kernel
theorem dX12_isInForce_47 : decode cX12_isInForce 47 = .ok (.if_icmp .gt 5, 3) := by decide +kernel
theorem dX12_isInForce_50 : decode cX12_isInForce 50 = .ok (.iconst 0, 1) := by decide +kernel
theorem dX12_isInForce_51 : decode cX12_isInForce 51 = .ok (.ireturn, 1) := by decide +kernel
theorem dX12_isInForce_52 : decode cX12_isInForce 52 = .ok (.aload_n 0, 1) := by decide +kernel
theorem dX12_isInForce_53 : decode cX12_isInForce 53 = .ok (.getfield 26, 3) := by decide +kernel
theorem dX12_isInForce_56 : decode cX12_isInForce 56 = .ok (.iload_n 1, 1) := by decide +kernel
theorem dX12_isInForce_57 : decode cX12_isInForce 57 = .ok (.iaload, 1) := by decide +kernel
theorem dX12_isInForce_58 : decode cX12_isInForce 58 = .ok (.iconst 2, 1) := by decide +kernel
theorem dX12_isInForce_59 : decode cX12_isInForce 59 = .ok (.if_icmp .eq 5, 3) := by decide +kernel
theorem dX12_isInForce_62 : decode cX12_isInForce 62 = .ok (.iconst 1, 1) := by decide +kernel
theorem dX12_isInForce_63 : decode cX12_isInForce 63 = .ok (.ireturn, 1) := by decide +kernel
theorem dX12_isInForce_64 : decode cX12_isInForce 64 = .ok (.aload_n 0, 1) := by decide +kernel
theorem dX12_isInForce_65 : decode cX12_isInForce 65 = .ok (.getfield 47, 3) := by decide +kernel
theorem dX12_isInForce_68 : decode cX12_isInForce 68 = .ok (.iload_n 1, 1) := by decide +kernel
theorem dX12_isInForce_69 : decode cX12_isInForce 69 = .ok (.iaload, 1) := by decide +kernel
theorem dX12_isInForce_70 : decode cX12_isInForce 70 = .ok (.istore 4, 2) := by decide +kernel
theorem dX12_isInForce_72 : decode cX12_isInForce 72 = .ok (.iconst 0, 1) := by decide +kernel
theorem dX12_isInForce_73 : decode cX12_isInForce 73 = .ok (.istore 5, 2) := by decide +kernel
theorem dX12_isInForce_75 : decode cX12_isInForce 75 = .ok (.iload 5, 2) := by decide +kernel
theorem dX12_isInForce_77 : decode cX12_isInForce 77 = .ok (.aload_n 0, 1) := by decide +kernel
theorem dX12_isInForce_78 : decode cX12_isInForce 78 = .ok (.getfield 50, 3) := by decide +kernel
theorem dX12_isInForce_81 : decode cX12_isInForce 81 = .ok (.iload_n 1, 1) := by decide +kernel
theorem dX12_isInForce_82 : decode cX12_isInForce 82 = .ok (.iaload, 1) := by decide +kernel
theorem dX12_isInForce_83 : decode cX12_isInForce 83 = .ok (.if_icmp .ge 35, 3) := by decide +kernel
theorem dX12_isInForce_86 : decode cX12_isInForce 86 = .ok (.iload 4, 2) := by decide +kernel
theorem dX12_isInForce_88 : decode cX12_isInForce 88 = .ok (.aload_n 0, 1) := by decide +kernel
theorem dX12_isInForce_89 : decode cX12_isInForce 89 = .ok (.getfield 53, 3) := by decide +kernel
theorem dX12_isInForce_92 : decode cX12_isInForce 92 = .ok (.bipush 20, 2) := by decide +kernel
theorem dX12_isInForce_94 : decode cX12_isInForce 94 = .ok (.iload_n 1, 1) := by decide +kernel
theorem dX12_isInForce_95 : decode cX12_isInForce 95 = .ok (.imul, 1) := by decide +kernel
theorem dX12_isInForce_96 : decode cX12_isInForce 96 = .ok (.iload 5, 2) := by decide +kernel
theorem dX12_isInForce_98 : decode cX12_isInForce 98 = .ok (.iadd, 1) := by decide +kernel
theorem dX12_isInForce_99 : decode cX12_isInForce 99 = .ok (.iaload, 1) := by decide +kernel
theorem dX12_isInForce_100 : decode cX12_isInForce 100 = .ok (.iload_n 3, 1) := by decide +kernel
theorem dX12_isInForce_101 : decode cX12_isInForce 101 = .ok (.if_icmp .gt 7, 3) := by decide +kernel
theorem dX12_isInForce_104 : decode cX12_isInForce 104 = .ok (.iconst 1, 1) := by decide +kernel
theorem dX12_isInForce_105 : decode cX12_isInForce 105 = .ok (.goto 4, 3) := by decide +kernel
theorem dX12_isInForce_108 : decode cX12_isInForce 108 = .ok (.iconst 0, 1) := by decide +kernel
theorem dX12_isInForce_109 : decode cX12_isInForce 109 = .ok (.isub, 1) := by decide +kernel
theorem dX12_isInForce_110 : decode cX12_isInForce 110 = .ok (.istore 4, 2) := by decide +kernel
theorem dX12_isInForce_112 : decode cX12_isInForce 112 = .ok (.iinc 5 1, 3) := by decide +kernel
theorem dX12_isInForce_115 : decode cX12_isInForce 115 = .ok (.goto (-40), 3) := by decide +kernel
theorem dX12_isInForce_118 : decode cX12_isInForce 118 = .ok (.iload 4, 2) := by decide +kernel
theorem dX12_isInForce_120 : decode cX12_isInForce 120 = .ok (.iconst 2, 1) := by decide +kernel
theorem dX12_isInForce_121 : decode cX12_isInForce 121 = .ok (.if_icmp .lt 7, 3) := by decide +kernel
theorem dX12_isInForce_124 : decode cX12_isInForce 124 = .ok (.iconst 1, 1) := by decide +kernel
theorem dX12_isInForce_125 : decode cX12_isInForce 125 = .ok (.goto 4, 3) := by decide +kernel
theorem dX12_isInForce_128 : decode cX12_isInForce 128 = .ok (.iconst 0, 1) := by decide +kernel
theorem dX12_isInForce_129 : decode cX12_isInForce 129 = .ok (.ireturn, 1) := by decide +kernel
theorem dX12_answerBy_0 : decode cX12_answerBy 0 = .ok (.aload_n 0, 1) := by decide +kernel
theorem dX12_answerBy_1 : decode cX12_answerBy 1 = .ok (.iconst (-1), 1) := by decide +kernel
theorem dX12_answerBy_2 : decode cX12_answerBy 2 = .ok (.putfield 252, 3) := by decide +kernel
theorem dX12_answerBy_5 : decode cX12_answerBy 5 = .ok (.bipush (-3), 2) := by decide +kernel
theorem dX12_answerBy_7 : decode cX12_answerBy 7 = .ok (.istore 7, 2) := by decide +kernel
theorem dX12_answerBy_9 : decode cX12_answerBy 9 = .ok (.iconst 0, 1) := by decide +kernel
theorem dX12_answerBy_10 : decode cX12_answerBy 10 = .ok (.istore 8, 2) := by decide +kernel
theorem dX12_answerBy_12 : decode cX12_answerBy 12 = .ok (.iload 8, 2) := by decide +kernel
theorem dX12_answerBy_14 : decode cX12_answerBy 14 = .ok (.aload_n 0, 1) := by decide +kernel
theorem dX12_answerBy_15 : decode cX12_answerBy 15 = .ok (.getfield 181, 3) := by decide +kernel
theorem dX12_answerBy_18 : decode cX12_answerBy 18 = .ok (.if_icmp .ge 147, 3) := by decide +kernel
theorem dX12_answerBy_21 : decode cX12_answerBy 21 = .ok (.aload_n 0, 1) := by decide +kernel
theorem dX12_answerBy_22 : decode cX12_answerBy 22 = .ok (.getfield 29, 3) := by decide +kernel
theorem dX12_answerBy_25 : decode cX12_answerBy 25 = .ok (.iload 8, 2) := by decide +kernel
theorem dX12_answerBy_27 : decode cX12_answerBy 27 = .ok (.iaload, 1) := by decide +kernel
theorem dX12_answerBy_28 : decode cX12_answerBy 28 = .ok (.iload_n 1, 1) := by decide +kernel
theorem dX12_answerBy_29 : decode cX12_answerBy 29 = .ok (.if_icmp .ne 130, 3) := by decide +kernel
theorem dX12_answerBy_32 : decode cX12_answerBy 32 = .ok (.aload_n 0, 1) := by decide +kernel
theorem dX12_answerBy_33 : decode cX12_answerBy 33 = .ok (.getfield 26, 3) := by decide +kernel
theorem dX12_answerBy_36 : decode cX12_answerBy 36 = .ok (.iload 8, 2) := by decide +kernel
theorem dX12_answerBy_38 : decode cX12_answerBy 38 = .ok (.iaload, 1) := by decide +kernel
theorem dX12_answerBy_39 : decode cX12_answerBy 39 = .ok (.iload_n 2, 1) := by decide +kernel
theorem dX12_answerBy_40 : decode cX12_answerBy 40 = .ok (.iload_n 3, 1) := by decide +kernel
theorem dX12_answerBy_41 : decode cX12_answerBy 41 = .ok (.invokestatic 177, 3) := by decide +kernel
theorem dX12_answerBy_44 : decode cX12_answerBy 44 = .ok (.ifCond .eq 115, 3) := by decide +kernel
theorem dX12_answerBy_47 : decode cX12_answerBy 47 = .ok (.aload_n 0, 1) := by decide +kernel
theorem dX12_answerBy_48 : decode cX12_answerBy 48 = .ok (.getfield 32, 3) := by decide +kernel
theorem dX12_answerBy_51 : decode cX12_answerBy 51 = .ok (.iload 8, 2) := by decide +kernel
theorem dX12_answerBy_53 : decode cX12_answerBy 53 = .ok (.iaload, 1) := by decide +kernel
theorem dX12_answerBy_54 : decode cX12_answerBy 54 = .ok (.aload_n 0, 1) := by decide +kernel
theorem dX12_answerBy_55 : decode cX12_answerBy 55 = .ok (.getfield 252, 3) := by decide +kernel
theorem dX12_answerBy_58 : decode cX12_answerBy 58 = .ok (.if_icmp .lt 101, 3) := by decide +kernel
theorem dX12_answerBy_61 : decode cX12_answerBy 61 = .ok (.aload_n 0, 1) := by decide +kernel
theorem dX12_answerBy_62 : decode cX12_answerBy 62 = .ok (.iload 8, 2) := by decide +kernel
theorem dX12_answerBy_64 : decode cX12_answerBy 64 = .ok (.iload 5, 2) := by decide +kernel
theorem dX12_answerBy_66 : decode cX12_answerBy 66 = .ok (.iload 6, 2) := by decide +kernel
theorem dX12_answerBy_68 : decode cX12_answerBy 68 = .ok (.invokevirtual 255, 3) := by decide +kernel
theorem dX12_answerBy_71 : decode cX12_answerBy 71 = .ok (.ifCond .eq 88, 3) := by decide +kernel
theorem dX12_answerBy_74 : decode cX12_answerBy 74 = .ok (.iload 8, 2) := by decide +kernel
theorem dX12_answerBy_76 : decode cX12_answerBy 76 = .ok (.aload_n 0, 1) := by decide +kernel
theorem dX12_answerBy_77 : decode cX12_answerBy 77 = .ok (.getfield 147, 3) := by decide +kernel
theorem dX12_answerBy_80 : decode cX12_answerBy 80 = .ok (.if_icmp .ne 8, 3) := by decide +kernel
theorem dX12_answerBy_83 : decode cX12_answerBy 83 = .ok (.bipush 95, 2) := by decide +kernel
theorem dX12_answerBy_85 : decode cX12_answerBy 85 = .ok (.goto 5, 3) := by decide +kernel
theorem dX12_answerBy_88 : decode cX12_answerBy 88 = .ok (.iload 8, 2) := by decide +kernel
theorem dX12_answerBy_90 : decode cX12_answerBy 90 = .ok (.istore 9, 2) := by decide +kernel
theorem dX12_answerBy_92 : decode cX12_answerBy 92 = .ok (.aload_n 0, 1) := by decide +kernel
theorem dX12_answerBy_93 : decode cX12_answerBy 93 = .ok (.iload 9, 2) := by decide +kernel
theorem dX12_answerBy_95 : decode cX12_answerBy 95 = .ok (.iload 4, 2) := by decide +kernel
theorem dX12_answerBy_97 : decode cX12_answerBy 97 = .ok (.invokevirtual 249, 3) := by decide +kernel
theorem dX12_answerBy_100 : decode cX12_answerBy 100 = .ok (.ifCond .eq 59, 3) := by decide +kernel
theorem dX12_answerBy_103 : decode cX12_answerBy 103 = .ok (.aload_n 0, 1) := by decide +kernel
theorem dX12_answerBy_104 : decode cX12_answerBy 104 = .ok (.getfield 32, 3) := by decide +kernel
theorem dX12_answerBy_107 : decode cX12_answerBy 107 = .ok (.iload 8, 2) := by decide +kernel
theorem dX12_answerBy_109 : decode cX12_answerBy 109 = .ok (.iaload, 1) := by decide +kernel
theorem dX12_answerBy_110 : decode cX12_answerBy 110 = .ok (.aload_n 0, 1) := by decide +kernel
theorem dX12_answerBy_111 : decode cX12_answerBy 111 = .ok (.getfield 252, 3) := by decide +kernel
theorem dX12_answerBy_114 : decode cX12_answerBy 114 = .ok (.if_icmp .le 13, 3) := by decide +kernel
theorem dX12_answerBy_117 : decode cX12_answerBy 117 = .ok (.aload_n 0, 1) := by decide +kernel
theorem dX12_answerBy_118 : decode cX12_answerBy 118 = .ok (.getfield 13, 3) := by decide +kernel
theorem dX12_answerBy_121 : decode cX12_answerBy 121 = .ok (.iload 9, 2) := by decide +kernel
theorem dX12_answerBy_123 : decode cX12_answerBy 123 = .ok (.iaload, 1) := by decide +kernel
theorem dX12_answerBy_124 : decode cX12_answerBy 124 = .ok (.goto 22, 3) := by decide +kernel
theorem dX12_answerBy_127 : decode cX12_answerBy 127 = .ok (.iload 7, 2) := by decide +kernel
theorem dX12_answerBy_129 : decode cX12_answerBy 129 = .ok (.aload_n 0, 1) := by decide +kernel
theorem dX12_answerBy_130 : decode cX12_answerBy 130 = .ok (.getfield 13, 3) := by decide +kernel
theorem dX12_answerBy_133 : decode cX12_answerBy 133 = .ok (.iload 9, 2) := by decide +kernel
theorem dX12_answerBy_135 : decode cX12_answerBy 135 = .ok (.iaload, 1) := by decide +kernel
theorem dX12_answerBy_136 : decode cX12_answerBy 136 = .ok (.if_icmp .ne 8, 3) := by decide +kernel
theorem dX12_answerBy_139 : decode cX12_answerBy 139 = .ok (.iload 7, 2) := by decide +kernel
theorem dX12_answerBy_141 : decode cX12_answerBy 141 = .ok (.goto 5, 3) := by decide +kernel
theorem dX12_answerBy_144 : decode cX12_answerBy 144 = .ok (.bipush (-2), 2) := by decide +kernel
theorem dX12_answerBy_146 : decode cX12_answerBy 146 = .ok (.istore 7, 2) := by decide +kernel
theorem dX12_answerBy_148 : decode cX12_answerBy 148 = .ok (.aload_n 0, 1) := by decide +kernel
theorem dX12_answerBy_149 : decode cX12_answerBy 149 = .ok (.aload_n 0, 1) := by decide +kernel
theorem dX12_answerBy_150 : decode cX12_answerBy 150 = .ok (.getfield 32, 3) := by decide +kernel
theorem dX12_answerBy_153 : decode cX12_answerBy 153 = .ok (.iload 8, 2) := by decide +kernel
theorem dX12_answerBy_155 : decode cX12_answerBy 155 = .ok (.iaload, 1) := by decide +kernel
theorem dX12_answerBy_156 : decode cX12_answerBy 156 = .ok (.putfield 252, 3) := by decide +kernel
theorem dX12_answerBy_159 : decode cX12_answerBy 159 = .ok (.iinc 8 1, 3) := by decide +kernel
theorem dX12_answerBy_162 : decode cX12_answerBy 162 = .ok (.goto (-150), 3) := by decide +kernel
theorem dX12_answerBy_165 : decode cX12_answerBy 165 = .ok (.iload 7, 2) := by decide +kernel
theorem dX12_answerBy_167 : decode cX12_answerBy 167 = .ok (.ireturn, 1) := by decide +kernel
theorem dX12_answerOf_0 : decode cX12_answerOf 0 = .ok (.aload_n 0, 1) := by decide +kernel
theorem dX12_answerOf_1 : decode cX12_answerOf 1 = .ok (.iload_n 1, 1) := by decide +kernel
theorem dX12_answerOf_2 : decode cX12_answerOf 2 = .ok (.iload_n 1, 1) := by decide +kernel
theorem dX12_answerOf_3 : decode cX12_answerOf 3 = .ok (.iconst 5, 1) := by decide +kernel
theorem dX12_answerOf_4 : decode cX12_answerOf 4 = .ok (.if_icmp .ne 7, 3) := by decide +kernel
theorem dX12_answerOf_7 : decode cX12_answerOf 7 = .ok (.iconst 4, 1) := by decide +kernel
theorem dX12_answerOf_8 : decode cX12_answerOf 8 = .ok (.goto 4, 3) := by decide +kernel
theorem dX12_answerOf_11 : decode cX12_answerOf 11 = .ok (.iconst 1, 1) := by decide +kernel
theorem dX12_answerOf_12 : decode cX12_answerOf 12 = .ok (.iload_n 1, 1) := by decide +kernel
theorem dX12_answerOf_13 : decode cX12_answerOf 13 = .ok (.iconst 5, 1) := by decide +kernel
theorem dX12_answerOf_14 : decode cX12_answerOf 14 = .ok (.if_icmp .ne 7, 3) := by decide +kernel
theorem dX12_answerOf_17 : decode cX12_answerOf 17 = .ok (.iconst 4, 1) := by decide +kernel
theorem dX12_answerOf_18 : decode cX12_answerOf 18 = .ok (.goto 4, 3) := by decide +kernel
theorem dX12_answerOf_21 : decode cX12_answerOf 21 = .ok (.iconst 3, 1) := by decide +kernel
theorem dX12_answerOf_22 : decode cX12_answerOf 22 = .ok (.iload_n 2, 1) := by decide +kernel
theorem dX12_answerOf_23 : decode cX12_answerOf 23 = .ok (.iload_n 3, 1) := by decide +kernel
theorem dX12_answerOf_24 : decode cX12_answerOf 24 = .ok (.iload 4, 2) := by decide +kernel
theorem dX12_answerOf_26 : decode cX12_answerOf 26 = .ok (.invokevirtual 258, 3) := by decide +kernel
theorem dX12_answerOf_29 : decode cX12_answerOf 29 = .ok (.ireturn, 1) := by decide +kernel
theorem dX12_isAsked_0 : decode cX12_isAsked 0 = .ok (.iload_n 0, 1) := by decide +kernel
theorem dX12_isAsked_1 : decode cX12_isAsked 1 = .ok (.iconst 0, 1) := by decide +kernel
theorem dX12_isAsked_2 : decode cX12_isAsked 2 = .ok (.iconst 5, 1) := by decide +kernel
theorem dX12_isAsked_3 : decode cX12_isAsked 3 = .ok (.invokestatic 177, 3) := by decide +kernel
theorem dX12_isAsked_6 : decode cX12_isAsked 6 = .ok (.ifCond .eq 22, 3) := by decide +kernel
theorem dX12_isAsked_9 : decode cX12_isAsked 9 = .ok (.iload_n 1, 1) := by decide +kernel
theorem dX12_isAsked_10 : decode cX12_isAsked 10 = .ok (.invokestatic 246, 3) := by decide +kernel
theorem dX12_isAsked_13 : decode cX12_isAsked 13 = .ok (.ifCond .eq 15, 3) := by decide +kernel
theorem dX12_isAsked_16 : decode cX12_isAsked 16 = .ok (.iload_n 2, 1) := by decide +kernel
theorem dX12_isAsked_17 : decode cX12_isAsked 17 = .ok (.ifCond .lt 11, 3) := by decide +kernel
theorem dX12_isAsked_20 : decode cX12_isAsked 20 = .ok (.iload_n 3, 1) := by decide +kernel
theorem dX12_isAsked_21 : decode cX12_isAsked 21 = .ok (.ifCond .lt 7, 3) := by decide +kernel
theorem dX12_isAsked_24 : decode cX12_isAsked 24 = .ok (.iconst 1, 1) := by decide +kernel
theorem dX12_isAsked_25 : decode cX12_isAsked 25 = .ok (.goto 4, 3) := by decide +kernel
theorem dX12_isAsked_28 : decode cX12_isAsked 28 = .ok (.iconst 0, 1) := by decide +kernel
theorem dX12_isAsked_29 : decode cX12_isAsked 29 = .ok (.ireturn, 1) := by decide +kernel
theorem dX12_answer_0 : decode cX12_answer 0 = .ok (.iload_n 1, 1) := by decide +kernel
theorem dX12_answer_1 : decode cX12_answer 1 = .ok (.iload_n 2, 1) := by decide +kernel
theorem dX12_answer_2 : decode cX12_answer 2 = .ok (.iload_n 3, 1) := by decide +kernel
theorem dX12_answer_3 : decode cX12_answer 3 = .ok (.iload 4, 2) := by decide +kernel
theorem dX12_answer_5 : decode cX12_answer 5 = .ok (.invokestatic 262, 3) := by decide +kernel
theorem dX12_answer_8 : decode cX12_answer 8 = .ok (.ifCond .eq 15, 3) := by decide +kernel
theorem dX12_answer_11 : decode cX12_answer 11 = .ok (.aload_n 0, 1) := by decide +kernel
theorem dX12_answer_12 : decode cX12_answer 12 = .ok (.iload_n 1, 1) := by decide +kernel
theorem dX12_answer_13 : decode cX12_answer 13 = .ok (.iload_n 2, 1) := by decide +kernel
theorem dX12_answer_14 : decode cX12_answer 14 = .ok (.iload_n 3, 1) := by decide +kernel
theorem dX12_answer_15 : decode cX12_answer 15 = .ok (.iload 4, 2) := by decide +kernel
theorem dX12_answer_17 : decode cX12_answer 17 = .ok (.invokevirtual 266, 3) := by decide +kernel
theorem dX12_answer_20 : decode cX12_answer 20 = .ok (.goto 5, 3) := by decide +kernel
theorem dX12_answer_23 : decode cX12_answer 23 = .ok (.bipush (-5), 2) := by decide +kernel
theorem dX12_answer_25 : decode cX12_answer 25 = .ok (.ireturn, 1) := by decide +kernel
theorem dX12_why_0 : decode cX12_why 0 = .ok (.iload_n 1, 1) := by decide +kernel
theorem dX12_why_1 : decode cX12_why 1 = .ok (.iload_n 2, 1) := by decide +kernel
theorem dX12_why_2 : decode cX12_why 2 = .ok (.iload_n 3, 1) := by decide +kernel
theorem dX12_why_3 : decode cX12_why 3 = .ok (.iload 4, 2) := by decide +kernel
theorem dX12_why_5 : decode cX12_why 5 = .ok (.invokestatic 262, 3) := by decide +kernel
theorem dX12_why_8 : decode cX12_why 8 = .ok (.ifCond .ne 6, 3) := by decide +kernel
theorem dX12_why_11 : decode cX12_why 11 = .ok (.bipush (-5), 2) := by decide +kernel
theorem dX12_why_13 : decode cX12_why 13 = .ok (.ireturn, 1) := by decide +kernel
theorem dX12_why_14 : decode cX12_why 14 = .ok (.aload_n 0, 1) := by decide +kernel
theorem dX12_why_15 : decode cX12_why 15 = .ok (.iload_n 1, 1) := by decide +kernel
theorem dX12_why_16 : decode cX12_why 16 = .ok (.iload_n 2, 1) := by decide +kernel
theorem dX12_why_17 : decode cX12_why 17 = .ok (.iload_n 3, 1) := by decide +kernel
theorem dX12_why_18 : decode cX12_why 18 = .ok (.iload 4, 2) := by decide +kernel
theorem dX12_why_20 : decode cX12_why 20 = .ok (.invokevirtual 266, 3) := by decide +kernel
theorem dX12_why_23 : decode cX12_why 23 = .ok (.istore 6, 2) := by decide +kernel
theorem dX12_why_25 : decode cX12_why 25 = .ok (.iconst 0, 1) := by decide +kernel
theorem dX12_why_26 : decode cX12_why 26 = .ok (.istore 7, 2) := by decide +kernel
theorem dX12_why_28 : decode cX12_why 28 = .ok (.iconst 0, 1) := by decide +kernel
theorem dX12_why_29 : decode cX12_why 29 = .ok (.istore 8, 2) := by decide +kernel
theorem dX12_why_31 : decode cX12_why 31 = .ok (.iload 8, 2) := by decide +kernel
theorem dX12_why_33 : decode cX12_why 33 = .ok (.aload_n 0, 1) := by decide +kernel
theorem dX12_why_34 : decode cX12_why 34 = .ok (.getfield 181, 3) := by decide +kernel
theorem dX12_why_37 : decode cX12_why 37 = .ok (.if_icmp .ge 111, 3) := by decide +kernel
theorem dX12_why_40 : decode cX12_why 40 = .ok (.iload 6, 2) := by decide +kernel
theorem dX12_why_42 : decode cX12_why 42 = .ok (.bipush (-3), 2) := by decide +kernel
theorem dX12_why_44 : decode cX12_why 44 = .ok (.if_icmp .eq 104, 3) := by decide +kernel
theorem dX12_why_47 : decode cX12_why 47 = .ok (.aload_n 0, 1) := by decide +kernel
theorem dX12_why_48 : decode cX12_why 48 = .ok (.getfield 29, 3) := by decide +kernel
theorem dX12_why_51 : decode cX12_why 51 = .ok (.iload 8, 2) := by decide +kernel
theorem dX12_why_53 : decode cX12_why 53 = .ok (.iaload, 1) := by decide +kernel
theorem dX12_why_54 : decode cX12_why 54 = .ok (.iload_n 1, 1) := by decide +kernel
theorem dX12_why_55 : decode cX12_why 55 = .ok (.if_icmp .ne 54, 3) := by decide +kernel
theorem dX12_why_58 : decode cX12_why 58 = .ok (.aload_n 0, 1) := by decide +kernel
theorem dX12_why_59 : decode cX12_why 59 = .ok (.getfield 26, 3) := by decide +kernel
theorem dX12_why_62 : decode cX12_why 62 = .ok (.iload 8, 2) := by decide +kernel
theorem dX12_why_64 : decode cX12_why 64 = .ok (.iaload, 1) := by decide +kernel
theorem dX12_why_65 : decode cX12_why 65 = .ok (.iconst 5, 1) := by decide +kernel
theorem dX12_why_66 : decode cX12_why 66 = .ok (.if_icmp .eq 43, 3) := by decide +kernel
theorem dX12_why_69 : decode cX12_why 69 = .ok (.aload_n 0, 1) := by decide +kernel
theorem dX12_why_70 : decode cX12_why 70 = .ok (.getfield 32, 3) := by decide +kernel
theorem dX12_why_73 : decode cX12_why 73 = .ok (.iload 8, 2) := by decide +kernel
theorem dX12_why_75 : decode cX12_why 75 = .ok (.iaload, 1) := by decide +kernel
theorem dX12_why_76 : decode cX12_why 76 = .ok (.aload_n 0, 1) := by decide +kernel
theorem dX12_why_77 : decode cX12_why 77 = .ok (.getfield 252, 3) := by decide +kernel
theorem dX12_why_80 : decode cX12_why 80 = .ok (.if_icmp .ne 29, 3) := by decide +kernel
theorem dX12_why_83 : decode cX12_why 83 = .ok (.aload_n 0, 1) := by decide +kernel
theorem dX12_why_84 : decode cX12_why 84 = .ok (.iload 8, 2) := by decide +kernel
theorem dX12_why_86 : decode cX12_why 86 = .ok (.iload_n 3, 1) := by decide +kernel
theorem dX12_why_87 : decode cX12_why 87 = .ok (.iload 4, 2) := by decide +kernel
theorem dX12_why_89 : decode cX12_why 89 = .ok (.invokevirtual 255, 3) := by decide +kernel
theorem dX12_why_92 : decode cX12_why 92 = .ok (.ifCond .eq 17, 3) := by decide +kernel
theorem dX12_why_95 : decode cX12_why 95 = .ok (.aload_n 0, 1) := by decide +kernel
theorem dX12_why_96 : decode cX12_why 96 = .ok (.iload 8, 2) := by decide +kernel
theorem dX12_why_98 : decode cX12_why 98 = .ok (.iload_n 2, 1) := by decide +kernel
theorem dX12_why_99 : decode cX12_why 99 = .ok (.invokevirtual 249, 3) := by decide +kernel
theorem dX12_why_102 : decode cX12_why 102 = .ok (.ifCond .eq 7, 3) := by decide +kernel
theorem dX12_why_105 : decode cX12_why 105 = .ok (.iconst 1, 1) := by decide +kernel
theorem dX12_why_106 : decode cX12_why 106 = .ok (.goto 4, 3) := by decide +kernel
theorem dX12_why_109 : decode cX12_why 109 = .ok (.iconst 0, 1) := by decide +kernel
theorem dX12_why_110 : decode cX12_why 110 = .ok (.istore 9, 2) := by decide +kernel
theorem dX12_why_112 : decode cX12_why 112 = .ok (.iload 9, 2) := by decide +kernel
theorem dX12_why_114 : decode cX12_why 114 = .ok (.ifCond .eq 13, 3) := by decide +kernel
theorem dX12_why_117 : decode cX12_why 117 = .ok (.iload 7, 2) := by decide +kernel
theorem dX12_why_119 : decode cX12_why 119 = .ok (.iload 5, 2) := by decide +kernel
theorem dX12_why_121 : decode cX12_why 121 = .ok (.if_icmp .ne 6, 3) := by decide +kernel
theorem dX12_why_124 : decode cX12_why 124 = .ok (.iload 8, 2) := by decide +kernel
theorem dX12_why_126 : decode cX12_why 126 = .ok (.ireturn, 1) := by decide +kernel
theorem dX12_why_127 : decode cX12_why 127 = .ok (.iload 7, 2) := by decide +kernel
theorem dX12_why_129 : decode cX12_why 129 = .ok (.iload 9, 2) := by decide +kernel
theorem dX12_why_131 : decode cX12_why 131 = .ok (.ifCond .eq 7, 3) := by decide +kernel
theorem dX12_why_134 : decode cX12_why 134 = .ok (.iconst 1, 1) := by decide +kernel
theorem dX12_why_135 : decode cX12_why 135 = .ok (.goto 4, 3) := by decide +kernel
theorem dX12_why_138 : decode cX12_why 138 = .ok (.iconst 0, 1) := by decide +kernel
theorem dX12_why_139 : decode cX12_why 139 = .ok (.iadd, 1) := by decide +kernel
theorem dX12_why_140 : decode cX12_why 140 = .ok (.istore 7, 2) := by decide +kernel
theorem dX12_why_142 : decode cX12_why 142 = .ok (.iinc 8 1, 3) := by decide +kernel
theorem dX12_why_145 : decode cX12_why 145 = .ok (.goto (-114), 3) := by decide +kernel
theorem dX12_why_148 : decode cX12_why 148 = .ok (.iconst (-1), 1) := by decide +kernel
theorem dX12_why_149 : decode cX12_why 149 = .ok (.ireturn, 1) := by decide +kernel
theorem dX12_district_0 : decode cX12_district 0 = .ok (.iload_n 1, 1) := by decide +kernel
theorem dX12_district_1 : decode cX12_district 1 = .ok (.iconst 0, 1) := by decide +kernel
theorem dX12_district_2 : decode cX12_district 2 = .ok (.iconst 4, 1) := by decide +kernel
theorem dX12_district_3 : decode cX12_district 3 = .ok (.invokestatic 177, 3) := by decide +kernel
theorem dX12_district_6 : decode cX12_district 6 = .ok (.ifCond .ne 5, 3) := by decide +kernel
theorem dX12_district_9 : decode cX12_district 9 = .ok (.iconst (-1), 1) := by decide +kernel
theorem dX12_district_10 : decode cX12_district 10 = .ok (.ireturn, 1) := by decide +kernel
theorem dX12_district_11 : decode cX12_district 11 = .ok (.iload_n 2, 1) := by decide +kernel
theorem dX12_district_12 : decode cX12_district 12 = .ok (.iconst 1, 1) := by decide +kernel
theorem dX12_district_13 : decode cX12_district 13 = .ok (.bipush 99, 2) := by decide +kernel
theorem dX12_district_15 : decode cX12_district 15 = .ok (.invokestatic 177, 3) := by decide +kernel
theorem dX12_district_18 : decode cX12_district 18 = .ok (.ifCond .ne 6, 3) := by decide +kernel
theorem dX12_district_21 : decode cX12_district 21 = .ok (.bipush (-2), 2) := by decide +kernel
theorem dX12_district_23 : decode cX12_district 23 = .ok (.ireturn, 1) := by decide +kernel
theorem dX12_district_24 : decode cX12_district 24 = .ok (.aload_n 0, 1) := by decide +kernel
theorem dX12_district_25 : decode cX12_district 25 = .ok (.getfield 184, 3) := by decide +kernel
theorem dX12_district_28 : decode cX12_district 28 = .ok (.bipush 8, 2) := by decide +kernel
theorem dX12_district_30 : decode cX12_district 30 = .ok (.if_icmp .ne 6, 3) := by decide +kernel
theorem dX12_district_33 : decode cX12_district 33 = .ok (.bipush (-4), 2) := by decide +kernel
theorem dX12_district_35 : decode cX12_district 35 = .ok (.ireturn, 1) := by decide +kernel
theorem dX12_district_36 : decode cX12_district 36 = .ok (.aload_n 0, 1) := by decide +kernel
theorem dX12_district_37 : decode cX12_district 37 = .ok (.getfield 56, 3) := by decide +kernel
theorem dX12_district_40 : decode cX12_district 40 = .ok (.aload_n 0, 1) := by decide +kernel
theorem dX12_district_41 : decode cX12_district 41 = .ok (.getfield 184, 3) := by decide +kernel
theorem dX12_district_44 : decode cX12_district 44 = .ok (.iload_n 1, 1) := by decide +kernel
theorem dX12_district_45 : decode cX12_district 45 = .ok (.iastore, 1) := by decide +kernel
theorem dX12_district_46 : decode cX12_district 46 = .ok (.aload_n 0, 1) := by decide +kernel
theorem dX12_district_47 : decode cX12_district 47 = .ok (.getfield 59, 3) := by decide +kernel
theorem dX12_district_50 : decode cX12_district 50 = .ok (.aload_n 0, 1) := by decide +kernel
theorem dX12_district_51 : decode cX12_district 51 = .ok (.getfield 184, 3) := by decide +kernel
theorem dX12_district_54 : decode cX12_district 54 = .ok (.iload_n 2, 1) := by decide +kernel
theorem dX12_district_55 : decode cX12_district 55 = .ok (.iastore, 1) := by decide +kernel
theorem dX12_district_56 : decode cX12_district 56 = .ok (.aload_n 0, 1) := by decide +kernel
theorem dX12_district_57 : decode cX12_district 57 = .ok (.getfield 62, 3) := by decide +kernel
theorem dX12_district_60 : decode cX12_district 60 = .ok (.aload_n 0, 1) := by decide +kernel
theorem dX12_district_61 : decode cX12_district 61 = .ok (.getfield 184, 3) := by decide +kernel
theorem dX12_district_64 : decode cX12_district 64 = .ok (.iconst (-1), 1) := by decide +kernel
theorem dX12_district_65 : decode cX12_district 65 = .ok (.iastore, 1) := by decide +kernel
theorem dX12_district_66 : decode cX12_district 66 = .ok (.aload_n 0, 1) := by decide +kernel
theorem dX12_district_67 : decode cX12_district 67 = .ok (.dup, 1) := by decide +kernel
theorem dX12_district_68 : decode cX12_district 68 = .ok (.getfield 184, 3) := by decide +kernel
theorem dX12_district_71 : decode cX12_district 71 = .ok (.iconst 1, 1) := by decide +kernel
theorem dX12_district_72 : decode cX12_district 72 = .ok (.iadd, 1) := by decide +kernel
theorem dX12_district_73 : decode cX12_district 73 = .ok (.putfield 184, 3) := by decide +kernel
theorem dX12_district_76 : decode cX12_district 76 = .ok (.aload_n 0, 1) := by decide +kernel
theorem dX12_district_77 : decode cX12_district 77 = .ok (.getfield 184, 3) := by decide +kernel
theorem dX12_district_80 : decode cX12_district 80 = .ok (.iconst 1, 1) := by decide +kernel
theorem dX12_district_81 : decode cX12_district 81 = .ok (.isub, 1) := by decide +kernel
theorem dX12_district_82 : decode cX12_district 82 = .ok (.ireturn, 1) := by decide +kernel
theorem dX12_carried_0 : decode cX12_carried 0 = .ok (.aload_n 0, 1) := by decide +kernel
theorem dX12_carried_1 : decode cX12_carried 1 = .ok (.iload_n 1, 1) := by decide +kernel
theorem dX12_carried_2 : decode cX12_carried 2 = .ok (.invokevirtual 270, 3) := by decide +kernel
theorem dX12_carried_5 : decode cX12_carried 5 = .ok (.ifCond .ne 5, 3) := by decide +kernel
theorem dX12_carried_8 : decode cX12_carried 8 = .ok (.iconst (-1), 1) := by decide +kernel
theorem dX12_carried_9 : decode cX12_carried 9 = .ok (.ireturn, 1) := by decide +kernel
theorem dX12_carried_10 : decode cX12_carried 10 = .ok (.iload_n 2, 1) := by decide +kernel
theorem dX12_carried_11 : decode cX12_carried 11 = .ok (.aload_n 0, 1) := by decide +kernel
theorem dX12_carried_12 : decode cX12_carried 12 = .ok (.getfield 194, 3) := by decide +kernel
theorem dX12_carried_15 : decode cX12_carried 15 = .ok (.sipush 3999, 3) := by decide +kernel
theorem dX12_carried_18 : decode cX12_carried 18 = .ok (.invokestatic 177, 3) := by decide +kernel
theorem dX12_carried_21 : decode cX12_carried 21 = .ok (.ifCond .ne 6, 3) := by decide +kernel
theorem dX12_carried_24 : decode cX12_carried 24 = .ok (.bipush (-2), 2) := by decide +kernel
theorem dX12_carried_26 : decode cX12_carried 26 = .ok (.ireturn, 1) := by decide +kernel
theorem dX12_carried_27 : decode cX12_carried 27 = .ok (.aload_n 0, 1) := by decide +kernel
theorem dX12_carried_28 : decode cX12_carried 28 = .ok (.getfield 62, 3) := by decide +kernel
theorem dX12_carried_31 : decode cX12_carried 31 = .ok (.iload_n 1, 1) := by decide +kernel
theorem dX12_carried_32 : decode cX12_carried 32 = .ok (.iaload, 1) := by decide +kernel
theorem dX12_carried_33 : decode cX12_carried 33 = .ok (.iconst (-1), 1) := by decide +kernel
theorem dX12_carried_34 : decode cX12_carried 34 = .ok (.if_icmp .eq 6, 3) := by decide +kernel
theorem dX12_carried_37 : decode cX12_carried 37 = .ok (.bipush (-3), 2) := by decide +kernel
theorem dX12_carried_39 : decode cX12_carried 39 = .ok (.ireturn, 1) := by decide +kernel
theorem dX12_carried_40 : decode cX12_carried 40 = .ok (.aload_n 0, 1) := by decide +kernel
theorem dX12_carried_41 : decode cX12_carried 41 = .ok (.getfield 62, 3) := by decide +kernel
theorem dX12_carried_44 : decode cX12_carried 44 = .ok (.iload_n 1, 1) := by decide +kernel
theorem dX12_carried_45 : decode cX12_carried 45 = .ok (.iload_n 2, 1) := by decide +kernel
theorem dX12_carried_46 : decode cX12_carried 46 = .ok (.iastore, 1) := by decide +kernel
theorem dX12_carried_47 : decode cX12_carried 47 = .ok (.iconst 1, 1) := by decide +kernel
theorem dX12_carried_48 : decode cX12_carried 48 = .ok (.ireturn, 1) := by decide +kernel
theorem dX12_isCode_0 : decode cX12_isCode 0 = .ok (.aload_n 0, 1) := by decide +kernel
theorem dX12_isCode_1 : decode cX12_isCode 1 = .ok (.getfield 62, 3) := by decide +kernel
theorem dX12_isCode_4 : decode cX12_isCode 4 = .ok (.iload_n 1, 1) := by decide +kernel
theorem dX12_isCode_5 : decode cX12_isCode 5 = .ok (.iaload, 1) := by decide +kernel
theorem dX12_isCode_6 : decode cX12_isCode 6 = .ok (.iconst (-1), 1) := by decide +kernel
theorem dX12_isCode_7 : decode cX12_isCode 7 = .ok (.if_icmp .eq 17, 3) := by decide +kernel
theorem dX12_isCode_10 : decode cX12_isCode 10 = .ok (.aload_n 0, 1) := by decide +kernel
theorem dX12_isCode_11 : decode cX12_isCode 11 = .ok (.getfield 62, 3) := by decide +kernel
theorem dX12_isCode_14 : decode cX12_isCode 14 = .ok (.iload_n 1, 1) := by decide +kernel
theorem dX12_isCode_15 : decode cX12_isCode 15 = .ok (.iaload, 1) := by decide +kernel
theorem dX12_isCode_16 : decode cX12_isCode 16 = .ok (.iload_n 2, 1) := by decide +kernel
theorem dX12_isCode_17 : decode cX12_isCode 17 = .ok (.if_icmp .gt 7, 3) := by decide +kernel
theorem dX12_isCode_20 : decode cX12_isCode 20 = .ok (.iconst 1, 1) := by decide +kernel
theorem dX12_isCode_21 : decode cX12_isCode 21 = .ok (.goto 4, 3) := by decide +kernel
theorem dX12_isCode_24 : decode cX12_isCode 24 = .ok (.iconst 0, 1) := by decide +kernel
theorem dX12_isCode_25 : decode cX12_isCode 25 = .ok (.ireturn, 1) := by decide +kernel
theorem dX12_lawOf_0 : decode cX12_lawOf 0 = .ok (.aload_n 0, 1) := by decide +kernel
theorem dX12_lawOf_1 : decode cX12_lawOf 1 = .ok (.iload_n 1, 1) := by decide +kernel
theorem dX12_lawOf_2 : decode cX12_lawOf 2 = .ok (.iload 4, 2) := by decide +kernel
theorem dX12_lawOf_4 : decode cX12_lawOf 4 = .ok (.invokevirtual 273, 3) := by decide +kernel
theorem dX12_lawOf_7 : decode cX12_lawOf 7 = .ok (.ifCond .ne 18, 3) := by decide +kernel
theorem dX12_lawOf_10 : decode cX12_lawOf 10 = .ok (.aload_n 0, 1) := by decide +kernel
theorem dX12_lawOf_11 : decode cX12_lawOf 11 = .ok (.aload_n 0, 1) := by decide +kernel
theorem dX12_lawOf_12 : decode cX12_lawOf 12 = .ok (.getfield 56, 3) := by decide +kernel
theorem dX12_lawOf_15 : decode cX12_lawOf 15 = .ok (.iload_n 1, 1) := by decide +kernel
theorem dX12_lawOf_16 : decode cX12_lawOf 16 = .ok (.iaload, 1) := by decide +kernel
theorem dX12_lawOf_17 : decode cX12_lawOf 17 = .ok (.iload_n 2, 1) := by decide +kernel
theorem dX12_lawOf_18 : decode cX12_lawOf 18 = .ok (.iload_n 3, 1) := by decide +kernel
theorem dX12_lawOf_19 : decode cX12_lawOf 19 = .ok (.iload 5, 2) := by decide +kernel
theorem dX12_lawOf_21 : decode cX12_lawOf 21 = .ok (.invokevirtual 266, 3) := by decide +kernel
theorem dX12_lawOf_24 : decode cX12_lawOf 24 = .ok (.ireturn, 1) := by decide +kernel
theorem dX12_lawOf_25 : decode cX12_lawOf 25 = .ok (.aload_n 0, 1) := by decide +kernel
theorem dX12_lawOf_26 : decode cX12_lawOf 26 = .ok (.iload_n 1, 1) := by decide +kernel
theorem dX12_lawOf_27 : decode cX12_lawOf 27 = .ok (.iload_n 3, 1) := by decide +kernel
theorem dX12_lawOf_28 : decode cX12_lawOf 28 = .ok (.invokevirtual 273, 3) := by decide +kernel
theorem dX12_lawOf_31 : decode cX12_lawOf 31 = .ok (.ifCond .eq 13, 3) := by decide +kernel
theorem dX12_lawOf_34 : decode cX12_lawOf 34 = .ok (.aload_n 0, 1) := by decide +kernel
theorem dX12_lawOf_35 : decode cX12_lawOf 35 = .ok (.iconst 5, 1) := by decide +kernel
theorem dX12_lawOf_36 : decode cX12_lawOf 36 = .ok (.iload_n 2, 1) := by decide +kernel
theorem dX12_lawOf_37 : decode cX12_lawOf 37 = .ok (.iload_n 3, 1) := by decide +kernel
theorem dX12_lawOf_38 : decode cX12_lawOf 38 = .ok (.iload 5, 2) := by decide +kernel
theorem dX12_lawOf_40 : decode cX12_lawOf 40 = .ok (.invokevirtual 266, 3) := by decide +kernel
theorem dX12_lawOf_43 : decode cX12_lawOf 43 = .ok (.ireturn, 1) := by decide +kernel
theorem dX12_lawOf_44 : decode cX12_lawOf 44 = .ok (.aload_n 0, 1) := by decide +kernel
theorem dX12_lawOf_45 : decode cX12_lawOf 45 = .ok (.iconst 5, 1) := by decide +kernel
theorem dX12_lawOf_46 : decode cX12_lawOf 46 = .ok (.iconst 5, 1) := by decide +kernel
theorem dX12_lawOf_47 : decode cX12_lawOf 47 = .ok (.iconst 5, 1) := by decide +kernel
theorem dX12_lawOf_48 : decode cX12_lawOf 48 = .ok (.iload_n 2, 1) := by decide +kernel
theorem dX12_lawOf_49 : decode cX12_lawOf 49 = .ok (.iload 4, 2) := by decide +kernel
theorem dX12_lawOf_51 : decode cX12_lawOf 51 = .ok (.iload 5, 2) := by decide +kernel
theorem dX12_lawOf_53 : decode cX12_lawOf 53 = .ok (.invokevirtual 258, 3) := by decide +kernel
theorem dX12_lawOf_56 : decode cX12_lawOf 56 = .ok (.istore 6, 2) := by decide +kernel
theorem dX12_lawOf_58 : decode cX12_lawOf 58 = .ok (.iload 6, 2) := by decide +kernel
theorem dX12_lawOf_60 : decode cX12_lawOf 60 = .ok (.bipush (-3), 2) := by decide +kernel
theorem dX12_lawOf_62 : decode cX12_lawOf 62 = .ok (.if_icmp .ne 20, 3) := by decide +kernel
theorem dX12_lawOf_65 : decode cX12_lawOf 65 = .ok (.aload_n 0, 1) := by decide +kernel
theorem dX12_lawOf_66 : decode cX12_lawOf 66 = .ok (.aload_n 0, 1) := by decide +kernel
theorem dX12_lawOf_67 : decode cX12_lawOf 67 = .ok (.getfield 56, 3) := by decide +kernel
theorem dX12_lawOf_70 : decode cX12_lawOf 70 = .ok (.iload_n 1, 1) := by decide +kernel
theorem dX12_lawOf_71 : decode cX12_lawOf 71 = .ok (.iaload, 1) := by decide +kernel
theorem dX12_lawOf_72 : decode cX12_lawOf 72 = .ok (.iload_n 2, 1) := by decide +kernel
theorem dX12_lawOf_73 : decode cX12_lawOf 73 = .ok (.iload_n 3, 1) := by decide +kernel
theorem dX12_lawOf_74 : decode cX12_lawOf 74 = .ok (.iload 5, 2) := by decide +kernel
theorem dX12_lawOf_76 : decode cX12_lawOf 76 = .ok (.invokevirtual 266, 3) := by decide +kernel
theorem dX12_lawOf_79 : decode cX12_lawOf 79 = .ok (.goto 5, 3) := by decide +kernel
theorem dX12_lawOf_82 : decode cX12_lawOf 82 = .ok (.iload 6, 2) := by decide +kernel
theorem dX12_lawOf_84 : decode cX12_lawOf 84 = .ok (.ireturn, 1) := by decide +kernel
theorem dX12_law_0 : decode cX12_law 0 = .ok (.aload_n 0, 1) := by decide +kernel
theorem dX12_law_1 : decode cX12_law 1 = .ok (.iload_n 1, 1) := by decide +kernel
theorem dX12_law_2 : decode cX12_law 2 = .ok (.invokevirtual 270, 3) := by decide +kernel
theorem dX12_law_5 : decode cX12_law 5 = .ok (.ifCond .eq 39, 3) := by decide +kernel
theorem dX12_law_8 : decode cX12_law 8 = .ok (.iload_n 2, 1) := by decide +kernel
theorem dX12_law_9 : decode cX12_law 9 = .ok (.invokestatic 246, 3) := by decide +kernel
theorem dX12_law_12 : decode cX12_law 12 = .ok (.ifCond .eq 32, 3) := by decide +kernel
theorem dX12_law_15 : decode cX12_law 15 = .ok (.iload_n 3, 1) := by decide +kernel
theorem dX12_law_16 : decode cX12_law 16 = .ok (.iconst 0, 1) := by decide +kernel
theorem dX12_law_17 : decode cX12_law 17 = .ok (.iload 4, 2) := by decide +kernel
theorem dX12_law_19 : decode cX12_law 19 = .ok (.invokestatic 177, 3) := by decide +kernel
theorem dX12_law_22 : decode cX12_law 22 = .ok (.ifCond .eq 22, 3) := by decide +kernel
theorem dX12_law_25 : decode cX12_law 25 = .ok (.iload 5, 2) := by decide +kernel
theorem dX12_law_27 : decode cX12_law 27 = .ok (.ifCond .lt 17, 3) := by decide +kernel
theorem dX12_law_30 : decode cX12_law 30 = .ok (.aload_n 0, 1) := by decide +kernel
theorem dX12_law_31 : decode cX12_law 31 = .ok (.iload_n 1, 1) := by decide +kernel
theorem dX12_law_32 : decode cX12_law 32 = .ok (.iload_n 2, 1) := by decide +kernel
theorem dX12_law_33 : decode cX12_law 33 = .ok (.iload_n 3, 1) := by decide +kernel
theorem dX12_law_34 : decode cX12_law 34 = .ok (.iload 4, 2) := by decide +kernel
theorem dX12_law_36 : decode cX12_law 36 = .ok (.iload 5, 2) := by decide +kernel
theorem dX12_law_38 : decode cX12_law 38 = .ok (.invokevirtual 276, 3) := by decide +kernel
theorem dX12_law_41 : decode cX12_law 41 = .ok (.goto 5, 3) := by decide +kernel
theorem dX12_law_44 : decode cX12_law 44 = .ok (.bipush (-5), 2) := by decide +kernel
theorem dX12_law_46 : decode cX12_law 46 = .ok (.ireturn, 1) := by decide +kernel
theorem dX12_deed_0 : decode cX12_deed 0 = .ok (.aload_n 0, 1) := by decide +kernel
theorem dX12_deed_1 : decode cX12_deed 1 = .ok (.iload_n 1, 1) := by decide +kernel
theorem dX12_deed_2 : decode cX12_deed 2 = .ok (.invokevirtual 270, 3) := by decide +kernel
theorem dX12_deed_5 : decode cX12_deed 5 = .ok (.ifCond .ne 5, 3) := by decide +kernel
theorem dX12_deed_8 : decode cX12_deed 8 = .ok (.iconst (-1), 1) := by decide +kernel
theorem dX12_deed_9 : decode cX12_deed 9 = .ok (.ireturn, 1) := by decide +kernel
theorem dX12_deed_10 : decode cX12_deed 10 = .ok (.iload_n 2, 1) := by decide +kernel
theorem dX12_deed_11 : decode cX12_deed 11 = .ok (.invokestatic 246, 3) := by decide +kernel
theorem dX12_deed_14 : decode cX12_deed 14 = .ok (.ifCond .ne 6, 3) := by decide +kernel
theorem dX12_deed_17 : decode cX12_deed 17 = .ok (.bipush (-2), 2) := by decide +kernel
theorem dX12_deed_19 : decode cX12_deed 19 = .ok (.ireturn, 1) := by decide +kernel
theorem dX12_deed_20 : decode cX12_deed 20 = .ok (.aload_n 0, 1) := by decide +kernel
theorem dX12_deed_21 : decode cX12_deed 21 = .ok (.getfield 280, 3) := by decide +kernel
theorem dX12_deed_24 : decode cX12_deed 24 = .ok (.bipush 60, 2) := by decide +kernel
theorem dX12_deed_26 : decode cX12_deed 26 = .ok (.if_icmp .ne 6, 3) := by decide +kernel
theorem dX12_deed_29 : decode cX12_deed 29 = .ok (.bipush (-4), 2) := by decide +kernel
theorem dX12_deed_31 : decode cX12_deed 31 = .ok (.ireturn, 1) := by decide +kernel
theorem dX12_deed_32 : decode cX12_deed 32 = .ok (.aload_n 0, 1) := by decide +kernel
theorem dX12_deed_33 : decode cX12_deed 33 = .ok (.getfield 78, 3) := by decide +kernel
theorem dX12_deed_36 : decode cX12_deed 36 = .ok (.aload_n 0, 1) := by decide +kernel
theorem dX12_deed_37 : decode cX12_deed 37 = .ok (.getfield 280, 3) := by decide +kernel
theorem dX12_deed_40 : decode cX12_deed 40 = .ok (.iload_n 1, 1) := by decide +kernel
theorem dX12_deed_41 : decode cX12_deed 41 = .ok (.iastore, 1) := by decide +kernel
theorem dX12_deed_42 : decode cX12_deed 42 = .ok (.aload_n 0, 1) := by decide +kernel
theorem dX12_deed_43 : decode cX12_deed 43 = .ok (.getfield 81, 3) := by decide +kernel
theorem dX12_deed_46 : decode cX12_deed 46 = .ok (.aload_n 0, 1) := by decide +kernel
theorem dX12_deed_47 : decode cX12_deed 47 = .ok (.getfield 280, 3) := by decide +kernel
theorem dX12_deed_50 : decode cX12_deed 50 = .ok (.iload_n 2, 1) := by decide +kernel
theorem dX12_deed_51 : decode cX12_deed 51 = .ok (.iastore, 1) := by decide +kernel
theorem dX12_deed_52 : decode cX12_deed 52 = .ok (.aload_n 0, 1) := by decide +kernel
theorem dX12_deed_53 : decode cX12_deed 53 = .ok (.getfield 84, 3) := by decide +kernel
theorem dX12_deed_56 : decode cX12_deed 56 = .ok (.aload_n 0, 1) := by decide +kernel
theorem dX12_deed_57 : decode cX12_deed 57 = .ok (.getfield 280, 3) := by decide +kernel
theorem dX12_deed_60 : decode cX12_deed 60 = .ok (.aload_n 0, 1) := by decide +kernel
theorem dX12_deed_61 : decode cX12_deed 61 = .ok (.getfield 194, 3) := by decide +kernel
theorem dX12_deed_64 : decode cX12_deed 64 = .ok (.iastore, 1) := by decide +kernel
theorem dX12_deed_65 : decode cX12_deed 65 = .ok (.aload_n 0, 1) := by decide +kernel
theorem dX12_deed_66 : decode cX12_deed 66 = .ok (.dup, 1) := by decide +kernel
theorem dX12_deed_67 : decode cX12_deed 67 = .ok (.getfield 280, 3) := by decide +kernel
theorem dX12_deed_70 : decode cX12_deed 70 = .ok (.iconst 1, 1) := by decide +kernel
theorem dX12_deed_71 : decode cX12_deed 71 = .ok (.iadd, 1) := by decide +kernel
theorem dX12_deed_72 : decode cX12_deed 72 = .ok (.putfield 280, 3) := by decide +kernel
theorem dX12_deed_75 : decode cX12_deed 75 = .ok (.aload_n 0, 1) := by decide +kernel
theorem dX12_deed_76 : decode cX12_deed 76 = .ok (.getfield 280, 3) := by decide +kernel
theorem dX12_deed_79 : decode cX12_deed 79 = .ok (.iconst 1, 1) := by decide +kernel
theorem dX12_deed_80 : decode cX12_deed 80 = .ok (.isub, 1) := by decide +kernel
theorem dX12_deed_81 : decode cX12_deed 81 = .ok (.ireturn, 1) := by decide +kernel
theorem dX12_endOf_0 : decode cX12_endOf 0 = .ok (.aload_n 0, 1) := by decide +kernel
theorem dX12_endOf_1 : decode cX12_endOf 1 = .ok (.aload_n 0, 1) := by decide +kernel
theorem dX12_endOf_2 : decode cX12_endOf 2 = .ok (.getfield 78, 3) := by decide +kernel
theorem dX12_endOf_5 : decode cX12_endOf 5 = .ok (.iload_n 1, 1) := by decide +kernel
theorem dX12_endOf_6 : decode cX12_endOf 6 = .ok (.iaload, 1) := by decide +kernel
theorem dX12_endOf_7 : decode cX12_endOf 7 = .ok (.aload_n 0, 1) := by decide +kernel
theorem dX12_endOf_8 : decode cX12_endOf 8 = .ok (.getfield 81, 3) := by decide +kernel
theorem dX12_endOf_11 : decode cX12_endOf 11 = .ok (.iload_n 1, 1) := by decide +kernel
theorem dX12_endOf_12 : decode cX12_endOf 12 = .ok (.iaload, 1) := by decide +kernel
theorem dX12_endOf_13 : decode cX12_endOf 13 = .ok (.aload_n 0, 1) := by decide +kernel
theorem dX12_endOf_14 : decode cX12_endOf 14 = .ok (.getfield 84, 3) := by decide +kernel
theorem dX12_endOf_17 : decode cX12_endOf 17 = .ok (.iload_n 1, 1) := by decide +kernel
theorem dX12_endOf_18 : decode cX12_endOf 18 = .ok (.iaload, 1) := by decide +kernel
theorem dX12_endOf_19 : decode cX12_endOf 19 = .ok (.iload_n 2, 1) := by decide +kernel
theorem dX12_endOf_20 : decode cX12_endOf 20 = .ok (.iload_n 3, 1) := by decide +kernel
theorem dX12_endOf_21 : decode cX12_endOf 21 = .ok (.invokevirtual 276, 3) := by decide +kernel
theorem dX12_endOf_24 : decode cX12_endOf 24 = .ok (.ireturn, 1) := by decide +kernel
theorem dX12_deedEnd_0 : decode cX12_deedEnd 0 = .ok (.iload_n 1, 1) := by decide +kernel
theorem dX12_deedEnd_1 : decode cX12_deedEnd 1 = .ok (.iconst 0, 1) := by decide +kernel
theorem dX12_deedEnd_2 : decode cX12_deedEnd 2 = .ok (.aload_n 0, 1) := by decide +kernel
theorem dX12_deedEnd_3 : decode cX12_deedEnd 3 = .ok (.getfield 280, 3) := by decide +kernel
theorem dX12_deedEnd_6 : decode cX12_deedEnd 6 = .ok (.iconst 1, 1) := by decide +kernel
theorem dX12_deedEnd_7 : decode cX12_deedEnd 7 = .ok (.isub, 1) := by decide +kernel
theorem dX12_deedEnd_8 : decode cX12_deedEnd 8 = .ok (.invokestatic 177, 3) := by decide +kernel
theorem dX12_deedEnd_11 : decode cX12_deedEnd 11 = .ok (.ifCond .eq 45, 3) := by decide +kernel
theorem dX12_deedEnd_14 : decode cX12_deedEnd 14 = .ok (.iload_n 2, 1) := by decide +kernel
theorem dX12_deedEnd_15 : decode cX12_deedEnd 15 = .ok (.aload_n 0, 1) := by decide +kernel
theorem dX12_deedEnd_16 : decode cX12_deedEnd 16 = .ok (.getfield 84, 3) := by decide +kernel
theorem dX12_deedEnd_19 : decode cX12_deedEnd 19 = .ok (.iload_n 1, 1) := by decide +kernel
theorem dX12_deedEnd_20 : decode cX12_deedEnd 20 = .ok (.iconst 0, 1) := by decide +kernel
theorem dX12_deedEnd_21 : decode cX12_deedEnd 21 = .ok (.aload_n 0, 1) := by decide +kernel
theorem dX12_deedEnd_22 : decode cX12_deedEnd 22 = .ok (.getfield 280, 3) := by decide +kernel
theorem dX12_deedEnd_25 : decode cX12_deedEnd 25 = .ok (.iconst 1, 1) := by decide +kernel
theorem dX12_deedEnd_26 : decode cX12_deedEnd 26 = .ok (.isub, 1) := by decide +kernel
theorem dX12_deedEnd_27 : decode cX12_deedEnd 27 = .ok (.invokestatic 177, 3) := by decide +kernel
theorem dX12_deedEnd_30 : decode cX12_deedEnd 30 = .ok (.ifCond .eq 7, 3) := by decide +kernel
theorem dX12_deedEnd_33 : decode cX12_deedEnd 33 = .ok (.iload_n 1, 1) := by decide +kernel
theorem dX12_deedEnd_34 : decode cX12_deedEnd 34 = .ok (.goto 4, 3) := by decide +kernel
theorem dX12_deedEnd_37 : decode cX12_deedEnd 37 = .ok (.iconst 0, 1) := by decide +kernel
theorem dX12_deedEnd_38 : decode cX12_deedEnd 38 = .ok (.iaload, 1) := by decide +kernel
theorem dX12_deedEnd_39 : decode cX12_deedEnd 39 = .ok (.if_icmp .lt 17, 3) := by decide +kernel
theorem dX12_deedEnd_42 : decode cX12_deedEnd 42 = .ok (.iload_n 3, 1) := by decide +kernel
theorem dX12_deedEnd_43 : decode cX12_deedEnd 43 = .ok (.ifCond .lt 13, 3) := by decide +kernel
theorem dX12_deedEnd_46 : decode cX12_deedEnd 46 = .ok (.aload_n 0, 1) := by decide +kernel
theorem dX12_deedEnd_47 : decode cX12_deedEnd 47 = .ok (.iload_n 1, 1) := by decide +kernel
theorem dX12_deedEnd_48 : decode cX12_deedEnd 48 = .ok (.iload_n 2, 1) := by decide +kernel
theorem dX12_deedEnd_49 : decode cX12_deedEnd 49 = .ok (.iload_n 3, 1) := by decide +kernel
theorem dX12_deedEnd_50 : decode cX12_deedEnd 50 = .ok (.invokevirtual 283, 3) := by decide +kernel
theorem dX12_deedEnd_53 : decode cX12_deedEnd 53 = .ok (.goto 5, 3) := by decide +kernel
theorem dX12_deedEnd_56 : decode cX12_deedEnd 56 = .ok (.bipush (-5), 2) := by decide +kernel
theorem dX12_deedEnd_58 : decode cX12_deedEnd 58 = .ok (.ireturn, 1) := by decide +kernel
theorem dX12_lost_0 : decode cX12_lost 0 = .ok (.iload_n 1, 1) := by decide +kernel
theorem dX12_lost_1 : decode cX12_lost 1 = .ok (.iconst (-1), 1) := by decide +kernel
theorem dX12_lost_2 : decode cX12_lost 2 = .ok (.if_icmp .eq 11, 3) := by decide +kernel
theorem dX12_lost_5 : decode cX12_lost 5 = .ok (.aload_n 0, 1) := by decide +kernel
theorem dX12_lost_6 : decode cX12_lost 6 = .ok (.iload_n 1, 1) := by decide +kernel
theorem dX12_lost_7 : decode cX12_lost 7 = .ok (.invokevirtual 270, 3) := by decide +kernel
theorem dX12_lost_10 : decode cX12_lost 10 = .ok (.ifCond .eq 12, 3) := by decide +kernel
theorem dX12_lost_13 : decode cX12_lost 13 = .ok (.iload_n 2, 1) := by decide +kernel
theorem dX12_lost_14 : decode cX12_lost 14 = .ok (.iconst 0, 1) := by decide +kernel
theorem dX12_lost_15 : decode cX12_lost 15 = .ok (.iconst 1, 1) := by decide +kernel
theorem dX12_lost_16 : decode cX12_lost 16 = .ok (.invokestatic 177, 3) := by decide +kernel
theorem dX12_lost_19 : decode cX12_lost 19 = .ok (.ifCond .ne 6, 3) := by decide +kernel
theorem dX12_lost_22 : decode cX12_lost 22 = .ok (.bipush (-5), 2) := by decide +kernel
theorem dX12_lost_24 : decode cX12_lost 24 = .ok (.ireturn, 1) := by decide +kernel
theorem dX12_lost_25 : decode cX12_lost 25 = .ok (.iconst 0, 1) := by decide +kernel
theorem dX12_lost_26 : decode cX12_lost 26 = .ok (.istore_n 3, 1) := by decide +kernel
theorem dX12_lost_27 : decode cX12_lost 27 = .ok (.iconst (-1), 1) := by decide +kernel
theorem dX12_lost_28 : decode cX12_lost 28 = .ok (.istore 4, 2) := by decide +kernel
theorem dX12_lost_30 : decode cX12_lost 30 = .ok (.iconst 0, 1) := by decide +kernel
theorem dX12_lost_31 : decode cX12_lost 31 = .ok (.istore 5, 2) := by decide +kernel
theorem dX12_lost_33 : decode cX12_lost 33 = .ok (.iload 5, 2) := by decide +kernel
theorem dX12_lost_35 : decode cX12_lost 35 = .ok (.aload_n 0, 1) := by decide +kernel
theorem dX12_lost_36 : decode cX12_lost 36 = .ok (.getfield 280, 3) := by decide +kernel
theorem dX12_lost_39 : decode cX12_lost 39 = .ok (.if_icmp .ge 102, 3) := by decide +kernel
theorem dX12_lost_42 : decode cX12_lost 42 = .ok (.iload_n 1, 1) := by decide +kernel
theorem dX12_lost_43 : decode cX12_lost 43 = .ok (.iconst (-1), 1) := by decide +kernel
theorem dX12_lost_44 : decode cX12_lost 44 = .ok (.if_icmp .eq 14, 3) := by decide +kernel
theorem dX12_lost_47 : decode cX12_lost 47 = .ok (.aload_n 0, 1) := by decide +kernel
theorem dX12_lost_48 : decode cX12_lost 48 = .ok (.getfield 78, 3) := by decide +kernel
theorem dX12_lost_51 : decode cX12_lost 51 = .ok (.iload 5, 2) := by decide +kernel
theorem dX12_lost_53 : decode cX12_lost 53 = .ok (.iaload, 1) := by decide +kernel
theorem dX12_lost_54 : decode cX12_lost 54 = .ok (.iload_n 1, 1) := by decide +kernel
theorem dX12_lost_55 : decode cX12_lost 55 = .ok (.if_icmp .ne 44, 3) := by decide +kernel
theorem dX12_lost_58 : decode cX12_lost 58 = .ok (.aload_n 0, 1) := by decide +kernel
theorem dX12_lost_59 : decode cX12_lost 59 = .ok (.iload 5, 2) := by decide +kernel
theorem dX12_lost_61 : decode cX12_lost 61 = .ok (.aload_n 0, 1) := by decide +kernel
theorem dX12_lost_62 : decode cX12_lost 62 = .ok (.getfield 194, 3) := by decide +kernel
theorem dX12_lost_65 : decode cX12_lost 65 = .ok (.aload_n 0, 1) := by decide +kernel
theorem dX12_lost_66 : decode cX12_lost 66 = .ok (.getfield 194, 3) := by decide +kernel
theorem dX12_lost_69 : decode cX12_lost 69 = .ok (.invokevirtual 283, 3) := by decide +kernel
theorem dX12_lost_72 : decode cX12_lost 72 = .ok (.aload_n 0, 1) := by decide +kernel
theorem dX12_lost_73 : decode cX12_lost 73 = .ok (.iload 5, 2) := by decide +kernel
theorem dX12_lost_75 : decode cX12_lost 75 = .ok (.aload_n 0, 1) := by decide +kernel
theorem dX12_lost_76 : decode cX12_lost 76 = .ok (.getfield 84, 3) := by decide +kernel
theorem dX12_lost_79 : decode cX12_lost 79 = .ok (.iload 5, 2) := by decide +kernel
theorem dX12_lost_81 : decode cX12_lost 81 = .ok (.iaload, 1) := by decide +kernel
theorem dX12_lost_82 : decode cX12_lost 82 = .ok (.aload_n 0, 1) := by decide +kernel
theorem dX12_lost_83 : decode cX12_lost 83 = .ok (.getfield 84, 3) := by decide +kernel
theorem dX12_lost_86 : decode cX12_lost 86 = .ok (.iload 5, 2) := by decide +kernel
theorem dX12_lost_88 : decode cX12_lost 88 = .ok (.iaload, 1) := by decide +kernel
theorem dX12_lost_89 : decode cX12_lost 89 = .ok (.invokevirtual 283, 3) := by decide +kernel
theorem dX12_lost_92 : decode cX12_lost 92 = .ok (.if_icmp .eq 7, 3) := by decide +kernel
theorem dX12_lost_95 : decode cX12_lost 95 = .ok (.iconst 1, 1) := by decide +kernel
theorem dX12_lost_96 : decode cX12_lost 96 = .ok (.goto 4, 3) := by decide +kernel
theorem dX12_lost_99 : decode cX12_lost 99 = .ok (.iconst 0, 1) := by decide +kernel
theorem dX12_lost_100 : decode cX12_lost 100 = .ok (.istore 6, 2) := by decide +kernel
theorem dX12_lost_102 : decode cX12_lost 102 = .ok (.iload 6, 2) := by decide +kernel
theorem dX12_lost_104 : decode cX12_lost 104 = .ok (.ifCond .eq 14, 3) := by decide +kernel
theorem dX12_lost_107 : decode cX12_lost 107 = .ok (.iload 4, 2) := by decide +kernel
theorem dX12_lost_109 : decode cX12_lost 109 = .ok (.iconst (-1), 1) := by decide +kernel
theorem dX12_lost_110 : decode cX12_lost 110 = .ok (.if_icmp .ne 8, 3) := by decide +kernel
theorem dX12_lost_113 : decode cX12_lost 113 = .ok (.iload 5, 2) := by decide +kernel
theorem dX12_lost_115 : decode cX12_lost 115 = .ok (.goto 5, 3) := by decide +kernel
theorem dX12_lost_118 : decode cX12_lost 118 = .ok (.iload 4, 2) := by decide +kernel
theorem dX12_lost_120 : decode cX12_lost 120 = .ok (.istore 4, 2) := by decide +kernel
theorem dX12_lost_122 : decode cX12_lost 122 = .ok (.iload_n 3, 1) := by decide +kernel
theorem dX12_lost_123 : decode cX12_lost 123 = .ok (.iload 6, 2) := by decide +kernel
theorem dX12_lost_125 : decode cX12_lost 125 = .ok (.ifCond .eq 7, 3) := by decide +kernel
theorem dX12_lost_128 : decode cX12_lost 128 = .ok (.iconst 1, 1) := by decide +kernel
theorem dX12_lost_129 : decode cX12_lost 129 = .ok (.goto 4, 3) := by decide +kernel
theorem dX12_lost_132 : decode cX12_lost 132 = .ok (.iconst 0, 1) := by decide +kernel
theorem dX12_lost_133 : decode cX12_lost 133 = .ok (.iadd, 1) := by decide +kernel
theorem dX12_lost_134 : decode cX12_lost 134 = .ok (.istore_n 3, 1) := by decide +kernel
theorem dX12_lost_135 : decode cX12_lost 135 = .ok (.iinc 5 1, 3) := by decide +kernel
theorem dX12_lost_138 : decode cX12_lost 138 = .ok (.goto (-105), 3) := by decide +kernel
theorem dX12_lost_141 : decode cX12_lost 141 = .ok (.iload_n 2, 1) := by decide +kernel
theorem dX12_lost_142 : decode cX12_lost 142 = .ok (.ifCond .ne 7, 3) := by decide +kernel
theorem dX12_lost_145 : decode cX12_lost 145 = .ok (.iload_n 3, 1) := by decide +kernel
theorem dX12_lost_146 : decode cX12_lost 146 = .ok (.goto 5, 3) := by decide +kernel
theorem dX12_lost_149 : decode cX12_lost 149 = .ok (.iload 4, 2) := by decide +kernel
theorem dX12_lost_151 : decode cX12_lost 151 = .ok (.ireturn, 1) := by decide +kernel
theorem dX12_goes_0 : decode cX12_goes 0 = .ok (.iload_n 1, 1) := by decide +kernel
theorem dX12_goes_1 : decode cX12_goes 1 = .ok (.iconst 0, 1) := by decide +kernel
theorem dX12_goes_2 : decode cX12_goes 2 = .ok (.aload_n 0, 1) := by decide +kernel
theorem dX12_goes_3 : decode cX12_goes 3 = .ok (.getfield 287, 3) := by decide +kernel
theorem dX12_goes_6 : decode cX12_goes 6 = .ok (.iconst 1, 1) := by decide +kernel
theorem dX12_goes_7 : decode cX12_goes 7 = .ok (.isub, 1) := by decide +kernel
theorem dX12_goes_8 : decode cX12_goes 8 = .ok (.invokestatic 177, 3) := by decide +kernel
theorem dX12_goes_11 : decode cX12_goes 11 = .ok (.ifCond .eq 11, 3) := by decide +kernel
theorem dX12_goes_14 : decode cX12_goes 14 = .ok (.aload_n 0, 1) := by decide +kernel
theorem dX12_goes_15 : decode cX12_goes 15 = .ok (.iload_n 2, 1) := by decide +kernel
theorem dX12_goes_16 : decode cX12_goes 16 = .ok (.invokevirtual 270, 3) := by decide +kernel
theorem dX12_goes_19 : decode cX12_goes 19 = .ok (.ifCond .ne 5, 3) := by decide +kernel
theorem dX12_goes_22 : decode cX12_goes 22 = .ok (.iconst (-1), 1) := by decide +kernel
theorem dX12_goes_23 : decode cX12_goes 23 = .ok (.ireturn, 1) := by decide +kernel
theorem dX12_goes_24 : decode cX12_goes 24 = .ok (.aload_n 0, 1) := by decide +kernel
theorem dX12_goes_25 : decode cX12_goes 25 = .ok (.getfield 105, 3) := by decide +kernel
theorem dX12_goes_28 : decode cX12_goes 28 = .ok (.iload_n 1, 1) := by decide +kernel
theorem dX12_goes_29 : decode cX12_goes 29 = .ok (.iaload, 1) := by decide +kernel
theorem dX12_goes_30 : decode cX12_goes 30 = .ok (.ifCond .eq 6, 3) := by decide +kernel
theorem dX12_goes_33 : decode cX12_goes 33 = .ok (.bipush (-3), 2) := by decide +kernel
theorem dX12_goes_35 : decode cX12_goes 35 = .ok (.ireturn, 1) := by decide +kernel
theorem dX12_goes_36 : decode cX12_goes 36 = .ok (.aload_n 0, 1) := by decide +kernel
theorem dX12_goes_37 : decode cX12_goes 37 = .ok (.getfield 87, 3) := by decide +kernel
theorem dX12_goes_40 : decode cX12_goes 40 = .ok (.iload_n 1, 1) := by decide +kernel
theorem dX12_goes_41 : decode cX12_goes 41 = .ok (.iaload, 1) := by decide +kernel
theorem dX12_goes_42 : decode cX12_goes 42 = .ok (.istore_n 3, 1) := by decide +kernel
theorem dX12_goes_43 : decode cX12_goes 43 = .ok (.aload_n 0, 1) := by decide +kernel
theorem dX12_goes_44 : decode cX12_goes 44 = .ok (.getfield 87, 3) := by decide +kernel
theorem dX12_goes_47 : decode cX12_goes 47 = .ok (.iload_n 1, 1) := by decide +kernel
theorem dX12_goes_48 : decode cX12_goes 48 = .ok (.iload_n 2, 1) := by decide +kernel
theorem dX12_goes_49 : decode cX12_goes 49 = .ok (.iastore, 1) := by decide +kernel
theorem dX12_goes_50 : decode cX12_goes 50 = .ok (.iload_n 3, 1) := by decide +kernel
theorem dX12_goes_51 : decode cX12_goes 51 = .ok (.ireturn, 1) := by decide +kernel
theorem dX12_courts_0 : decode cX12_courts 0 = .ok (.iload_n 1, 1) := by decide +kernel
theorem dX12_courts_1 : decode cX12_courts 1 = .ok (.iconst 0, 1) := by decide +kernel
theorem dX12_courts_2 : decode cX12_courts 2 = .ok (.iconst 2, 1) := by decide +kernel
theorem dX12_courts_3 : decode cX12_courts 3 = .ok (.invokestatic 177, 3) := by decide +kernel
theorem dX12_courts_6 : decode cX12_courts 6 = .ok (.ifCond .ne 6, 3) := by decide +kernel
theorem dX12_courts_9 : decode cX12_courts 9 = .ok (.bipush (-2), 2) := by decide +kernel
theorem dX12_courts_11 : decode cX12_courts 11 = .ok (.ireturn, 1) := by decide +kernel
theorem dX12_courts_12 : decode cX12_courts 12 = .ok (.aload_n 0, 1) := by decide +kernel
theorem dX12_courts_13 : decode cX12_courts 13 = .ok (.getfield 65, 3) := by decide +kernel
theorem dX12_courts_16 : decode cX12_courts 16 = .ok (.istore_n 2, 1) := by decide +kernel
theorem dX12_courts_17 : decode cX12_courts 17 = .ok (.aload_n 0, 1) := by decide +kernel
theorem dX12_courts_18 : decode cX12_courts 18 = .ok (.iload_n 1, 1) := by decide +kernel
theorem dX12_courts_19 : decode cX12_courts 19 = .ok (.putfield 65, 3) := by decide +kernel
theorem dX12_courts_22 : decode cX12_courts 22 = .ok (.iload_n 2, 1) := by decide +kernel
theorem dX12_courts_23 : decode cX12_courts 23 = .ok (.ireturn, 1) := by decide +kernel
theorem dX12_court_0 : decode cX12_court 0 = .ok (.aload_n 0, 1) := by decide +kernel
theorem dX12_court_1 : decode cX12_court 1 = .ok (.iload_n 1, 1) := by decide +kernel
theorem dX12_court_2 : decode cX12_court 2 = .ok (.invokevirtual 270, 3) := by decide +kernel
theorem dX12_court_5 : decode cX12_court 5 = .ok (.ifCond .eq 31, 3) := by decide +kernel
theorem dX12_court_8 : decode cX12_court 8 = .ok (.aload_n 0, 1) := by decide +kernel
theorem dX12_court_9 : decode cX12_court 9 = .ok (.iload_n 2, 1) := by decide +kernel
theorem dX12_court_10 : decode cX12_court 10 = .ok (.invokevirtual 270, 3) := by decide +kernel
theorem dX12_court_13 : decode cX12_court 13 = .ok (.ifCond .eq 23, 3) := by decide +kernel
theorem dX12_court_16 : decode cX12_court 16 = .ok (.iload_n 3, 1) := by decide +kernel
theorem dX12_court_17 : decode cX12_court 17 = .ok (.invokestatic 246, 3) := by decide +kernel
theorem dX12_court_20 : decode cX12_court 20 = .ok (.ifCond .eq 16, 3) := by decide +kernel
theorem dX12_court_23 : decode cX12_court 23 = .ok (.iload 4, 2) := by decide +kernel
theorem dX12_court_25 : decode cX12_court 25 = .ok (.iconst 0, 1) := by decide +kernel
theorem dX12_court_26 : decode cX12_court 26 = .ok (.aload_n 0, 1) := by decide +kernel
theorem dX12_court_27 : decode cX12_court 27 = .ok (.getfield 194, 3) := by decide +kernel
theorem dX12_court_30 : decode cX12_court 30 = .ok (.invokestatic 177, 3) := by decide +kernel
theorem dX12_court_33 : decode cX12_court 33 = .ok (.ifCond .ne 6, 3) := by decide +kernel
theorem dX12_court_36 : decode cX12_court 36 = .ok (.bipush (-5), 2) := by decide +kernel
theorem dX12_court_38 : decode cX12_court 38 = .ok (.ireturn, 1) := by decide +kernel
theorem dX12_court_39 : decode cX12_court 39 = .ok (.aload_n 0, 1) := by decide +kernel
theorem dX12_court_40 : decode cX12_court 40 = .ok (.iload_n 1, 1) := by decide +kernel
theorem dX12_court_41 : decode cX12_court 41 = .ok (.iload_n 3, 1) := by decide +kernel
theorem dX12_court_42 : decode cX12_court 42 = .ok (.iload 4, 2) := by decide +kernel
theorem dX12_court_44 : decode cX12_court 44 = .ok (.aload_n 0, 1) := by decide +kernel
theorem dX12_court_45 : decode cX12_court 45 = .ok (.getfield 194, 3) := by decide +kernel
theorem dX12_court_48 : decode cX12_court 48 = .ok (.aload_n 0, 1) := by decide +kernel
theorem dX12_court_49 : decode cX12_court 49 = .ok (.getfield 194, 3) := by decide +kernel
theorem dX12_court_52 : decode cX12_court 52 = .ok (.invokevirtual 276, 3) := by decide +kernel
theorem dX12_court_55 : decode cX12_court 55 = .ok (.istore 5, 2) := by decide +kernel
theorem dX12_court_57 : decode cX12_court 57 = .ok (.aload_n 0, 1) := by decide +kernel
theorem dX12_court_58 : decode cX12_court 58 = .ok (.iload_n 2, 1) := by decide +kernel
theorem dX12_court_59 : decode cX12_court 59 = .ok (.iload_n 3, 1) := by decide +kernel
theorem dX12_court_60 : decode cX12_court 60 = .ok (.iload 4, 2) := by decide +kernel
theorem dX12_court_62 : decode cX12_court 62 = .ok (.aload_n 0, 1) := by decide +kernel
theorem dX12_court_63 : decode cX12_court 63 = .ok (.getfield 194, 3) := by decide +kernel
theorem dX12_court_66 : decode cX12_court 66 = .ok (.aload_n 0, 1) := by decide +kernel
theorem dX12_court_67 : decode cX12_court 67 = .ok (.getfield 194, 3) := by decide +kernel
theorem dX12_court_70 : decode cX12_court 70 = .ok (.invokevirtual 276, 3) := by decide +kernel
theorem dX12_court_73 : decode cX12_court 73 = .ok (.istore 6, 2) := by decide +kernel
theorem dX12_court_75 : decode cX12_court 75 = .ok (.iload 5, 2) := by decide +kernel
theorem dX12_court_77 : decode cX12_court 77 = .ok (.iload 6, 2) := by decide +kernel
theorem dX12_court_79 : decode cX12_court 79 = .ok (.if_icmp .eq 10, 3) := by decide +kernel
theorem dX12_court_82 : decode cX12_court 82 = .ok (.aload_n 0, 1) := by decide +kernel
theorem dX12_court_83 : decode cX12_court 83 = .ok (.getfield 65, 3) := by decide +kernel
theorem dX12_court_86 : decode cX12_court 86 = .ok (.ifCond .ne 8, 3) := by decide +kernel
theorem dX12_court_89 : decode cX12_court 89 = .ok (.iload 5, 2) := by decide +kernel
theorem dX12_court_91 : decode cX12_court 91 = .ok (.goto 18, 3) := by decide +kernel
theorem dX12_court_94 : decode cX12_court 94 = .ok (.aload_n 0, 1) := by decide +kernel
theorem dX12_court_95 : decode cX12_court 95 = .ok (.getfield 65, 3) := by decide +kernel
theorem dX12_court_98 : decode cX12_court 98 = .ok (.iconst 1, 1) := by decide +kernel
theorem dX12_court_99 : decode cX12_court 99 = .ok (.if_icmp .ne 8, 3) := by decide +kernel
theorem dX12_court_102 : decode cX12_court 102 = .ok (.iload 6, 2) := by decide +kernel
theorem dX12_court_104 : decode cX12_court 104 = .ok (.goto 5, 3) := by decide +kernel
theorem dX12_court_107 : decode cX12_court 107 = .ok (.bipush (-4), 2) := by decide +kernel
theorem dX12_court_109 : decode cX12_court 109 = .ok (.ireturn, 1) := by decide +kernel
theorem dX12_shows_0 : decode cX12_shows 0 = .ok (.iconst 0, 1) := by decide +kernel
theorem dX12_shows_1 : decode cX12_shows 1 = .ok (.istore_n 3, 1) := by decide +kernel
theorem dX12_shows_2 : decode cX12_shows 2 = .ok (.iload_n 3, 1) := by decide +kernel
theorem dX12_shows_3 : decode cX12_shows 3 = .ok (.sipush 1536, 3) := by decide +kernel
theorem dX12_shows_6 : decode cX12_shows 6 = .ok (.if_icmp .ge 80, 3) := by decide +kernel
theorem dX12_shows_9 : decode cX12_shows 9 = .ok (.aload_n 0, 1) := by decide +kernel
theorem dX12_shows_10 : decode cX12_shows 10 = .ok (.getfield 150, 3) := by decide +kernel
theorem dX12_shows_13 : decode cX12_shows 13 = .ok (.iload_n 3, 1) := by decide +kernel
theorem dX12_shows_14 : decode cX12_shows 14 = .ok (.baload, 1) := by decide +kernel
theorem dX12_shows_15 : decode cX12_shows 15 = .ok (.ifCond .ne 65, 3) := by decide +kernel
theorem dX12_shows_18 : decode cX12_shows 18 = .ok (.iconst 1, 1) := by decide +kernel
theorem dX12_shows_19 : decode cX12_shows 19 = .ok (.istore 4, 2) := by decide +kernel
theorem dX12_shows_21 : decode cX12_shows 21 = .ok (.iconst 0, 1) := by decide +kernel
theorem dX12_shows_22 : decode cX12_shows 22 = .ok (.istore 5, 2) := by decide +kernel
theorem dX12_shows_24 : decode cX12_shows 24 = .ok (.iload 5, 2) := by decide +kernel
theorem dX12_shows_26 : decode cX12_shows 26 = .ok (.bipush 6, 2) := by decide +kernel
theorem dX12_shows_28 : decode cX12_shows 28 = .ok (.if_icmp .ge 45, 3) := by decide +kernel
theorem dX12_shows_31 : decode cX12_shows 31 = .ok (.iload 4, 2) := by decide +kernel
theorem dX12_shows_33 : decode cX12_shows 33 = .ok (.ifCond .eq 40, 3) := by decide +kernel
theorem dX12_shows_36 : decode cX12_shows 36 = .ok (.iload_n 1, 1) := by decide +kernel
theorem dX12_shows_37 : decode cX12_shows 37 = .ok (.iload 5, 2) := by decide +kernel
theorem dX12_shows_39 : decode cX12_shows 39 = .ok (.ishr, 1) := by decide +kernel
theorem dX12_shows_40 : decode cX12_shows 40 = .ok (.iconst 1, 1) := by decide +kernel
theorem dX12_shows_41 : decode cX12_shows 41 = .ok (.iand, 1) := by decide +kernel
theorem dX12_shows_42 : decode cX12_shows 42 = .ok (.ifCond .eq 18, 3) := by decide +kernel
theorem dX12_shows_45 : decode cX12_shows 45 = .ok (.iload_n 3, 1) := by decide +kernel
theorem dX12_shows_46 : decode cX12_shows 46 = .ok (.iload 5, 2) := by decide +kernel
theorem dX12_shows_48 : decode cX12_shows 48 = .ok (.invokestatic 232, 3) := by decide +kernel
theorem dX12_shows_51 : decode cX12_shows 51 = .ok (.iload_n 2, 1) := by decide +kernel
theorem dX12_shows_52 : decode cX12_shows 52 = .ok (.iload 5, 2) := by decide +kernel
theorem dX12_shows_54 : decode cX12_shows 54 = .ok (.invokestatic 232, 3) := by decide +kernel
theorem dX12_shows_57 : decode cX12_shows 57 = .ok (.if_icmp .ne 7, 3) := by decide +kernel
theorem dX12_shows_60 : decode cX12_shows 60 = .ok (.iconst 1, 1) := by decide +kernel
theorem dX12_shows_61 : decode cX12_shows 61 = .ok (.goto 4, 3) := by decide +kernel
theorem dX12_shows_64 : decode cX12_shows 64 = .ok (.iconst 0, 1) := by decide +kernel
theorem dX12_shows_65 : decode cX12_shows 65 = .ok (.istore 4, 2) := by decide +kernel
theorem dX12_shows_67 : decode cX12_shows 67 = .ok (.iinc 5 1, 3) := by decide +kernel
theorem dX12_shows_70 : decode cX12_shows 70 = .ok (.goto (-46), 3) := by decide +kernel
theorem dX12_shows_73 : decode cX12_shows 73 = .ok (.iload 4, 2) := by decide +kernel
theorem dX12_shows_75 : decode cX12_shows 75 = .ok (.ifCond .eq 5, 3) := by decide +kernel
theorem dX12_shows_78 : decode cX12_shows 78 = .ok (.iconst 0, 1) := by decide +kernel
theorem dX12_shows_79 : decode cX12_shows 79 = .ok (.ireturn, 1) := by decide +kernel
theorem dX12_shows_80 : decode cX12_shows 80 = .ok (.iinc 3 1, 3) := by decide +kernel
theorem dX12_shows_83 : decode cX12_shows 83 = .ok (.goto (-81), 3) := by decide +kernel
theorem dX12_shows_86 : decode cX12_shows 86 = .ok (.iconst 1, 1) := by decide +kernel
theorem dX12_shows_87 : decode cX12_shows 87 = .ok (.ireturn, 1) := by decide +kernel
theorem dX12_many_0 : decode cX12_many 0 = .ok (.iconst 0, 1) := by decide +kernel
theorem dX12_many_1 : decode cX12_many 1 = .ok (.istore_n 1, 1) := by decide +kernel
theorem dX12_many_2 : decode cX12_many 2 = .ok (.iconst 0, 1) := by decide +kernel
theorem dX12_many_3 : decode cX12_many 3 = .ok (.istore_n 2, 1) := by decide +kernel
theorem dX12_many_4 : decode cX12_many 4 = .ok (.iload_n 2, 1) := by decide +kernel
theorem dX12_many_5 : decode cX12_many 5 = .ok (.bipush 10, 2) := by decide +kernel
theorem dX12_many_7 : decode cX12_many 7 = .ok (.if_icmp .ge 17, 3) := by decide +kernel
theorem dX12_many_10 : decode cX12_many 10 = .ok (.iload_n 1, 1) := by decide +kernel
theorem dX12_many_11 : decode cX12_many 11 = .ok (.iload_n 0, 1) := by decide +kernel
theorem dX12_many_12 : decode cX12_many 12 = .ok (.iload_n 2, 1) := by decide +kernel
theorem dX12_many_13 : decode cX12_many 13 = .ok (.ishr, 1) := by decide +kernel
theorem dX12_many_14 : decode cX12_many 14 = .ok (.iconst 1, 1) := by decide +kernel
theorem dX12_many_15 : decode cX12_many 15 = .ok (.iand, 1) := by decide +kernel
theorem dX12_many_16 : decode cX12_many 16 = .ok (.iadd, 1) := by decide +kernel
theorem dX12_many_17 : decode cX12_many 17 = .ok (.istore_n 1, 1) := by decide +kernel
theorem dX12_many_18 : decode cX12_many 18 = .ok (.iinc 2 1, 3) := by decide +kernel
theorem dX12_many_21 : decode cX12_many 21 = .ok (.goto (-17), 3) := by decide +kernel
theorem dX12_many_24 : decode cX12_many 24 = .ok (.iload_n 1, 1) := by decide +kernel
theorem dX12_many_25 : decode cX12_many 25 = .ok (.ireturn, 1) := by decide +kernel
theorem dX12_toldOf_0 : decode cX12_toldOf 0 = .ok (.iconst 0, 1) := by decide +kernel
theorem dX12_toldOf_1 : decode cX12_toldOf 1 = .ok (.istore_n 2, 1) := by decide +kernel
theorem dX12_toldOf_2 : decode cX12_toldOf 2 = .ok (.iconst (-1), 1) := by decide +kernel
theorem dX12_toldOf_3 : decode cX12_toldOf 3 = .ok (.istore_n 3, 1) := by decide +kernel
theorem dX12_toldOf_4 : decode cX12_toldOf 4 = .ok (.sipush 1535, 3) := by decide +kernel
theorem dX12_toldOf_7 : decode cX12_toldOf 7 = .ok (.istore 4, 2) := by decide +kernel
theorem dX12_toldOf_9 : decode cX12_toldOf 9 = .ok (.iload 4, 2) := by decide +kernel
theorem dX12_toldOf_11 : decode cX12_toldOf 11 = .ok (.ifCond .lt 25, 3) := by decide +kernel
theorem dX12_toldOf_14 : decode cX12_toldOf 14 = .ok (.aload_n 0, 1) := by decide +kernel
theorem dX12_toldOf_15 : decode cX12_toldOf 15 = .ok (.getfield 150, 3) := by decide +kernel
theorem dX12_toldOf_18 : decode cX12_toldOf 18 = .ok (.iload 4, 2) := by decide +kernel
theorem dX12_toldOf_20 : decode cX12_toldOf 20 = .ok (.baload, 1) := by decide +kernel
theorem dX12_toldOf_21 : decode cX12_toldOf 21 = .ok (.ifCond .eq 9, 3) := by decide +kernel
theorem dX12_toldOf_24 : decode cX12_toldOf 24 = .ok (.iinc 2 1, 3) := by decide +kernel
theorem dX12_toldOf_27 : decode cX12_toldOf 27 = .ok (.iload 4, 2) := by decide +kernel
theorem dX12_toldOf_29 : decode cX12_toldOf 29 = .ok (.istore_n 3, 1) := by decide +kernel
theorem dX12_toldOf_30 : decode cX12_toldOf 30 = .ok (.iinc 4 (-1), 3) := by decide +kernel
theorem dX12_toldOf_33 : decode cX12_toldOf 33 = .ok (.goto (-24), 3) := by decide +kernel
theorem dX12_toldOf_36 : decode cX12_toldOf 36 = .ok (.iload_n 1, 1) := by decide +kernel
theorem dX12_toldOf_37 : decode cX12_toldOf 37 = .ok (.iconst 2, 1) := by decide +kernel
theorem dX12_toldOf_38 : decode cX12_toldOf 38 = .ok (.if_icmp .lt 8, 3) := by decide +kernel
theorem dX12_toldOf_41 : decode cX12_toldOf 41 = .ok (.iload_n 3, 1) := by decide +kernel
theorem dX12_toldOf_42 : decode cX12_toldOf 42 = .ok (.iconst (-1), 1) := by decide +kernel
theorem dX12_toldOf_43 : decode cX12_toldOf 43 = .ok (.if_icmp .ne 13, 3) := by decide +kernel
theorem dX12_toldOf_46 : decode cX12_toldOf 46 = .ok (.iload_n 1, 1) := by decide +kernel
theorem dX12_toldOf_47 : decode cX12_toldOf 47 = .ok (.ifCond .ne 7, 3) := by decide +kernel
theorem dX12_toldOf_50 : decode cX12_toldOf 50 = .ok (.iload_n 2, 1) := by decide +kernel
theorem dX12_toldOf_51 : decode cX12_toldOf 51 = .ok (.goto 4, 3) := by decide +kernel
theorem dX12_toldOf_54 : decode cX12_toldOf 54 = .ok (.iload_n 3, 1) := by decide +kernel
theorem dX12_toldOf_55 : decode cX12_toldOf 55 = .ok (.ireturn, 1) := by decide +kernel
theorem dX12_toldOf_56 : decode cX12_toldOf 56 = .ok (.iconst 0, 1) := by decide +kernel
theorem dX12_toldOf_57 : decode cX12_toldOf 57 = .ok (.istore 4, 2) := by decide +kernel
theorem dX12_toldOf_59 : decode cX12_toldOf 59 = .ok (.iload 4, 2) := by decide +kernel
theorem dX12_toldOf_61 : decode cX12_toldOf 61 = .ok (.bipush 6, 2) := by decide +kernel
theorem dX12_toldOf_63 : decode cX12_toldOf 63 = .ok (.if_icmp .gt 48, 3) := by decide +kernel
theorem dX12_toldOf_66 : decode cX12_toldOf 66 = .ok (.iconst 0, 1) := by decide +kernel
theorem dX12_toldOf_67 : decode cX12_toldOf 67 = .ok (.istore 5, 2) := by decide +kernel
theorem dX12_toldOf_69 : decode cX12_toldOf 69 = .ok (.iload 5, 2) := by decide +kernel
theorem dX12_toldOf_71 : decode cX12_toldOf 71 = .ok (.bipush 64, 2) := by decide +kernel
theorem dX12_toldOf_73 : decode cX12_toldOf 73 = .ok (.if_icmp .ge 32, 3) := by decide +kernel
theorem dX12_toldOf_76 : decode cX12_toldOf 76 = .ok (.iload 5, 2) := by decide +kernel
theorem dX12_toldOf_78 : decode cX12_toldOf 78 = .ok (.invokestatic 290, 3) := by decide +kernel
theorem dX12_toldOf_81 : decode cX12_toldOf 81 = .ok (.iload 4, 2) := by decide +kernel
theorem dX12_toldOf_83 : decode cX12_toldOf 83 = .ok (.if_icmp .ne 16, 3) := by decide +kernel
theorem dX12_toldOf_86 : decode cX12_toldOf 86 = .ok (.aload_n 0, 1) := by decide +kernel
theorem dX12_toldOf_87 : decode cX12_toldOf 87 = .ok (.iload 5, 2) := by decide +kernel
theorem dX12_toldOf_89 : decode cX12_toldOf 89 = .ok (.iload_n 3, 1) := by decide +kernel
theorem dX12_toldOf_90 : decode cX12_toldOf 90 = .ok (.invokevirtual 293, 3) := by decide +kernel
theorem dX12_toldOf_93 : decode cX12_toldOf 93 = .ok (.ifCond .eq 6, 3) := by decide +kernel
theorem dX12_toldOf_96 : decode cX12_toldOf 96 = .ok (.iload 5, 2) := by decide +kernel
theorem dX12_toldOf_98 : decode cX12_toldOf 98 = .ok (.ireturn, 1) := by decide +kernel
theorem dX12_toldOf_99 : decode cX12_toldOf 99 = .ok (.iinc 5 1, 3) := by decide +kernel
theorem dX12_toldOf_102 : decode cX12_toldOf 102 = .ok (.goto (-33), 3) := by decide +kernel
theorem dX12_toldOf_105 : decode cX12_toldOf 105 = .ok (.iinc 4 1, 3) := by decide +kernel
theorem dX12_toldOf_108 : decode cX12_toldOf 108 = .ok (.goto (-49), 3) := by decide +kernel
theorem dX12_toldOf_111 : decode cX12_toldOf 111 = .ok (.iconst (-1), 1) := by decide +kernel
theorem dX12_toldOf_112 : decode cX12_toldOf 112 = .ok (.ireturn, 1) := by decide +kernel
theorem dX12_unlike_0 : decode cX12_unlike 0 = .ok (.iload_n 1, 1) := by decide +kernel
theorem dX12_unlike_1 : decode cX12_unlike 1 = .ok (.iconst 0, 1) := by decide +kernel
theorem dX12_unlike_2 : decode cX12_unlike 2 = .ok (.iconst 5, 1) := by decide +kernel
theorem dX12_unlike_3 : decode cX12_unlike 3 = .ok (.invokestatic 177, 3) := by decide +kernel
theorem dX12_unlike_6 : decode cX12_unlike 6 = .ok (.ifCond .eq 21, 3) := by decide +kernel
theorem dX12_unlike_9 : decode cX12_unlike 9 = .ok (.iload_n 2, 1) := by decide +kernel
theorem dX12_unlike_10 : decode cX12_unlike 10 = .ok (.iconst 0, 1) := by decide +kernel
theorem dX12_unlike_11 : decode cX12_unlike 11 = .ok (.iconst 5, 1) := by decide +kernel
theorem dX12_unlike_12 : decode cX12_unlike 12 = .ok (.invokestatic 177, 3) := by decide +kernel
theorem dX12_unlike_15 : decode cX12_unlike 15 = .ok (.ifCond .eq 12, 3) := by decide +kernel
theorem dX12_unlike_18 : decode cX12_unlike 18 = .ok (.iload_n 3, 1) := by decide +kernel
theorem dX12_unlike_19 : decode cX12_unlike 19 = .ok (.iconst 0, 1) := by decide +kernel
theorem dX12_unlike_20 : decode cX12_unlike 20 = .ok (.iconst 2, 1) := by decide +kernel
theorem dX12_unlike_21 : decode cX12_unlike 21 = .ok (.invokestatic 177, 3) := by decide +kernel
theorem dX12_unlike_24 : decode cX12_unlike 24 = .ok (.ifCond .ne 6, 3) := by decide +kernel
theorem dX12_unlike_27 : decode cX12_unlike 27 = .ok (.bipush (-5), 2) := by decide +kernel
theorem dX12_unlike_29 : decode cX12_unlike 29 = .ok (.ireturn, 1) := by decide +kernel
theorem dX12_unlike_30 : decode cX12_unlike 30 = .ok (.iconst 0, 1) := by decide +kernel
theorem dX12_unlike_31 : decode cX12_unlike 31 = .ok (.istore 4, 2) := by decide +kernel
theorem dX12_unlike_33 : decode cX12_unlike 33 = .ok (.iload 4, 2) := by decide +kernel
theorem dX12_unlike_35 : decode cX12_unlike 35 = .ok (.sipush 1536, 3) := by decide +kernel
theorem dX12_unlike_38 : decode cX12_unlike 38 = .ok (.if_icmp .ge 54, 3) := by decide +kernel
theorem dX12_unlike_41 : decode cX12_unlike 41 = .ok (.aload_n 0, 1) := by decide +kernel
theorem dX12_unlike_42 : decode cX12_unlike 42 = .ok (.getfield 150, 3) := by decide +kernel
theorem dX12_unlike_45 : decode cX12_unlike 45 = .ok (.iload 4, 2) := by decide +kernel
theorem dX12_unlike_47 : decode cX12_unlike 47 = .ok (.aload_n 0, 1) := by decide +kernel
theorem dX12_unlike_48 : decode cX12_unlike 48 = .ok (.iload_n 1, 1) := by decide +kernel
theorem dX12_unlike_49 : decode cX12_unlike 49 = .ok (.iload 4, 2) := by decide +kernel
theorem dX12_unlike_51 : decode cX12_unlike 51 = .ok (.aload_n 0, 1) := by decide +kernel
theorem dX12_unlike_52 : decode cX12_unlike 52 = .ok (.getfield 194, 3) := by decide +kernel
theorem dX12_unlike_55 : decode cX12_unlike 55 = .ok (.aload_n 0, 1) := by decide +kernel
theorem dX12_unlike_56 : decode cX12_unlike 56 = .ok (.getfield 194, 3) := by decide +kernel
theorem dX12_unlike_59 : decode cX12_unlike 59 = .ok (.invokevirtual 266, 3) := by decide +kernel
theorem dX12_unlike_62 : decode cX12_unlike 62 = .ok (.aload_n 0, 1) := by decide +kernel
theorem dX12_unlike_63 : decode cX12_unlike 63 = .ok (.iload_n 2, 1) := by decide +kernel
theorem dX12_unlike_64 : decode cX12_unlike 64 = .ok (.iload 4, 2) := by decide +kernel
theorem dX12_unlike_66 : decode cX12_unlike 66 = .ok (.aload_n 0, 1) := by decide +kernel
theorem dX12_unlike_67 : decode cX12_unlike 67 = .ok (.getfield 194, 3) := by decide +kernel
theorem dX12_unlike_70 : decode cX12_unlike 70 = .ok (.aload_n 0, 1) := by decide +kernel
theorem dX12_unlike_71 : decode cX12_unlike 71 = .ok (.getfield 194, 3) := by decide +kernel
theorem dX12_unlike_74 : decode cX12_unlike 74 = .ok (.invokevirtual 266, 3) := by decide +kernel
theorem dX12_unlike_77 : decode cX12_unlike 77 = .ok (.if_icmp .eq 7, 3) := by decide +kernel
theorem dX12_unlike_80 : decode cX12_unlike 80 = .ok (.iconst 1, 1) := by decide +kernel
theorem dX12_unlike_81 : decode cX12_unlike 81 = .ok (.goto 4, 3) := by decide +kernel
theorem dX12_unlike_84 : decode cX12_unlike 84 = .ok (.iconst 0, 1) := by decide +kernel
theorem dX12_unlike_85 : decode cX12_unlike 85 = .ok (.bastore, 1) := by decide +kernel
theorem dX12_unlike_86 : decode cX12_unlike 86 = .ok (.iinc 4 1, 3) := by decide +kernel
theorem dX12_unlike_89 : decode cX12_unlike 89 = .ok (.goto (-56), 3) := by decide +kernel
theorem dX12_unlike_92 : decode cX12_unlike 92 = .ok (.aload_n 0, 1) := by decide +kernel
theorem dX12_unlike_93 : decode cX12_unlike 93 = .ok (.iload_n 3, 1) := by decide +kernel
theorem dX12_unlike_94 : decode cX12_unlike 94 = .ok (.invokevirtual 296, 3) := by decide +kernel
theorem dX12_unlike_97 : decode cX12_unlike 97 = .ok (.ireturn, 1) := by decide +kernel
theorem dX12_wrong_0 : decode cX12_wrong 0 = .ok (.iload_n 1, 1) := by decide +kernel
theorem dX12_wrong_1 : decode cX12_wrong 1 = .ok (.iconst 0, 1) := by decide +kernel
theorem dX12_wrong_2 : decode cX12_wrong 2 = .ok (.iconst 5, 1) := by decide +kernel
theorem dX12_wrong_3 : decode cX12_wrong 3 = .ok (.invokestatic 177, 3) := by decide +kernel
theorem dX12_wrong_6 : decode cX12_wrong 6 = .ok (.ifCond .eq 21, 3) := by decide +kernel
theorem dX12_wrong_9 : decode cX12_wrong 9 = .ok (.iload_n 2, 1) := by decide +kernel
theorem dX12_wrong_10 : decode cX12_wrong 10 = .ok (.iconst 0, 1) := by decide +kernel
theorem dX12_wrong_11 : decode cX12_wrong 11 = .ok (.iconst 1, 1) := by decide +kernel
theorem dX12_wrong_12 : decode cX12_wrong 12 = .ok (.invokestatic 177, 3) := by decide +kernel
theorem dX12_wrong_15 : decode cX12_wrong 15 = .ok (.ifCond .eq 12, 3) := by decide +kernel
theorem dX12_wrong_18 : decode cX12_wrong 18 = .ok (.iload_n 3, 1) := by decide +kernel
theorem dX12_wrong_19 : decode cX12_wrong 19 = .ok (.iconst 0, 1) := by decide +kernel
theorem dX12_wrong_20 : decode cX12_wrong 20 = .ok (.iconst 2, 1) := by decide +kernel
theorem dX12_wrong_21 : decode cX12_wrong 21 = .ok (.invokestatic 177, 3) := by decide +kernel
theorem dX12_wrong_24 : decode cX12_wrong 24 = .ok (.ifCond .ne 6, 3) := by decide +kernel
theorem dX12_wrong_27 : decode cX12_wrong 27 = .ok (.bipush (-5), 2) := by decide +kernel
theorem dX12_wrong_29 : decode cX12_wrong 29 = .ok (.ireturn, 1) := by decide +kernel
theorem dX12_wrong_30 : decode cX12_wrong 30 = .ok (.iconst 0, 1) := by decide +kernel
theorem dX12_wrong_31 : decode cX12_wrong 31 = .ok (.istore 4, 2) := by decide +kernel
theorem dX12_wrong_33 : decode cX12_wrong 33 = .ok (.iload 4, 2) := by decide +kernel
theorem dX12_wrong_35 : decode cX12_wrong 35 = .ok (.sipush 1536, 3) := by decide +kernel
theorem dX12_wrong_38 : decode cX12_wrong 38 = .ok (.if_icmp .ge 50, 3) := by decide +kernel
theorem dX12_wrong_41 : decode cX12_wrong 41 = .ok (.aload_n 0, 1) := by decide +kernel
theorem dX12_wrong_42 : decode cX12_wrong 42 = .ok (.getfield 150, 3) := by decide +kernel
theorem dX12_wrong_45 : decode cX12_wrong 45 = .ok (.iload 4, 2) := by decide +kernel
theorem dX12_wrong_47 : decode cX12_wrong 47 = .ok (.aload_n 0, 1) := by decide +kernel
theorem dX12_wrong_48 : decode cX12_wrong 48 = .ok (.iload_n 1, 1) := by decide +kernel
theorem dX12_wrong_49 : decode cX12_wrong 49 = .ok (.iload 4, 2) := by decide +kernel
theorem dX12_wrong_51 : decode cX12_wrong 51 = .ok (.aload_n 0, 1) := by decide +kernel
theorem dX12_wrong_52 : decode cX12_wrong 52 = .ok (.getfield 194, 3) := by decide +kernel
theorem dX12_wrong_55 : decode cX12_wrong 55 = .ok (.aload_n 0, 1) := by decide +kernel
theorem dX12_wrong_56 : decode cX12_wrong 56 = .ok (.getfield 194, 3) := by decide +kernel
theorem dX12_wrong_59 : decode cX12_wrong 59 = .ok (.invokevirtual 266, 3) := by decide +kernel
theorem dX12_wrong_62 : decode cX12_wrong 62 = .ok (.iload_n 2, 1) := by decide +kernel
theorem dX12_wrong_63 : decode cX12_wrong 63 = .ok (.ifCond .ne 8, 3) := by decide +kernel
theorem dX12_wrong_66 : decode cX12_wrong 66 = .ok (.bipush (-2), 2) := by decide +kernel
theorem dX12_wrong_68 : decode cX12_wrong 68 = .ok (.goto 5, 3) := by decide +kernel
theorem dX12_wrong_71 : decode cX12_wrong 71 = .ok (.bipush (-3), 2) := by decide +kernel
theorem dX12_wrong_73 : decode cX12_wrong 73 = .ok (.if_icmp .ne 7, 3) := by decide +kernel
theorem dX12_wrong_76 : decode cX12_wrong 76 = .ok (.iconst 1, 1) := by decide +kernel
theorem dX12_wrong_77 : decode cX12_wrong 77 = .ok (.goto 4, 3) := by decide +kernel
theorem dX12_wrong_80 : decode cX12_wrong 80 = .ok (.iconst 0, 1) := by decide +kernel
theorem dX12_wrong_81 : decode cX12_wrong 81 = .ok (.bastore, 1) := by decide +kernel
theorem dX12_wrong_82 : decode cX12_wrong 82 = .ok (.iinc 4 1, 3) := by decide +kernel
theorem dX12_wrong_85 : decode cX12_wrong 85 = .ok (.goto (-52), 3) := by decide +kernel
theorem dX12_wrong_88 : decode cX12_wrong 88 = .ok (.aload_n 0, 1) := by decide +kernel
theorem dX12_wrong_89 : decode cX12_wrong 89 = .ok (.iload_n 3, 1) := by decide +kernel
theorem dX12_wrong_90 : decode cX12_wrong 90 = .ok (.invokevirtual 296, 3) := by decide +kernel
theorem dX12_wrong_93 : decode cX12_wrong 93 = .ok (.ireturn, 1) := by decide +kernel
theorem dX12_hears_0 : decode cX12_hears 0 = .ok (.aload_n 0, 1) := by decide +kernel
theorem dX12_hears_1 : decode cX12_hears 1 = .ok (.getfield 299, 3) := by decide +kernel
theorem dX12_hears_4 : decode cX12_hears 4 = .ok (.bipush 100, 2) := by decide +kernel
theorem dX12_hears_6 : decode cX12_hears 6 = .ok (.if_icmp .ne 6, 3) := by decide +kernel
theorem dX12_hears_9 : decode cX12_hears 9 = .ok (.bipush (-4), 2) := by decide +kernel
theorem dX12_hears_11 : decode cX12_hears 11 = .ok (.ireturn, 1) := by decide +kernel
theorem dX12_hears_12 : decode cX12_hears 12 = .ok (.aload_n 0, 1) := by decide +kernel
theorem dX12_hears_13 : decode cX12_hears 13 = .ok (.getfield 69, 3) := by decide +kernel
theorem dX12_hears_16 : decode cX12_hears 16 = .ok (.aload_n 0, 1) := by decide +kernel
theorem dX12_hears_17 : decode cX12_hears 17 = .ok (.getfield 299, 3) := by decide +kernel
theorem dX12_hears_20 : decode cX12_hears 20 = .ok (.iload_n 1, 1) := by decide +kernel
theorem dX12_hears_21 : decode cX12_hears 21 = .ok (.iastore, 1) := by decide +kernel
theorem dX12_hears_22 : decode cX12_hears 22 = .ok (.aload_n 0, 1) := by decide +kernel
theorem dX12_hears_23 : decode cX12_hears 23 = .ok (.getfield 72, 3) := by decide +kernel
theorem dX12_hears_26 : decode cX12_hears 26 = .ok (.aload_n 0, 1) := by decide +kernel
theorem dX12_hears_27 : decode cX12_hears 27 = .ok (.getfield 299, 3) := by decide +kernel
theorem dX12_hears_30 : decode cX12_hears 30 = .ok (.iload_n 2, 1) := by decide +kernel
theorem dX12_hears_31 : decode cX12_hears 31 = .ok (.iastore, 1) := by decide +kernel
theorem dX12_hears_32 : decode cX12_hears 32 = .ok (.aload_n 0, 1) := by decide +kernel
theorem dX12_hears_33 : decode cX12_hears 33 = .ok (.getfield 75, 3) := by decide +kernel
theorem dX12_hears_36 : decode cX12_hears 36 = .ok (.aload_n 0, 1) := by decide +kernel
theorem dX12_hears_37 : decode cX12_hears 37 = .ok (.getfield 299, 3) := by decide +kernel
theorem dX12_hears_40 : decode cX12_hears 40 = .ok (.iload_n 3, 1) := by decide +kernel
theorem dX12_hears_41 : decode cX12_hears 41 = .ok (.iastore, 1) := by decide +kernel
theorem dX12_hears_42 : decode cX12_hears 42 = .ok (.aload_n 0, 1) := by decide +kernel
theorem dX12_hears_43 : decode cX12_hears 43 = .ok (.dup, 1) := by decide +kernel
theorem dX12_hears_44 : decode cX12_hears 44 = .ok (.getfield 299, 3) := by decide +kernel
theorem dX12_hears_47 : decode cX12_hears 47 = .ok (.iconst 1, 1) := by decide +kernel
theorem dX12_hears_48 : decode cX12_hears 48 = .ok (.iadd, 1) := by decide +kernel
theorem dX12_hears_49 : decode cX12_hears 49 = .ok (.putfield 299, 3) := by decide +kernel
theorem dX12_hears_52 : decode cX12_hears 52 = .ok (.aload_n 0, 1) := by decide +kernel
theorem dX12_hears_53 : decode cX12_hears 53 = .ok (.getfield 299, 3) := by decide +kernel
theorem dX12_hears_56 : decode cX12_hears 56 = .ok (.iconst 1, 1) := by decide +kernel
theorem dX12_hears_57 : decode cX12_hears 57 = .ok (.isub, 1) := by decide +kernel
theorem dX12_hears_58 : decode cX12_hears 58 = .ok (.ireturn, 1) := by decide +kernel
theorem dX12_heard_0 : decode cX12_heard 0 = .ok (.aload_n 0, 1) := by decide +kernel
theorem dX12_heard_1 : decode cX12_heard 1 = .ok (.iload_n 1, 1) := by decide +kernel
theorem dX12_heard_2 : decode cX12_heard 2 = .ok (.invokevirtual 270, 3) := by decide +kernel
theorem dX12_heard_5 : decode cX12_heard 5 = .ok (.ifCond .ne 5, 3) := by decide +kernel
theorem dX12_heard_8 : decode cX12_heard 8 = .ok (.iconst (-1), 1) := by decide +kernel
theorem dX12_heard_9 : decode cX12_heard 9 = .ok (.ireturn, 1) := by decide +kernel
theorem dX12_heard_10 : decode cX12_heard 10 = .ok (.iload_n 2, 1) := by decide +kernel
theorem dX12_heard_11 : decode cX12_heard 11 = .ok (.invokestatic 246, 3) := by decide +kernel
theorem dX12_heard_14 : decode cX12_heard 14 = .ok (.ifCond .eq 20, 3) := by decide +kernel
theorem dX12_heard_17 : decode cX12_heard 17 = .ok (.iload_n 3, 1) := by decide +kernel
theorem dX12_heard_18 : decode cX12_heard 18 = .ok (.invokestatic 302, 3) := by decide +kernel
theorem dX12_heard_21 : decode cX12_heard 21 = .ok (.ifCond .eq 13, 3) := by decide +kernel
theorem dX12_heard_24 : decode cX12_heard 24 = .ok (.aload_n 0, 1) := by decide +kernel
theorem dX12_heard_25 : decode cX12_heard 25 = .ok (.iload_n 1, 1) := by decide +kernel
theorem dX12_heard_26 : decode cX12_heard 26 = .ok (.iload_n 2, 1) := by decide +kernel
theorem dX12_heard_27 : decode cX12_heard 27 = .ok (.iload_n 3, 1) := by decide +kernel
theorem dX12_heard_28 : decode cX12_heard 28 = .ok (.invokevirtual 305, 3) := by decide +kernel
theorem dX12_heard_31 : decode cX12_heard 31 = .ok (.goto 5, 3) := by decide +kernel
theorem dX12_heard_34 : decode cX12_heard 34 = .ok (.bipush (-2), 2) := by decide +kernel
theorem dX12_heard_36 : decode cX12_heard 36 = .ok (.ireturn, 1) := by decide +kernel
theorem dX12_read__0 : decode cX12_read_ 0 = .ok (.aload_n 0, 1) := by decide +kernel
theorem dX12_read__1 : decode cX12_read_ 1 = .ok (.iload_n 1, 1) := by decide +kernel
theorem dX12_read__2 : decode cX12_read_ 2 = .ok (.invokevirtual 270, 3) := by decide +kernel
theorem dX12_read__5 : decode cX12_read_ 5 = .ok (.ifCond .eq 21, 3) := by decide +kernel
theorem dX12_read__8 : decode cX12_read_ 8 = .ok (.iload_n 2, 1) := by decide +kernel
theorem dX12_read__9 : decode cX12_read_ 9 = .ok (.iconst 0, 1) := by decide +kernel
theorem dX12_read__10 : decode cX12_read_ 10 = .ok (.iconst 2, 1) := by decide +kernel
theorem dX12_read__11 : decode cX12_read_ 11 = .ok (.invokestatic 177, 3) := by decide +kernel
theorem dX12_read__14 : decode cX12_read_ 14 = .ok (.ifCond .eq 12, 3) := by decide +kernel
theorem dX12_read__17 : decode cX12_read_ 17 = .ok (.iload_n 3, 1) := by decide +kernel
theorem dX12_read__18 : decode cX12_read_ 18 = .ok (.iconst 0, 1) := by decide +kernel
theorem dX12_read__19 : decode cX12_read_ 19 = .ok (.iconst 2, 1) := by decide +kernel
theorem dX12_read__20 : decode cX12_read_ 20 = .ok (.invokestatic 177, 3) := by decide +kernel
theorem dX12_read__23 : decode cX12_read_ 23 = .ok (.ifCond .ne 5, 3) := by decide +kernel
theorem dX12_read__26 : decode cX12_read_ 26 = .ok (.iconst (-1), 1) := by decide +kernel
theorem dX12_read__27 : decode cX12_read_ 27 = .ok (.ireturn, 1) := by decide +kernel
theorem dX12_read__28 : decode cX12_read_ 28 = .ok (.aload_n 0, 1) := by decide +kernel
theorem dX12_read__29 : decode cX12_read_ 29 = .ok (.getfield 138, 3) := by decide +kernel
theorem dX12_read__32 : decode cX12_read_ 32 = .ok (.iload_n 2, 1) := by decide +kernel
theorem dX12_read__33 : decode cX12_read_ 33 = .ok (.iaload, 1) := by decide +kernel
theorem dX12_read__34 : decode cX12_read_ 34 = .ok (.iconst (-1), 1) := by decide +kernel
theorem dX12_read__35 : decode cX12_read_ 35 = .ok (.if_icmp .ne 6, 3) := by decide +kernel
theorem dX12_read__38 : decode cX12_read_ 38 = .ok (.bipush (-11), 2) := by decide +kernel
theorem dX12_read__40 : decode cX12_read_ 40 = .ok (.ireturn, 1) := by decide +kernel
theorem dX12_read__41 : decode cX12_read_ 41 = .ok (.aload_n 0, 1) := by decide +kernel
theorem dX12_read__42 : decode cX12_read_ 42 = .ok (.getfield 138, 3) := by decide +kernel
theorem dX12_read__45 : decode cX12_read_ 45 = .ok (.iload_n 2, 1) := by decide +kernel
theorem dX12_read__46 : decode cX12_read_ 46 = .ok (.iaload, 1) := by decide +kernel
theorem dX12_read__47 : decode cX12_read_ 47 = .ok (.iload_n 3, 1) := by decide +kernel
theorem dX12_read__48 : decode cX12_read_ 48 = .ok (.if_icmp .eq 6, 3) := by decide +kernel
theorem dX12_read__51 : decode cX12_read_ 51 = .ok (.bipush (-13), 2) := by decide +kernel
theorem dX12_read__53 : decode cX12_read_ 53 = .ok (.ireturn, 1) := by decide +kernel
theorem dX12_read__54 : decode cX12_read_ 54 = .ok (.iload 4, 2) := by decide +kernel
theorem dX12_read__56 : decode cX12_read_ 56 = .ok (.ifCond .lt 17, 3) := by decide +kernel
theorem dX12_read__59 : decode cX12_read_ 59 = .ok (.iload 4, 2) := by decide +kernel
theorem dX12_read__61 : decode cX12_read_ 61 = .ok (.aload_n 0, 1) := by decide +kernel
theorem dX12_read__62 : decode cX12_read_ 62 = .ok (.getfield 141, 3) := by decide +kernel
theorem dX12_read__65 : decode cX12_read_ 65 = .ok (.iload_n 2, 1) := by decide +kernel
theorem dX12_read__66 : decode cX12_read_ 66 = .ok (.iaload, 1) := by decide +kernel
theorem dX12_read__67 : decode cX12_read_ 67 = .ok (.bipush 7, 2) := by decide +kernel
theorem dX12_read__69 : decode cX12_read_ 69 = .ok (.isub, 1) := by decide +kernel
theorem dX12_read__70 : decode cX12_read_ 70 = .ok (.if_icmp .le 6, 3) := by decide +kernel
theorem dX12_read__73 : decode cX12_read_ 73 = .ok (.bipush (-12), 2) := by decide +kernel
theorem dX12_read__75 : decode cX12_read_ 75 = .ok (.ireturn, 1) := by decide +kernel
theorem dX12_read__76 : decode cX12_read_ 76 = .ok (.iconst 0, 1) := by decide +kernel
theorem dX12_read__77 : decode cX12_read_ 77 = .ok (.istore 5, 2) := by decide +kernel
theorem dX12_read__79 : decode cX12_read_ 79 = .ok (.iconst 0, 1) := by decide +kernel
theorem dX12_read__80 : decode cX12_read_ 80 = .ok (.istore 6, 2) := by decide +kernel
theorem dX12_read__82 : decode cX12_read_ 82 = .ok (.iload 6, 2) := by decide +kernel
theorem dX12_read__84 : decode cX12_read_ 84 = .ok (.bipush 6, 2) := by decide +kernel
theorem dX12_read__86 : decode cX12_read_ 86 = .ok (.if_icmp .ge 58, 3) := by decide +kernel
theorem dX12_read__89 : decode cX12_read_ 89 = .ok (.aload_n 0, 1) := by decide +kernel
theorem dX12_read__90 : decode cX12_read_ 90 = .ok (.getfield 144, 3) := by decide +kernel
theorem dX12_read__93 : decode cX12_read_ 93 = .ok (.bipush 40, 2) := by decide +kernel
theorem dX12_read__95 : decode cX12_read_ 95 = .ok (.iload_n 2, 1) := by decide +kernel
theorem dX12_read__96 : decode cX12_read_ 96 = .ok (.imul, 1) := by decide +kernel
theorem dX12_read__97 : decode cX12_read_ 97 = .ok (.iload 4, 2) := by decide +kernel
theorem dX12_read__99 : decode cX12_read_ 99 = .ok (.iadd, 1) := by decide +kernel
theorem dX12_read__100 : decode cX12_read_ 100 = .ok (.iload 6, 2) := by decide +kernel
theorem dX12_read__102 : decode cX12_read_ 102 = .ok (.iadd, 1) := by decide +kernel
theorem dX12_read__103 : decode cX12_read_ 103 = .ok (.iaload, 1) := by decide +kernel
theorem dX12_read__104 : decode cX12_read_ 104 = .ok (.istore 7, 2) := by decide +kernel
theorem dX12_read__106 : decode cX12_read_ 106 = .ok (.iload 7, 2) := by decide +kernel
theorem dX12_read__108 : decode cX12_read_ 108 = .ok (.iconst 0, 1) := by decide +kernel
theorem dX12_read__109 : decode cX12_read_ 109 = .ok (.iload 6, 2) := by decide +kernel
theorem dX12_read__111 : decode cX12_read_ 111 = .ok (.invokestatic 191, 3) := by decide +kernel
theorem dX12_read__114 : decode cX12_read_ 114 = .ok (.iconst 1, 1) := by decide +kernel
theorem dX12_read__115 : decode cX12_read_ 115 = .ok (.isub, 1) := by decide +kernel
theorem dX12_read__116 : decode cX12_read_ 116 = .ok (.invokestatic 177, 3) := by decide +kernel
theorem dX12_read__119 : decode cX12_read_ 119 = .ok (.ifCond .ne 6, 3) := by decide +kernel
theorem dX12_read__122 : decode cX12_read_ 122 = .ok (.bipush (-2), 2) := by decide +kernel
theorem dX12_read__124 : decode cX12_read_ 124 = .ok (.ireturn, 1) := by decide +kernel
theorem dX12_read__125 : decode cX12_read_ 125 = .ok (.iload 5, 2) := by decide +kernel
theorem dX12_read__127 : decode cX12_read_ 127 = .ok (.iload 7, 2) := by decide +kernel
theorem dX12_read__129 : decode cX12_read_ 129 = .ok (.iload 6, 2) := by decide +kernel
theorem dX12_read__131 : decode cX12_read_ 131 = .ok (.invokestatic 187, 3) := by decide +kernel
theorem dX12_read__134 : decode cX12_read_ 134 = .ok (.imul, 1) := by decide +kernel
theorem dX12_read__135 : decode cX12_read_ 135 = .ok (.iadd, 1) := by decide +kernel
theorem dX12_read__136 : decode cX12_read_ 136 = .ok (.istore 5, 2) := by decide +kernel
theorem dX12_read__138 : decode cX12_read_ 138 = .ok (.iinc 6 1, 3) := by decide +kernel
theorem dX12_read__141 : decode cX12_read_ 141 = .ok (.goto (-59), 3) := by decide +kernel
theorem dX12_read__144 : decode cX12_read_ 144 = .ok (.aload_n 0, 1) := by decide +kernel
theorem dX12_read__145 : decode cX12_read_ 145 = .ok (.getfield 144, 3) := by decide +kernel
theorem dX12_read__148 : decode cX12_read_ 148 = .ok (.bipush 40, 2) := by decide +kernel
theorem dX12_read__150 : decode cX12_read_ 150 = .ok (.iload_n 2, 1) := by decide +kernel
theorem dX12_read__151 : decode cX12_read_ 151 = .ok (.imul, 1) := by decide +kernel
theorem dX12_read__152 : decode cX12_read_ 152 = .ok (.iload 4, 2) := by decide +kernel
theorem dX12_read__154 : decode cX12_read_ 154 = .ok (.iadd, 1) := by decide +kernel
theorem dX12_read__155 : decode cX12_read_ 155 = .ok (.bipush 6, 2) := by decide +kernel
theorem dX12_read__157 : decode cX12_read_ 157 = .ok (.iadd, 1) := by decide +kernel
theorem dX12_read__158 : decode cX12_read_ 158 = .ok (.iaload, 1) := by decide +kernel
theorem dX12_read__159 : decode cX12_read_ 159 = .ok (.istore 6, 2) := by decide +kernel
theorem dX12_read__161 : decode cX12_read_ 161 = .ok (.iload 6, 2) := by decide +kernel
theorem dX12_read__163 : decode cX12_read_ 163 = .ok (.invokestatic 302, 3) := by decide +kernel
theorem dX12_read__166 : decode cX12_read_ 166 = .ok (.ifCond .eq 15, 3) := by decide +kernel
theorem dX12_read__169 : decode cX12_read_ 169 = .ok (.aload_n 0, 1) := by decide +kernel
theorem dX12_read__170 : decode cX12_read_ 170 = .ok (.iload_n 1, 1) := by decide +kernel
theorem dX12_read__171 : decode cX12_read_ 171 = .ok (.iload 5, 2) := by decide +kernel
theorem dX12_read__173 : decode cX12_read_ 173 = .ok (.iload 6, 2) := by decide +kernel
theorem dX12_read__175 : decode cX12_read_ 175 = .ok (.invokevirtual 305, 3) := by decide +kernel
theorem dX12_read__178 : decode cX12_read_ 178 = .ok (.goto 5, 3) := by decide +kernel
theorem dX12_read__181 : decode cX12_read_ 181 = .ok (.bipush (-2), 2) := by decide +kernel
theorem dX12_read__183 : decode cX12_read_ 183 = .ok (.ireturn, 1) := by decide +kernel
theorem dX12_formHolds_0 : decode cX12_formHolds 0 = .ok (.bipush 40, 2) := by decide +kernel
theorem dX12_formHolds_2 : decode cX12_formHolds 2 = .ok (.iload_n 0, 1) := by decide +kernel
theorem dX12_formHolds_3 : decode cX12_formHolds 3 = .ok (.bipush 12, 2) := by decide +kernel
theorem dX12_formHolds_5 : decode cX12_formHolds 5 = .ok (.idiv, 1) := by decide +kernel
theorem dX12_formHolds_6 : decode cX12_formHolds 6 = .ok (.imul, 1) := by decide +kernel
theorem dX12_formHolds_7 : decode cX12_formHolds 7 = .ok (.bipush 10, 2) := by decide +kernel
theorem dX12_formHolds_9 : decode cX12_formHolds 9 = .ok (.iload_n 0, 1) := by decide +kernel
theorem dX12_formHolds_10 : decode cX12_formHolds 10 = .ok (.iconst 4, 1) := by decide +kernel
theorem dX12_formHolds_11 : decode cX12_formHolds 11 = .ok (.idiv, 1) := by decide +kernel
theorem dX12_formHolds_12 : decode cX12_formHolds 12 = .ok (.iconst 3, 1) := by decide +kernel
theorem dX12_formHolds_13 : decode cX12_formHolds 13 = .ok (.irem, 1) := by decide +kernel
theorem dX12_formHolds_14 : decode cX12_formHolds 14 = .ok (.imul, 1) := by decide +kernel
theorem dX12_formHolds_15 : decode cX12_formHolds 15 = .ok (.iadd, 1) := by decide +kernel
theorem dX12_formHolds_16 : decode cX12_formHolds 16 = .ok (.iload_n 0, 1) := by decide +kernel
theorem dX12_formHolds_17 : decode cX12_formHolds 17 = .ok (.iconst 4, 1) := by decide +kernel
theorem dX12_formHolds_18 : decode cX12_formHolds 18 = .ok (.irem, 1) := by decide +kernel
theorem dX12_formHolds_19 : decode cX12_formHolds 19 = .ok (.iadd, 1) := by decide +kernel
theorem dX12_formHolds_20 : decode cX12_formHolds 20 = .ok (.iload_n 1, 1) := by decide +kernel
theorem dX12_formHolds_21 : decode cX12_formHolds 21 = .ok (.invokestatic 235, 3) := by decide +kernel
theorem dX12_formHolds_24 : decode cX12_formHolds 24 = .ok (.ireturn, 1) := by decide +kernel
theorem dX12_isLeft_0 : decode cX12_isLeft 0 = .ok (.iconst (-1), 1) := by decide +kernel
theorem dX12_isLeft_1 : decode cX12_isLeft 1 = .ok (.istore_n 3, 1) := by decide +kernel
theorem dX12_isLeft_2 : decode cX12_isLeft 2 = .ok (.iconst (-1), 1) := by decide +kernel
theorem dX12_isLeft_3 : decode cX12_isLeft 3 = .ok (.istore 4, 2) := by decide +kernel
theorem dX12_isLeft_5 : decode cX12_isLeft 5 = .ok (.iconst 0, 1) := by decide +kernel
theorem dX12_isLeft_6 : decode cX12_isLeft 6 = .ok (.istore 5, 2) := by decide +kernel
theorem dX12_isLeft_8 : decode cX12_isLeft 8 = .ok (.iload 5, 2) := by decide +kernel
theorem dX12_isLeft_10 : decode cX12_isLeft 10 = .ok (.aload_n 0, 1) := by decide +kernel
theorem dX12_isLeft_11 : decode cX12_isLeft 11 = .ok (.getfield 299, 3) := by decide +kernel
theorem dX12_isLeft_14 : decode cX12_isLeft 14 = .ok (.if_icmp .ge 81, 3) := by decide +kernel
theorem dX12_isLeft_17 : decode cX12_isLeft 17 = .ok (.aload_n 0, 1) := by decide +kernel
theorem dX12_isLeft_18 : decode cX12_isLeft 18 = .ok (.getfield 69, 3) := by decide +kernel
theorem dX12_isLeft_21 : decode cX12_isLeft 21 = .ok (.iload 5, 2) := by decide +kernel
theorem dX12_isLeft_23 : decode cX12_isLeft 23 = .ok (.iaload, 1) := by decide +kernel
theorem dX12_isLeft_24 : decode cX12_isLeft 24 = .ok (.iload_n 1, 1) := by decide +kernel
theorem dX12_isLeft_25 : decode cX12_isLeft 25 = .ok (.if_icmp .ne 64, 3) := by decide +kernel
theorem dX12_isLeft_28 : decode cX12_isLeft 28 = .ok (.aload_n 0, 1) := by decide +kernel
theorem dX12_isLeft_29 : decode cX12_isLeft 29 = .ok (.getfield 75, 3) := by decide +kernel
theorem dX12_isLeft_32 : decode cX12_isLeft 32 = .ok (.iload 5, 2) := by decide +kernel
theorem dX12_isLeft_34 : decode cX12_isLeft 34 = .ok (.iaload, 1) := by decide +kernel
theorem dX12_isLeft_35 : decode cX12_isLeft 35 = .ok (.istore 6, 2) := by decide +kernel
theorem dX12_isLeft_37 : decode cX12_isLeft 37 = .ok (.iload_n 2, 1) := by decide +kernel
theorem dX12_isLeft_38 : decode cX12_isLeft 38 = .ok (.aload_n 0, 1) := by decide +kernel
theorem dX12_isLeft_39 : decode cX12_isLeft 39 = .ok (.getfield 72, 3) := by decide +kernel
theorem dX12_isLeft_42 : decode cX12_isLeft 42 = .ok (.iload 5, 2) := by decide +kernel
theorem dX12_isLeft_44 : decode cX12_isLeft 44 = .ok (.iaload, 1) := by decide +kernel
theorem dX12_isLeft_45 : decode cX12_isLeft 45 = .ok (.invokestatic 308, 3) := by decide +kernel
theorem dX12_isLeft_48 : decode cX12_isLeft 48 = .ok (.ifCond .eq 22, 3) := by decide +kernel
theorem dX12_isLeft_51 : decode cX12_isLeft 51 = .ok (.iload_n 3, 1) := by decide +kernel
theorem dX12_isLeft_52 : decode cX12_isLeft 52 = .ok (.iconst (-1), 1) := by decide +kernel
theorem dX12_isLeft_53 : decode cX12_isLeft 53 = .ok (.if_icmp .eq 11, 3) := by decide +kernel
theorem dX12_isLeft_56 : decode cX12_isLeft 56 = .ok (.iload_n 3, 1) := by decide +kernel
theorem dX12_isLeft_57 : decode cX12_isLeft 57 = .ok (.iload 6, 2) := by decide +kernel
theorem dX12_isLeft_59 : decode cX12_isLeft 59 = .ok (.if_icmp .eq 5, 3) := by decide +kernel
theorem dX12_isLeft_62 : decode cX12_isLeft 62 = .ok (.iconst 0, 1) := by decide +kernel
theorem dX12_isLeft_63 : decode cX12_isLeft 63 = .ok (.ireturn, 1) := by decide +kernel
theorem dX12_isLeft_64 : decode cX12_isLeft 64 = .ok (.iload 6, 2) := by decide +kernel
theorem dX12_isLeft_66 : decode cX12_isLeft 66 = .ok (.istore_n 3, 1) := by decide +kernel
theorem dX12_isLeft_67 : decode cX12_isLeft 67 = .ok (.goto 22, 3) := by decide +kernel
theorem dX12_isLeft_70 : decode cX12_isLeft 70 = .ok (.iload 4, 2) := by decide +kernel
theorem dX12_isLeft_72 : decode cX12_isLeft 72 = .ok (.iconst (-1), 1) := by decide +kernel
theorem dX12_isLeft_73 : decode cX12_isLeft 73 = .ok (.if_icmp .eq 12, 3) := by decide +kernel
theorem dX12_isLeft_76 : decode cX12_isLeft 76 = .ok (.iload 4, 2) := by decide +kernel
theorem dX12_isLeft_78 : decode cX12_isLeft 78 = .ok (.iload 6, 2) := by decide +kernel
theorem dX12_isLeft_80 : decode cX12_isLeft 80 = .ok (.if_icmp .eq 5, 3) := by decide +kernel
theorem dX12_isLeft_83 : decode cX12_isLeft 83 = .ok (.iconst 0, 1) := by decide +kernel
theorem dX12_isLeft_84 : decode cX12_isLeft 84 = .ok (.ireturn, 1) := by decide +kernel
theorem dX12_isLeft_85 : decode cX12_isLeft 85 = .ok (.iload 6, 2) := by decide +kernel
theorem dX12_isLeft_87 : decode cX12_isLeft 87 = .ok (.istore 4, 2) := by decide +kernel
theorem dX12_isLeft_89 : decode cX12_isLeft 89 = .ok (.iinc 5 1, 3) := by decide +kernel
theorem dX12_isLeft_92 : decode cX12_isLeft 92 = .ok (.goto (-84), 3) := by decide +kernel
theorem dX12_isLeft_95 : decode cX12_isLeft 95 = .ok (.iconst 1, 1) := by decide +kernel
theorem dX12_isLeft_96 : decode cX12_isLeft 96 = .ok (.ireturn, 1) := by decide +kernel
theorem dX12_findLeft_0 : decode cX12_findLeft 0 = .ok (.iconst 0, 1) := by decide +kernel
theorem dX12_findLeft_1 : decode cX12_findLeft 1 = .ok (.istore_n 2, 1) := by decide +kernel
theorem dX12_findLeft_2 : decode cX12_findLeft 2 = .ok (.iconst 0, 1) := by decide +kernel
theorem dX12_findLeft_3 : decode cX12_findLeft 3 = .ok (.istore_n 3, 1) := by decide +kernel
theorem dX12_findLeft_4 : decode cX12_findLeft 4 = .ok (.iload_n 3, 1) := by decide +kernel
theorem dX12_findLeft_5 : decode cX12_findLeft 5 = .ok (.bipush 72, 2) := by decide +kernel
theorem dX12_findLeft_7 : decode cX12_findLeft 7 = .ok (.if_icmp .ge 38, 3) := by decide +kernel
theorem dX12_findLeft_10 : decode cX12_findLeft 10 = .ok (.aload_n 0, 1) := by decide +kernel
theorem dX12_findLeft_11 : decode cX12_findLeft 11 = .ok (.getfield 153, 3) := by decide +kernel
theorem dX12_findLeft_14 : decode cX12_findLeft 14 = .ok (.iload_n 3, 1) := by decide +kernel
theorem dX12_findLeft_15 : decode cX12_findLeft 15 = .ok (.aload_n 0, 1) := by decide +kernel
theorem dX12_findLeft_16 : decode cX12_findLeft 16 = .ok (.iload_n 1, 1) := by decide +kernel
theorem dX12_findLeft_17 : decode cX12_findLeft 17 = .ok (.iload_n 3, 1) := by decide +kernel
theorem dX12_findLeft_18 : decode cX12_findLeft 18 = .ok (.invokevirtual 311, 3) := by decide +kernel
theorem dX12_findLeft_21 : decode cX12_findLeft 21 = .ok (.bastore, 1) := by decide +kernel
theorem dX12_findLeft_22 : decode cX12_findLeft 22 = .ok (.iload_n 2, 1) := by decide +kernel
theorem dX12_findLeft_23 : decode cX12_findLeft 23 = .ok (.aload_n 0, 1) := by decide +kernel
theorem dX12_findLeft_24 : decode cX12_findLeft 24 = .ok (.getfield 153, 3) := by decide +kernel
theorem dX12_findLeft_27 : decode cX12_findLeft 27 = .ok (.iload_n 3, 1) := by decide +kernel
theorem dX12_findLeft_28 : decode cX12_findLeft 28 = .ok (.baload, 1) := by decide +kernel
theorem dX12_findLeft_29 : decode cX12_findLeft 29 = .ok (.ifCond .eq 7, 3) := by decide +kernel
theorem dX12_findLeft_32 : decode cX12_findLeft 32 = .ok (.iconst 1, 1) := by decide +kernel
theorem dX12_findLeft_33 : decode cX12_findLeft 33 = .ok (.goto 4, 3) := by decide +kernel
theorem dX12_findLeft_36 : decode cX12_findLeft 36 = .ok (.iconst 0, 1) := by decide +kernel
theorem dX12_findLeft_37 : decode cX12_findLeft 37 = .ok (.iadd, 1) := by decide +kernel
theorem dX12_findLeft_38 : decode cX12_findLeft 38 = .ok (.istore_n 2, 1) := by decide +kernel
theorem dX12_findLeft_39 : decode cX12_findLeft 39 = .ok (.iinc 3 1, 3) := by decide +kernel
theorem dX12_findLeft_42 : decode cX12_findLeft 42 = .ok (.goto (-38), 3) := by decide +kernel
theorem dX12_findLeft_45 : decode cX12_findLeft 45 = .ok (.iload_n 2, 1) := by decide +kernel
theorem dX12_findLeft_46 : decode cX12_findLeft 46 = .ok (.ireturn, 1) := by decide +kernel
theorem dX12_left_0 : decode cX12_left 0 = .ok (.aload_n 0, 1) := by decide +kernel
theorem dX12_left_1 : decode cX12_left 1 = .ok (.iload_n 1, 1) := by decide +kernel
theorem dX12_left_2 : decode cX12_left 2 = .ok (.invokevirtual 270, 3) := by decide +kernel
theorem dX12_left_5 : decode cX12_left 5 = .ok (.ifCond .eq 11, 3) := by decide +kernel
theorem dX12_left_8 : decode cX12_left 8 = .ok (.aload_n 0, 1) := by decide +kernel
theorem dX12_left_9 : decode cX12_left 9 = .ok (.iload_n 1, 1) := by decide +kernel
theorem dX12_left_10 : decode cX12_left 10 = .ok (.invokevirtual 314, 3) := by decide +kernel
theorem dX12_left_13 : decode cX12_left 13 = .ok (.goto 4, 3) := by decide +kernel
theorem dX12_left_16 : decode cX12_left 16 = .ok (.iconst (-1), 1) := by decide +kernel
theorem dX12_left_17 : decode cX12_left 17 = .ok (.ireturn, 1) := by decide +kernel
theorem dX12_form_0 : decode cX12_form 0 = .ok (.aload_n 0, 1) := by decide +kernel
theorem dX12_form_1 : decode cX12_form 1 = .ok (.iload_n 1, 1) := by decide +kernel
theorem dX12_form_2 : decode cX12_form 2 = .ok (.invokevirtual 270, 3) := by decide +kernel
theorem dX12_form_5 : decode cX12_form 5 = .ok (.ifCond .eq 7, 3) := by decide +kernel
theorem dX12_form_8 : decode cX12_form 8 = .ok (.iload_n 2, 1) := by decide +kernel
theorem dX12_form_9 : decode cX12_form 9 = .ok (.ifCond .ge 5, 3) := by decide +kernel
theorem dX12_form_12 : decode cX12_form 12 = .ok (.iconst (-1), 1) := by decide +kernel
theorem dX12_form_13 : decode cX12_form 13 = .ok (.ireturn, 1) := by decide +kernel
theorem dX12_form_14 : decode cX12_form 14 = .ok (.aload_n 0, 1) := by decide +kernel
theorem dX12_form_15 : decode cX12_form 15 = .ok (.iload_n 1, 1) := by decide +kernel
theorem dX12_form_16 : decode cX12_form 16 = .ok (.invokevirtual 314, 3) := by decide +kernel
theorem dX12_form_19 : decode cX12_form 19 = .ok (.istore_n 3, 1) := by decide +kernel
theorem dX12_form_20 : decode cX12_form 20 = .ok (.iconst 0, 1) := by decide +kernel
theorem dX12_form_21 : decode cX12_form 21 = .ok (.istore 4, 2) := by decide +kernel
theorem dX12_form_23 : decode cX12_form 23 = .ok (.iconst 0, 1) := by decide +kernel
theorem dX12_form_24 : decode cX12_form 24 = .ok (.istore 5, 2) := by decide +kernel
theorem dX12_form_26 : decode cX12_form 26 = .ok (.iload 5, 2) := by decide +kernel
theorem dX12_form_28 : decode cX12_form 28 = .ok (.bipush 72, 2) := by decide +kernel
theorem dX12_form_30 : decode cX12_form 30 = .ok (.if_icmp .ge 36, 3) := by decide +kernel
theorem dX12_form_33 : decode cX12_form 33 = .ok (.iload_n 2, 1) := by decide +kernel
theorem dX12_form_34 : decode cX12_form 34 = .ok (.iload_n 3, 1) := by decide +kernel
theorem dX12_form_35 : decode cX12_form 35 = .ok (.if_icmp .ge 31, 3) := by decide +kernel
theorem dX12_form_38 : decode cX12_form 38 = .ok (.aload_n 0, 1) := by decide +kernel
theorem dX12_form_39 : decode cX12_form 39 = .ok (.getfield 153, 3) := by decide +kernel
theorem dX12_form_42 : decode cX12_form 42 = .ok (.iload 5, 2) := by decide +kernel
theorem dX12_form_44 : decode cX12_form 44 = .ok (.baload, 1) := by decide +kernel
theorem dX12_form_45 : decode cX12_form 45 = .ok (.ifCond .eq 15, 3) := by decide +kernel
theorem dX12_form_48 : decode cX12_form 48 = .ok (.iload 4, 2) := by decide +kernel
theorem dX12_form_50 : decode cX12_form 50 = .ok (.iload_n 2, 1) := by decide +kernel
theorem dX12_form_51 : decode cX12_form 51 = .ok (.if_icmp .ne 6, 3) := by decide +kernel
theorem dX12_form_54 : decode cX12_form 54 = .ok (.iload 5, 2) := by decide +kernel
theorem dX12_form_56 : decode cX12_form 56 = .ok (.ireturn, 1) := by decide +kernel
theorem dX12_form_57 : decode cX12_form 57 = .ok (.iinc 4 1, 3) := by decide +kernel
theorem dX12_form_60 : decode cX12_form 60 = .ok (.iinc 5 1, 3) := by decide +kernel
theorem dX12_form_63 : decode cX12_form 63 = .ok (.goto (-37), 3) := by decide +kernel
theorem dX12_form_66 : decode cX12_form 66 = .ok (.iconst (-1), 1) := by decide +kernel
theorem dX12_form_67 : decode cX12_form 67 = .ok (.ireturn, 1) := by decide +kernel
theorem dX12_parts_0 : decode cX12_parts 0 = .ok (.aload_n 0, 1) := by decide +kernel
theorem dX12_parts_1 : decode cX12_parts 1 = .ok (.iload_n 1, 1) := by decide +kernel
theorem dX12_parts_2 : decode cX12_parts 2 = .ok (.invokevirtual 270, 3) := by decide +kernel
theorem dX12_parts_5 : decode cX12_parts 5 = .ok (.ifCond .eq 12, 3) := by decide +kernel
theorem dX12_parts_8 : decode cX12_parts 8 = .ok (.iload_n 2, 1) := by decide +kernel
theorem dX12_parts_9 : decode cX12_parts 9 = .ok (.iconst 0, 1) := by decide +kernel
theorem dX12_parts_10 : decode cX12_parts 10 = .ok (.iconst 1, 1) := by decide +kernel
theorem dX12_parts_11 : decode cX12_parts 11 = .ok (.invokestatic 177, 3) := by decide +kernel
theorem dX12_parts_14 : decode cX12_parts 14 = .ok (.ifCond .ne 5, 3) := by decide +kernel
theorem dX12_parts_17 : decode cX12_parts 17 = .ok (.iconst (-1), 1) := by decide +kernel
theorem dX12_parts_18 : decode cX12_parts 18 = .ok (.ireturn, 1) := by decide +kernel
theorem dX12_parts_19 : decode cX12_parts 19 = .ok (.aload_n 0, 1) := by decide +kernel
theorem dX12_parts_20 : decode cX12_parts 20 = .ok (.iload_n 1, 1) := by decide +kernel
theorem dX12_parts_21 : decode cX12_parts 21 = .ok (.invokevirtual 314, 3) := by decide +kernel
theorem dX12_parts_24 : decode cX12_parts 24 = .ok (.istore_n 3, 1) := by decide +kernel
theorem dX12_parts_25 : decode cX12_parts 25 = .ok (.iload_n 3, 1) := by decide +kernel
theorem dX12_parts_26 : decode cX12_parts 26 = .ok (.ifCond .ne 5, 3) := by decide +kernel
theorem dX12_parts_29 : decode cX12_parts 29 = .ok (.iconst (-1), 1) := by decide +kernel
theorem dX12_parts_30 : decode cX12_parts 30 = .ok (.ireturn, 1) := by decide +kernel
theorem dX12_parts_31 : decode cX12_parts 31 = .ok (.iconst (-1), 1) := by decide +kernel
theorem dX12_parts_32 : decode cX12_parts 32 = .ok (.istore 4, 2) := by decide +kernel
theorem dX12_parts_34 : decode cX12_parts 34 = .ok (.iconst (-1), 1) := by decide +kernel
theorem dX12_parts_35 : decode cX12_parts 35 = .ok (.istore 5, 2) := by decide +kernel
theorem dX12_parts_37 : decode cX12_parts 37 = .ok (.iconst 0, 1) := by decide +kernel
theorem dX12_parts_38 : decode cX12_parts 38 = .ok (.istore 6, 2) := by decide +kernel
theorem dX12_parts_40 : decode cX12_parts 40 = .ok (.iload 6, 2) := by decide +kernel
theorem dX12_parts_42 : decode cX12_parts 42 = .ok (.sipush 1536, 3) := by decide +kernel
theorem dX12_parts_45 : decode cX12_parts 45 = .ok (.if_icmp .ge 93, 3) := by decide +kernel
theorem dX12_parts_48 : decode cX12_parts 48 = .ok (.iconst 0, 1) := by decide +kernel
theorem dX12_parts_49 : decode cX12_parts 49 = .ok (.istore 7, 2) := by decide +kernel
theorem dX12_parts_51 : decode cX12_parts 51 = .ok (.iconst 0, 1) := by decide +kernel
theorem dX12_parts_52 : decode cX12_parts 52 = .ok (.istore 8, 2) := by decide +kernel
theorem dX12_parts_54 : decode cX12_parts 54 = .ok (.iload 8, 2) := by decide +kernel
theorem dX12_parts_56 : decode cX12_parts 56 = .ok (.bipush 72, 2) := by decide +kernel
theorem dX12_parts_58 : decode cX12_parts 58 = .ok (.if_icmp .ge 39, 3) := by decide +kernel
theorem dX12_parts_61 : decode cX12_parts 61 = .ok (.iload 7, 2) := by decide +kernel
theorem dX12_parts_63 : decode cX12_parts 63 = .ok (.aload_n 0, 1) := by decide +kernel
theorem dX12_parts_64 : decode cX12_parts 64 = .ok (.getfield 153, 3) := by decide +kernel
theorem dX12_parts_67 : decode cX12_parts 67 = .ok (.iload 8, 2) := by decide +kernel
theorem dX12_parts_69 : decode cX12_parts 69 = .ok (.baload, 1) := by decide +kernel
theorem dX12_parts_70 : decode cX12_parts 70 = .ok (.ifCond .eq 17, 3) := by decide +kernel
theorem dX12_parts_73 : decode cX12_parts 73 = .ok (.iload 8, 2) := by decide +kernel
theorem dX12_parts_75 : decode cX12_parts 75 = .ok (.iload 6, 2) := by decide +kernel
theorem dX12_parts_77 : decode cX12_parts 77 = .ok (.invokestatic 308, 3) := by decide +kernel
theorem dX12_parts_80 : decode cX12_parts 80 = .ok (.ifCond .eq 7, 3) := by decide +kernel
theorem dX12_parts_83 : decode cX12_parts 83 = .ok (.iconst 1, 1) := by decide +kernel
theorem dX12_parts_84 : decode cX12_parts 84 = .ok (.goto 4, 3) := by decide +kernel
theorem dX12_parts_87 : decode cX12_parts 87 = .ok (.iconst 0, 1) := by decide +kernel
theorem dX12_parts_88 : decode cX12_parts 88 = .ok (.iadd, 1) := by decide +kernel
theorem dX12_parts_89 : decode cX12_parts 89 = .ok (.istore 7, 2) := by decide +kernel
theorem dX12_parts_91 : decode cX12_parts 91 = .ok (.iinc 8 1, 3) := by decide +kernel
theorem dX12_parts_94 : decode cX12_parts 94 = .ok (.goto (-40), 3) := by decide +kernel
theorem dX12_parts_97 : decode cX12_parts 97 = .ok (.iload 7, 2) := by decide +kernel
theorem dX12_parts_99 : decode cX12_parts 99 = .ok (.iload_n 3, 1) := by decide +kernel
theorem dX12_parts_100 : decode cX12_parts 100 = .ok (.iload 7, 2) := by decide +kernel
theorem dX12_parts_102 : decode cX12_parts 102 = .ok (.isub, 1) := by decide +kernel
theorem dX12_parts_103 : decode cX12_parts 103 = .ok (.if_icmp .ge 8, 3) := by decide +kernel
theorem dX12_parts_106 : decode cX12_parts 106 = .ok (.iload 7, 2) := by decide +kernel
theorem dX12_parts_108 : decode cX12_parts 108 = .ok (.goto 7, 3) := by decide +kernel
theorem dX12_parts_111 : decode cX12_parts 111 = .ok (.iload_n 3, 1) := by decide +kernel
theorem dX12_parts_112 : decode cX12_parts 112 = .ok (.iload 7, 2) := by decide +kernel
theorem dX12_parts_114 : decode cX12_parts 114 = .ok (.isub, 1) := by decide +kernel
theorem dX12_parts_115 : decode cX12_parts 115 = .ok (.istore 8, 2) := by decide +kernel
theorem dX12_parts_117 : decode cX12_parts 117 = .ok (.iload 8, 2) := by decide +kernel
theorem dX12_parts_119 : decode cX12_parts 119 = .ok (.iload 5, 2) := by decide +kernel
theorem dX12_parts_121 : decode cX12_parts 121 = .ok (.if_icmp .le 11, 3) := by decide +kernel
theorem dX12_parts_124 : decode cX12_parts 124 = .ok (.iload 6, 2) := by decide +kernel
theorem dX12_parts_126 : decode cX12_parts 126 = .ok (.istore 4, 2) := by decide +kernel
theorem dX12_parts_128 : decode cX12_parts 128 = .ok (.iload 8, 2) := by decide +kernel
theorem dX12_parts_130 : decode cX12_parts 130 = .ok (.istore 5, 2) := by decide +kernel
theorem dX12_parts_132 : decode cX12_parts 132 = .ok (.iinc 6 1, 3) := by decide +kernel
theorem dX12_parts_135 : decode cX12_parts 135 = .ok (.goto (-95), 3) := by decide +kernel
theorem dX12_parts_138 : decode cX12_parts 138 = .ok (.iload_n 2, 1) := by decide +kernel
theorem dX12_parts_139 : decode cX12_parts 139 = .ok (.ifCond .ne 8, 3) := by decide +kernel
theorem dX12_parts_142 : decode cX12_parts 142 = .ok (.iload 4, 2) := by decide +kernel
theorem dX12_parts_144 : decode cX12_parts 144 = .ok (.goto 5, 3) := by decide +kernel
theorem dX12_parts_147 : decode cX12_parts 147 = .ok (.iload 5, 2) := by decide +kernel
theorem dX12_parts_149 : decode cX12_parts 149 = .ok (.ireturn, 1) := by decide +kernel
theorem dX12_quarrel_0 : decode cX12_quarrel 0 = .ok (.aload_n 0, 1) := by decide +kernel
theorem dX12_quarrel_1 : decode cX12_quarrel 1 = .ok (.iload_n 1, 1) := by decide +kernel
theorem dX12_quarrel_2 : decode cX12_quarrel 2 = .ok (.invokevirtual 270, 3) := by decide +kernel
theorem dX12_quarrel_5 : decode cX12_quarrel 5 = .ok (.ifCond .eq 12, 3) := by decide +kernel
theorem dX12_quarrel_8 : decode cX12_quarrel 8 = .ok (.iload_n 2, 1) := by decide +kernel
theorem dX12_quarrel_9 : decode cX12_quarrel 9 = .ok (.iconst 0, 1) := by decide +kernel
theorem dX12_quarrel_10 : decode cX12_quarrel 10 = .ok (.iconst 1, 1) := by decide +kernel
theorem dX12_quarrel_11 : decode cX12_quarrel 11 = .ok (.invokestatic 177, 3) := by decide +kernel
theorem dX12_quarrel_14 : decode cX12_quarrel 14 = .ok (.ifCond .ne 5, 3) := by decide +kernel
theorem dX12_quarrel_17 : decode cX12_quarrel 17 = .ok (.iconst (-1), 1) := by decide +kernel
theorem dX12_quarrel_18 : decode cX12_quarrel 18 = .ok (.ireturn, 1) := by decide +kernel
theorem dX12_quarrel_19 : decode cX12_quarrel 19 = .ok (.iconst 0, 1) := by decide +kernel
theorem dX12_quarrel_20 : decode cX12_quarrel 20 = .ok (.istore_n 3, 1) := by decide +kernel
theorem dX12_quarrel_21 : decode cX12_quarrel 21 = .ok (.iload_n 3, 1) := by decide +kernel
theorem dX12_quarrel_22 : decode cX12_quarrel 22 = .ok (.aload_n 0, 1) := by decide +kernel
theorem dX12_quarrel_23 : decode cX12_quarrel 23 = .ok (.getfield 299, 3) := by decide +kernel
theorem dX12_quarrel_26 : decode cX12_quarrel 26 = .ok (.if_icmp .ge 93, 3) := by decide +kernel
theorem dX12_quarrel_29 : decode cX12_quarrel 29 = .ok (.iload_n 3, 1) := by decide +kernel
theorem dX12_quarrel_30 : decode cX12_quarrel 30 = .ok (.iconst 1, 1) := by decide +kernel
theorem dX12_quarrel_31 : decode cX12_quarrel 31 = .ok (.iadd, 1) := by decide +kernel
theorem dX12_quarrel_32 : decode cX12_quarrel 32 = .ok (.istore 4, 2) := by decide +kernel
theorem dX12_quarrel_34 : decode cX12_quarrel 34 = .ok (.iload 4, 2) := by decide +kernel
theorem dX12_quarrel_36 : decode cX12_quarrel 36 = .ok (.aload_n 0, 1) := by decide +kernel
theorem dX12_quarrel_37 : decode cX12_quarrel 37 = .ok (.getfield 299, 3) := by decide +kernel
theorem dX12_quarrel_40 : decode cX12_quarrel 40 = .ok (.if_icmp .ge 73, 3) := by decide +kernel
theorem dX12_quarrel_43 : decode cX12_quarrel 43 = .ok (.aload_n 0, 1) := by decide +kernel
theorem dX12_quarrel_44 : decode cX12_quarrel 44 = .ok (.getfield 69, 3) := by decide +kernel
theorem dX12_quarrel_47 : decode cX12_quarrel 47 = .ok (.iload_n 3, 1) := by decide +kernel
theorem dX12_quarrel_48 : decode cX12_quarrel 48 = .ok (.iaload, 1) := by decide +kernel
theorem dX12_quarrel_49 : decode cX12_quarrel 49 = .ok (.iload_n 1, 1) := by decide +kernel
theorem dX12_quarrel_50 : decode cX12_quarrel 50 = .ok (.if_icmp .ne 57, 3) := by decide +kernel
theorem dX12_quarrel_53 : decode cX12_quarrel 53 = .ok (.aload_n 0, 1) := by decide +kernel
theorem dX12_quarrel_54 : decode cX12_quarrel 54 = .ok (.getfield 69, 3) := by decide +kernel
theorem dX12_quarrel_57 : decode cX12_quarrel 57 = .ok (.iload 4, 2) := by decide +kernel
theorem dX12_quarrel_59 : decode cX12_quarrel 59 = .ok (.iaload, 1) := by decide +kernel
theorem dX12_quarrel_60 : decode cX12_quarrel 60 = .ok (.iload_n 1, 1) := by decide +kernel
theorem dX12_quarrel_61 : decode cX12_quarrel 61 = .ok (.if_icmp .ne 46, 3) := by decide +kernel
theorem dX12_quarrel_64 : decode cX12_quarrel 64 = .ok (.aload_n 0, 1) := by decide +kernel
theorem dX12_quarrel_65 : decode cX12_quarrel 65 = .ok (.getfield 72, 3) := by decide +kernel
theorem dX12_quarrel_68 : decode cX12_quarrel 68 = .ok (.iload_n 3, 1) := by decide +kernel
theorem dX12_quarrel_69 : decode cX12_quarrel 69 = .ok (.iaload, 1) := by decide +kernel
theorem dX12_quarrel_70 : decode cX12_quarrel 70 = .ok (.aload_n 0, 1) := by decide +kernel
theorem dX12_quarrel_71 : decode cX12_quarrel 71 = .ok (.getfield 72, 3) := by decide +kernel
theorem dX12_quarrel_74 : decode cX12_quarrel 74 = .ok (.iload 4, 2) := by decide +kernel
theorem dX12_quarrel_76 : decode cX12_quarrel 76 = .ok (.iaload, 1) := by decide +kernel
theorem dX12_quarrel_77 : decode cX12_quarrel 77 = .ok (.if_icmp .ne 30, 3) := by decide +kernel
theorem dX12_quarrel_80 : decode cX12_quarrel 80 = .ok (.aload_n 0, 1) := by decide +kernel
theorem dX12_quarrel_81 : decode cX12_quarrel 81 = .ok (.getfield 75, 3) := by decide +kernel
theorem dX12_quarrel_84 : decode cX12_quarrel 84 = .ok (.iload_n 3, 1) := by decide +kernel
theorem dX12_quarrel_85 : decode cX12_quarrel 85 = .ok (.iaload, 1) := by decide +kernel
theorem dX12_quarrel_86 : decode cX12_quarrel 86 = .ok (.aload_n 0, 1) := by decide +kernel
theorem dX12_quarrel_87 : decode cX12_quarrel 87 = .ok (.getfield 75, 3) := by decide +kernel
theorem dX12_quarrel_90 : decode cX12_quarrel 90 = .ok (.iload 4, 2) := by decide +kernel
theorem dX12_quarrel_92 : decode cX12_quarrel 92 = .ok (.iaload, 1) := by decide +kernel
theorem dX12_quarrel_93 : decode cX12_quarrel 93 = .ok (.if_icmp .eq 14, 3) := by decide +kernel
theorem dX12_quarrel_96 : decode cX12_quarrel 96 = .ok (.iload_n 2, 1) := by decide +kernel
theorem dX12_quarrel_97 : decode cX12_quarrel 97 = .ok (.ifCond .ne 7, 3) := by decide +kernel
theorem dX12_quarrel_100 : decode cX12_quarrel 100 = .ok (.iload_n 3, 1) := by decide +kernel
theorem dX12_quarrel_101 : decode cX12_quarrel 101 = .ok (.goto 5, 3) := by decide +kernel
theorem dX12_quarrel_104 : decode cX12_quarrel 104 = .ok (.iload 4, 2) := by decide +kernel
theorem dX12_quarrel_106 : decode cX12_quarrel 106 = .ok (.ireturn, 1) := by decide +kernel
theorem dX12_quarrel_107 : decode cX12_quarrel 107 = .ok (.iinc 4 1, 3) := by decide +kernel
theorem dX12_quarrel_110 : decode cX12_quarrel 110 = .ok (.goto (-76), 3) := by decide +kernel
theorem dX12_quarrel_113 : decode cX12_quarrel 113 = .ok (.iinc 3 1, 3) := by decide +kernel
theorem dX12_quarrel_116 : decode cX12_quarrel 116 = .ok (.goto (-95), 3) := by decide +kernel
theorem dX12_quarrel_119 : decode cX12_quarrel 119 = .ok (.iconst (-1), 1) := by decide +kernel
theorem dX12_quarrel_120 : decode cX12_quarrel 120 = .ok (.ireturn, 1) := by decide +kernel
theorem dX12_isUnder_0 : decode cX12_isUnder 0 = .ok (.iload_n 2, 1) := by decide +kernel
theorem dX12_isUnder_1 : decode cX12_isUnder 1 = .ok (.iconst 5, 1) := by decide +kernel
theorem dX12_isUnder_2 : decode cX12_isUnder 2 = .ok (.if_icmp .ne 15, 3) := by decide +kernel
theorem dX12_isUnder_5 : decode cX12_isUnder 5 = .ok (.aload_n 0, 1) := by decide +kernel
theorem dX12_isUnder_6 : decode cX12_isUnder 6 = .ok (.iload_n 1, 1) := by decide +kernel
theorem dX12_isUnder_7 : decode cX12_isUnder 7 = .ok (.aload_n 0, 1) := by decide +kernel
theorem dX12_isUnder_8 : decode cX12_isUnder 8 = .ok (.getfield 194, 3) := by decide +kernel
theorem dX12_isUnder_11 : decode cX12_isUnder 11 = .ok (.invokevirtual 273, 3) := by decide +kernel
theorem dX12_isUnder_14 : decode cX12_isUnder 14 = .ok (.goto 30, 3) := by decide +kernel
theorem dX12_isUnder_17 : decode cX12_isUnder 17 = .ok (.aload_n 0, 1) := by decide +kernel
theorem dX12_isUnder_18 : decode cX12_isUnder 18 = .ok (.getfield 56, 3) := by decide +kernel
theorem dX12_isUnder_21 : decode cX12_isUnder 21 = .ok (.iload_n 1, 1) := by decide +kernel
theorem dX12_isUnder_22 : decode cX12_isUnder 22 = .ok (.iaload, 1) := by decide +kernel
theorem dX12_isUnder_23 : decode cX12_isUnder 23 = .ok (.iload_n 2, 1) := by decide +kernel
theorem dX12_isUnder_24 : decode cX12_isUnder 24 = .ok (.if_icmp .ne 19, 3) := by decide +kernel
theorem dX12_isUnder_27 : decode cX12_isUnder 27 = .ok (.aload_n 0, 1) := by decide +kernel
theorem dX12_isUnder_28 : decode cX12_isUnder 28 = .ok (.iload_n 1, 1) := by decide +kernel
theorem dX12_isUnder_29 : decode cX12_isUnder 29 = .ok (.aload_n 0, 1) := by decide +kernel
theorem dX12_isUnder_30 : decode cX12_isUnder 30 = .ok (.getfield 194, 3) := by decide +kernel
theorem dX12_isUnder_33 : decode cX12_isUnder 33 = .ok (.invokevirtual 273, 3) := by decide +kernel
theorem dX12_isUnder_36 : decode cX12_isUnder 36 = .ok (.ifCond .ne 7, 3) := by decide +kernel
theorem dX12_isUnder_39 : decode cX12_isUnder 39 = .ok (.iconst 1, 1) := by decide +kernel
theorem dX12_isUnder_40 : decode cX12_isUnder 40 = .ok (.goto 4, 3) := by decide +kernel
theorem dX12_isUnder_43 : decode cX12_isUnder 43 = .ok (.iconst 0, 1) := by decide +kernel
theorem dX12_isUnder_44 : decode cX12_isUnder 44 = .ok (.ireturn, 1) := by decide +kernel
theorem dX12_moves_0 : decode cX12_moves 0 = .ok (.aload_n 0, 1) := by decide +kernel
theorem dX12_moves_1 : decode cX12_moves 1 = .ok (.iload_n 1, 1) := by decide +kernel
theorem dX12_moves_2 : decode cX12_moves 2 = .ok (.invokevirtual 242, 3) := by decide +kernel
theorem dX12_moves_5 : decode cX12_moves 5 = .ok (.ifCond .eq 12, 3) := by decide +kernel
theorem dX12_moves_8 : decode cX12_moves 8 = .ok (.iload_n 2, 1) := by decide +kernel
theorem dX12_moves_9 : decode cX12_moves 9 = .ok (.iconst 0, 1) := by decide +kernel
theorem dX12_moves_10 : decode cX12_moves 10 = .ok (.iconst 2, 1) := by decide +kernel
theorem dX12_moves_11 : decode cX12_moves 11 = .ok (.invokestatic 177, 3) := by decide +kernel
theorem dX12_moves_14 : decode cX12_moves 14 = .ok (.ifCond .ne 5, 3) := by decide +kernel
theorem dX12_moves_17 : decode cX12_moves 17 = .ok (.iconst (-1), 1) := by decide +kernel
theorem dX12_moves_18 : decode cX12_moves 18 = .ok (.ireturn, 1) := by decide +kernel
theorem dX12_moves_19 : decode cX12_moves 19 = .ok (.aload_n 0, 1) := by decide +kernel
theorem dX12_moves_20 : decode cX12_moves 20 = .ok (.bipush 95, 2) := by decide +kernel
theorem dX12_moves_22 : decode cX12_moves 22 = .ok (.invokevirtual 239, 3) := by decide +kernel
theorem dX12_moves_25 : decode cX12_moves 25 = .ok (.istore_n 3, 1) := by decide +kernel
theorem dX12_moves_26 : decode cX12_moves 26 = .ok (.iload_n 3, 1) := by decide +kernel
theorem dX12_moves_27 : decode cX12_moves 27 = .ok (.iconst (-1), 1) := by decide +kernel
theorem dX12_moves_28 : decode cX12_moves 28 = .ok (.if_icmp .eq 8, 3) := by decide +kernel
theorem dX12_moves_31 : decode cX12_moves 31 = .ok (.bipush (-10), 2) := by decide +kernel
theorem dX12_moves_33 : decode cX12_moves 33 = .ok (.iload_n 3, 1) := by decide +kernel
theorem dX12_moves_34 : decode cX12_moves 34 = .ok (.isub, 1) := by decide +kernel
theorem dX12_moves_35 : decode cX12_moves 35 = .ok (.ireturn, 1) := by decide +kernel
theorem dX12_moves_36 : decode cX12_moves 36 = .ok (.aload_n 0, 1) := by decide +kernel
theorem dX12_moves_37 : decode cX12_moves 37 = .ok (.getfield 29, 3) := by decide +kernel
theorem dX12_moves_40 : decode cX12_moves 40 = .ok (.iload_n 1, 1) := by decide +kernel
theorem dX12_moves_41 : decode cX12_moves 41 = .ok (.iaload, 1) := by decide +kernel
theorem dX12_moves_42 : decode cX12_moves 42 = .ok (.istore 4, 2) := by decide +kernel
theorem dX12_moves_44 : decode cX12_moves 44 = .ok (.iload 4, 2) := by decide +kernel
theorem dX12_moves_46 : decode cX12_moves 46 = .ok (.iconst 5, 1) := by decide +kernel
theorem dX12_moves_47 : decode cX12_moves 47 = .ok (.if_icmp .ne 12, 3) := by decide +kernel
theorem dX12_moves_50 : decode cX12_moves 50 = .ok (.aload_n 0, 1) := by decide +kernel
theorem dX12_moves_51 : decode cX12_moves 51 = .ok (.getfield 26, 3) := by decide +kernel
theorem dX12_moves_54 : decode cX12_moves 54 = .ok (.iload_n 1, 1) := by decide +kernel
theorem dX12_moves_55 : decode cX12_moves 55 = .ok (.iaload, 1) := by decide +kernel
theorem dX12_moves_56 : decode cX12_moves 56 = .ok (.goto 4, 3) := by decide +kernel
theorem dX12_moves_59 : decode cX12_moves 59 = .ok (.iconst 1, 1) := by decide +kernel
theorem dX12_moves_60 : decode cX12_moves 60 = .ok (.istore 5, 2) := by decide +kernel
theorem dX12_moves_62 : decode cX12_moves 62 = .ok (.iload 4, 2) := by decide +kernel
theorem dX12_moves_64 : decode cX12_moves 64 = .ok (.iconst 5, 1) := by decide +kernel
theorem dX12_moves_65 : decode cX12_moves 65 = .ok (.if_icmp .ne 12, 3) := by decide +kernel
theorem dX12_moves_68 : decode cX12_moves 68 = .ok (.aload_n 0, 1) := by decide +kernel
theorem dX12_moves_69 : decode cX12_moves 69 = .ok (.getfield 26, 3) := by decide +kernel
theorem dX12_moves_72 : decode cX12_moves 72 = .ok (.iload_n 1, 1) := by decide +kernel
theorem dX12_moves_73 : decode cX12_moves 73 = .ok (.iaload, 1) := by decide +kernel
theorem dX12_moves_74 : decode cX12_moves 74 = .ok (.goto 4, 3) := by decide +kernel
theorem dX12_moves_77 : decode cX12_moves 77 = .ok (.iconst 3, 1) := by decide +kernel
theorem dX12_moves_78 : decode cX12_moves 78 = .ok (.istore 6, 2) := by decide +kernel
theorem dX12_moves_80 : decode cX12_moves 80 = .ok (.iconst 0, 1) := by decide +kernel
theorem dX12_moves_81 : decode cX12_moves 81 = .ok (.istore 7, 2) := by decide +kernel
theorem dX12_moves_83 : decode cX12_moves 83 = .ok (.iconst 0, 1) := by decide +kernel
theorem dX12_moves_84 : decode cX12_moves 84 = .ok (.istore 8, 2) := by decide +kernel
theorem dX12_moves_86 : decode cX12_moves 86 = .ok (.iload 8, 2) := by decide +kernel
theorem dX12_moves_88 : decode cX12_moves 88 = .ok (.sipush 1536, 3) := by decide +kernel
theorem dX12_moves_91 : decode cX12_moves 91 = .ok (.if_icmp .ge 98, 3) := by decide +kernel
theorem dX12_moves_94 : decode cX12_moves 94 = .ok (.aload_n 0, 1) := by decide +kernel
theorem dX12_moves_95 : decode cX12_moves 95 = .ok (.iconst (-1), 1) := by decide +kernel
theorem dX12_moves_96 : decode cX12_moves 96 = .ok (.putfield 147, 3) := by decide +kernel
theorem dX12_moves_99 : decode cX12_moves 99 = .ok (.aload_n 0, 1) := by decide +kernel
theorem dX12_moves_100 : decode cX12_moves 100 = .ok (.iload 4, 2) := by decide +kernel
theorem dX12_moves_102 : decode cX12_moves 102 = .ok (.iload 5, 2) := by decide +kernel
theorem dX12_moves_104 : decode cX12_moves 104 = .ok (.iload 6, 2) := by decide +kernel
theorem dX12_moves_106 : decode cX12_moves 106 = .ok (.iload 8, 2) := by decide +kernel
theorem dX12_moves_108 : decode cX12_moves 108 = .ok (.aload_n 0, 1) := by decide +kernel
theorem dX12_moves_109 : decode cX12_moves 109 = .ok (.getfield 194, 3) := by decide +kernel
theorem dX12_moves_112 : decode cX12_moves 112 = .ok (.aload_n 0, 1) := by decide +kernel
theorem dX12_moves_113 : decode cX12_moves 113 = .ok (.getfield 194, 3) := by decide +kernel
theorem dX12_moves_116 : decode cX12_moves 116 = .ok (.invokevirtual 258, 3) := by decide +kernel
theorem dX12_moves_119 : decode cX12_moves 119 = .ok (.istore 9, 2) := by decide +kernel
theorem dX12_moves_121 : decode cX12_moves 121 = .ok (.aload_n 0, 1) := by decide +kernel
theorem dX12_moves_122 : decode cX12_moves 122 = .ok (.iload_n 1, 1) := by decide +kernel
theorem dX12_moves_123 : decode cX12_moves 123 = .ok (.putfield 147, 3) := by decide +kernel
theorem dX12_moves_126 : decode cX12_moves 126 = .ok (.aload_n 0, 1) := by decide +kernel
theorem dX12_moves_127 : decode cX12_moves 127 = .ok (.getfield 150, 3) := by decide +kernel
theorem dX12_moves_130 : decode cX12_moves 130 = .ok (.iload 8, 2) := by decide +kernel
theorem dX12_moves_132 : decode cX12_moves 132 = .ok (.aload_n 0, 1) := by decide +kernel
theorem dX12_moves_133 : decode cX12_moves 133 = .ok (.iload 4, 2) := by decide +kernel
theorem dX12_moves_135 : decode cX12_moves 135 = .ok (.iload 5, 2) := by decide +kernel
theorem dX12_moves_137 : decode cX12_moves 137 = .ok (.iload 6, 2) := by decide +kernel
theorem dX12_moves_139 : decode cX12_moves 139 = .ok (.iload 8, 2) := by decide +kernel
theorem dX12_moves_141 : decode cX12_moves 141 = .ok (.aload_n 0, 1) := by decide +kernel
theorem dX12_moves_142 : decode cX12_moves 142 = .ok (.getfield 194, 3) := by decide +kernel
theorem dX12_moves_145 : decode cX12_moves 145 = .ok (.aload_n 0, 1) := by decide +kernel
theorem dX12_moves_146 : decode cX12_moves 146 = .ok (.getfield 194, 3) := by decide +kernel
theorem dX12_moves_149 : decode cX12_moves 149 = .ok (.invokevirtual 258, 3) := by decide +kernel
theorem dX12_moves_152 : decode cX12_moves 152 = .ok (.iload 9, 2) := by decide +kernel
theorem dX12_moves_154 : decode cX12_moves 154 = .ok (.if_icmp .eq 7, 3) := by decide +kernel
theorem dX12_moves_157 : decode cX12_moves 157 = .ok (.iconst 1, 1) := by decide +kernel
theorem dX12_moves_158 : decode cX12_moves 158 = .ok (.goto 4, 3) := by decide +kernel
theorem dX12_moves_161 : decode cX12_moves 161 = .ok (.iconst 0, 1) := by decide +kernel
theorem dX12_moves_162 : decode cX12_moves 162 = .ok (.bastore, 1) := by decide +kernel
theorem dX12_moves_163 : decode cX12_moves 163 = .ok (.iload 7, 2) := by decide +kernel
theorem dX12_moves_165 : decode cX12_moves 165 = .ok (.aload_n 0, 1) := by decide +kernel
theorem dX12_moves_166 : decode cX12_moves 166 = .ok (.getfield 150, 3) := by decide +kernel
theorem dX12_moves_169 : decode cX12_moves 169 = .ok (.iload 8, 2) := by decide +kernel
theorem dX12_moves_171 : decode cX12_moves 171 = .ok (.baload, 1) := by decide +kernel
theorem dX12_moves_172 : decode cX12_moves 172 = .ok (.ifCond .eq 7, 3) := by decide +kernel
theorem dX12_moves_175 : decode cX12_moves 175 = .ok (.iconst 1, 1) := by decide +kernel
theorem dX12_moves_176 : decode cX12_moves 176 = .ok (.goto 4, 3) := by decide +kernel
theorem dX12_moves_179 : decode cX12_moves 179 = .ok (.iconst 0, 1) := by decide +kernel
theorem dX12_moves_180 : decode cX12_moves 180 = .ok (.iadd, 1) := by decide +kernel
theorem dX12_moves_181 : decode cX12_moves 181 = .ok (.istore 7, 2) := by decide +kernel
theorem dX12_moves_183 : decode cX12_moves 183 = .ok (.iinc 8 1, 3) := by decide +kernel
theorem dX12_moves_186 : decode cX12_moves 186 = .ok (.goto (-100), 3) := by decide +kernel
theorem dX12_moves_189 : decode cX12_moves 189 = .ok (.aload_n 0, 1) := by decide +kernel
theorem dX12_moves_190 : decode cX12_moves 190 = .ok (.iconst (-1), 1) := by decide +kernel
theorem dX12_moves_191 : decode cX12_moves 191 = .ok (.putfield 147, 3) := by decide +kernel
theorem dX12_moves_194 : decode cX12_moves 194 = .ok (.iconst 0, 1) := by decide +kernel
theorem dX12_moves_195 : decode cX12_moves 195 = .ok (.istore 8, 2) := by decide +kernel
theorem dX12_moves_197 : decode cX12_moves 197 = .ok (.iconst 0, 1) := by decide +kernel
theorem dX12_moves_198 : decode cX12_moves 198 = .ok (.istore 9, 2) := by decide +kernel
theorem dX12_moves_200 : decode cX12_moves 200 = .ok (.iconst 0, 1) := by decide +kernel
theorem dX12_moves_201 : decode cX12_moves 201 = .ok (.istore 10, 2) := by decide +kernel
theorem dX12_moves_203 : decode cX12_moves 203 = .ok (.iload 10, 2) := by decide +kernel
theorem dX12_moves_205 : decode cX12_moves 205 = .ok (.aload_n 0, 1) := by decide +kernel
theorem dX12_moves_206 : decode cX12_moves 206 = .ok (.getfield 184, 3) := by decide +kernel
theorem dX12_moves_209 : decode cX12_moves 209 = .ok (.if_icmp .ge 36, 3) := by decide +kernel
theorem dX12_moves_212 : decode cX12_moves 212 = .ok (.iload 8, 2) := by decide +kernel
theorem dX12_moves_214 : decode cX12_moves 214 = .ok (.aload_n 0, 1) := by decide +kernel
theorem dX12_moves_215 : decode cX12_moves 215 = .ok (.iload 10, 2) := by decide +kernel
theorem dX12_moves_217 : decode cX12_moves 217 = .ok (.iload 4, 2) := by decide +kernel
theorem dX12_moves_219 : decode cX12_moves 219 = .ok (.invokevirtual 317, 3) := by decide +kernel
theorem dX12_moves_222 : decode cX12_moves 222 = .ok (.ifCond .eq 13, 3) := by decide +kernel
theorem dX12_moves_225 : decode cX12_moves 225 = .ok (.aload_n 0, 1) := by decide +kernel
theorem dX12_moves_226 : decode cX12_moves 226 = .ok (.getfield 59, 3) := by decide +kernel
theorem dX12_moves_229 : decode cX12_moves 229 = .ok (.iload 10, 2) := by decide +kernel
theorem dX12_moves_231 : decode cX12_moves 231 = .ok (.iaload, 1) := by decide +kernel
theorem dX12_moves_232 : decode cX12_moves 232 = .ok (.goto 4, 3) := by decide +kernel
theorem dX12_moves_235 : decode cX12_moves 235 = .ok (.iconst 0, 1) := by decide +kernel
theorem dX12_moves_236 : decode cX12_moves 236 = .ok (.iadd, 1) := by decide +kernel
theorem dX12_moves_237 : decode cX12_moves 237 = .ok (.istore 8, 2) := by decide +kernel
theorem dX12_moves_239 : decode cX12_moves 239 = .ok (.iinc 10 1, 3) := by decide +kernel
theorem dX12_moves_242 : decode cX12_moves 242 = .ok (.goto (-39), 3) := by decide +kernel
theorem dX12_moves_245 : decode cX12_moves 245 = .ok (.iconst 0, 1) := by decide +kernel
theorem dX12_moves_246 : decode cX12_moves 246 = .ok (.istore 10, 2) := by decide +kernel
theorem dX12_moves_248 : decode cX12_moves 248 = .ok (.iload 10, 2) := by decide +kernel
theorem dX12_moves_250 : decode cX12_moves 250 = .ok (.aload_n 0, 1) := by decide +kernel
theorem dX12_moves_251 : decode cX12_moves 251 = .ok (.getfield 299, 3) := by decide +kernel
theorem dX12_moves_254 : decode cX12_moves 254 = .ok (.if_icmp .ge 50, 3) := by decide +kernel
theorem dX12_moves_257 : decode cX12_moves 257 = .ok (.iload 9, 2) := by decide +kernel
theorem dX12_moves_259 : decode cX12_moves 259 = .ok (.aload_n 0, 1) := by decide +kernel
theorem dX12_moves_260 : decode cX12_moves 260 = .ok (.aload_n 0, 1) := by decide +kernel
theorem dX12_moves_261 : decode cX12_moves 261 = .ok (.getfield 69, 3) := by decide +kernel
theorem dX12_moves_264 : decode cX12_moves 264 = .ok (.iload 10, 2) := by decide +kernel
theorem dX12_moves_266 : decode cX12_moves 266 = .ok (.iaload, 1) := by decide +kernel
theorem dX12_moves_267 : decode cX12_moves 267 = .ok (.iload 4, 2) := by decide +kernel
theorem dX12_moves_269 : decode cX12_moves 269 = .ok (.invokevirtual 317, 3) := by decide +kernel
theorem dX12_moves_272 : decode cX12_moves 272 = .ok (.ifCond .eq 22, 3) := by decide +kernel
theorem dX12_moves_275 : decode cX12_moves 275 = .ok (.aload_n 0, 1) := by decide +kernel
theorem dX12_moves_276 : decode cX12_moves 276 = .ok (.getfield 150, 3) := by decide +kernel
theorem dX12_moves_279 : decode cX12_moves 279 = .ok (.aload_n 0, 1) := by decide +kernel
theorem dX12_moves_280 : decode cX12_moves 280 = .ok (.getfield 72, 3) := by decide +kernel
theorem dX12_moves_283 : decode cX12_moves 283 = .ok (.iload 10, 2) := by decide +kernel
theorem dX12_moves_285 : decode cX12_moves 285 = .ok (.iaload, 1) := by decide +kernel
theorem dX12_moves_286 : decode cX12_moves 286 = .ok (.baload, 1) := by decide +kernel
theorem dX12_moves_287 : decode cX12_moves 287 = .ok (.ifCond .eq 7, 3) := by decide +kernel
theorem dX12_moves_290 : decode cX12_moves 290 = .ok (.iconst 1, 1) := by decide +kernel
theorem dX12_moves_291 : decode cX12_moves 291 = .ok (.goto 4, 3) := by decide +kernel
theorem dX12_moves_294 : decode cX12_moves 294 = .ok (.iconst 0, 1) := by decide +kernel
theorem dX12_moves_295 : decode cX12_moves 295 = .ok (.iadd, 1) := by decide +kernel
theorem dX12_moves_296 : decode cX12_moves 296 = .ok (.istore 9, 2) := by decide +kernel
theorem dX12_moves_298 : decode cX12_moves 298 = .ok (.iinc 10 1, 3) := by decide +kernel
theorem dX12_moves_301 : decode cX12_moves 301 = .ok (.goto (-53), 3) := by decide +kernel
theorem dX12_moves_304 : decode cX12_moves 304 = .ok (.iload_n 2, 1) := by decide +kernel
theorem dX12_moves_305 : decode cX12_moves 305 = .ok (.ifCond .ne 8, 3) := by decide +kernel
theorem dX12_moves_308 : decode cX12_moves 308 = .ok (.iload 7, 2) := by decide +kernel
theorem dX12_moves_310 : decode cX12_moves 310 = .ok (.goto 18, 3) := by decide +kernel
theorem dX12_moves_313 : decode cX12_moves 313 = .ok (.iload_n 2, 1) := by decide +kernel
theorem dX12_moves_314 : decode cX12_moves 314 = .ok (.iconst 1, 1) := by decide +kernel
theorem dX12_moves_315 : decode cX12_moves 315 = .ok (.if_icmp .ne 11, 3) := by decide +kernel
theorem dX12_moves_318 : decode cX12_moves 318 = .ok (.iload 8, 2) := by decide +kernel
theorem dX12_moves_320 : decode cX12_moves 320 = .ok (.iload 7, 2) := by decide +kernel
theorem dX12_moves_322 : decode cX12_moves 322 = .ok (.imul, 1) := by decide +kernel
theorem dX12_moves_323 : decode cX12_moves 323 = .ok (.goto 5, 3) := by decide +kernel
theorem dX12_moves_326 : decode cX12_moves 326 = .ok (.iload 9, 2) := by decide +kernel
theorem dX12_moves_328 : decode cX12_moves 328 = .ok (.ireturn, 1) := by decide +kernel
theorem dX12_person_0 : decode cX12_person 0 = .ok (.aload_n 0, 1) := by decide +kernel
theorem dX12_person_1 : decode cX12_person 1 = .ok (.iload_n 1, 1) := by decide +kernel
theorem dX12_person_2 : decode cX12_person 2 = .ok (.invokevirtual 270, 3) := by decide +kernel
theorem dX12_person_5 : decode cX12_person 5 = .ok (.ifCond .eq 17, 3) := by decide +kernel
theorem dX12_person_8 : decode cX12_person 8 = .ok (.iload_n 2, 1) := by decide +kernel
theorem dX12_person_9 : decode cX12_person 9 = .ok (.iconst (-1), 1) := by decide +kernel
theorem dX12_person_10 : decode cX12_person 10 = .ok (.aload_n 0, 1) := by decide +kernel
theorem dX12_person_11 : decode cX12_person 11 = .ok (.getfield 287, 3) := by decide +kernel
theorem dX12_person_14 : decode cX12_person 14 = .ok (.iconst 1, 1) := by decide +kernel
theorem dX12_person_15 : decode cX12_person 15 = .ok (.isub, 1) := by decide +kernel
theorem dX12_person_16 : decode cX12_person 16 = .ok (.invokestatic 177, 3) := by decide +kernel
theorem dX12_person_19 : decode cX12_person 19 = .ok (.ifCond .ne 5, 3) := by decide +kernel
theorem dX12_person_22 : decode cX12_person 22 = .ok (.iconst (-1), 1) := by decide +kernel
theorem dX12_person_23 : decode cX12_person 23 = .ok (.ireturn, 1) := by decide +kernel
theorem dX12_person_24 : decode cX12_person 24 = .ok (.iload_n 3, 1) := by decide +kernel
theorem dX12_person_25 : decode cX12_person 25 = .ok (.iconst 0, 1) := by decide +kernel
theorem dX12_person_26 : decode cX12_person 26 = .ok (.iconst 3, 1) := by decide +kernel
theorem dX12_person_27 : decode cX12_person 27 = .ok (.invokestatic 177, 3) := by decide +kernel
theorem dX12_person_30 : decode cX12_person 30 = .ok (.ifCond .eq 35, 3) := by decide +kernel
theorem dX12_person_33 : decode cX12_person 33 = .ok (.iload 4, 2) := by decide +kernel
theorem dX12_person_35 : decode cX12_person 35 = .ok (.iconst 0, 1) := by decide +kernel
theorem dX12_person_36 : decode cX12_person 36 = .ok (.iconst 2, 1) := by decide +kernel
theorem dX12_person_37 : decode cX12_person 37 = .ok (.invokestatic 177, 3) := by decide +kernel
theorem dX12_person_40 : decode cX12_person 40 = .ok (.ifCond .eq 25, 3) := by decide +kernel
theorem dX12_person_43 : decode cX12_person 43 = .ok (.iload 5, 2) := by decide +kernel
theorem dX12_person_45 : decode cX12_person 45 = .ok (.iconst 0, 1) := by decide +kernel
theorem dX12_person_46 : decode cX12_person 46 = .ok (.iconst 1, 1) := by decide +kernel
theorem dX12_person_47 : decode cX12_person 47 = .ok (.invokestatic 177, 3) := by decide +kernel
theorem dX12_person_50 : decode cX12_person 50 = .ok (.ifCond .eq 15, 3) := by decide +kernel
theorem dX12_person_53 : decode cX12_person 53 = .ok (.iload 6, 2) := by decide +kernel
theorem dX12_person_55 : decode cX12_person 55 = .ok (.iconst 0, 1) := by decide +kernel
theorem dX12_person_56 : decode cX12_person 56 = .ok (.sipush 9999, 3) := by decide +kernel
theorem dX12_person_59 : decode cX12_person 59 = .ok (.invokestatic 177, 3) := by decide +kernel
theorem dX12_person_62 : decode cX12_person 62 = .ok (.ifCond .ne 6, 3) := by decide +kernel
theorem dX12_person_65 : decode cX12_person 65 = .ok (.bipush (-2), 2) := by decide +kernel
theorem dX12_person_67 : decode cX12_person 67 = .ok (.ireturn, 1) := by decide +kernel
theorem dX12_person_68 : decode cX12_person 68 = .ok (.aload_n 0, 1) := by decide +kernel
theorem dX12_person_69 : decode cX12_person 69 = .ok (.getfield 287, 3) := by decide +kernel
theorem dX12_person_72 : decode cX12_person 72 = .ok (.bipush 30, 2) := by decide +kernel
theorem dX12_person_74 : decode cX12_person 74 = .ok (.if_icmp .ne 6, 3) := by decide +kernel
theorem dX12_person_77 : decode cX12_person 77 = .ok (.bipush (-4), 2) := by decide +kernel
theorem dX12_person_79 : decode cX12_person 79 = .ok (.ireturn, 1) := by decide +kernel
theorem dX12_person_80 : decode cX12_person 80 = .ok (.aload_n 0, 1) := by decide +kernel
theorem dX12_person_81 : decode cX12_person 81 = .ok (.getfield 87, 3) := by decide +kernel
theorem dX12_person_84 : decode cX12_person 84 = .ok (.aload_n 0, 1) := by decide +kernel
theorem dX12_person_85 : decode cX12_person 85 = .ok (.getfield 287, 3) := by decide +kernel
theorem dX12_person_88 : decode cX12_person 88 = .ok (.iload_n 1, 1) := by decide +kernel
theorem dX12_person_89 : decode cX12_person 89 = .ok (.iastore, 1) := by decide +kernel
theorem dX12_person_90 : decode cX12_person 90 = .ok (.aload_n 0, 1) := by decide +kernel
theorem dX12_person_91 : decode cX12_person 91 = .ok (.getfield 90, 3) := by decide +kernel
theorem dX12_person_94 : decode cX12_person 94 = .ok (.aload_n 0, 1) := by decide +kernel
theorem dX12_person_95 : decode cX12_person 95 = .ok (.getfield 287, 3) := by decide +kernel
theorem dX12_person_98 : decode cX12_person 98 = .ok (.iload_n 2, 1) := by decide +kernel
theorem dX12_person_99 : decode cX12_person 99 = .ok (.iastore, 1) := by decide +kernel
theorem dX12_person_100 : decode cX12_person 100 = .ok (.aload_n 0, 1) := by decide +kernel
theorem dX12_person_101 : decode cX12_person 101 = .ok (.getfield 93, 3) := by decide +kernel
theorem dX12_person_104 : decode cX12_person 104 = .ok (.aload_n 0, 1) := by decide +kernel
theorem dX12_person_105 : decode cX12_person 105 = .ok (.getfield 287, 3) := by decide +kernel
theorem dX12_person_108 : decode cX12_person 108 = .ok (.iload_n 3, 1) := by decide +kernel
theorem dX12_person_109 : decode cX12_person 109 = .ok (.iastore, 1) := by decide +kernel
theorem dX12_person_110 : decode cX12_person 110 = .ok (.aload_n 0, 1) := by decide +kernel
theorem dX12_person_111 : decode cX12_person 111 = .ok (.getfield 96, 3) := by decide +kernel
theorem dX12_person_114 : decode cX12_person 114 = .ok (.aload_n 0, 1) := by decide +kernel
theorem dX12_person_115 : decode cX12_person 115 = .ok (.getfield 287, 3) := by decide +kernel
theorem dX12_person_118 : decode cX12_person 118 = .ok (.iload 4, 2) := by decide +kernel
theorem dX12_person_120 : decode cX12_person 120 = .ok (.iastore, 1) := by decide +kernel
theorem dX12_person_121 : decode cX12_person 121 = .ok (.aload_n 0, 1) := by decide +kernel
theorem dX12_person_122 : decode cX12_person 122 = .ok (.getfield 99, 3) := by decide +kernel
theorem dX12_person_125 : decode cX12_person 125 = .ok (.aload_n 0, 1) := by decide +kernel
theorem dX12_person_126 : decode cX12_person 126 = .ok (.getfield 287, 3) := by decide +kernel
theorem dX12_person_129 : decode cX12_person 129 = .ok (.iload 5, 2) := by decide +kernel
theorem dX12_person_131 : decode cX12_person 131 = .ok (.iastore, 1) := by decide +kernel
theorem dX12_person_132 : decode cX12_person 132 = .ok (.aload_n 0, 1) := by decide +kernel
theorem dX12_person_133 : decode cX12_person 133 = .ok (.getfield 102, 3) := by decide +kernel
theorem dX12_person_136 : decode cX12_person 136 = .ok (.aload_n 0, 1) := by decide +kernel
theorem dX12_person_137 : decode cX12_person 137 = .ok (.getfield 287, 3) := by decide +kernel
theorem dX12_person_140 : decode cX12_person 140 = .ok (.iload 6, 2) := by decide +kernel
theorem dX12_person_142 : decode cX12_person 142 = .ok (.iastore, 1) := by decide +kernel
theorem dX12_person_143 : decode cX12_person 143 = .ok (.aload_n 0, 1) := by decide +kernel
theorem dX12_person_144 : decode cX12_person 144 = .ok (.getfield 108, 3) := by decide +kernel
theorem dX12_person_147 : decode cX12_person 147 = .ok (.aload_n 0, 1) := by decide +kernel
theorem dX12_person_148 : decode cX12_person 148 = .ok (.getfield 287, 3) := by decide +kernel
theorem dX12_person_151 : decode cX12_person 151 = .ok (.iconst (-1), 1) := by decide +kernel
theorem dX12_person_152 : decode cX12_person 152 = .ok (.iastore, 1) := by decide +kernel
theorem dX12_person_153 : decode cX12_person 153 = .ok (.aload_n 0, 1) := by decide +kernel
theorem dX12_person_154 : decode cX12_person 154 = .ok (.dup, 1) := by decide +kernel
theorem dX12_person_155 : decode cX12_person 155 = .ok (.getfield 287, 3) := by decide +kernel
theorem dX12_person_158 : decode cX12_person 158 = .ok (.iconst 1, 1) := by decide +kernel
theorem dX12_person_159 : decode cX12_person 159 = .ok (.iadd, 1) := by decide +kernel
theorem dX12_person_160 : decode cX12_person 160 = .ok (.putfield 287, 3) := by decide +kernel
theorem dX12_person_163 : decode cX12_person 163 = .ok (.aload_n 0, 1) := by decide +kernel
theorem dX12_person_164 : decode cX12_person 164 = .ok (.getfield 287, 3) := by decide +kernel
theorem dX12_person_167 : decode cX12_person 167 = .ok (.iconst 1, 1) := by decide +kernel
theorem dX12_person_168 : decode cX12_person 168 = .ok (.isub, 1) := by decide +kernel
theorem dX12_person_169 : decode cX12_person 169 = .ok (.ireturn, 1) := by decide +kernel
theorem dX12_isChild_0 : decode cX12_isChild 0 = .ok (.aload_n 0, 1) := by decide +kernel
theorem dX12_isChild_1 : decode cX12_isChild 1 = .ok (.getfield 90, 3) := by decide +kernel
theorem dX12_isChild_4 : decode cX12_isChild 4 = .ok (.iload_n 1, 1) := by decide +kernel
theorem dX12_isChild_5 : decode cX12_isChild 5 = .ok (.iaload, 1) := by decide +kernel
theorem dX12_isChild_6 : decode cX12_isChild 6 = .ok (.iload_n 2, 1) := by decide +kernel
theorem dX12_isChild_7 : decode cX12_isChild 7 = .ok (.if_icmp .ne 16, 3) := by decide +kernel
theorem dX12_isChild_10 : decode cX12_isChild 10 = .ok (.aload_n 0, 1) := by decide +kernel
theorem dX12_isChild_11 : decode cX12_isChild 11 = .ok (.getfield 105, 3) := by decide +kernel
theorem dX12_isChild_14 : decode cX12_isChild 14 = .ok (.iload_n 1, 1) := by decide +kernel
theorem dX12_isChild_15 : decode cX12_isChild 15 = .ok (.iaload, 1) := by decide +kernel
theorem dX12_isChild_16 : decode cX12_isChild 16 = .ok (.ifCond .ne 7, 3) := by decide +kernel
theorem dX12_isChild_19 : decode cX12_isChild 19 = .ok (.iconst 1, 1) := by decide +kernel
theorem dX12_isChild_20 : decode cX12_isChild 20 = .ok (.goto 4, 3) := by decide +kernel
theorem dX12_isChild_23 : decode cX12_isChild 23 = .ok (.iconst 0, 1) := by decide +kernel
theorem dX12_isChild_24 : decode cX12_isChild 24 = .ok (.ireturn, 1) := by decide +kernel
theorem dX12_childrenOf_0 : decode cX12_childrenOf 0 = .ok (.iconst 0, 1) := by decide +kernel
theorem dX12_childrenOf_1 : decode cX12_childrenOf 1 = .ok (.istore_n 2, 1) := by decide +kernel
theorem dX12_childrenOf_2 : decode cX12_childrenOf 2 = .ok (.iconst 0, 1) := by decide +kernel
theorem dX12_childrenOf_3 : decode cX12_childrenOf 3 = .ok (.istore_n 3, 1) := by decide +kernel
theorem dX12_childrenOf_4 : decode cX12_childrenOf 4 = .ok (.iload_n 3, 1) := by decide +kernel
theorem dX12_childrenOf_5 : decode cX12_childrenOf 5 = .ok (.aload_n 0, 1) := by decide +kernel
theorem dX12_childrenOf_6 : decode cX12_childrenOf 6 = .ok (.getfield 287, 3) := by decide +kernel
theorem dX12_childrenOf_9 : decode cX12_childrenOf 9 = .ok (.if_icmp .ge 26, 3) := by decide +kernel
theorem dX12_childrenOf_12 : decode cX12_childrenOf 12 = .ok (.iload_n 2, 1) := by decide +kernel
theorem dX12_childrenOf_13 : decode cX12_childrenOf 13 = .ok (.aload_n 0, 1) := by decide +kernel
theorem dX12_childrenOf_14 : decode cX12_childrenOf 14 = .ok (.iload_n 3, 1) := by decide +kernel
theorem dX12_childrenOf_15 : decode cX12_childrenOf 15 = .ok (.iload_n 1, 1) := by decide +kernel
theorem dX12_childrenOf_16 : decode cX12_childrenOf 16 = .ok (.invokevirtual 320, 3) := by decide +kernel
theorem dX12_childrenOf_19 : decode cX12_childrenOf 19 = .ok (.ifCond .eq 7, 3) := by decide +kernel
theorem dX12_childrenOf_22 : decode cX12_childrenOf 22 = .ok (.iconst 1, 1) := by decide +kernel
theorem dX12_childrenOf_23 : decode cX12_childrenOf 23 = .ok (.goto 4, 3) := by decide +kernel
theorem dX12_childrenOf_26 : decode cX12_childrenOf 26 = .ok (.iconst 0, 1) := by decide +kernel
theorem dX12_childrenOf_27 : decode cX12_childrenOf 27 = .ok (.iadd, 1) := by decide +kernel
theorem dX12_childrenOf_28 : decode cX12_childrenOf 28 = .ok (.istore_n 2, 1) := by decide +kernel
theorem dX12_childrenOf_29 : decode cX12_childrenOf 29 = .ok (.iinc 3 1, 3) := by decide +kernel
theorem dX12_childrenOf_32 : decode cX12_childrenOf 32 = .ok (.goto (-28), 3) := by decide +kernel
theorem dX12_childrenOf_35 : decode cX12_childrenOf 35 = .ok (.iload_n 2, 1) := by decide +kernel
theorem dX12_childrenOf_36 : decode cX12_childrenOf 36 = .ok (.ireturn, 1) := by decide +kernel
theorem dX12_eldestOf_0 : decode cX12_eldestOf 0 = .ok (.iconst 0, 1) := by decide +kernel
theorem dX12_eldestOf_1 : decode cX12_eldestOf 1 = .ok (.istore_n 2, 1) := by decide +kernel
theorem dX12_eldestOf_2 : decode cX12_eldestOf 2 = .ok (.iload_n 2, 1) := by decide +kernel
theorem dX12_eldestOf_3 : decode cX12_eldestOf 3 = .ok (.aload_n 0, 1) := by decide +kernel
theorem dX12_eldestOf_4 : decode cX12_eldestOf 4 = .ok (.getfield 287, 3) := by decide +kernel
theorem dX12_eldestOf_7 : decode cX12_eldestOf 7 = .ok (.if_icmp .ge 20, 3) := by decide +kernel
theorem dX12_eldestOf_10 : decode cX12_eldestOf 10 = .ok (.aload_n 0, 1) := by decide +kernel
theorem dX12_eldestOf_11 : decode cX12_eldestOf 11 = .ok (.iload_n 2, 1) := by decide +kernel
theorem dX12_eldestOf_12 : decode cX12_eldestOf 12 = .ok (.iload_n 1, 1) := by decide +kernel
theorem dX12_eldestOf_13 : decode cX12_eldestOf 13 = .ok (.invokevirtual 320, 3) := by decide +kernel
theorem dX12_eldestOf_16 : decode cX12_eldestOf 16 = .ok (.ifCond .eq 5, 3) := by decide +kernel
theorem dX12_eldestOf_19 : decode cX12_eldestOf 19 = .ok (.iload_n 2, 1) := by decide +kernel
theorem dX12_eldestOf_20 : decode cX12_eldestOf 20 = .ok (.ireturn, 1) := by decide +kernel
theorem dX12_eldestOf_21 : decode cX12_eldestOf 21 = .ok (.iinc 2 1, 3) := by decide +kernel
theorem dX12_eldestOf_24 : decode cX12_eldestOf 24 = .ok (.goto (-22), 3) := by decide +kernel
theorem dX12_eldestOf_27 : decode cX12_eldestOf 27 = .ok (.iconst (-1), 1) := by decide +kernel
theorem dX12_eldestOf_28 : decode cX12_eldestOf 28 = .ok (.ireturn, 1) := by decide +kernel
theorem dX12_evenly_0 : decode cX12_evenly 0 = .ok (.aload_n 0, 1) := by decide +kernel
theorem dX12_evenly_1 : decode cX12_evenly 1 = .ok (.iload_n 1, 1) := by decide +kernel
theorem dX12_evenly_2 : decode cX12_evenly 2 = .ok (.invokevirtual 323, 3) := by decide +kernel
theorem dX12_evenly_5 : decode cX12_evenly 5 = .ok (.iload_n 3, 1) := by decide +kernel
theorem dX12_evenly_6 : decode cX12_evenly 6 = .ok (.iconst (-1), 1) := by decide +kernel
theorem dX12_evenly_7 : decode cX12_evenly 7 = .ok (.if_icmp .ne 7, 3) := by decide +kernel
theorem dX12_evenly_10 : decode cX12_evenly 10 = .ok (.iconst 0, 1) := by decide +kernel
theorem dX12_evenly_11 : decode cX12_evenly 11 = .ok (.goto 4, 3) := by decide +kernel
theorem dX12_evenly_14 : decode cX12_evenly 14 = .ok (.iconst 1, 1) := by decide +kernel
theorem dX12_evenly_15 : decode cX12_evenly 15 = .ok (.isub, 1) := by decide +kernel
theorem dX12_evenly_16 : decode cX12_evenly 16 = .ok (.istore 4, 2) := by decide +kernel
theorem dX12_evenly_18 : decode cX12_evenly 18 = .ok (.iload 4, 2) := by decide +kernel
theorem dX12_evenly_20 : decode cX12_evenly 20 = .ok (.ifCond .ne 19, 3) := by decide +kernel
theorem dX12_evenly_23 : decode cX12_evenly 23 = .ok (.aload_n 0, 1) := by decide +kernel
theorem dX12_evenly_24 : decode cX12_evenly 24 = .ok (.getfield 111, 3) := by decide +kernel
theorem dX12_evenly_27 : decode cX12_evenly 27 = .ok (.aload_n 0, 1) := by decide +kernel
theorem dX12_evenly_28 : decode cX12_evenly 28 = .ok (.getfield 87, 3) := by decide +kernel
theorem dX12_evenly_31 : decode cX12_evenly 31 = .ok (.iload_n 1, 1) := by decide +kernel
theorem dX12_evenly_32 : decode cX12_evenly 32 = .ok (.iaload, 1) := by decide +kernel
theorem dX12_evenly_33 : decode cX12_evenly 33 = .ok (.dup2, 1) := by decide +kernel
theorem dX12_evenly_34 : decode cX12_evenly 34 = .ok (.iaload, 1) := by decide +kernel
theorem dX12_evenly_35 : decode cX12_evenly 35 = .ok (.iload_n 2, 1) := by decide +kernel
theorem dX12_evenly_36 : decode cX12_evenly 36 = .ok (.iadd, 1) := by decide +kernel
theorem dX12_evenly_37 : decode cX12_evenly 37 = .ok (.iastore, 1) := by decide +kernel
theorem dX12_evenly_38 : decode cX12_evenly 38 = .ok (.return_, 1) := by decide +kernel
theorem dX12_evenly_39 : decode cX12_evenly 39 = .ok (.iload_n 2, 1) := by decide +kernel
theorem dX12_evenly_40 : decode cX12_evenly 40 = .ok (.iload 4, 2) := by decide +kernel
theorem dX12_evenly_42 : decode cX12_evenly 42 = .ok (.irem, 1) := by decide +kernel
theorem dX12_evenly_43 : decode cX12_evenly 43 = .ok (.istore 5, 2) := by decide +kernel
theorem dX12_evenly_45 : decode cX12_evenly 45 = .ok (.iconst 0, 1) := by decide +kernel
theorem dX12_evenly_46 : decode cX12_evenly 46 = .ok (.istore 6, 2) := by decide +kernel
theorem dX12_evenly_48 : decode cX12_evenly 48 = .ok (.iload 6, 2) := by decide +kernel
theorem dX12_evenly_50 : decode cX12_evenly 50 = .ok (.aload_n 0, 1) := by decide +kernel
theorem dX12_evenly_51 : decode cX12_evenly 51 = .ok (.getfield 287, 3) := by decide +kernel
theorem dX12_evenly_54 : decode cX12_evenly 54 = .ok (.if_icmp .ge 53, 3) := by decide +kernel
theorem dX12_evenly_57 : decode cX12_evenly 57 = .ok (.aload_n 0, 1) := by decide +kernel
theorem dX12_evenly_58 : decode cX12_evenly 58 = .ok (.iload 6, 2) := by decide +kernel
theorem dX12_evenly_60 : decode cX12_evenly 60 = .ok (.iload_n 1, 1) := by decide +kernel
theorem dX12_evenly_61 : decode cX12_evenly 61 = .ok (.invokevirtual 320, 3) := by decide +kernel
theorem dX12_evenly_64 : decode cX12_evenly 64 = .ok (.ifCond .eq 37, 3) := by decide +kernel
theorem dX12_evenly_67 : decode cX12_evenly 67 = .ok (.iload 6, 2) := by decide +kernel
theorem dX12_evenly_69 : decode cX12_evenly 69 = .ok (.iload_n 3, 1) := by decide +kernel
theorem dX12_evenly_70 : decode cX12_evenly 70 = .ok (.if_icmp .eq 31, 3) := by decide +kernel
theorem dX12_evenly_73 : decode cX12_evenly 73 = .ok (.aload_n 0, 1) := by decide +kernel
theorem dX12_evenly_74 : decode cX12_evenly 74 = .ok (.getfield 102, 3) := by decide +kernel
theorem dX12_evenly_77 : decode cX12_evenly 77 = .ok (.iload 6, 2) := by decide +kernel
theorem dX12_evenly_79 : decode cX12_evenly 79 = .ok (.dup2, 1) := by decide +kernel
theorem dX12_evenly_80 : decode cX12_evenly 80 = .ok (.iaload, 1) := by decide +kernel
theorem dX12_evenly_81 : decode cX12_evenly 81 = .ok (.iload_n 2, 1) := by decide +kernel
theorem dX12_evenly_82 : decode cX12_evenly 82 = .ok (.iload 4, 2) := by decide +kernel
theorem dX12_evenly_84 : decode cX12_evenly 84 = .ok (.idiv, 1) := by decide +kernel
theorem dX12_evenly_85 : decode cX12_evenly 85 = .ok (.iload 5, 2) := by decide +kernel
theorem dX12_evenly_87 : decode cX12_evenly 87 = .ok (.ifCond .le 7, 3) := by decide +kernel
theorem dX12_evenly_90 : decode cX12_evenly 90 = .ok (.iconst 1, 1) := by decide +kernel
theorem dX12_evenly_91 : decode cX12_evenly 91 = .ok (.goto 4, 3) := by decide +kernel
theorem dX12_evenly_94 : decode cX12_evenly 94 = .ok (.iconst 0, 1) := by decide +kernel
theorem dX12_evenly_95 : decode cX12_evenly 95 = .ok (.iadd, 1) := by decide +kernel
theorem dX12_evenly_96 : decode cX12_evenly 96 = .ok (.iadd, 1) := by decide +kernel
theorem dX12_evenly_97 : decode cX12_evenly 97 = .ok (.iastore, 1) := by decide +kernel
theorem dX12_evenly_98 : decode cX12_evenly 98 = .ok (.iinc 5 (-1), 3) := by decide +kernel
theorem dX12_evenly_101 : decode cX12_evenly 101 = .ok (.iinc 6 1, 3) := by decide +kernel
theorem dX12_evenly_104 : decode cX12_evenly 104 = .ok (.goto (-56), 3) := by decide +kernel
theorem dX12_evenly_107 : decode cX12_evenly 107 = .ok (.return_, 1) := by decide +kernel
theorem dX12_goesBy_0 : decode cX12_goesBy 0 = .ok (.aload_n 0, 1) := by decide +kernel
theorem dX12_goesBy_1 : decode cX12_goesBy 1 = .ok (.iload_n 1, 1) := by decide +kernel
theorem dX12_goesBy_2 : decode cX12_goesBy 2 = .ok (.invokevirtual 326, 3) := by decide +kernel
theorem dX12_goesBy_5 : decode cX12_goesBy 5 = .ok (.istore 4, 2) := by decide +kernel
theorem dX12_goesBy_7 : decode cX12_goesBy 7 = .ok (.aload_n 0, 1) := by decide +kernel
theorem dX12_goesBy_8 : decode cX12_goesBy 8 = .ok (.getfield 90, 3) := by decide +kernel
theorem dX12_goesBy_11 : decode cX12_goesBy 11 = .ok (.iload_n 1, 1) := by decide +kernel
theorem dX12_goesBy_12 : decode cX12_goesBy 12 = .ok (.iaload, 1) := by decide +kernel
theorem dX12_goesBy_13 : decode cX12_goesBy 13 = .ok (.istore 5, 2) := by decide +kernel
theorem dX12_goesBy_15 : decode cX12_goesBy 15 = .ok (.iload_n 2, 1) := by decide +kernel
theorem dX12_goesBy_16 : decode cX12_goesBy 16 = .ok (.iconst 1, 1) := by decide +kernel
theorem dX12_goesBy_17 : decode cX12_goesBy 17 = .ok (.if_icmp .ne 13, 3) := by decide +kernel
theorem dX12_goesBy_20 : decode cX12_goesBy 20 = .ok (.aload_n 0, 1) := by decide +kernel
theorem dX12_goesBy_21 : decode cX12_goesBy 21 = .ok (.iload_n 1, 1) := by decide +kernel
theorem dX12_goesBy_22 : decode cX12_goesBy 22 = .ok (.iload_n 3, 1) := by decide +kernel
theorem dX12_goesBy_23 : decode cX12_goesBy 23 = .ok (.iconst (-1), 1) := by decide +kernel
theorem dX12_goesBy_24 : decode cX12_goesBy 24 = .ok (.invokevirtual 329, 3) := by decide +kernel
theorem dX12_goesBy_27 : decode cX12_goesBy 27 = .ok (.goto 132, 3) := by decide +kernel
theorem dX12_goesBy_30 : decode cX12_goesBy 30 = .ok (.iload_n 2, 1) := by decide +kernel
theorem dX12_goesBy_31 : decode cX12_goesBy 31 = .ok (.iconst 2, 1) := by decide +kernel
theorem dX12_goesBy_32 : decode cX12_goesBy 32 = .ok (.if_icmp .ne 51, 3) := by decide +kernel
theorem dX12_goesBy_35 : decode cX12_goesBy 35 = .ok (.iload 5, 2) := by decide +kernel
theorem dX12_goesBy_37 : decode cX12_goesBy 37 = .ok (.iconst (-1), 1) := by decide +kernel
theorem dX12_goesBy_38 : decode cX12_goesBy 38 = .ok (.if_icmp .eq 27, 3) := by decide +kernel
theorem dX12_goesBy_41 : decode cX12_goesBy 41 = .ok (.aload_n 0, 1) := by decide +kernel
theorem dX12_goesBy_42 : decode cX12_goesBy 42 = .ok (.getfield 105, 3) := by decide +kernel
theorem dX12_goesBy_45 : decode cX12_goesBy 45 = .ok (.iload 5, 2) := by decide +kernel
theorem dX12_goesBy_47 : decode cX12_goesBy 47 = .ok (.iaload, 1) := by decide +kernel
theorem dX12_goesBy_48 : decode cX12_goesBy 48 = .ok (.ifCond .ne 17, 3) := by decide +kernel
theorem dX12_goesBy_51 : decode cX12_goesBy 51 = .ok (.aload_n 0, 1) := by decide +kernel
theorem dX12_goesBy_52 : decode cX12_goesBy 52 = .ok (.getfield 102, 3) := by decide +kernel
theorem dX12_goesBy_55 : decode cX12_goesBy 55 = .ok (.iload 5, 2) := by decide +kernel
theorem dX12_goesBy_57 : decode cX12_goesBy 57 = .ok (.dup2, 1) := by decide +kernel
theorem dX12_goesBy_58 : decode cX12_goesBy 58 = .ok (.iaload, 1) := by decide +kernel
theorem dX12_goesBy_59 : decode cX12_goesBy 59 = .ok (.iload_n 3, 1) := by decide +kernel
theorem dX12_goesBy_60 : decode cX12_goesBy 60 = .ok (.iadd, 1) := by decide +kernel
theorem dX12_goesBy_61 : decode cX12_goesBy 61 = .ok (.iastore, 1) := by decide +kernel
theorem dX12_goesBy_62 : decode cX12_goesBy 62 = .ok (.goto 97, 3) := by decide +kernel
theorem dX12_goesBy_65 : decode cX12_goesBy 65 = .ok (.aload_n 0, 1) := by decide +kernel
theorem dX12_goesBy_66 : decode cX12_goesBy 66 = .ok (.getfield 111, 3) := by decide +kernel
theorem dX12_goesBy_69 : decode cX12_goesBy 69 = .ok (.aload_n 0, 1) := by decide +kernel
theorem dX12_goesBy_70 : decode cX12_goesBy 70 = .ok (.getfield 87, 3) := by decide +kernel
theorem dX12_goesBy_73 : decode cX12_goesBy 73 = .ok (.iload_n 1, 1) := by decide +kernel
theorem dX12_goesBy_74 : decode cX12_goesBy 74 = .ok (.iaload, 1) := by decide +kernel
theorem dX12_goesBy_75 : decode cX12_goesBy 75 = .ok (.dup2, 1) := by decide +kernel
theorem dX12_goesBy_76 : decode cX12_goesBy 76 = .ok (.iaload, 1) := by decide +kernel
theorem dX12_goesBy_77 : decode cX12_goesBy 77 = .ok (.iload_n 3, 1) := by decide +kernel
theorem dX12_goesBy_78 : decode cX12_goesBy 78 = .ok (.iadd, 1) := by decide +kernel
theorem dX12_goesBy_79 : decode cX12_goesBy 79 = .ok (.iastore, 1) := by decide +kernel
theorem dX12_goesBy_80 : decode cX12_goesBy 80 = .ok (.goto 79, 3) := by decide +kernel
theorem dX12_goesBy_83 : decode cX12_goesBy 83 = .ok (.iload 4, 2) := by decide +kernel
theorem dX12_goesBy_85 : decode cX12_goesBy 85 = .ok (.iconst (-1), 1) := by decide +kernel
theorem dX12_goesBy_86 : decode cX12_goesBy 86 = .ok (.if_icmp .ne 21, 3) := by decide +kernel
theorem dX12_goesBy_89 : decode cX12_goesBy 89 = .ok (.aload_n 0, 1) := by decide +kernel
theorem dX12_goesBy_90 : decode cX12_goesBy 90 = .ok (.getfield 111, 3) := by decide +kernel
theorem dX12_goesBy_93 : decode cX12_goesBy 93 = .ok (.aload_n 0, 1) := by decide +kernel
theorem dX12_goesBy_94 : decode cX12_goesBy 94 = .ok (.getfield 87, 3) := by decide +kernel
theorem dX12_goesBy_97 : decode cX12_goesBy 97 = .ok (.iload_n 1, 1) := by decide +kernel
theorem dX12_goesBy_98 : decode cX12_goesBy 98 = .ok (.iaload, 1) := by decide +kernel
theorem dX12_goesBy_99 : decode cX12_goesBy 99 = .ok (.dup2, 1) := by decide +kernel
theorem dX12_goesBy_100 : decode cX12_goesBy 100 = .ok (.iaload, 1) := by decide +kernel
theorem dX12_goesBy_101 : decode cX12_goesBy 101 = .ok (.iload_n 3, 1) := by decide +kernel
theorem dX12_goesBy_102 : decode cX12_goesBy 102 = .ok (.iadd, 1) := by decide +kernel
theorem dX12_goesBy_103 : decode cX12_goesBy 103 = .ok (.iastore, 1) := by decide +kernel
theorem dX12_goesBy_104 : decode cX12_goesBy 104 = .ok (.goto 55, 3) := by decide +kernel
theorem dX12_goesBy_107 : decode cX12_goesBy 107 = .ok (.iload_n 2, 1) := by decide +kernel
theorem dX12_goesBy_108 : decode cX12_goesBy 108 = .ok (.ifCond .eq 12, 3) := by decide +kernel
theorem dX12_goesBy_111 : decode cX12_goesBy 111 = .ok (.aload_n 0, 1) := by decide +kernel
theorem dX12_goesBy_112 : decode cX12_goesBy 112 = .ok (.iload_n 1, 1) := by decide +kernel
theorem dX12_goesBy_113 : decode cX12_goesBy 113 = .ok (.invokevirtual 323, 3) := by decide +kernel
theorem dX12_goesBy_116 : decode cX12_goesBy 116 = .ok (.iconst 1, 1) := by decide +kernel
theorem dX12_goesBy_117 : decode cX12_goesBy 117 = .ok (.if_icmp .ne 17, 3) := by decide +kernel
theorem dX12_goesBy_120 : decode cX12_goesBy 120 = .ok (.aload_n 0, 1) := by decide +kernel
theorem dX12_goesBy_121 : decode cX12_goesBy 121 = .ok (.getfield 102, 3) := by decide +kernel
theorem dX12_goesBy_124 : decode cX12_goesBy 124 = .ok (.iload 4, 2) := by decide +kernel
theorem dX12_goesBy_126 : decode cX12_goesBy 126 = .ok (.dup2, 1) := by decide +kernel
theorem dX12_goesBy_127 : decode cX12_goesBy 127 = .ok (.iaload, 1) := by decide +kernel
theorem dX12_goesBy_128 : decode cX12_goesBy 128 = .ok (.iload_n 3, 1) := by decide +kernel
theorem dX12_goesBy_129 : decode cX12_goesBy 129 = .ok (.iadd, 1) := by decide +kernel
theorem dX12_goesBy_130 : decode cX12_goesBy 130 = .ok (.iastore, 1) := by decide +kernel
theorem dX12_goesBy_131 : decode cX12_goesBy 131 = .ok (.goto 28, 3) := by decide +kernel
theorem dX12_goesBy_134 : decode cX12_goesBy 134 = .ok (.aload_n 0, 1) := by decide +kernel
theorem dX12_goesBy_135 : decode cX12_goesBy 135 = .ok (.getfield 102, 3) := by decide +kernel
theorem dX12_goesBy_138 : decode cX12_goesBy 138 = .ok (.iload 4, 2) := by decide +kernel
theorem dX12_goesBy_140 : decode cX12_goesBy 140 = .ok (.dup2, 1) := by decide +kernel
theorem dX12_goesBy_141 : decode cX12_goesBy 141 = .ok (.iaload, 1) := by decide +kernel
theorem dX12_goesBy_142 : decode cX12_goesBy 142 = .ok (.iload_n 3, 1) := by decide +kernel
theorem dX12_goesBy_143 : decode cX12_goesBy 143 = .ok (.iconst 2, 1) := by decide +kernel
theorem dX12_goesBy_144 : decode cX12_goesBy 144 = .ok (.idiv, 1) := by decide +kernel
theorem dX12_goesBy_145 : decode cX12_goesBy 145 = .ok (.iadd, 1) := by decide +kernel
theorem dX12_goesBy_146 : decode cX12_goesBy 146 = .ok (.iastore, 1) := by decide +kernel
theorem dX12_goesBy_147 : decode cX12_goesBy 147 = .ok (.aload_n 0, 1) := by decide +kernel
theorem dX12_goesBy_148 : decode cX12_goesBy 148 = .ok (.iload_n 1, 1) := by decide +kernel
theorem dX12_goesBy_149 : decode cX12_goesBy 149 = .ok (.iload_n 3, 1) := by decide +kernel
theorem dX12_goesBy_150 : decode cX12_goesBy 150 = .ok (.iload_n 3, 1) := by decide +kernel
theorem dX12_goesBy_151 : decode cX12_goesBy 151 = .ok (.iconst 2, 1) := by decide +kernel
theorem dX12_goesBy_152 : decode cX12_goesBy 152 = .ok (.idiv, 1) := by decide +kernel
theorem dX12_goesBy_153 : decode cX12_goesBy 153 = .ok (.isub, 1) := by decide +kernel
theorem dX12_goesBy_154 : decode cX12_goesBy 154 = .ok (.iload 4, 2) := by decide +kernel
theorem dX12_goesBy_156 : decode cX12_goesBy 156 = .ok (.invokevirtual 329, 3) := by decide +kernel
theorem dX12_goesBy_159 : decode cX12_goesBy 159 = .ok (.return_, 1) := by decide +kernel
theorem dX12_partsGoods_0 : decode cX12_partsGoods 0 = .ok (.aload_n 0, 1) := by decide +kernel
theorem dX12_partsGoods_1 : decode cX12_partsGoods 1 = .ok (.getfield 102, 3) := by decide +kernel
theorem dX12_partsGoods_4 : decode cX12_partsGoods 4 = .ok (.iload_n 1, 1) := by decide +kernel
theorem dX12_partsGoods_5 : decode cX12_partsGoods 5 = .ok (.iaload, 1) := by decide +kernel
theorem dX12_partsGoods_6 : decode cX12_partsGoods 6 = .ok (.istore_n 3, 1) := by decide +kernel
theorem dX12_partsGoods_7 : decode cX12_partsGoods 7 = .ok (.aload_n 0, 1) := by decide +kernel
theorem dX12_partsGoods_8 : decode cX12_partsGoods 8 = .ok (.getfield 102, 3) := by decide +kernel
theorem dX12_partsGoods_11 : decode cX12_partsGoods 11 = .ok (.iload_n 1, 1) := by decide +kernel
theorem dX12_partsGoods_12 : decode cX12_partsGoods 12 = .ok (.iconst 0, 1) := by decide +kernel
theorem dX12_partsGoods_13 : decode cX12_partsGoods 13 = .ok (.iastore, 1) := by decide +kernel
theorem dX12_partsGoods_14 : decode cX12_partsGoods 14 = .ok (.aload_n 0, 1) := by decide +kernel
theorem dX12_partsGoods_15 : decode cX12_partsGoods 15 = .ok (.getfield 105, 3) := by decide +kernel
theorem dX12_partsGoods_18 : decode cX12_partsGoods 18 = .ok (.iload_n 1, 1) := by decide +kernel
theorem dX12_partsGoods_19 : decode cX12_partsGoods 19 = .ok (.iconst 1, 1) := by decide +kernel
theorem dX12_partsGoods_20 : decode cX12_partsGoods 20 = .ok (.iastore, 1) := by decide +kernel
theorem dX12_partsGoods_21 : decode cX12_partsGoods 21 = .ok (.iload_n 2, 1) := by decide +kernel
theorem dX12_partsGoods_22 : decode cX12_partsGoods 22 = .ok (.ifCond .ne 21, 3) := by decide +kernel
theorem dX12_partsGoods_25 : decode cX12_partsGoods 25 = .ok (.aload_n 0, 1) := by decide +kernel
theorem dX12_partsGoods_26 : decode cX12_partsGoods 26 = .ok (.getfield 111, 3) := by decide +kernel
theorem dX12_partsGoods_29 : decode cX12_partsGoods 29 = .ok (.aload_n 0, 1) := by decide +kernel
theorem dX12_partsGoods_30 : decode cX12_partsGoods 30 = .ok (.getfield 87, 3) := by decide +kernel
theorem dX12_partsGoods_33 : decode cX12_partsGoods 33 = .ok (.iload_n 1, 1) := by decide +kernel
theorem dX12_partsGoods_34 : decode cX12_partsGoods 34 = .ok (.iaload, 1) := by decide +kernel
theorem dX12_partsGoods_35 : decode cX12_partsGoods 35 = .ok (.dup2, 1) := by decide +kernel
theorem dX12_partsGoods_36 : decode cX12_partsGoods 36 = .ok (.iaload, 1) := by decide +kernel
theorem dX12_partsGoods_37 : decode cX12_partsGoods 37 = .ok (.iload_n 3, 1) := by decide +kernel
theorem dX12_partsGoods_38 : decode cX12_partsGoods 38 = .ok (.iadd, 1) := by decide +kernel
theorem dX12_partsGoods_39 : decode cX12_partsGoods 39 = .ok (.iastore, 1) := by decide +kernel
theorem dX12_partsGoods_40 : decode cX12_partsGoods 40 = .ok (.goto 76, 3) := by decide +kernel
theorem dX12_partsGoods_43 : decode cX12_partsGoods 43 = .ok (.iload_n 2, 1) := by decide +kernel
theorem dX12_partsGoods_44 : decode cX12_partsGoods 44 = .ok (.iconst 1, 1) := by decide +kernel
theorem dX12_partsGoods_45 : decode cX12_partsGoods 45 = .ok (.if_icmp .ne 13, 3) := by decide +kernel
theorem dX12_partsGoods_48 : decode cX12_partsGoods 48 = .ok (.aload_n 0, 1) := by decide +kernel
theorem dX12_partsGoods_49 : decode cX12_partsGoods 49 = .ok (.iload_n 1, 1) := by decide +kernel
theorem dX12_partsGoods_50 : decode cX12_partsGoods 50 = .ok (.iconst 1, 1) := by decide +kernel
theorem dX12_partsGoods_51 : decode cX12_partsGoods 51 = .ok (.iload_n 3, 1) := by decide +kernel
theorem dX12_partsGoods_52 : decode cX12_partsGoods 52 = .ok (.invokevirtual 333, 3) := by decide +kernel
theorem dX12_partsGoods_55 : decode cX12_partsGoods 55 = .ok (.goto 61, 3) := by decide +kernel
theorem dX12_partsGoods_58 : decode cX12_partsGoods 58 = .ok (.iload_n 2, 1) := by decide +kernel
theorem dX12_partsGoods_59 : decode cX12_partsGoods 59 = .ok (.sipush 200, 3) := by decide +kernel
theorem dX12_partsGoods_62 : decode cX12_partsGoods 62 = .ok (.if_icmp .ge 43, 3) := by decide +kernel
theorem dX12_partsGoods_65 : decode cX12_partsGoods 65 = .ok (.iload_n 3, 1) := by decide +kernel
theorem dX12_partsGoods_66 : decode cX12_partsGoods 66 = .ok (.iload_n 2, 1) := by decide +kernel
theorem dX12_partsGoods_67 : decode cX12_partsGoods 67 = .ok (.bipush 100, 2) := by decide +kernel
theorem dX12_partsGoods_69 : decode cX12_partsGoods 69 = .ok (.isub, 1) := by decide +kernel
theorem dX12_partsGoods_70 : decode cX12_partsGoods 70 = .ok (.imul, 1) := by decide +kernel
theorem dX12_partsGoods_71 : decode cX12_partsGoods 71 = .ok (.bipush 100, 2) := by decide +kernel
theorem dX12_partsGoods_73 : decode cX12_partsGoods 73 = .ok (.idiv, 1) := by decide +kernel
theorem dX12_partsGoods_74 : decode cX12_partsGoods 74 = .ok (.istore 4, 2) := by decide +kernel
theorem dX12_partsGoods_76 : decode cX12_partsGoods 76 = .ok (.aload_n 0, 1) := by decide +kernel
theorem dX12_partsGoods_77 : decode cX12_partsGoods 77 = .ok (.getfield 111, 3) := by decide +kernel
theorem dX12_partsGoods_80 : decode cX12_partsGoods 80 = .ok (.aload_n 0, 1) := by decide +kernel
theorem dX12_partsGoods_81 : decode cX12_partsGoods 81 = .ok (.getfield 87, 3) := by decide +kernel
theorem dX12_partsGoods_84 : decode cX12_partsGoods 84 = .ok (.iload_n 1, 1) := by decide +kernel
theorem dX12_partsGoods_85 : decode cX12_partsGoods 85 = .ok (.iaload, 1) := by decide +kernel
theorem dX12_partsGoods_86 : decode cX12_partsGoods 86 = .ok (.dup2, 1) := by decide +kernel
theorem dX12_partsGoods_87 : decode cX12_partsGoods 87 = .ok (.iaload, 1) := by decide +kernel
theorem dX12_partsGoods_88 : decode cX12_partsGoods 88 = .ok (.iload 4, 2) := by decide +kernel
theorem dX12_partsGoods_90 : decode cX12_partsGoods 90 = .ok (.iadd, 1) := by decide +kernel
theorem dX12_partsGoods_91 : decode cX12_partsGoods 91 = .ok (.iastore, 1) := by decide +kernel
theorem dX12_partsGoods_92 : decode cX12_partsGoods 92 = .ok (.aload_n 0, 1) := by decide +kernel
theorem dX12_partsGoods_93 : decode cX12_partsGoods 93 = .ok (.iload_n 1, 1) := by decide +kernel
theorem dX12_partsGoods_94 : decode cX12_partsGoods 94 = .ok (.iconst 1, 1) := by decide +kernel
theorem dX12_partsGoods_95 : decode cX12_partsGoods 95 = .ok (.iload_n 3, 1) := by decide +kernel
theorem dX12_partsGoods_96 : decode cX12_partsGoods 96 = .ok (.iload 4, 2) := by decide +kernel
theorem dX12_partsGoods_98 : decode cX12_partsGoods 98 = .ok (.isub, 1) := by decide +kernel
theorem dX12_partsGoods_99 : decode cX12_partsGoods 99 = .ok (.invokevirtual 333, 3) := by decide +kernel
theorem dX12_partsGoods_102 : decode cX12_partsGoods 102 = .ok (.goto 14, 3) := by decide +kernel
theorem dX12_partsGoods_105 : decode cX12_partsGoods 105 = .ok (.aload_n 0, 1) := by decide +kernel
theorem dX12_partsGoods_106 : decode cX12_partsGoods 106 = .ok (.iload_n 1, 1) := by decide +kernel
theorem dX12_partsGoods_107 : decode cX12_partsGoods 107 = .ok (.iload_n 2, 1) := by decide +kernel
theorem dX12_partsGoods_108 : decode cX12_partsGoods 108 = .ok (.sipush 200, 3) := by decide +kernel
theorem dX12_partsGoods_111 : decode cX12_partsGoods 111 = .ok (.isub, 1) := by decide +kernel
theorem dX12_partsGoods_112 : decode cX12_partsGoods 112 = .ok (.iload_n 3, 1) := by decide +kernel
theorem dX12_partsGoods_113 : decode cX12_partsGoods 113 = .ok (.invokevirtual 333, 3) := by decide +kernel
theorem dX12_partsGoods_116 : decode cX12_partsGoods 116 = .ok (.return_, 1) := by decide +kernel
theorem dX12_die_0 : decode cX12_die 0 = .ok (.iload_n 1, 1) := by decide +kernel
theorem dX12_die_1 : decode cX12_die 1 = .ok (.iconst 0, 1) := by decide +kernel
theorem dX12_die_2 : decode cX12_die 2 = .ok (.aload_n 0, 1) := by decide +kernel
theorem dX12_die_3 : decode cX12_die 3 = .ok (.getfield 287, 3) := by decide +kernel
theorem dX12_die_6 : decode cX12_die 6 = .ok (.iconst 1, 1) := by decide +kernel
theorem dX12_die_7 : decode cX12_die 7 = .ok (.isub, 1) := by decide +kernel
theorem dX12_die_8 : decode cX12_die 8 = .ok (.invokestatic 177, 3) := by decide +kernel
theorem dX12_die_11 : decode cX12_die 11 = .ok (.ifCond .ne 5, 3) := by decide +kernel
theorem dX12_die_14 : decode cX12_die 14 = .ok (.iconst (-1), 1) := by decide +kernel
theorem dX12_die_15 : decode cX12_die 15 = .ok (.ireturn, 1) := by decide +kernel
theorem dX12_die_16 : decode cX12_die 16 = .ok (.aload_n 0, 1) := by decide +kernel
theorem dX12_die_17 : decode cX12_die 17 = .ok (.getfield 105, 3) := by decide +kernel
theorem dX12_die_20 : decode cX12_die 20 = .ok (.iload_n 1, 1) := by decide +kernel
theorem dX12_die_21 : decode cX12_die 21 = .ok (.iaload, 1) := by decide +kernel
theorem dX12_die_22 : decode cX12_die 22 = .ok (.ifCond .eq 6, 3) := by decide +kernel
theorem dX12_die_25 : decode cX12_die 25 = .ok (.bipush (-3), 2) := by decide +kernel
theorem dX12_die_27 : decode cX12_die 27 = .ok (.ireturn, 1) := by decide +kernel
theorem dX12_die_28 : decode cX12_die 28 = .ok (.aload_n 0, 1) := by decide +kernel
theorem dX12_die_29 : decode cX12_die 29 = .ok (.iload_n 1, 1) := by decide +kernel
theorem dX12_die_30 : decode cX12_die 30 = .ok (.invokevirtual 323, 3) := by decide +kernel
theorem dX12_die_33 : decode cX12_die 33 = .ok (.iconst 3, 1) := by decide +kernel
theorem dX12_die_34 : decode cX12_die 34 = .ok (.if_icmp .le 7, 3) := by decide +kernel
theorem dX12_die_37 : decode cX12_die 37 = .ok (.iconst 3, 1) := by decide +kernel
theorem dX12_die_38 : decode cX12_die 38 = .ok (.goto 8, 3) := by decide +kernel
theorem dX12_die_41 : decode cX12_die 41 = .ok (.aload_n 0, 1) := by decide +kernel
theorem dX12_die_42 : decode cX12_die 42 = .ok (.iload_n 1, 1) := by decide +kernel
theorem dX12_die_43 : decode cX12_die 43 = .ok (.invokevirtual 323, 3) := by decide +kernel
theorem dX12_die_46 : decode cX12_die 46 = .ok (.istore_n 2, 1) := by decide +kernel
theorem dX12_die_47 : decode cX12_die 47 = .ok (.aload_n 0, 1) := by decide +kernel
theorem dX12_die_48 : decode cX12_die 48 = .ok (.getfield 102, 3) := by decide +kernel
theorem dX12_die_51 : decode cX12_die 51 = .ok (.iload_n 1, 1) := by decide +kernel
theorem dX12_die_52 : decode cX12_die 52 = .ok (.iaload, 1) := by decide +kernel
theorem dX12_die_53 : decode cX12_die 53 = .ok (.bipush 100, 2) := by decide +kernel
theorem dX12_die_55 : decode cX12_die 55 = .ok (.idiv, 1) := by decide +kernel
theorem dX12_die_56 : decode cX12_die 56 = .ok (.iconst 3, 1) := by decide +kernel
theorem dX12_die_57 : decode cX12_die 57 = .ok (.if_icmp .le 7, 3) := by decide +kernel
theorem dX12_die_60 : decode cX12_die 60 = .ok (.iconst 3, 1) := by decide +kernel
theorem dX12_die_61 : decode cX12_die 61 = .ok (.goto 12, 3) := by decide +kernel
theorem dX12_die_64 : decode cX12_die 64 = .ok (.aload_n 0, 1) := by decide +kernel
theorem dX12_die_65 : decode cX12_die 65 = .ok (.getfield 102, 3) := by decide +kernel
theorem dX12_die_68 : decode cX12_die 68 = .ok (.iload_n 1, 1) := by decide +kernel
theorem dX12_die_69 : decode cX12_die 69 = .ok (.iaload, 1) := by decide +kernel
theorem dX12_die_70 : decode cX12_die 70 = .ok (.bipush 100, 2) := by decide +kernel
theorem dX12_die_72 : decode cX12_die 72 = .ok (.idiv, 1) := by decide +kernel
theorem dX12_die_73 : decode cX12_die 73 = .ok (.istore_n 3, 1) := by decide +kernel
theorem dX12_die_74 : decode cX12_die 74 = .ok (.iconst 2, 1) := by decide +kernel
theorem dX12_die_75 : decode cX12_die 75 = .ok (.iconst 0, 1) := by decide +kernel
theorem dX12_die_76 : decode cX12_die 76 = .ok (.invokestatic 187, 3) := by decide +kernel
theorem dX12_die_79 : decode cX12_die 79 = .ok (.imul, 1) := by decide +kernel
theorem dX12_die_80 : decode cX12_die 80 = .ok (.aload_n 0, 1) := by decide +kernel
theorem dX12_die_81 : decode cX12_die 81 = .ok (.getfield 93, 3) := by decide +kernel
theorem dX12_die_84 : decode cX12_die 84 = .ok (.iload_n 1, 1) := by decide +kernel
theorem dX12_die_85 : decode cX12_die 85 = .ok (.iaload, 1) := by decide +kernel
theorem dX12_die_86 : decode cX12_die 86 = .ok (.iconst 1, 1) := by decide +kernel
theorem dX12_die_87 : decode cX12_die 87 = .ok (.invokestatic 187, 3) := by decide +kernel
theorem dX12_die_90 : decode cX12_die 90 = .ok (.imul, 1) := by decide +kernel
theorem dX12_die_91 : decode cX12_die 91 = .ok (.iadd, 1) := by decide +kernel
theorem dX12_die_92 : decode cX12_die 92 = .ok (.aload_n 0, 1) := by decide +kernel
theorem dX12_die_93 : decode cX12_die 93 = .ok (.getfield 96, 3) := by decide +kernel
theorem dX12_die_96 : decode cX12_die 96 = .ok (.iload_n 1, 1) := by decide +kernel
theorem dX12_die_97 : decode cX12_die 97 = .ok (.iaload, 1) := by decide +kernel
theorem dX12_die_98 : decode cX12_die 98 = .ok (.iconst 2, 1) := by decide +kernel
theorem dX12_die_99 : decode cX12_die 99 = .ok (.invokestatic 187, 3) := by decide +kernel
theorem dX12_die_102 : decode cX12_die 102 = .ok (.imul, 1) := by decide +kernel
theorem dX12_die_103 : decode cX12_die 103 = .ok (.iadd, 1) := by decide +kernel
theorem dX12_die_104 : decode cX12_die 104 = .ok (.iload_n 2, 1) := by decide +kernel
theorem dX12_die_105 : decode cX12_die 105 = .ok (.iconst 3, 1) := by decide +kernel
theorem dX12_die_106 : decode cX12_die 106 = .ok (.invokestatic 187, 3) := by decide +kernel
theorem dX12_die_109 : decode cX12_die 109 = .ok (.imul, 1) := by decide +kernel
theorem dX12_die_110 : decode cX12_die 110 = .ok (.iadd, 1) := by decide +kernel
theorem dX12_die_111 : decode cX12_die 111 = .ok (.aload_n 0, 1) := by decide +kernel
theorem dX12_die_112 : decode cX12_die 112 = .ok (.getfield 99, 3) := by decide +kernel
theorem dX12_die_115 : decode cX12_die 115 = .ok (.iload_n 1, 1) := by decide +kernel
theorem dX12_die_116 : decode cX12_die 116 = .ok (.iaload, 1) := by decide +kernel
theorem dX12_die_117 : decode cX12_die 117 = .ok (.iconst 4, 1) := by decide +kernel
theorem dX12_die_118 : decode cX12_die 118 = .ok (.invokestatic 187, 3) := by decide +kernel
theorem dX12_die_121 : decode cX12_die 121 = .ok (.imul, 1) := by decide +kernel
theorem dX12_die_122 : decode cX12_die 122 = .ok (.iadd, 1) := by decide +kernel
theorem dX12_die_123 : decode cX12_die 123 = .ok (.iload_n 3, 1) := by decide +kernel
theorem dX12_die_124 : decode cX12_die 124 = .ok (.iadd, 1) := by decide +kernel
theorem dX12_die_125 : decode cX12_die 125 = .ok (.istore 4, 2) := by decide +kernel
theorem dX12_die_127 : decode cX12_die 127 = .ok (.aload_n 0, 1) := by decide +kernel
theorem dX12_die_128 : decode cX12_die 128 = .ok (.getfield 108, 3) := by decide +kernel
theorem dX12_die_131 : decode cX12_die 131 = .ok (.iload_n 1, 1) := by decide +kernel
theorem dX12_die_132 : decode cX12_die 132 = .ok (.iload 4, 2) := by decide +kernel
theorem dX12_die_134 : decode cX12_die 134 = .ok (.iastore, 1) := by decide +kernel
theorem dX12_die_135 : decode cX12_die 135 = .ok (.aload_n 0, 1) := by decide +kernel
theorem dX12_die_136 : decode cX12_die 136 = .ok (.aload_n 0, 1) := by decide +kernel
theorem dX12_die_137 : decode cX12_die 137 = .ok (.getfield 87, 3) := by decide +kernel
theorem dX12_die_140 : decode cX12_die 140 = .ok (.iload_n 1, 1) := by decide +kernel
theorem dX12_die_141 : decode cX12_die 141 = .ok (.iaload, 1) := by decide +kernel
theorem dX12_die_142 : decode cX12_die 142 = .ok (.iload 4, 2) := by decide +kernel
theorem dX12_die_144 : decode cX12_die 144 = .ok (.aload_n 0, 1) := by decide +kernel
theorem dX12_die_145 : decode cX12_die 145 = .ok (.getfield 194, 3) := by decide +kernel
theorem dX12_die_148 : decode cX12_die 148 = .ok (.aload_n 0, 1) := by decide +kernel
theorem dX12_die_149 : decode cX12_die 149 = .ok (.getfield 194, 3) := by decide +kernel
theorem dX12_die_152 : decode cX12_die 152 = .ok (.aload_n 0, 1) := by decide +kernel
theorem dX12_die_153 : decode cX12_die 153 = .ok (.getfield 194, 3) := by decide +kernel
theorem dX12_die_156 : decode cX12_die 156 = .ok (.invokevirtual 276, 3) := by decide +kernel
theorem dX12_die_159 : decode cX12_die 159 = .ok (.istore 5, 2) := by decide +kernel
theorem dX12_die_161 : decode cX12_die 161 = .ok (.iload 5, 2) := by decide +kernel
theorem dX12_die_163 : decode cX12_die 163 = .ok (.ifCond .ge 13, 3) := by decide +kernel
theorem dX12_die_166 : decode cX12_die 166 = .ok (.aload_n 0, 1) := by decide +kernel
theorem dX12_die_167 : decode cX12_die 167 = .ok (.getfield 105, 3) := by decide +kernel
theorem dX12_die_170 : decode cX12_die 170 = .ok (.iload_n 1, 1) := by decide +kernel
theorem dX12_die_171 : decode cX12_die 171 = .ok (.iconst 2, 1) := by decide +kernel
theorem dX12_die_172 : decode cX12_die 172 = .ok (.iastore, 1) := by decide +kernel
theorem dX12_die_173 : decode cX12_die 173 = .ok (.goto 10, 3) := by decide +kernel
theorem dX12_die_176 : decode cX12_die 176 = .ok (.aload_n 0, 1) := by decide +kernel
theorem dX12_die_177 : decode cX12_die 177 = .ok (.iload_n 1, 1) := by decide +kernel
theorem dX12_die_178 : decode cX12_die 178 = .ok (.iload 5, 2) := by decide +kernel
theorem dX12_die_180 : decode cX12_die 180 = .ok (.invokevirtual 336, 3) := by decide +kernel
theorem dX12_die_183 : decode cX12_die 183 = .ok (.iload 5, 2) := by decide +kernel
theorem dX12_die_185 : decode cX12_die 185 = .ok (.ireturn, 1) := by decide +kernel
theorem dX12_settle_0 : decode cX12_settle 0 = .ok (.iload_n 1, 1) := by decide +kernel
theorem dX12_settle_1 : decode cX12_settle 1 = .ok (.iconst 0, 1) := by decide +kernel
theorem dX12_settle_2 : decode cX12_settle 2 = .ok (.aload_n 0, 1) := by decide +kernel
theorem dX12_settle_3 : decode cX12_settle 3 = .ok (.getfield 287, 3) := by decide +kernel
theorem dX12_settle_6 : decode cX12_settle 6 = .ok (.iconst 1, 1) := by decide +kernel
theorem dX12_settle_7 : decode cX12_settle 7 = .ok (.isub, 1) := by decide +kernel
theorem dX12_settle_8 : decode cX12_settle 8 = .ok (.invokestatic 177, 3) := by decide +kernel
theorem dX12_settle_11 : decode cX12_settle 11 = .ok (.ifCond .ne 5, 3) := by decide +kernel
theorem dX12_settle_14 : decode cX12_settle 14 = .ok (.iconst (-1), 1) := by decide +kernel
theorem dX12_settle_15 : decode cX12_settle 15 = .ok (.ireturn, 1) := by decide +kernel
theorem dX12_settle_16 : decode cX12_settle 16 = .ok (.aload_n 0, 1) := by decide +kernel
theorem dX12_settle_17 : decode cX12_settle 17 = .ok (.getfield 105, 3) := by decide +kernel
theorem dX12_settle_20 : decode cX12_settle 20 = .ok (.iload_n 1, 1) := by decide +kernel
theorem dX12_settle_21 : decode cX12_settle 21 = .ok (.iaload, 1) := by decide +kernel
theorem dX12_settle_22 : decode cX12_settle 22 = .ok (.iconst 2, 1) := by decide +kernel
theorem dX12_settle_23 : decode cX12_settle 23 = .ok (.if_icmp .eq 6, 3) := by decide +kernel
theorem dX12_settle_26 : decode cX12_settle 26 = .ok (.bipush (-3), 2) := by decide +kernel
theorem dX12_settle_28 : decode cX12_settle 28 = .ok (.ireturn, 1) := by decide +kernel
theorem dX12_settle_29 : decode cX12_settle 29 = .ok (.aload_n 0, 1) := by decide +kernel
theorem dX12_settle_30 : decode cX12_settle 30 = .ok (.aload_n 0, 1) := by decide +kernel
theorem dX12_settle_31 : decode cX12_settle 31 = .ok (.getfield 87, 3) := by decide +kernel
theorem dX12_settle_34 : decode cX12_settle 34 = .ok (.iload_n 1, 1) := by decide +kernel
theorem dX12_settle_35 : decode cX12_settle 35 = .ok (.iaload, 1) := by decide +kernel
theorem dX12_settle_36 : decode cX12_settle 36 = .ok (.aload_n 0, 1) := by decide +kernel
theorem dX12_settle_37 : decode cX12_settle 37 = .ok (.getfield 108, 3) := by decide +kernel
theorem dX12_settle_40 : decode cX12_settle 40 = .ok (.iload_n 1, 1) := by decide +kernel
theorem dX12_settle_41 : decode cX12_settle 41 = .ok (.iaload, 1) := by decide +kernel
theorem dX12_settle_42 : decode cX12_settle 42 = .ok (.aload_n 0, 1) := by decide +kernel
theorem dX12_settle_43 : decode cX12_settle 43 = .ok (.getfield 194, 3) := by decide +kernel
theorem dX12_settle_46 : decode cX12_settle 46 = .ok (.aload_n 0, 1) := by decide +kernel
theorem dX12_settle_47 : decode cX12_settle 47 = .ok (.getfield 194, 3) := by decide +kernel
theorem dX12_settle_50 : decode cX12_settle 50 = .ok (.aload_n 0, 1) := by decide +kernel
theorem dX12_settle_51 : decode cX12_settle 51 = .ok (.getfield 194, 3) := by decide +kernel
theorem dX12_settle_54 : decode cX12_settle 54 = .ok (.invokevirtual 276, 3) := by decide +kernel
theorem dX12_settle_57 : decode cX12_settle 57 = .ok (.istore_n 2, 1) := by decide +kernel
theorem dX12_settle_58 : decode cX12_settle 58 = .ok (.iload_n 2, 1) := by decide +kernel
theorem dX12_settle_59 : decode cX12_settle 59 = .ok (.ifCond .lt 9, 3) := by decide +kernel
theorem dX12_settle_62 : decode cX12_settle 62 = .ok (.aload_n 0, 1) := by decide +kernel
theorem dX12_settle_63 : decode cX12_settle 63 = .ok (.iload_n 1, 1) := by decide +kernel
theorem dX12_settle_64 : decode cX12_settle 64 = .ok (.iload_n 2, 1) := by decide +kernel
theorem dX12_settle_65 : decode cX12_settle 65 = .ok (.invokevirtual 336, 3) := by decide +kernel
theorem dX12_settle_68 : decode cX12_settle 68 = .ok (.iload_n 2, 1) := by decide +kernel
theorem dX12_settle_69 : decode cX12_settle 69 = .ok (.ireturn, 1) := by decide +kernel
theorem dX12_personOf_0 : decode cX12_personOf 0 = .ok (.iload_n 1, 1) := by decide +kernel
theorem dX12_personOf_1 : decode cX12_personOf 1 = .ok (.iconst 0, 1) := by decide +kernel
theorem dX12_personOf_2 : decode cX12_personOf 2 = .ok (.aload_n 0, 1) := by decide +kernel
theorem dX12_personOf_3 : decode cX12_personOf 3 = .ok (.getfield 287, 3) := by decide +kernel
theorem dX12_personOf_6 : decode cX12_personOf 6 = .ok (.iconst 1, 1) := by decide +kernel
theorem dX12_personOf_7 : decode cX12_personOf 7 = .ok (.isub, 1) := by decide +kernel
theorem dX12_personOf_8 : decode cX12_personOf 8 = .ok (.invokestatic 177, 3) := by decide +kernel
theorem dX12_personOf_11 : decode cX12_personOf 11 = .ok (.ifCond .ne 6, 3) := by decide +kernel
theorem dX12_personOf_14 : decode cX12_personOf 14 = .ok (.bipush (-5), 2) := by decide +kernel
theorem dX12_personOf_16 : decode cX12_personOf 16 = .ok (.ireturn, 1) := by decide +kernel
theorem dX12_personOf_17 : decode cX12_personOf 17 = .ok (.iload_n 2, 1) := by decide +kernel
theorem dX12_personOf_18 : decode cX12_personOf 18 = .ok (.tableswitch 79 0 5 #[38, 45, 52, 59, 66, 73], 38) := by decide +kernel
theorem dX12_personOf_56 : decode cX12_personOf 56 = .ok (.aload_n 0, 1) := by decide +kernel
theorem dX12_personOf_57 : decode cX12_personOf 57 = .ok (.getfield 87, 3) := by decide +kernel
theorem dX12_personOf_60 : decode cX12_personOf 60 = .ok (.iload_n 1, 1) := by decide +kernel
theorem dX12_personOf_61 : decode cX12_personOf 61 = .ok (.iaload, 1) := by decide +kernel
theorem dX12_personOf_62 : decode cX12_personOf 62 = .ok (.ireturn, 1) := by decide +kernel
theorem dX12_personOf_63 : decode cX12_personOf 63 = .ok (.aload_n 0, 1) := by decide +kernel
theorem dX12_personOf_64 : decode cX12_personOf 64 = .ok (.getfield 90, 3) := by decide +kernel
theorem dX12_personOf_67 : decode cX12_personOf 67 = .ok (.iload_n 1, 1) := by decide +kernel
theorem dX12_personOf_68 : decode cX12_personOf 68 = .ok (.iaload, 1) := by decide +kernel
theorem dX12_personOf_69 : decode cX12_personOf 69 = .ok (.ireturn, 1) := by decide +kernel
theorem dX12_personOf_70 : decode cX12_personOf 70 = .ok (.aload_n 0, 1) := by decide +kernel
theorem dX12_personOf_71 : decode cX12_personOf 71 = .ok (.getfield 102, 3) := by decide +kernel
theorem dX12_personOf_74 : decode cX12_personOf 74 = .ok (.iload_n 1, 1) := by decide +kernel
theorem dX12_personOf_75 : decode cX12_personOf 75 = .ok (.iaload, 1) := by decide +kernel
theorem dX12_personOf_76 : decode cX12_personOf 76 = .ok (.ireturn, 1) := by decide +kernel
theorem dX12_personOf_77 : decode cX12_personOf 77 = .ok (.aload_n 0, 1) := by decide +kernel
theorem dX12_personOf_78 : decode cX12_personOf 78 = .ok (.getfield 105, 3) := by decide +kernel
theorem dX12_personOf_81 : decode cX12_personOf 81 = .ok (.iload_n 1, 1) := by decide +kernel
theorem dX12_personOf_82 : decode cX12_personOf 82 = .ok (.iaload, 1) := by decide +kernel
theorem dX12_personOf_83 : decode cX12_personOf 83 = .ok (.ireturn, 1) := by decide +kernel
theorem dX12_personOf_84 : decode cX12_personOf 84 = .ok (.aload_n 0, 1) := by decide +kernel
theorem dX12_personOf_85 : decode cX12_personOf 85 = .ok (.getfield 108, 3) := by decide +kernel
theorem dX12_personOf_88 : decode cX12_personOf 88 = .ok (.iload_n 1, 1) := by decide +kernel
theorem dX12_personOf_89 : decode cX12_personOf 89 = .ok (.iaload, 1) := by decide +kernel
theorem dX12_personOf_90 : decode cX12_personOf 90 = .ok (.ireturn, 1) := by decide +kernel
theorem dX12_personOf_91 : decode cX12_personOf 91 = .ok (.aload_n 0, 1) := by decide +kernel
theorem dX12_personOf_92 : decode cX12_personOf 92 = .ok (.iload_n 1, 1) := by decide +kernel
theorem dX12_personOf_93 : decode cX12_personOf 93 = .ok (.invokevirtual 323, 3) := by decide +kernel
theorem dX12_personOf_96 : decode cX12_personOf 96 = .ok (.ireturn, 1) := by decide +kernel
theorem dX12_personOf_97 : decode cX12_personOf 97 = .ok (.bipush (-5), 2) := by decide +kernel
theorem dX12_personOf_99 : decode cX12_personOf 99 = .ok (.ireturn, 1) := by decide +kernel
theorem dX12_chest_0 : decode cX12_chest 0 = .ok (.iload_n 1, 1) := by decide +kernel
theorem dX12_chest_1 : decode cX12_chest 1 = .ok (.iconst (-1), 1) := by decide +kernel
theorem dX12_chest_2 : decode cX12_chest 2 = .ok (.if_icmp .ne 55, 3) := by decide +kernel
theorem dX12_chest_5 : decode cX12_chest 5 = .ok (.iconst 0, 1) := by decide +kernel
theorem dX12_chest_6 : decode cX12_chest 6 = .ok (.istore_n 2, 1) := by decide +kernel
theorem dX12_chest_7 : decode cX12_chest 7 = .ok (.iconst 0, 1) := by decide +kernel
theorem dX12_chest_8 : decode cX12_chest 8 = .ok (.istore_n 3, 1) := by decide +kernel
theorem dX12_chest_9 : decode cX12_chest 9 = .ok (.iload_n 3, 1) := by decide +kernel
theorem dX12_chest_10 : decode cX12_chest 10 = .ok (.bipush 8, 2) := by decide +kernel
theorem dX12_chest_12 : decode cX12_chest 12 = .ok (.if_icmp .ge 18, 3) := by decide +kernel
theorem dX12_chest_15 : decode cX12_chest 15 = .ok (.iload_n 2, 1) := by decide +kernel
theorem dX12_chest_16 : decode cX12_chest 16 = .ok (.aload_n 0, 1) := by decide +kernel
theorem dX12_chest_17 : decode cX12_chest 17 = .ok (.getfield 111, 3) := by decide +kernel
theorem dX12_chest_20 : decode cX12_chest 20 = .ok (.iload_n 3, 1) := by decide +kernel
theorem dX12_chest_21 : decode cX12_chest 21 = .ok (.iaload, 1) := by decide +kernel
theorem dX12_chest_22 : decode cX12_chest 22 = .ok (.iadd, 1) := by decide +kernel
theorem dX12_chest_23 : decode cX12_chest 23 = .ok (.istore_n 2, 1) := by decide +kernel
theorem dX12_chest_24 : decode cX12_chest 24 = .ok (.iinc 3 1, 3) := by decide +kernel
theorem dX12_chest_27 : decode cX12_chest 27 = .ok (.goto (-18), 3) := by decide +kernel
theorem dX12_chest_30 : decode cX12_chest 30 = .ok (.iconst 0, 1) := by decide +kernel
theorem dX12_chest_31 : decode cX12_chest 31 = .ok (.istore_n 3, 1) := by decide +kernel
theorem dX12_chest_32 : decode cX12_chest 32 = .ok (.iload_n 3, 1) := by decide +kernel
theorem dX12_chest_33 : decode cX12_chest 33 = .ok (.aload_n 0, 1) := by decide +kernel
theorem dX12_chest_34 : decode cX12_chest 34 = .ok (.getfield 287, 3) := by decide +kernel
theorem dX12_chest_37 : decode cX12_chest 37 = .ok (.if_icmp .ge 18, 3) := by decide +kernel
theorem dX12_chest_40 : decode cX12_chest 40 = .ok (.iload_n 2, 1) := by decide +kernel
theorem dX12_chest_41 : decode cX12_chest 41 = .ok (.aload_n 0, 1) := by decide +kernel
theorem dX12_chest_42 : decode cX12_chest 42 = .ok (.getfield 102, 3) := by decide +kernel
theorem dX12_chest_45 : decode cX12_chest 45 = .ok (.iload_n 3, 1) := by decide +kernel
theorem dX12_chest_46 : decode cX12_chest 46 = .ok (.iaload, 1) := by decide +kernel
theorem dX12_chest_47 : decode cX12_chest 47 = .ok (.iadd, 1) := by decide +kernel
theorem dX12_chest_48 : decode cX12_chest 48 = .ok (.istore_n 2, 1) := by decide +kernel
theorem dX12_chest_49 : decode cX12_chest 49 = .ok (.iinc 3 1, 3) := by decide +kernel
theorem dX12_chest_52 : decode cX12_chest 52 = .ok (.goto (-20), 3) := by decide +kernel
theorem dX12_chest_55 : decode cX12_chest 55 = .ok (.iload_n 2, 1) := by decide +kernel
theorem dX12_chest_56 : decode cX12_chest 56 = .ok (.ireturn, 1) := by decide +kernel
theorem dX12_chest_57 : decode cX12_chest 57 = .ok (.aload_n 0, 1) := by decide +kernel
theorem dX12_chest_58 : decode cX12_chest 58 = .ok (.iload_n 1, 1) := by decide +kernel
theorem dX12_chest_59 : decode cX12_chest 59 = .ok (.invokevirtual 270, 3) := by decide +kernel
theorem dX12_chest_62 : decode cX12_chest 62 = .ok (.ifCond .eq 12, 3) := by decide +kernel
theorem dX12_chest_65 : decode cX12_chest 65 = .ok (.aload_n 0, 1) := by decide +kernel
theorem dX12_chest_66 : decode cX12_chest 66 = .ok (.getfield 111, 3) := by decide +kernel
theorem dX12_chest_69 : decode cX12_chest 69 = .ok (.iload_n 1, 1) := by decide +kernel
theorem dX12_chest_70 : decode cX12_chest 70 = .ok (.iaload, 1) := by decide +kernel
theorem dX12_chest_71 : decode cX12_chest 71 = .ok (.goto 5, 3) := by decide +kernel
theorem dX12_chest_74 : decode cX12_chest 74 = .ok (.bipush (-5), 2) := by decide +kernel
theorem dX12_chest_76 : decode cX12_chest 76 = .ok (.ireturn, 1) := by decide +kernel
theorem dX12_way_0 : decode cX12_way 0 = .ok (.iload_n 1, 1) := by decide +kernel
theorem dX12_way_1 : decode cX12_way 1 = .ok (.iconst 0, 1) := by decide +kernel
theorem dX12_way_2 : decode cX12_way 2 = .ok (.iconst 4, 1) := by decide +kernel
theorem dX12_way_3 : decode cX12_way 3 = .ok (.invokestatic 177, 3) := by decide +kernel
theorem dX12_way_6 : decode cX12_way 6 = .ok (.ifCond .ne 5, 3) := by decide +kernel
theorem dX12_way_9 : decode cX12_way 9 = .ok (.iconst (-1), 1) := by decide +kernel
theorem dX12_way_10 : decode cX12_way 10 = .ok (.ireturn, 1) := by decide +kernel
theorem dX12_way_11 : decode cX12_way 11 = .ok (.iload_n 2, 1) := by decide +kernel
theorem dX12_way_12 : decode cX12_way 12 = .ok (.iconst 0, 1) := by decide +kernel
theorem dX12_way_13 : decode cX12_way 13 = .ok (.bipush 9, 2) := by decide +kernel
theorem dX12_way_15 : decode cX12_way 15 = .ok (.invokestatic 177, 3) := by decide +kernel
theorem dX12_way_18 : decode cX12_way 18 = .ok (.ifCond .ne 6, 3) := by decide +kernel
theorem dX12_way_21 : decode cX12_way 21 = .ok (.bipush (-2), 2) := by decide +kernel
theorem dX12_way_23 : decode cX12_way 23 = .ok (.ireturn, 1) := by decide +kernel
theorem dX12_way_24 : decode cX12_way 24 = .ok (.aload_n 0, 1) := by decide +kernel
theorem dX12_way_25 : decode cX12_way 25 = .ok (.getfield 114, 3) := by decide +kernel
theorem dX12_way_28 : decode cX12_way 28 = .ok (.iload_n 1, 1) := by decide +kernel
theorem dX12_way_29 : decode cX12_way 29 = .ok (.iaload, 1) := by decide +kernel
theorem dX12_way_30 : decode cX12_way 30 = .ok (.iconst 3, 1) := by decide +kernel
theorem dX12_way_31 : decode cX12_way 31 = .ok (.if_icmp .ne 6, 3) := by decide +kernel
theorem dX12_way_34 : decode cX12_way 34 = .ok (.bipush (-4), 2) := by decide +kernel
theorem dX12_way_36 : decode cX12_way 36 = .ok (.ireturn, 1) := by decide +kernel
theorem dX12_way_37 : decode cX12_way 37 = .ok (.iconst 3, 1) := by decide +kernel
theorem dX12_way_38 : decode cX12_way 38 = .ok (.iload_n 1, 1) := by decide +kernel
theorem dX12_way_39 : decode cX12_way 39 = .ok (.imul, 1) := by decide +kernel
theorem dX12_way_40 : decode cX12_way 40 = .ok (.aload_n 0, 1) := by decide +kernel
theorem dX12_way_41 : decode cX12_way 41 = .ok (.getfield 114, 3) := by decide +kernel
theorem dX12_way_44 : decode cX12_way 44 = .ok (.iload_n 1, 1) := by decide +kernel
theorem dX12_way_45 : decode cX12_way 45 = .ok (.iaload, 1) := by decide +kernel
theorem dX12_way_46 : decode cX12_way 46 = .ok (.iadd, 1) := by decide +kernel
theorem dX12_way_47 : decode cX12_way 47 = .ok (.istore_n 3, 1) := by decide +kernel
theorem dX12_way_48 : decode cX12_way 48 = .ok (.aload_n 0, 1) := by decide +kernel
theorem dX12_way_49 : decode cX12_way 49 = .ok (.bipush 80, 2) := by decide +kernel
theorem dX12_way_51 : decode cX12_way 51 = .ok (.iload_n 3, 1) := by decide +kernel
theorem dX12_way_52 : decode cX12_way 52 = .ok (.iadd, 1) := by decide +kernel
theorem dX12_way_53 : decode cX12_way 53 = .ok (.invokevirtual 239, 3) := by decide +kernel
theorem dX12_way_56 : decode cX12_way 56 = .ok (.istore 4, 2) := by decide +kernel
theorem dX12_way_58 : decode cX12_way 58 = .ok (.aload_n 0, 1) := by decide +kernel
theorem dX12_way_59 : decode cX12_way 59 = .ok (.iconst 0, 1) := by decide +kernel
theorem dX12_way_60 : decode cX12_way 60 = .ok (.putfield 197, 3) := by decide +kernel
theorem dX12_way_63 : decode cX12_way 63 = .ok (.iload 4, 2) := by decide +kernel
theorem dX12_way_65 : decode cX12_way 65 = .ok (.iconst (-1), 1) := by decide +kernel
theorem dX12_way_66 : decode cX12_way 66 = .ok (.if_icmp .eq 9, 3) := by decide +kernel
theorem dX12_way_69 : decode cX12_way 69 = .ok (.bipush (-10), 2) := by decide +kernel
theorem dX12_way_71 : decode cX12_way 71 = .ok (.iload 4, 2) := by decide +kernel
theorem dX12_way_73 : decode cX12_way 73 = .ok (.isub, 1) := by decide +kernel
theorem dX12_way_74 : decode cX12_way 74 = .ok (.ireturn, 1) := by decide +kernel
theorem dX12_way_75 : decode cX12_way 75 = .ok (.aload_n 0, 1) := by decide +kernel
theorem dX12_way_76 : decode cX12_way 76 = .ok (.getfield 117, 3) := by decide +kernel
theorem dX12_way_79 : decode cX12_way 79 = .ok (.iload_n 3, 1) := by decide +kernel
theorem dX12_way_80 : decode cX12_way 80 = .ok (.iload_n 2, 1) := by decide +kernel
theorem dX12_way_81 : decode cX12_way 81 = .ok (.iastore, 1) := by decide +kernel
theorem dX12_way_82 : decode cX12_way 82 = .ok (.aload_n 0, 1) := by decide +kernel
theorem dX12_way_83 : decode cX12_way 83 = .ok (.getfield 114, 3) := by decide +kernel
theorem dX12_way_86 : decode cX12_way 86 = .ok (.iload_n 1, 1) := by decide +kernel
theorem dX12_way_87 : decode cX12_way 87 = .ok (.dup2, 1) := by decide +kernel
theorem dX12_way_88 : decode cX12_way 88 = .ok (.iaload, 1) := by decide +kernel
theorem dX12_way_89 : decode cX12_way 89 = .ok (.iconst 1, 1) := by decide +kernel
theorem dX12_way_90 : decode cX12_way 90 = .ok (.iadd, 1) := by decide +kernel
theorem dX12_way_91 : decode cX12_way 91 = .ok (.iastore, 1) := by decide +kernel
theorem dX12_way_92 : decode cX12_way 92 = .ok (.aload_n 0, 1) := by decide +kernel
theorem dX12_way_93 : decode cX12_way 93 = .ok (.getfield 114, 3) := by decide +kernel
theorem dX12_way_96 : decode cX12_way 96 = .ok (.iload_n 1, 1) := by decide +kernel
theorem dX12_way_97 : decode cX12_way 97 = .ok (.iaload, 1) := by decide +kernel
theorem dX12_way_98 : decode cX12_way 98 = .ok (.iconst 1, 1) := by decide +kernel
theorem dX12_way_99 : decode cX12_way 99 = .ok (.isub, 1) := by decide +kernel
theorem dX12_way_100 : decode cX12_way 100 = .ok (.ireturn, 1) := by decide +kernel
theorem dX12_findAnswers_0 : decode cX12_findAnswers 0 = .ok (.iconst 0, 1) := by decide +kernel
theorem dX12_findAnswers_1 : decode cX12_findAnswers 1 = .ok (.istore_n 1, 1) := by decide +kernel
theorem dX12_findAnswers_2 : decode cX12_findAnswers 2 = .ok (.iload_n 1, 1) := by decide +kernel
theorem dX12_findAnswers_3 : decode cX12_findAnswers 3 = .ok (.iconst 5, 1) := by decide +kernel
theorem dX12_findAnswers_4 : decode cX12_findAnswers 4 = .ok (.if_icmp .ge 16, 3) := by decide +kernel
theorem dX12_findAnswers_7 : decode cX12_findAnswers 7 = .ok (.aload_n 0, 1) := by decide +kernel
theorem dX12_findAnswers_8 : decode cX12_findAnswers 8 = .ok (.getfield 165, 3) := by decide +kernel
theorem dX12_findAnswers_11 : decode cX12_findAnswers 11 = .ok (.iload_n 1, 1) := by decide +kernel
theorem dX12_findAnswers_12 : decode cX12_findAnswers 12 = .ok (.iconst 0, 1) := by decide +kernel
theorem dX12_findAnswers_13 : decode cX12_findAnswers 13 = .ok (.iastore, 1) := by decide +kernel
theorem dX12_findAnswers_14 : decode cX12_findAnswers 14 = .ok (.iinc 1 1, 3) := by decide +kernel
theorem dX12_findAnswers_17 : decode cX12_findAnswers 17 = .ok (.goto (-15), 3) := by decide +kernel
theorem dX12_findAnswers_20 : decode cX12_findAnswers 20 = .ok (.iconst 0, 1) := by decide +kernel
theorem dX12_findAnswers_21 : decode cX12_findAnswers 21 = .ok (.istore_n 1, 1) := by decide +kernel
theorem dX12_findAnswers_22 : decode cX12_findAnswers 22 = .ok (.iload_n 1, 1) := by decide +kernel
theorem dX12_findAnswers_23 : decode cX12_findAnswers 23 = .ok (.aload_n 0, 1) := by decide +kernel
theorem dX12_findAnswers_24 : decode cX12_findAnswers 24 = .ok (.getfield 184, 3) := by decide +kernel
theorem dX12_findAnswers_27 : decode cX12_findAnswers 27 = .ok (.if_icmp .ge 29, 3) := by decide +kernel
theorem dX12_findAnswers_30 : decode cX12_findAnswers 30 = .ok (.aload_n 0, 1) := by decide +kernel
theorem dX12_findAnswers_31 : decode cX12_findAnswers 31 = .ok (.getfield 165, 3) := by decide +kernel
theorem dX12_findAnswers_34 : decode cX12_findAnswers 34 = .ok (.aload_n 0, 1) := by decide +kernel
theorem dX12_findAnswers_35 : decode cX12_findAnswers 35 = .ok (.getfield 56, 3) := by decide +kernel
theorem dX12_findAnswers_38 : decode cX12_findAnswers 38 = .ok (.iload_n 1, 1) := by decide +kernel
theorem dX12_findAnswers_39 : decode cX12_findAnswers 39 = .ok (.iaload, 1) := by decide +kernel
theorem dX12_findAnswers_40 : decode cX12_findAnswers 40 = .ok (.dup2, 1) := by decide +kernel
theorem dX12_findAnswers_41 : decode cX12_findAnswers 41 = .ok (.iaload, 1) := by decide +kernel
theorem dX12_findAnswers_42 : decode cX12_findAnswers 42 = .ok (.aload_n 0, 1) := by decide +kernel
theorem dX12_findAnswers_43 : decode cX12_findAnswers 43 = .ok (.getfield 59, 3) := by decide +kernel
theorem dX12_findAnswers_46 : decode cX12_findAnswers 46 = .ok (.iload_n 1, 1) := by decide +kernel
theorem dX12_findAnswers_47 : decode cX12_findAnswers 47 = .ok (.iaload, 1) := by decide +kernel
theorem dX12_findAnswers_48 : decode cX12_findAnswers 48 = .ok (.iadd, 1) := by decide +kernel
theorem dX12_findAnswers_49 : decode cX12_findAnswers 49 = .ok (.iastore, 1) := by decide +kernel
theorem dX12_findAnswers_50 : decode cX12_findAnswers 50 = .ok (.iinc 1 1, 3) := by decide +kernel
theorem dX12_findAnswers_53 : decode cX12_findAnswers 53 = .ok (.goto (-31), 3) := by decide +kernel
theorem dX12_findAnswers_56 : decode cX12_findAnswers 56 = .ok (.iconst 0, 1) := by decide +kernel
theorem dX12_findAnswers_57 : decode cX12_findAnswers 57 = .ok (.istore_n 1, 1) := by decide +kernel
theorem dX12_findAnswers_58 : decode cX12_findAnswers 58 = .ok (.iload_n 1, 1) := by decide +kernel
theorem dX12_findAnswers_59 : decode cX12_findAnswers 59 = .ok (.sipush 1536, 3) := by decide +kernel
theorem dX12_findAnswers_62 : decode cX12_findAnswers 62 = .ok (.if_icmp .ge 92, 3) := by decide +kernel
theorem dX12_findAnswers_65 : decode cX12_findAnswers 65 = .ok (.iconst 0, 1) := by decide +kernel
theorem dX12_findAnswers_66 : decode cX12_findAnswers 66 = .ok (.istore_n 2, 1) := by decide +kernel
theorem dX12_findAnswers_67 : decode cX12_findAnswers 67 = .ok (.iload_n 2, 1) := by decide +kernel
theorem dX12_findAnswers_68 : decode cX12_findAnswers 68 = .ok (.iconst 5, 1) := by decide +kernel
theorem dX12_findAnswers_69 : decode cX12_findAnswers 69 = .ok (.if_icmp .ge 49, 3) := by decide +kernel
theorem dX12_findAnswers_72 : decode cX12_findAnswers 72 = .ok (.aload_n 0, 1) := by decide +kernel
theorem dX12_findAnswers_73 : decode cX12_findAnswers 73 = .ok (.getfield 156, 3) := by decide +kernel
theorem dX12_findAnswers_76 : decode cX12_findAnswers 76 = .ok (.sipush 1536, 3) := by decide +kernel
theorem dX12_findAnswers_79 : decode cX12_findAnswers 79 = .ok (.iload_n 2, 1) := by decide +kernel
theorem dX12_findAnswers_80 : decode cX12_findAnswers 80 = .ok (.imul, 1) := by decide +kernel
theorem dX12_findAnswers_81 : decode cX12_findAnswers 81 = .ok (.iload_n 1, 1) := by decide +kernel
theorem dX12_findAnswers_82 : decode cX12_findAnswers 82 = .ok (.iadd, 1) := by decide +kernel
theorem dX12_findAnswers_83 : decode cX12_findAnswers 83 = .ok (.aload_n 0, 1) := by decide +kernel
theorem dX12_findAnswers_84 : decode cX12_findAnswers 84 = .ok (.getfield 165, 3) := by decide +kernel
theorem dX12_findAnswers_87 : decode cX12_findAnswers 87 = .ok (.iload_n 2, 1) := by decide +kernel
theorem dX12_findAnswers_88 : decode cX12_findAnswers 88 = .ok (.iaload, 1) := by decide +kernel
theorem dX12_findAnswers_89 : decode cX12_findAnswers 89 = .ok (.ifCond .le 20, 3) := by decide +kernel
theorem dX12_findAnswers_92 : decode cX12_findAnswers 92 = .ok (.aload_n 0, 1) := by decide +kernel
theorem dX12_findAnswers_93 : decode cX12_findAnswers 93 = .ok (.iload_n 2, 1) := by decide +kernel
theorem dX12_findAnswers_94 : decode cX12_findAnswers 94 = .ok (.iload_n 1, 1) := by decide +kernel
theorem dX12_findAnswers_95 : decode cX12_findAnswers 95 = .ok (.aload_n 0, 1) := by decide +kernel
theorem dX12_findAnswers_96 : decode cX12_findAnswers 96 = .ok (.getfield 194, 3) := by decide +kernel
theorem dX12_findAnswers_99 : decode cX12_findAnswers 99 = .ok (.aload_n 0, 1) := by decide +kernel
theorem dX12_findAnswers_100 : decode cX12_findAnswers 100 = .ok (.getfield 194, 3) := by decide +kernel
theorem dX12_findAnswers_103 : decode cX12_findAnswers 103 = .ok (.invokevirtual 266, 3) := by decide +kernel
theorem dX12_findAnswers_106 : decode cX12_findAnswers 106 = .ok (.goto 5, 3) := by decide +kernel
theorem dX12_findAnswers_109 : decode cX12_findAnswers 109 = .ok (.bipush (-3), 2) := by decide +kernel
theorem dX12_findAnswers_111 : decode cX12_findAnswers 111 = .ok (.iastore, 1) := by decide +kernel
theorem dX12_findAnswers_112 : decode cX12_findAnswers 112 = .ok (.iinc 2 1, 3) := by decide +kernel
theorem dX12_findAnswers_115 : decode cX12_findAnswers 115 = .ok (.goto (-48), 3) := by decide +kernel
theorem dX12_findAnswers_118 : decode cX12_findAnswers 118 = .ok (.aload_n 0, 1) := by decide +kernel
theorem dX12_findAnswers_119 : decode cX12_findAnswers 119 = .ok (.getfield 159, 3) := by decide +kernel
theorem dX12_findAnswers_122 : decode cX12_findAnswers 122 = .ok (.iload_n 1, 1) := by decide +kernel
theorem dX12_findAnswers_123 : decode cX12_findAnswers 123 = .ok (.aload_n 0, 1) := by decide +kernel
theorem dX12_findAnswers_124 : decode cX12_findAnswers 124 = .ok (.iconst 5, 1) := by decide +kernel
theorem dX12_findAnswers_125 : decode cX12_findAnswers 125 = .ok (.iload_n 1, 1) := by decide +kernel
theorem dX12_findAnswers_126 : decode cX12_findAnswers 126 = .ok (.aload_n 0, 1) := by decide +kernel
theorem dX12_findAnswers_127 : decode cX12_findAnswers 127 = .ok (.getfield 194, 3) := by decide +kernel
theorem dX12_findAnswers_130 : decode cX12_findAnswers 130 = .ok (.aload_n 0, 1) := by decide +kernel
theorem dX12_findAnswers_131 : decode cX12_findAnswers 131 = .ok (.getfield 194, 3) := by decide +kernel
theorem dX12_findAnswers_134 : decode cX12_findAnswers 134 = .ok (.invokevirtual 266, 3) := by decide +kernel
theorem dX12_findAnswers_137 : decode cX12_findAnswers 137 = .ok (.iastore, 1) := by decide +kernel
theorem dX12_findAnswers_138 : decode cX12_findAnswers 138 = .ok (.aload_n 0, 1) := by decide +kernel
theorem dX12_findAnswers_139 : decode cX12_findAnswers 139 = .ok (.getfield 162, 3) := by decide +kernel
theorem dX12_findAnswers_142 : decode cX12_findAnswers 142 = .ok (.iload_n 1, 1) := by decide +kernel
theorem dX12_findAnswers_143 : decode cX12_findAnswers 143 = .ok (.aload_n 0, 1) := by decide +kernel
theorem dX12_findAnswers_144 : decode cX12_findAnswers 144 = .ok (.getfield 252, 3) := by decide +kernel
theorem dX12_findAnswers_147 : decode cX12_findAnswers 147 = .ok (.iastore, 1) := by decide +kernel
theorem dX12_findAnswers_148 : decode cX12_findAnswers 148 = .ok (.iinc 1 1, 3) := by decide +kernel
theorem dX12_findAnswers_151 : decode cX12_findAnswers 151 = .ok (.goto (-93), 3) := by decide +kernel
theorem dX12_findAnswers_154 : decode cX12_findAnswers 154 = .ok (.return_, 1) := by decide +kernel
theorem dX12_keptBy_0 : decode cX12_keptBy 0 = .ok (.iconst 0, 1) := by decide +kernel
theorem dX12_keptBy_1 : decode cX12_keptBy 1 = .ok (.istore_n 1, 1) := by decide +kernel
theorem dX12_keptBy_2 : decode cX12_keptBy 2 = .ok (.iconst 0, 1) := by decide +kernel
theorem dX12_keptBy_3 : decode cX12_keptBy 3 = .ok (.istore_n 2, 1) := by decide +kernel
theorem dX12_keptBy_4 : decode cX12_keptBy 4 = .ok (.iload_n 2, 1) := by decide +kernel
theorem dX12_keptBy_5 : decode cX12_keptBy 5 = .ok (.sipush 1536, 3) := by decide +kernel
theorem dX12_keptBy_8 : decode cX12_keptBy 8 = .ok (.if_icmp .ge 193, 3) := by decide +kernel
theorem dX12_keptBy_11 : decode cX12_keptBy 11 = .ok (.aload_n 0, 1) := by decide +kernel
theorem dX12_keptBy_12 : decode cX12_keptBy 12 = .ok (.getfield 159, 3) := by decide +kernel
theorem dX12_keptBy_15 : decode cX12_keptBy 15 = .ok (.iload_n 2, 1) := by decide +kernel
theorem dX12_keptBy_16 : decode cX12_keptBy 16 = .ok (.iaload, 1) := by decide +kernel
theorem dX12_keptBy_17 : decode cX12_keptBy 17 = .ok (.istore_n 3, 1) := by decide +kernel
theorem dX12_keptBy_18 : decode cX12_keptBy 18 = .ok (.aload_n 0, 1) := by decide +kernel
theorem dX12_keptBy_19 : decode cX12_keptBy 19 = .ok (.getfield 162, 3) := by decide +kernel
theorem dX12_keptBy_22 : decode cX12_keptBy 22 = .ok (.iload_n 2, 1) := by decide +kernel
theorem dX12_keptBy_23 : decode cX12_keptBy 23 = .ok (.iaload, 1) := by decide +kernel
theorem dX12_keptBy_24 : decode cX12_keptBy 24 = .ok (.istore 4, 2) := by decide +kernel
theorem dX12_keptBy_26 : decode cX12_keptBy 26 = .ok (.iconst 0, 1) := by decide +kernel
theorem dX12_keptBy_27 : decode cX12_keptBy 27 = .ok (.istore 5, 2) := by decide +kernel
theorem dX12_keptBy_29 : decode cX12_keptBy 29 = .ok (.iload 5, 2) := by decide +kernel
theorem dX12_keptBy_31 : decode cX12_keptBy 31 = .ok (.iconst 5, 1) := by decide +kernel
theorem dX12_keptBy_32 : decode cX12_keptBy 32 = .ok (.if_icmp .ge 113, 3) := by decide +kernel
theorem dX12_keptBy_35 : decode cX12_keptBy 35 = .ok (.iconst 3, 1) := by decide +kernel
theorem dX12_keptBy_36 : decode cX12_keptBy 36 = .ok (.iload 5, 2) := by decide +kernel
theorem dX12_keptBy_38 : decode cX12_keptBy 38 = .ok (.imul, 1) := by decide +kernel
theorem dX12_keptBy_39 : decode cX12_keptBy 39 = .ok (.aload_n 0, 1) := by decide +kernel
theorem dX12_keptBy_40 : decode cX12_keptBy 40 = .ok (.getfield 168, 3) := by decide +kernel
theorem dX12_keptBy_43 : decode cX12_keptBy 43 = .ok (.iload 5, 2) := by decide +kernel
theorem dX12_keptBy_45 : decode cX12_keptBy 45 = .ok (.iaload, 1) := by decide +kernel
theorem dX12_keptBy_46 : decode cX12_keptBy 46 = .ok (.iadd, 1) := by decide +kernel
theorem dX12_keptBy_47 : decode cX12_keptBy 47 = .ok (.istore 6, 2) := by decide +kernel
theorem dX12_keptBy_49 : decode cX12_keptBy 49 = .ok (.aload_n 0, 1) := by decide +kernel
theorem dX12_keptBy_50 : decode cX12_keptBy 50 = .ok (.getfield 114, 3) := by decide +kernel
theorem dX12_keptBy_53 : decode cX12_keptBy 53 = .ok (.iload 5, 2) := by decide +kernel
theorem dX12_keptBy_55 : decode cX12_keptBy 55 = .ok (.iaload, 1) := by decide +kernel
theorem dX12_keptBy_56 : decode cX12_keptBy 56 = .ok (.ifCond .le 83, 3) := by decide +kernel
theorem dX12_keptBy_59 : decode cX12_keptBy 59 = .ok (.aload_n 0, 1) := by decide +kernel
theorem dX12_keptBy_60 : decode cX12_keptBy 60 = .ok (.getfield 117, 3) := by decide +kernel
theorem dX12_keptBy_63 : decode cX12_keptBy 63 = .ok (.iload 6, 2) := by decide +kernel
theorem dX12_keptBy_65 : decode cX12_keptBy 65 = .ok (.iaload, 1) := by decide +kernel
theorem dX12_keptBy_66 : decode cX12_keptBy 66 = .ok (.iload 4, 2) := by decide +kernel
theorem dX12_keptBy_68 : decode cX12_keptBy 68 = .ok (.if_icmp .lt 71, 3) := by decide +kernel
theorem dX12_keptBy_71 : decode cX12_keptBy 71 = .ok (.aload_n 0, 1) := by decide +kernel
theorem dX12_keptBy_72 : decode cX12_keptBy 72 = .ok (.bipush 80, 2) := by decide +kernel
theorem dX12_keptBy_74 : decode cX12_keptBy 74 = .ok (.iload 6, 2) := by decide +kernel
theorem dX12_keptBy_76 : decode cX12_keptBy 76 = .ok (.iadd, 1) := by decide +kernel
theorem dX12_keptBy_77 : decode cX12_keptBy 77 = .ok (.iload_n 2, 1) := by decide +kernel
theorem dX12_keptBy_78 : decode cX12_keptBy 78 = .ok (.invokevirtual 249, 3) := by decide +kernel
theorem dX12_keptBy_81 : decode cX12_keptBy 81 = .ok (.ifCond .eq 58, 3) := by decide +kernel
theorem dX12_keptBy_84 : decode cX12_keptBy 84 = .ok (.aload_n 0, 1) := by decide +kernel
theorem dX12_keptBy_85 : decode cX12_keptBy 85 = .ok (.getfield 117, 3) := by decide +kernel
theorem dX12_keptBy_88 : decode cX12_keptBy 88 = .ok (.iload 6, 2) := by decide +kernel
theorem dX12_keptBy_90 : decode cX12_keptBy 90 = .ok (.iaload, 1) := by decide +kernel
theorem dX12_keptBy_91 : decode cX12_keptBy 91 = .ok (.iload 4, 2) := by decide +kernel
theorem dX12_keptBy_93 : decode cX12_keptBy 93 = .ok (.if_icmp .le 16, 3) := by decide +kernel
theorem dX12_keptBy_96 : decode cX12_keptBy 96 = .ok (.aload_n 0, 1) := by decide +kernel
theorem dX12_keptBy_97 : decode cX12_keptBy 97 = .ok (.getfield 13, 3) := by decide +kernel
theorem dX12_keptBy_100 : decode cX12_keptBy 100 = .ok (.bipush 80, 2) := by decide +kernel
theorem dX12_keptBy_102 : decode cX12_keptBy 102 = .ok (.iload 6, 2) := by decide +kernel
theorem dX12_keptBy_104 : decode cX12_keptBy 104 = .ok (.iadd, 1) := by decide +kernel
theorem dX12_keptBy_105 : decode cX12_keptBy 105 = .ok (.iaload, 1) := by decide +kernel
theorem dX12_keptBy_106 : decode cX12_keptBy 106 = .ok (.goto 23, 3) := by decide +kernel
theorem dX12_keptBy_109 : decode cX12_keptBy 109 = .ok (.iload_n 3, 1) := by decide +kernel
theorem dX12_keptBy_110 : decode cX12_keptBy 110 = .ok (.aload_n 0, 1) := by decide +kernel
theorem dX12_keptBy_111 : decode cX12_keptBy 111 = .ok (.getfield 13, 3) := by decide +kernel
theorem dX12_keptBy_114 : decode cX12_keptBy 114 = .ok (.bipush 80, 2) := by decide +kernel
theorem dX12_keptBy_116 : decode cX12_keptBy 116 = .ok (.iload 6, 2) := by decide +kernel
theorem dX12_keptBy_118 : decode cX12_keptBy 118 = .ok (.iadd, 1) := by decide +kernel
theorem dX12_keptBy_119 : decode cX12_keptBy 119 = .ok (.iaload, 1) := by decide +kernel
theorem dX12_keptBy_120 : decode cX12_keptBy 120 = .ok (.if_icmp .ne 7, 3) := by decide +kernel
theorem dX12_keptBy_123 : decode cX12_keptBy 123 = .ok (.iload_n 3, 1) := by decide +kernel
theorem dX12_keptBy_124 : decode cX12_keptBy 124 = .ok (.goto 5, 3) := by decide +kernel
theorem dX12_keptBy_127 : decode cX12_keptBy 127 = .ok (.bipush (-2), 2) := by decide +kernel
theorem dX12_keptBy_129 : decode cX12_keptBy 129 = .ok (.istore_n 3, 1) := by decide +kernel
theorem dX12_keptBy_130 : decode cX12_keptBy 130 = .ok (.aload_n 0, 1) := by decide +kernel
theorem dX12_keptBy_131 : decode cX12_keptBy 131 = .ok (.getfield 117, 3) := by decide +kernel
theorem dX12_keptBy_134 : decode cX12_keptBy 134 = .ok (.iload 6, 2) := by decide +kernel
theorem dX12_keptBy_136 : decode cX12_keptBy 136 = .ok (.iaload, 1) := by decide +kernel
theorem dX12_keptBy_137 : decode cX12_keptBy 137 = .ok (.istore 4, 2) := by decide +kernel
theorem dX12_keptBy_139 : decode cX12_keptBy 139 = .ok (.iinc 5 1, 3) := by decide +kernel
theorem dX12_keptBy_142 : decode cX12_keptBy 142 = .ok (.goto (-113), 3) := by decide +kernel
theorem dX12_keptBy_145 : decode cX12_keptBy 145 = .ok (.iconst 0, 1) := by decide +kernel
theorem dX12_keptBy_146 : decode cX12_keptBy 146 = .ok (.istore 5, 2) := by decide +kernel
theorem dX12_keptBy_148 : decode cX12_keptBy 148 = .ok (.iload 5, 2) := by decide +kernel
theorem dX12_keptBy_150 : decode cX12_keptBy 150 = .ok (.iconst 5, 1) := by decide +kernel
theorem dX12_keptBy_151 : decode cX12_keptBy 151 = .ok (.if_icmp .ge 44, 3) := by decide +kernel
theorem dX12_keptBy_154 : decode cX12_keptBy 154 = .ok (.iload_n 3, 1) := by decide +kernel
theorem dX12_keptBy_155 : decode cX12_keptBy 155 = .ok (.ifCond .lt 40, 3) := by decide +kernel
theorem dX12_keptBy_158 : decode cX12_keptBy 158 = .ok (.iload_n 1, 1) := by decide +kernel
theorem dX12_keptBy_159 : decode cX12_keptBy 159 = .ok (.aload_n 0, 1) := by decide +kernel
theorem dX12_keptBy_160 : decode cX12_keptBy 160 = .ok (.getfield 156, 3) := by decide +kernel
theorem dX12_keptBy_163 : decode cX12_keptBy 163 = .ok (.sipush 1536, 3) := by decide +kernel
theorem dX12_keptBy_166 : decode cX12_keptBy 166 = .ok (.iload 5, 2) := by decide +kernel
theorem dX12_keptBy_168 : decode cX12_keptBy 168 = .ok (.imul, 1) := by decide +kernel
theorem dX12_keptBy_169 : decode cX12_keptBy 169 = .ok (.iload_n 2, 1) := by decide +kernel
theorem dX12_keptBy_170 : decode cX12_keptBy 170 = .ok (.iadd, 1) := by decide +kernel
theorem dX12_keptBy_171 : decode cX12_keptBy 171 = .ok (.iaload, 1) := by decide +kernel
theorem dX12_keptBy_172 : decode cX12_keptBy 172 = .ok (.iload_n 3, 1) := by decide +kernel
theorem dX12_keptBy_173 : decode cX12_keptBy 173 = .ok (.if_icmp .ne 13, 3) := by decide +kernel
theorem dX12_keptBy_176 : decode cX12_keptBy 176 = .ok (.aload_n 0, 1) := by decide +kernel
theorem dX12_keptBy_177 : decode cX12_keptBy 177 = .ok (.getfield 165, 3) := by decide +kernel
theorem dX12_keptBy_180 : decode cX12_keptBy 180 = .ok (.iload 5, 2) := by decide +kernel
theorem dX12_keptBy_182 : decode cX12_keptBy 182 = .ok (.iaload, 1) := by decide +kernel
theorem dX12_keptBy_183 : decode cX12_keptBy 183 = .ok (.goto 4, 3) := by decide +kernel
theorem dX12_keptBy_186 : decode cX12_keptBy 186 = .ok (.iconst 0, 1) := by decide +kernel
theorem dX12_keptBy_187 : decode cX12_keptBy 187 = .ok (.iadd, 1) := by decide +kernel
theorem dX12_keptBy_188 : decode cX12_keptBy 188 = .ok (.istore_n 1, 1) := by decide +kernel
theorem dX12_keptBy_189 : decode cX12_keptBy 189 = .ok (.iinc 5 1, 3) := by decide +kernel
theorem dX12_keptBy_192 : decode cX12_keptBy 192 = .ok (.goto (-44), 3) := by decide +kernel
theorem dX12_keptBy_195 : decode cX12_keptBy 195 = .ok (.iinc 2 1, 3) := by decide +kernel
theorem dX12_keptBy_198 : decode cX12_keptBy 198 = .ok (.goto (-194), 3) := by decide +kernel
theorem dX12_keptBy_201 : decode cX12_keptBy 201 = .ok (.iload_n 1, 1) := by decide +kernel
theorem dX12_keptBy_202 : decode cX12_keptBy 202 = .ok (.ireturn, 1) := by decide +kernel
theorem dX12_keeps_0 : decode cX12_keeps 0 = .ok (.iload_n 1, 1) := by decide +kernel
theorem dX12_keeps_1 : decode cX12_keeps 1 = .ok (.istore_n 2, 1) := by decide +kernel
theorem dX12_keeps_2 : decode cX12_keeps 2 = .ok (.iload_n 1, 1) := by decide +kernel
theorem dX12_keeps_3 : decode cX12_keeps 3 = .ok (.iconst 0, 1) := by decide +kernel
theorem dX12_keeps_4 : decode cX12_keeps 4 = .ok (.sipush 1023, 3) := by decide +kernel
theorem dX12_keeps_7 : decode cX12_keeps 7 = .ok (.invokestatic 177, 3) := by decide +kernel
theorem dX12_keeps_10 : decode cX12_keeps 10 = .ok (.ifCond .ne 6, 3) := by decide +kernel
theorem dX12_keeps_13 : decode cX12_keeps 13 = .ok (.bipush (-5), 2) := by decide +kernel
theorem dX12_keeps_15 : decode cX12_keeps 15 = .ok (.ireturn, 1) := by decide +kernel
theorem dX12_keeps_16 : decode cX12_keeps 16 = .ok (.iconst 0, 1) := by decide +kernel
theorem dX12_keeps_17 : decode cX12_keeps 17 = .ok (.istore_n 3, 1) := by decide +kernel
theorem dX12_keeps_18 : decode cX12_keeps 18 = .ok (.iload_n 3, 1) := by decide +kernel
theorem dX12_keeps_19 : decode cX12_keeps 19 = .ok (.iconst 5, 1) := by decide +kernel
theorem dX12_keeps_20 : decode cX12_keeps 20 = .ok (.if_icmp .ge 61, 3) := by decide +kernel
theorem dX12_keeps_23 : decode cX12_keeps 23 = .ok (.aload_n 0, 1) := by decide +kernel
theorem dX12_keeps_24 : decode cX12_keeps 24 = .ok (.getfield 168, 3) := by decide +kernel
theorem dX12_keeps_27 : decode cX12_keeps 27 = .ok (.iload_n 3, 1) := by decide +kernel
theorem dX12_keeps_28 : decode cX12_keeps 28 = .ok (.iload_n 2, 1) := by decide +kernel
theorem dX12_keeps_29 : decode cX12_keeps 29 = .ok (.iconst 4, 1) := by decide +kernel
theorem dX12_keeps_30 : decode cX12_keeps 30 = .ok (.irem, 1) := by decide +kernel
theorem dX12_keeps_31 : decode cX12_keeps 31 = .ok (.iastore, 1) := by decide +kernel
theorem dX12_keeps_32 : decode cX12_keeps 32 = .ok (.iload_n 2, 1) := by decide +kernel
theorem dX12_keeps_33 : decode cX12_keeps 33 = .ok (.iconst 4, 1) := by decide +kernel
theorem dX12_keeps_34 : decode cX12_keeps 34 = .ok (.idiv, 1) := by decide +kernel
theorem dX12_keeps_35 : decode cX12_keeps 35 = .ok (.istore_n 2, 1) := by decide +kernel
theorem dX12_keeps_36 : decode cX12_keeps 36 = .ok (.aload_n 0, 1) := by decide +kernel
theorem dX12_keeps_37 : decode cX12_keeps 37 = .ok (.getfield 114, 3) := by decide +kernel
theorem dX12_keeps_40 : decode cX12_keeps 40 = .ok (.iload_n 3, 1) := by decide +kernel
theorem dX12_keeps_41 : decode cX12_keeps 41 = .ok (.iaload, 1) := by decide +kernel
theorem dX12_keeps_42 : decode cX12_keeps 42 = .ok (.ifCond .le 21, 3) := by decide +kernel
theorem dX12_keeps_45 : decode cX12_keeps 45 = .ok (.aload_n 0, 1) := by decide +kernel
theorem dX12_keeps_46 : decode cX12_keeps 46 = .ok (.getfield 168, 3) := by decide +kernel
theorem dX12_keeps_49 : decode cX12_keeps 49 = .ok (.iload_n 3, 1) := by decide +kernel
theorem dX12_keeps_50 : decode cX12_keeps 50 = .ok (.iaload, 1) := by decide +kernel
theorem dX12_keeps_51 : decode cX12_keeps 51 = .ok (.aload_n 0, 1) := by decide +kernel
theorem dX12_keeps_52 : decode cX12_keeps 52 = .ok (.getfield 114, 3) := by decide +kernel
theorem dX12_keeps_55 : decode cX12_keeps 55 = .ok (.iload_n 3, 1) := by decide +kernel
theorem dX12_keeps_56 : decode cX12_keeps 56 = .ok (.iaload, 1) := by decide +kernel
theorem dX12_keeps_57 : decode cX12_keeps 57 = .ok (.if_icmp .lt 18, 3) := by decide +kernel
theorem dX12_keeps_60 : decode cX12_keeps 60 = .ok (.goto 12, 3) := by decide +kernel
theorem dX12_keeps_63 : decode cX12_keeps 63 = .ok (.aload_n 0, 1) := by decide +kernel
theorem dX12_keeps_64 : decode cX12_keeps 64 = .ok (.getfield 168, 3) := by decide +kernel
theorem dX12_keeps_67 : decode cX12_keeps 67 = .ok (.iload_n 3, 1) := by decide +kernel
theorem dX12_keeps_68 : decode cX12_keeps 68 = .ok (.iaload, 1) := by decide +kernel
theorem dX12_keeps_69 : decode cX12_keeps 69 = .ok (.ifCond .le 6, 3) := by decide +kernel
theorem dX12_keeps_72 : decode cX12_keeps 72 = .ok (.bipush (-5), 2) := by decide +kernel
theorem dX12_keeps_74 : decode cX12_keeps 74 = .ok (.ireturn, 1) := by decide +kernel
theorem dX12_keeps_75 : decode cX12_keeps 75 = .ok (.iinc 3 1, 3) := by decide +kernel
theorem dX12_keeps_78 : decode cX12_keeps 78 = .ok (.goto (-60), 3) := by decide +kernel
theorem dX12_keeps_81 : decode cX12_keeps 81 = .ok (.aload_n 0, 1) := by decide +kernel
theorem dX12_keeps_82 : decode cX12_keeps 82 = .ok (.invokevirtual 340, 3) := by decide +kernel
theorem dX12_keeps_85 : decode cX12_keeps 85 = .ok (.aload_n 0, 1) := by decide +kernel
theorem dX12_keeps_86 : decode cX12_keeps 86 = .ok (.invokevirtual 343, 3) := by decide +kernel
theorem dX12_keeps_89 : decode cX12_keeps 89 = .ok (.ireturn, 1) := by decide +kernel
theorem dX12_near_0 : decode cX12_near 0 = .ok (.iload_n 1, 1) := by decide +kernel
theorem dX12_near_1 : decode cX12_near 1 = .ok (.iconst 0, 1) := by decide +kernel
theorem dX12_near_2 : decode cX12_near 2 = .ok (.iconst 1, 1) := by decide +kernel
theorem dX12_near_3 : decode cX12_near 3 = .ok (.invokestatic 177, 3) := by decide +kernel
theorem dX12_near_6 : decode cX12_near 6 = .ok (.ifCond .ne 5, 3) := by decide +kernel
theorem dX12_near_9 : decode cX12_near 9 = .ok (.iconst (-1), 1) := by decide +kernel
theorem dX12_near_10 : decode cX12_near 10 = .ok (.ireturn, 1) := by decide +kernel
theorem dX12_near_11 : decode cX12_near 11 = .ok (.aload_n 0, 1) := by decide +kernel
theorem dX12_near_12 : decode cX12_near 12 = .ok (.invokevirtual 340, 3) := by decide +kernel
theorem dX12_near_15 : decode cX12_near 15 = .ok (.iconst 0, 1) := by decide +kernel
theorem dX12_near_16 : decode cX12_near 16 = .ok (.istore_n 2, 1) := by decide +kernel
theorem dX12_near_17 : decode cX12_near 17 = .ok (.iload_n 2, 1) := by decide +kernel
theorem dX12_near_18 : decode cX12_near 18 = .ok (.iconst 5, 1) := by decide +kernel
theorem dX12_near_19 : decode cX12_near 19 = .ok (.if_icmp .ge 16, 3) := by decide +kernel
theorem dX12_near_22 : decode cX12_near 22 = .ok (.aload_n 0, 1) := by decide +kernel
theorem dX12_near_23 : decode cX12_near 23 = .ok (.getfield 168, 3) := by decide +kernel
theorem dX12_near_26 : decode cX12_near 26 = .ok (.iload_n 2, 1) := by decide +kernel
theorem dX12_near_27 : decode cX12_near 27 = .ok (.iconst 0, 1) := by decide +kernel
theorem dX12_near_28 : decode cX12_near 28 = .ok (.iastore, 1) := by decide +kernel
theorem dX12_near_29 : decode cX12_near 29 = .ok (.iinc 2 1, 3) := by decide +kernel
theorem dX12_near_32 : decode cX12_near 32 = .ok (.goto (-15), 3) := by decide +kernel
theorem dX12_near_35 : decode cX12_near 35 = .ok (.iconst (-1), 1) := by decide +kernel
theorem dX12_near_36 : decode cX12_near 36 = .ok (.istore_n 2, 1) := by decide +kernel
theorem dX12_near_37 : decode cX12_near 37 = .ok (.iconst (-1), 1) := by decide +kernel
theorem dX12_near_38 : decode cX12_near 38 = .ok (.istore_n 3, 1) := by decide +kernel
theorem dX12_near_39 : decode cX12_near 39 = .ok (.iconst 1, 1) := by decide +kernel
theorem dX12_near_40 : decode cX12_near 40 = .ok (.istore 4, 2) := by decide +kernel
theorem dX12_near_42 : decode cX12_near 42 = .ok (.iload 4, 2) := by decide +kernel
theorem dX12_near_44 : decode cX12_near 44 = .ok (.ifCond .eq 137, 3) := by decide +kernel
theorem dX12_near_47 : decode cX12_near 47 = .ok (.aload_n 0, 1) := by decide +kernel
theorem dX12_near_48 : decode cX12_near 48 = .ok (.invokevirtual 343, 3) := by decide +kernel
theorem dX12_near_51 : decode cX12_near 51 = .ok (.istore 5, 2) := by decide +kernel
theorem dX12_near_53 : decode cX12_near 53 = .ok (.iload 5, 2) := by decide +kernel
theorem dX12_near_55 : decode cX12_near 55 = .ok (.iload_n 3, 1) := by decide +kernel
theorem dX12_near_56 : decode cX12_near 56 = .ok (.if_icmp .le 53, 3) := by decide +kernel
theorem dX12_near_59 : decode cX12_near 59 = .ok (.iload 5, 2) := by decide +kernel
theorem dX12_near_61 : decode cX12_near 61 = .ok (.istore_n 3, 1) := by decide +kernel
theorem dX12_near_62 : decode cX12_near 62 = .ok (.aload_n 0, 1) := by decide +kernel
theorem dX12_near_63 : decode cX12_near 63 = .ok (.getfield 168, 3) := by decide +kernel
theorem dX12_near_66 : decode cX12_near 66 = .ok (.iconst 0, 1) := by decide +kernel
theorem dX12_near_67 : decode cX12_near 67 = .ok (.iaload, 1) := by decide +kernel
theorem dX12_near_68 : decode cX12_near 68 = .ok (.iconst 4, 1) := by decide +kernel
theorem dX12_near_69 : decode cX12_near 69 = .ok (.aload_n 0, 1) := by decide +kernel
theorem dX12_near_70 : decode cX12_near 70 = .ok (.getfield 168, 3) := by decide +kernel
theorem dX12_near_73 : decode cX12_near 73 = .ok (.iconst 1, 1) := by decide +kernel
theorem dX12_near_74 : decode cX12_near 74 = .ok (.iaload, 1) := by decide +kernel
theorem dX12_near_75 : decode cX12_near 75 = .ok (.imul, 1) := by decide +kernel
theorem dX12_near_76 : decode cX12_near 76 = .ok (.iadd, 1) := by decide +kernel
theorem dX12_near_77 : decode cX12_near 77 = .ok (.bipush 16, 2) := by decide +kernel
theorem dX12_near_79 : decode cX12_near 79 = .ok (.aload_n 0, 1) := by decide +kernel
theorem dX12_near_80 : decode cX12_near 80 = .ok (.getfield 168, 3) := by decide +kernel
theorem dX12_near_83 : decode cX12_near 83 = .ok (.iconst 2, 1) := by decide +kernel
theorem dX12_near_84 : decode cX12_near 84 = .ok (.iaload, 1) := by decide +kernel
theorem dX12_near_85 : decode cX12_near 85 = .ok (.imul, 1) := by decide +kernel
theorem dX12_near_86 : decode cX12_near 86 = .ok (.iadd, 1) := by decide +kernel
theorem dX12_near_87 : decode cX12_near 87 = .ok (.bipush 64, 2) := by decide +kernel
theorem dX12_near_89 : decode cX12_near 89 = .ok (.aload_n 0, 1) := by decide +kernel
theorem dX12_near_90 : decode cX12_near 90 = .ok (.getfield 168, 3) := by decide +kernel
theorem dX12_near_93 : decode cX12_near 93 = .ok (.iconst 3, 1) := by decide +kernel
theorem dX12_near_94 : decode cX12_near 94 = .ok (.iaload, 1) := by decide +kernel
theorem dX12_near_95 : decode cX12_near 95 = .ok (.imul, 1) := by decide +kernel
theorem dX12_near_96 : decode cX12_near 96 = .ok (.iadd, 1) := by decide +kernel
theorem dX12_near_97 : decode cX12_near 97 = .ok (.sipush 256, 3) := by decide +kernel
theorem dX12_near_100 : decode cX12_near 100 = .ok (.aload_n 0, 1) := by decide +kernel
theorem dX12_near_101 : decode cX12_near 101 = .ok (.getfield 168, 3) := by decide +kernel
theorem dX12_near_104 : decode cX12_near 104 = .ok (.iconst 4, 1) := by decide +kernel
theorem dX12_near_105 : decode cX12_near 105 = .ok (.iaload, 1) := by decide +kernel
theorem dX12_near_106 : decode cX12_near 106 = .ok (.imul, 1) := by decide +kernel
theorem dX12_near_107 : decode cX12_near 107 = .ok (.iadd, 1) := by decide +kernel
theorem dX12_near_108 : decode cX12_near 108 = .ok (.istore_n 2, 1) := by decide +kernel
theorem dX12_near_109 : decode cX12_near 109 = .ok (.iconst 4, 1) := by decide +kernel
theorem dX12_near_110 : decode cX12_near 110 = .ok (.istore 6, 2) := by decide +kernel
theorem dX12_near_112 : decode cX12_near 112 = .ok (.iload 6, 2) := by decide +kernel
theorem dX12_near_114 : decode cX12_near 114 = .ok (.ifCond .lt 36, 3) := by decide +kernel
theorem dX12_near_117 : decode cX12_near 117 = .ok (.aload_n 0, 1) := by decide +kernel
theorem dX12_near_118 : decode cX12_near 118 = .ok (.getfield 168, 3) := by decide +kernel
theorem dX12_near_121 : decode cX12_near 121 = .ok (.iload 6, 2) := by decide +kernel
theorem dX12_near_123 : decode cX12_near 123 = .ok (.iaload, 1) := by decide +kernel
theorem dX12_near_124 : decode cX12_near 124 = .ok (.iconst 1, 1) := by decide +kernel
theorem dX12_near_125 : decode cX12_near 125 = .ok (.iadd, 1) := by decide +kernel
theorem dX12_near_126 : decode cX12_near 126 = .ok (.aload_n 0, 1) := by decide +kernel
theorem dX12_near_127 : decode cX12_near 127 = .ok (.getfield 114, 3) := by decide +kernel
theorem dX12_near_130 : decode cX12_near 130 = .ok (.iload 6, 2) := by decide +kernel
theorem dX12_near_132 : decode cX12_near 132 = .ok (.iaload, 1) := by decide +kernel
theorem dX12_near_133 : decode cX12_near 133 = .ok (.if_icmp .lt 17, 3) := by decide +kernel
theorem dX12_near_136 : decode cX12_near 136 = .ok (.aload_n 0, 1) := by decide +kernel
theorem dX12_near_137 : decode cX12_near 137 = .ok (.getfield 168, 3) := by decide +kernel
theorem dX12_near_140 : decode cX12_near 140 = .ok (.iload 6, 2) := by decide +kernel
theorem dX12_near_142 : decode cX12_near 142 = .ok (.iconst 0, 1) := by decide +kernel
theorem dX12_near_143 : decode cX12_near 143 = .ok (.iastore, 1) := by decide +kernel
theorem dX12_near_144 : decode cX12_near 144 = .ok (.iinc 6 (-1), 3) := by decide +kernel
theorem dX12_near_147 : decode cX12_near 147 = .ok (.goto (-35), 3) := by decide +kernel
theorem dX12_near_150 : decode cX12_near 150 = .ok (.iload 6, 2) := by decide +kernel
theorem dX12_near_152 : decode cX12_near 152 = .ok (.ifCond .lt 7, 3) := by decide +kernel
theorem dX12_near_155 : decode cX12_near 155 = .ok (.iconst 1, 1) := by decide +kernel
theorem dX12_near_156 : decode cX12_near 156 = .ok (.goto 4, 3) := by decide +kernel
theorem dX12_near_159 : decode cX12_near 159 = .ok (.iconst 0, 1) := by decide +kernel
theorem dX12_near_160 : decode cX12_near 160 = .ok (.istore 4, 2) := by decide +kernel
theorem dX12_near_162 : decode cX12_near 162 = .ok (.iload 4, 2) := by decide +kernel
theorem dX12_near_164 : decode cX12_near 164 = .ok (.ifCond .eq 14, 3) := by decide +kernel
theorem dX12_near_167 : decode cX12_near 167 = .ok (.aload_n 0, 1) := by decide +kernel
theorem dX12_near_168 : decode cX12_near 168 = .ok (.getfield 168, 3) := by decide +kernel
theorem dX12_near_171 : decode cX12_near 171 = .ok (.iload 6, 2) := by decide +kernel
theorem dX12_near_173 : decode cX12_near 173 = .ok (.dup2, 1) := by decide +kernel
theorem dX12_near_174 : decode cX12_near 174 = .ok (.iaload, 1) := by decide +kernel
theorem dX12_near_175 : decode cX12_near 175 = .ok (.iconst 1, 1) := by decide +kernel
theorem dX12_near_176 : decode cX12_near 176 = .ok (.iadd, 1) := by decide +kernel
theorem dX12_near_177 : decode cX12_near 177 = .ok (.iastore, 1) := by decide +kernel
theorem dX12_near_178 : decode cX12_near 178 = .ok (.goto (-136), 3) := by decide +kernel
theorem dX12_near_181 : decode cX12_near 181 = .ok (.iload_n 1, 1) := by decide +kernel
theorem dX12_near_182 : decode cX12_near 182 = .ok (.ifCond .ne 7, 3) := by decide +kernel
theorem dX12_near_185 : decode cX12_near 185 = .ok (.iload_n 2, 1) := by decide +kernel
theorem dX12_near_186 : decode cX12_near 186 = .ok (.goto 4, 3) := by decide +kernel
theorem dX12_near_189 : decode cX12_near 189 = .ok (.iload_n 3, 1) := by decide +kernel
theorem dX12_near_190 : decode cX12_near 190 = .ok (.ireturn, 1) := by decide +kernel
theorem dX12_line_0 : decode cX12_line 0 = .ok (.iload_n 1, 1) := by decide +kernel
theorem dX12_line_1 : decode cX12_line 1 = .ok (.iconst 0, 1) := by decide +kernel
theorem dX12_line_2 : decode cX12_line 2 = .ok (.bipush 99, 2) := by decide +kernel
theorem dX12_line_4 : decode cX12_line 4 = .ok (.invokestatic 177, 3) := by decide +kernel
theorem dX12_line_7 : decode cX12_line 7 = .ok (.ifCond .ne 6, 3) := by decide +kernel
theorem dX12_line_10 : decode cX12_line 10 = .ok (.bipush (-2), 2) := by decide +kernel
theorem dX12_line_12 : decode cX12_line 12 = .ok (.ireturn, 1) := by decide +kernel
theorem dX12_line_13 : decode cX12_line 13 = .ok (.aload_n 0, 1) := by decide +kernel
theorem dX12_line_14 : decode cX12_line 14 = .ok (.getfield 346, 3) := by decide +kernel
theorem dX12_line_17 : decode cX12_line 17 = .ok (.bipush 7, 2) := by decide +kernel
theorem dX12_line_19 : decode cX12_line 19 = .ok (.if_icmp .ne 6, 3) := by decide +kernel
theorem dX12_line_22 : decode cX12_line 22 = .ok (.bipush (-4), 2) := by decide +kernel
theorem dX12_line_24 : decode cX12_line 24 = .ok (.ireturn, 1) := by decide +kernel
theorem dX12_line_25 : decode cX12_line 25 = .ok (.aload_n 0, 1) := by decide +kernel
theorem dX12_line_26 : decode cX12_line 26 = .ok (.getfield 120, 3) := by decide +kernel
theorem dX12_line_29 : decode cX12_line 29 = .ok (.aload_n 0, 1) := by decide +kernel
theorem dX12_line_30 : decode cX12_line 30 = .ok (.getfield 346, 3) := by decide +kernel
theorem dX12_line_33 : decode cX12_line 33 = .ok (.iload_n 1, 1) := by decide +kernel
theorem dX12_line_34 : decode cX12_line 34 = .ok (.iastore, 1) := by decide +kernel
theorem dX12_line_35 : decode cX12_line 35 = .ok (.aload_n 0, 1) := by decide +kernel
theorem dX12_line_36 : decode cX12_line 36 = .ok (.dup, 1) := by decide +kernel
theorem dX12_line_37 : decode cX12_line 37 = .ok (.getfield 346, 3) := by decide +kernel
theorem dX12_line_40 : decode cX12_line 40 = .ok (.iconst 1, 1) := by decide +kernel
theorem dX12_line_41 : decode cX12_line 41 = .ok (.iadd, 1) := by decide +kernel
theorem dX12_line_42 : decode cX12_line 42 = .ok (.putfield 346, 3) := by decide +kernel
theorem dX12_line_45 : decode cX12_line 45 = .ok (.aload_n 0, 1) := by decide +kernel
theorem dX12_line_46 : decode cX12_line 46 = .ok (.getfield 346, 3) := by decide +kernel
theorem dX12_line_49 : decode cX12_line 49 = .ok (.iconst 1, 1) := by decide +kernel
theorem dX12_line_50 : decode cX12_line 50 = .ok (.isub, 1) := by decide +kernel
theorem dX12_line_51 : decode cX12_line 51 = .ok (.ireturn, 1) := by decide +kernel
theorem dX12_section_0 : decode cX12_section 0 = .ok (.aload_n 0, 1) := by decide +kernel
theorem dX12_section_1 : decode cX12_section 1 = .ok (.getfield 349, 3) := by decide +kernel
theorem dX12_section_4 : decode cX12_section 4 = .ok (.bipush 9, 2) := by decide +kernel
theorem dX12_section_6 : decode cX12_section 6 = .ok (.if_icmp .ne 6, 3) := by decide +kernel
theorem dX12_section_9 : decode cX12_section 9 = .ok (.bipush (-4), 2) := by decide +kernel
theorem dX12_section_11 : decode cX12_section 11 = .ok (.ireturn, 1) := by decide +kernel
theorem dX12_section_12 : decode cX12_section 12 = .ok (.aload_n 0, 1) := by decide +kernel
theorem dX12_section_13 : decode cX12_section 13 = .ok (.dup, 1) := by decide +kernel
theorem dX12_section_14 : decode cX12_section 14 = .ok (.getfield 349, 3) := by decide +kernel
theorem dX12_section_17 : decode cX12_section 17 = .ok (.iconst 1, 1) := by decide +kernel
theorem dX12_section_18 : decode cX12_section 18 = .ok (.iadd, 1) := by decide +kernel
theorem dX12_section_19 : decode cX12_section 19 = .ok (.putfield 349, 3) := by decide +kernel
theorem dX12_section_22 : decode cX12_section 22 = .ok (.aload_n 0, 1) := by decide +kernel
theorem dX12_section_23 : decode cX12_section 23 = .ok (.getfield 349, 3) := by decide +kernel
theorem dX12_section_26 : decode cX12_section 26 = .ok (.iconst 1, 1) := by decide +kernel
theorem dX12_section_27 : decode cX12_section 27 = .ok (.isub, 1) := by decide +kernel
theorem dX12_section_28 : decode cX12_section 28 = .ok (.ireturn, 1) := by decide +kernel
theorem dX12_like_0 : decode cX12_like 0 = .ok (.iload_n 1, 1) := by decide +kernel
theorem dX12_like_1 : decode cX12_like 1 = .ok (.iconst 0, 1) := by decide +kernel
theorem dX12_like_2 : decode cX12_like 2 = .ok (.aload_n 0, 1) := by decide +kernel
theorem dX12_like_3 : decode cX12_like 3 = .ok (.getfield 349, 3) := by decide +kernel
theorem dX12_like_6 : decode cX12_like 6 = .ok (.iconst 1, 1) := by decide +kernel
theorem dX12_like_7 : decode cX12_like 7 = .ok (.isub, 1) := by decide +kernel
theorem dX12_like_8 : decode cX12_like 8 = .ok (.invokestatic 177, 3) := by decide +kernel
theorem dX12_like_11 : decode cX12_like 11 = .ok (.ifCond .eq 28, 3) := by decide +kernel
theorem dX12_like_14 : decode cX12_like 14 = .ok (.iload_n 2, 1) := by decide +kernel
theorem dX12_like_15 : decode cX12_like 15 = .ok (.iconst 0, 1) := by decide +kernel
theorem dX12_like_16 : decode cX12_like 16 = .ok (.aload_n 0, 1) := by decide +kernel
theorem dX12_like_17 : decode cX12_like 17 = .ok (.getfield 346, 3) := by decide +kernel
theorem dX12_like_20 : decode cX12_like 20 = .ok (.iconst 1, 1) := by decide +kernel
theorem dX12_like_21 : decode cX12_like 21 = .ok (.isub, 1) := by decide +kernel
theorem dX12_like_22 : decode cX12_like 22 = .ok (.invokestatic 177, 3) := by decide +kernel
theorem dX12_like_25 : decode cX12_like 25 = .ok (.ifCond .eq 14, 3) := by decide +kernel
theorem dX12_like_28 : decode cX12_like 28 = .ok (.iload_n 3, 1) := by decide +kernel
theorem dX12_like_29 : decode cX12_like 29 = .ok (.bipush (-9), 2) := by decide +kernel
theorem dX12_like_31 : decode cX12_like 31 = .ok (.bipush 9, 2) := by decide +kernel
theorem dX12_like_33 : decode cX12_like 33 = .ok (.invokestatic 177, 3) := by decide +kernel
theorem dX12_like_36 : decode cX12_like 36 = .ok (.ifCond .ne 6, 3) := by decide +kernel
theorem dX12_like_39 : decode cX12_like 39 = .ok (.bipush (-100), 2) := by decide +kernel
theorem dX12_like_41 : decode cX12_like 41 = .ok (.ireturn, 1) := by decide +kernel
theorem dX12_like_42 : decode cX12_like 42 = .ok (.aload_n 0, 1) := by decide +kernel
theorem dX12_like_43 : decode cX12_like 43 = .ok (.getfield 123, 3) := by decide +kernel
theorem dX12_like_46 : decode cX12_like 46 = .ok (.bipush 7, 2) := by decide +kernel
theorem dX12_like_48 : decode cX12_like 48 = .ok (.iload_n 1, 1) := by decide +kernel
theorem dX12_like_49 : decode cX12_like 49 = .ok (.imul, 1) := by decide +kernel
theorem dX12_like_50 : decode cX12_like 50 = .ok (.iload_n 2, 1) := by decide +kernel
theorem dX12_like_51 : decode cX12_like 51 = .ok (.iadd, 1) := by decide +kernel
theorem dX12_like_52 : decode cX12_like 52 = .ok (.iaload, 1) := by decide +kernel
theorem dX12_like_53 : decode cX12_like 53 = .ok (.istore 4, 2) := by decide +kernel
theorem dX12_like_55 : decode cX12_like 55 = .ok (.aload_n 0, 1) := by decide +kernel
theorem dX12_like_56 : decode cX12_like 56 = .ok (.getfield 123, 3) := by decide +kernel
theorem dX12_like_59 : decode cX12_like 59 = .ok (.bipush 7, 2) := by decide +kernel
theorem dX12_like_61 : decode cX12_like 61 = .ok (.iload_n 1, 1) := by decide +kernel
theorem dX12_like_62 : decode cX12_like 62 = .ok (.imul, 1) := by decide +kernel
theorem dX12_like_63 : decode cX12_like 63 = .ok (.iload_n 2, 1) := by decide +kernel
theorem dX12_like_64 : decode cX12_like 64 = .ok (.iadd, 1) := by decide +kernel
theorem dX12_like_65 : decode cX12_like 65 = .ok (.iload_n 3, 1) := by decide +kernel
theorem dX12_like_66 : decode cX12_like 66 = .ok (.iastore, 1) := by decide +kernel
theorem dX12_like_67 : decode cX12_like 67 = .ok (.iload 4, 2) := by decide +kernel
theorem dX12_like_69 : decode cX12_like 69 = .ok (.ireturn, 1) := by decide +kernel
theorem dX12_yesTo_0 : decode cX12_yesTo 0 = .ok (.iconst 0, 1) := by decide +kernel
theorem dX12_yesTo_1 : decode cX12_yesTo 1 = .ok (.istore_n 2, 1) := by decide +kernel
theorem dX12_yesTo_2 : decode cX12_yesTo 2 = .ok (.iconst 0, 1) := by decide +kernel
theorem dX12_yesTo_3 : decode cX12_yesTo 3 = .ok (.istore_n 3, 1) := by decide +kernel
theorem dX12_yesTo_4 : decode cX12_yesTo 4 = .ok (.iload_n 3, 1) := by decide +kernel
theorem dX12_yesTo_5 : decode cX12_yesTo 5 = .ok (.aload_n 0, 1) := by decide +kernel
theorem dX12_yesTo_6 : decode cX12_yesTo 6 = .ok (.getfield 349, 3) := by decide +kernel
theorem dX12_yesTo_9 : decode cX12_yesTo 9 = .ok (.if_icmp .ge 73, 3) := by decide +kernel
theorem dX12_yesTo_12 : decode cX12_yesTo 12 = .ok (.iconst 0, 1) := by decide +kernel
theorem dX12_yesTo_13 : decode cX12_yesTo 13 = .ok (.istore 4, 2) := by decide +kernel
theorem dX12_yesTo_15 : decode cX12_yesTo 15 = .ok (.iconst 0, 1) := by decide +kernel
theorem dX12_yesTo_16 : decode cX12_yesTo 16 = .ok (.istore 5, 2) := by decide +kernel
theorem dX12_yesTo_18 : decode cX12_yesTo 18 = .ok (.iload 5, 2) := by decide +kernel
theorem dX12_yesTo_20 : decode cX12_yesTo 20 = .ok (.aload_n 0, 1) := by decide +kernel
theorem dX12_yesTo_21 : decode cX12_yesTo 21 = .ok (.getfield 346, 3) := by decide +kernel
theorem dX12_yesTo_24 : decode cX12_yesTo 24 = .ok (.if_icmp .ge 39, 3) := by decide +kernel
theorem dX12_yesTo_27 : decode cX12_yesTo 27 = .ok (.iload 4, 2) := by decide +kernel
theorem dX12_yesTo_29 : decode cX12_yesTo 29 = .ok (.iload_n 1, 1) := by decide +kernel
theorem dX12_yesTo_30 : decode cX12_yesTo 30 = .ok (.iload 5, 2) := by decide +kernel
theorem dX12_yesTo_32 : decode cX12_yesTo 32 = .ok (.ishr, 1) := by decide +kernel
theorem dX12_yesTo_33 : decode cX12_yesTo 33 = .ok (.iconst 1, 1) := by decide +kernel
theorem dX12_yesTo_34 : decode cX12_yesTo 34 = .ok (.iand, 1) := by decide +kernel
theorem dX12_yesTo_35 : decode cX12_yesTo 35 = .ok (.ifCond .ne 18, 3) := by decide +kernel
theorem dX12_yesTo_38 : decode cX12_yesTo 38 = .ok (.aload_n 0, 1) := by decide +kernel
theorem dX12_yesTo_39 : decode cX12_yesTo 39 = .ok (.getfield 123, 3) := by decide +kernel
theorem dX12_yesTo_42 : decode cX12_yesTo 42 = .ok (.bipush 7, 2) := by decide +kernel
theorem dX12_yesTo_44 : decode cX12_yesTo 44 = .ok (.iload_n 3, 1) := by decide +kernel
theorem dX12_yesTo_45 : decode cX12_yesTo 45 = .ok (.imul, 1) := by decide +kernel
theorem dX12_yesTo_46 : decode cX12_yesTo 46 = .ok (.iload 5, 2) := by decide +kernel
theorem dX12_yesTo_48 : decode cX12_yesTo 48 = .ok (.iadd, 1) := by decide +kernel
theorem dX12_yesTo_49 : decode cX12_yesTo 49 = .ok (.iaload, 1) := by decide +kernel
theorem dX12_yesTo_50 : decode cX12_yesTo 50 = .ok (.goto 4, 3) := by decide +kernel
theorem dX12_yesTo_53 : decode cX12_yesTo 53 = .ok (.iconst 0, 1) := by decide +kernel
theorem dX12_yesTo_54 : decode cX12_yesTo 54 = .ok (.iadd, 1) := by decide +kernel
theorem dX12_yesTo_55 : decode cX12_yesTo 55 = .ok (.istore 4, 2) := by decide +kernel
theorem dX12_yesTo_57 : decode cX12_yesTo 57 = .ok (.iinc 5 1, 3) := by decide +kernel
theorem dX12_yesTo_60 : decode cX12_yesTo 60 = .ok (.goto (-42), 3) := by decide +kernel
theorem dX12_yesTo_63 : decode cX12_yesTo 63 = .ok (.iload_n 2, 1) := by decide +kernel
theorem dX12_yesTo_64 : decode cX12_yesTo 64 = .ok (.iload 4, 2) := by decide +kernel
theorem dX12_yesTo_66 : decode cX12_yesTo 66 = .ok (.ifCond .lt 7, 3) := by decide +kernel
theorem dX12_yesTo_69 : decode cX12_yesTo 69 = .ok (.iconst 1, 1) := by decide +kernel
theorem dX12_yesTo_70 : decode cX12_yesTo 70 = .ok (.goto 4, 3) := by decide +kernel
theorem dX12_yesTo_73 : decode cX12_yesTo 73 = .ok (.iconst 0, 1) := by decide +kernel
theorem dX12_yesTo_74 : decode cX12_yesTo 74 = .ok (.iadd, 1) := by decide +kernel
theorem dX12_yesTo_75 : decode cX12_yesTo 75 = .ok (.istore_n 2, 1) := by decide +kernel
theorem dX12_yesTo_76 : decode cX12_yesTo 76 = .ok (.iinc 3 1, 3) := by decide +kernel
theorem dX12_yesTo_79 : decode cX12_yesTo 79 = .ok (.goto (-75), 3) := by decide +kernel
theorem dX12_yesTo_82 : decode cX12_yesTo 82 = .ok (.iload_n 2, 1) := by decide +kernel
theorem dX12_yesTo_83 : decode cX12_yesTo 83 = .ok (.ireturn, 1) := by decide +kernel
theorem dX12_yes_0 : decode cX12_yes 0 = .ok (.iload_n 1, 1) := by decide +kernel
theorem dX12_yes_1 : decode cX12_yes 1 = .ok (.iconst 0, 1) := by decide +kernel
theorem dX12_yes_2 : decode cX12_yes 2 = .ok (.iconst 1, 1) := by decide +kernel
theorem dX12_yes_3 : decode cX12_yes 3 = .ok (.aload_n 0, 1) := by decide +kernel
theorem dX12_yes_4 : decode cX12_yes 4 = .ok (.getfield 346, 3) := by decide +kernel
theorem dX12_yes_7 : decode cX12_yes 7 = .ok (.ishl, 1) := by decide +kernel
theorem dX12_yes_8 : decode cX12_yes 8 = .ok (.iconst 1, 1) := by decide +kernel
theorem dX12_yes_9 : decode cX12_yes 9 = .ok (.isub, 1) := by decide +kernel
theorem dX12_yes_10 : decode cX12_yes 10 = .ok (.invokestatic 177, 3) := by decide +kernel
theorem dX12_yes_13 : decode cX12_yes 13 = .ok (.ifCond .eq 11, 3) := by decide +kernel
theorem dX12_yes_16 : decode cX12_yes 16 = .ok (.aload_n 0, 1) := by decide +kernel
theorem dX12_yes_17 : decode cX12_yes 17 = .ok (.iload_n 1, 1) := by decide +kernel
theorem dX12_yes_18 : decode cX12_yes 18 = .ok (.invokevirtual 352, 3) := by decide +kernel
theorem dX12_yes_21 : decode cX12_yes 21 = .ok (.goto 4, 3) := by decide +kernel
theorem dX12_yes_24 : decode cX12_yes 24 = .ok (.iconst (-1), 1) := by decide +kernel
theorem dX12_yes_25 : decode cX12_yes 25 = .ok (.ireturn, 1) := by decide +kernel
theorem dX12_least_0 : decode cX12_least 0 = .ok (.iload_n 1, 1) := by decide +kernel
theorem dX12_least_1 : decode cX12_least 1 = .ok (.iconst 0, 1) := by decide +kernel
theorem dX12_least_2 : decode cX12_least 2 = .ok (.iconst 1, 1) := by decide +kernel
theorem dX12_least_3 : decode cX12_least 3 = .ok (.invokestatic 177, 3) := by decide +kernel
theorem dX12_least_6 : decode cX12_least 6 = .ok (.ifCond .ne 5, 3) := by decide +kernel
theorem dX12_least_9 : decode cX12_least 9 = .ok (.iconst (-1), 1) := by decide +kernel
theorem dX12_least_10 : decode cX12_least 10 = .ok (.ireturn, 1) := by decide +kernel
theorem dX12_least_11 : decode cX12_least 11 = .ok (.iconst (-1), 1) := by decide +kernel
theorem dX12_least_12 : decode cX12_least 12 = .ok (.istore_n 2, 1) := by decide +kernel
theorem dX12_least_13 : decode cX12_least 13 = .ok (.iconst 0, 1) := by decide +kernel
theorem dX12_least_14 : decode cX12_least 14 = .ok (.istore_n 3, 1) := by decide +kernel
theorem dX12_least_15 : decode cX12_least 15 = .ok (.iconst 0, 1) := by decide +kernel
theorem dX12_least_16 : decode cX12_least 16 = .ok (.istore 4, 2) := by decide +kernel
theorem dX12_least_18 : decode cX12_least 18 = .ok (.iload 4, 2) := by decide +kernel
theorem dX12_least_20 : decode cX12_least 20 = .ok (.iconst 1, 1) := by decide +kernel
theorem dX12_least_21 : decode cX12_least 21 = .ok (.aload_n 0, 1) := by decide +kernel
theorem dX12_least_22 : decode cX12_least 22 = .ok (.getfield 346, 3) := by decide +kernel
theorem dX12_least_25 : decode cX12_least 25 = .ok (.ishl, 1) := by decide +kernel
theorem dX12_least_26 : decode cX12_least 26 = .ok (.if_icmp .ge 119, 3) := by decide +kernel
theorem dX12_least_29 : decode cX12_least 29 = .ok (.iconst 0, 1) := by decide +kernel
theorem dX12_least_30 : decode cX12_least 30 = .ok (.istore 5, 2) := by decide +kernel
theorem dX12_least_32 : decode cX12_least 32 = .ok (.iconst 0, 1) := by decide +kernel
theorem dX12_least_33 : decode cX12_least 33 = .ok (.istore 6, 2) := by decide +kernel
theorem dX12_least_35 : decode cX12_least 35 = .ok (.iload 6, 2) := by decide +kernel
theorem dX12_least_37 : decode cX12_least 37 = .ok (.aload_n 0, 1) := by decide +kernel
theorem dX12_least_38 : decode cX12_least 38 = .ok (.getfield 346, 3) := by decide +kernel
theorem dX12_least_41 : decode cX12_least 41 = .ok (.if_icmp .ge 36, 3) := by decide +kernel
theorem dX12_least_44 : decode cX12_least 44 = .ok (.iload 5, 2) := by decide +kernel
theorem dX12_least_46 : decode cX12_least 46 = .ok (.iload 4, 2) := by decide +kernel
theorem dX12_least_48 : decode cX12_least 48 = .ok (.iload 6, 2) := by decide +kernel
theorem dX12_least_50 : decode cX12_least 50 = .ok (.ishr, 1) := by decide +kernel
theorem dX12_least_51 : decode cX12_least 51 = .ok (.iconst 1, 1) := by decide +kernel
theorem dX12_least_52 : decode cX12_least 52 = .ok (.iand, 1) := by decide +kernel
theorem dX12_least_53 : decode cX12_least 53 = .ok (.iconst 1, 1) := by decide +kernel
theorem dX12_least_54 : decode cX12_least 54 = .ok (.if_icmp .ne 13, 3) := by decide +kernel
theorem dX12_least_57 : decode cX12_least 57 = .ok (.aload_n 0, 1) := by decide +kernel
theorem dX12_least_58 : decode cX12_least 58 = .ok (.getfield 120, 3) := by decide +kernel
theorem dX12_least_61 : decode cX12_least 61 = .ok (.iload 6, 2) := by decide +kernel
theorem dX12_least_63 : decode cX12_least 63 = .ok (.iaload, 1) := by decide +kernel
theorem dX12_least_64 : decode cX12_least 64 = .ok (.goto 4, 3) := by decide +kernel
theorem dX12_least_67 : decode cX12_least 67 = .ok (.iconst 0, 1) := by decide +kernel
theorem dX12_least_68 : decode cX12_least 68 = .ok (.iadd, 1) := by decide +kernel
theorem dX12_least_69 : decode cX12_least 69 = .ok (.istore 5, 2) := by decide +kernel
theorem dX12_least_71 : decode cX12_least 71 = .ok (.iinc 6 1, 3) := by decide +kernel
theorem dX12_least_74 : decode cX12_least 74 = .ok (.goto (-39), 3) := by decide +kernel
theorem dX12_least_77 : decode cX12_least 77 = .ok (.iload_n 2, 1) := by decide +kernel
theorem dX12_least_78 : decode cX12_least 78 = .ok (.iconst (-1), 1) := by decide +kernel
theorem dX12_least_79 : decode cX12_least 79 = .ok (.if_icmp .eq 27, 3) := by decide +kernel
theorem dX12_least_82 : decode cX12_least 82 = .ok (.iload 5, 2) := by decide +kernel
theorem dX12_least_84 : decode cX12_least 84 = .ok (.iload_n 3, 1) := by decide +kernel
theorem dX12_least_85 : decode cX12_least 85 = .ok (.if_icmp .lt 21, 3) := by decide +kernel
theorem dX12_least_88 : decode cX12_least 88 = .ok (.iload 5, 2) := by decide +kernel
theorem dX12_least_90 : decode cX12_least 90 = .ok (.iload_n 3, 1) := by decide +kernel
theorem dX12_least_91 : decode cX12_least 91 = .ok (.if_icmp .ne 19, 3) := by decide +kernel
theorem dX12_least_94 : decode cX12_least 94 = .ok (.iload 4, 2) := by decide +kernel
theorem dX12_least_96 : decode cX12_least 96 = .ok (.invokestatic 290, 3) := by decide +kernel
theorem dX12_least_99 : decode cX12_least 99 = .ok (.iload_n 2, 1) := by decide +kernel
theorem dX12_least_100 : decode cX12_least 100 = .ok (.invokestatic 290, 3) := by decide +kernel
theorem dX12_least_103 : decode cX12_least 103 = .ok (.if_icmp .ge 7, 3) := by decide +kernel
theorem dX12_least_106 : decode cX12_least 106 = .ok (.iconst 1, 1) := by decide +kernel
theorem dX12_least_107 : decode cX12_least 107 = .ok (.goto 4, 3) := by decide +kernel
theorem dX12_least_110 : decode cX12_least 110 = .ok (.iconst 0, 1) := by decide +kernel
theorem dX12_least_111 : decode cX12_least 111 = .ok (.istore 6, 2) := by decide +kernel
theorem dX12_least_113 : decode cX12_least 113 = .ok (.iload 6, 2) := by decide +kernel
theorem dX12_least_115 : decode cX12_least 115 = .ok (.ifCond .eq 24, 3) := by decide +kernel
theorem dX12_least_118 : decode cX12_least 118 = .ok (.iconst 2, 1) := by decide +kernel
theorem dX12_least_119 : decode cX12_least 119 = .ok (.aload_n 0, 1) := by decide +kernel
theorem dX12_least_120 : decode cX12_least 120 = .ok (.iload 4, 2) := by decide +kernel
theorem dX12_least_122 : decode cX12_least 122 = .ok (.invokevirtual 352, 3) := by decide +kernel
theorem dX12_least_125 : decode cX12_least 125 = .ok (.imul, 1) := by decide +kernel
theorem dX12_least_126 : decode cX12_least 126 = .ok (.aload_n 0, 1) := by decide +kernel
theorem dX12_least_127 : decode cX12_least 127 = .ok (.getfield 349, 3) := by decide +kernel
theorem dX12_least_130 : decode cX12_least 130 = .ok (.if_icmp .le 9, 3) := by decide +kernel
theorem dX12_least_133 : decode cX12_least 133 = .ok (.iload 4, 2) := by decide +kernel
theorem dX12_least_135 : decode cX12_least 135 = .ok (.istore_n 2, 1) := by decide +kernel
theorem dX12_least_136 : decode cX12_least 136 = .ok (.iload 5, 2) := by decide +kernel
theorem dX12_least_138 : decode cX12_least 138 = .ok (.istore_n 3, 1) := by decide +kernel
theorem dX12_least_139 : decode cX12_least 139 = .ok (.iinc 4 1, 3) := by decide +kernel
theorem dX12_least_142 : decode cX12_least 142 = .ok (.goto (-124), 3) := by decide +kernel
theorem dX12_least_145 : decode cX12_least 145 = .ok (.iload_n 2, 1) := by decide +kernel
theorem dX12_least_146 : decode cX12_least 146 = .ok (.iconst (-1), 1) := by decide +kernel
theorem dX12_least_147 : decode cX12_least 147 = .ok (.if_icmp .ne 8, 3) := by decide +kernel
theorem dX12_least_150 : decode cX12_least 150 = .ok (.bipush (-3), 2) := by decide +kernel
theorem dX12_least_152 : decode cX12_least 152 = .ok (.goto 12, 3) := by decide +kernel
theorem dX12_least_155 : decode cX12_least 155 = .ok (.iload_n 1, 1) := by decide +kernel
theorem dX12_least_156 : decode cX12_least 156 = .ok (.ifCond .ne 7, 3) := by decide +kernel
theorem dX12_least_159 : decode cX12_least 159 = .ok (.iload_n 2, 1) := by decide +kernel
theorem dX12_least_160 : decode cX12_least 160 = .ok (.goto 4, 3) := by decide +kernel
theorem dX12_least_163 : decode cX12_least 163 = .ok (.iload_n 3, 1) := by decide +kernel
theorem dX12_least_164 : decode cX12_least 164 = .ok (.ireturn, 1) := by decide +kernel
theorem dX12_goesRound_0 : decode cX12_goesRound 0 = .ok (.iload_n 2, 1) := by decide +kernel
theorem dX12_goesRound_1 : decode cX12_goesRound 1 = .ok (.istore_n 3, 1) := by decide +kernel
theorem dX12_goesRound_2 : decode cX12_goesRound 2 = .ok (.iconst 0, 1) := by decide +kernel
theorem dX12_goesRound_3 : decode cX12_goesRound 3 = .ok (.istore 4, 2) := by decide +kernel
theorem dX12_goesRound_5 : decode cX12_goesRound 5 = .ok (.iload 4, 2) := by decide +kernel
theorem dX12_goesRound_7 : decode cX12_goesRound 7 = .ok (.bipush 9, 2) := by decide +kernel
theorem dX12_goesRound_9 : decode cX12_goesRound 9 = .ok (.if_icmp .ge 28, 3) := by decide +kernel
theorem dX12_goesRound_12 : decode cX12_goesRound 12 = .ok (.iload_n 3, 1) := by decide +kernel
theorem dX12_goesRound_13 : decode cX12_goesRound 13 = .ok (.iconst (-1), 1) := by decide +kernel
theorem dX12_goesRound_14 : decode cX12_goesRound 14 = .ok (.if_icmp .eq 23, 3) := by decide +kernel
theorem dX12_goesRound_17 : decode cX12_goesRound 17 = .ok (.iload_n 3, 1) := by decide +kernel
theorem dX12_goesRound_18 : decode cX12_goesRound 18 = .ok (.iload_n 1, 1) := by decide +kernel
theorem dX12_goesRound_19 : decode cX12_goesRound 19 = .ok (.if_icmp .ne 5, 3) := by decide +kernel
theorem dX12_goesRound_22 : decode cX12_goesRound 22 = .ok (.iconst 1, 1) := by decide +kernel
theorem dX12_goesRound_23 : decode cX12_goesRound 23 = .ok (.ireturn, 1) := by decide +kernel
theorem dX12_goesRound_24 : decode cX12_goesRound 24 = .ok (.aload_n 0, 1) := by decide +kernel
theorem dX12_goesRound_25 : decode cX12_goesRound 25 = .ok (.getfield 132, 3) := by decide +kernel
theorem dX12_goesRound_28 : decode cX12_goesRound 28 = .ok (.iload_n 3, 1) := by decide +kernel
theorem dX12_goesRound_29 : decode cX12_goesRound 29 = .ok (.iaload, 1) := by decide +kernel
theorem dX12_goesRound_30 : decode cX12_goesRound 30 = .ok (.istore_n 3, 1) := by decide +kernel
theorem dX12_goesRound_31 : decode cX12_goesRound 31 = .ok (.iinc 4 1, 3) := by decide +kernel
theorem dX12_goesRound_34 : decode cX12_goesRound 34 = .ok (.goto (-29), 3) := by decide +kernel
theorem dX12_goesRound_37 : decode cX12_goesRound 37 = .ok (.iconst 0, 1) := by decide +kernel
theorem dX12_goesRound_38 : decode cX12_goesRound 38 = .ok (.ireturn, 1) := by decide +kernel
theorem dX12_teach_0 : decode cX12_teach 0 = .ok (.aload_n 0, 1) := by decide +kernel
theorem dX12_teach_1 : decode cX12_teach 1 = .ok (.iload_n 1, 1) := by decide +kernel
theorem dX12_teach_2 : decode cX12_teach 2 = .ok (.invokevirtual 270, 3) := by decide +kernel
theorem dX12_teach_5 : decode cX12_teach 5 = .ok (.ifCond .eq 12, 3) := by decide +kernel
theorem dX12_teach_8 : decode cX12_teach 8 = .ok (.iload_n 2, 1) := by decide +kernel
theorem dX12_teach_9 : decode cX12_teach 9 = .ok (.iconst 0, 1) := by decide +kernel
theorem dX12_teach_10 : decode cX12_teach 10 = .ok (.iconst 2, 1) := by decide +kernel
theorem dX12_teach_11 : decode cX12_teach 11 = .ok (.invokestatic 177, 3) := by decide +kernel
theorem dX12_teach_14 : decode cX12_teach 14 = .ok (.ifCond .ne 5, 3) := by decide +kernel
theorem dX12_teach_17 : decode cX12_teach 17 = .ok (.iconst (-1), 1) := by decide +kernel
theorem dX12_teach_18 : decode cX12_teach 18 = .ok (.ireturn, 1) := by decide +kernel
theorem dX12_teach_19 : decode cX12_teach 19 = .ok (.iload_n 2, 1) := by decide +kernel
theorem dX12_teach_20 : decode cX12_teach 20 = .ok (.ifCond .ne 13, 3) := by decide +kernel
theorem dX12_teach_23 : decode cX12_teach 23 = .ok (.iload_n 3, 1) := by decide +kernel
theorem dX12_teach_24 : decode cX12_teach 24 = .ok (.iconst 1, 1) := by decide +kernel
theorem dX12_teach_25 : decode cX12_teach 25 = .ok (.bipush 12, 2) := by decide +kernel
theorem dX12_teach_27 : decode cX12_teach 27 = .ok (.invokestatic 177, 3) := by decide +kernel
theorem dX12_teach_30 : decode cX12_teach 30 = .ok (.goto 46, 3) := by decide +kernel
theorem dX12_teach_33 : decode cX12_teach 33 = .ok (.iload_n 2, 1) := by decide +kernel
theorem dX12_teach_34 : decode cX12_teach 34 = .ok (.iconst 1, 1) := by decide +kernel
theorem dX12_teach_35 : decode cX12_teach 35 = .ok (.if_icmp .ne 13, 3) := by decide +kernel
theorem dX12_teach_38 : decode cX12_teach 38 = .ok (.iload_n 3, 1) := by decide +kernel
theorem dX12_teach_39 : decode cX12_teach 39 = .ok (.iconst 0, 1) := by decide +kernel
theorem dX12_teach_40 : decode cX12_teach 40 = .ok (.bipush 99, 2) := by decide +kernel
theorem dX12_teach_42 : decode cX12_teach 42 = .ok (.invokestatic 177, 3) := by decide +kernel
theorem dX12_teach_45 : decode cX12_teach 45 = .ok (.goto 31, 3) := by decide +kernel
theorem dX12_teach_48 : decode cX12_teach 48 = .ok (.iload_n 3, 1) := by decide +kernel
theorem dX12_teach_49 : decode cX12_teach 49 = .ok (.iconst (-1), 1) := by decide +kernel
theorem dX12_teach_50 : decode cX12_teach 50 = .ok (.aload_n 0, 1) := by decide +kernel
theorem dX12_teach_51 : decode cX12_teach 51 = .ok (.getfield 184, 3) := by decide +kernel
theorem dX12_teach_54 : decode cX12_teach 54 = .ok (.iconst 1, 1) := by decide +kernel
theorem dX12_teach_55 : decode cX12_teach 55 = .ok (.isub, 1) := by decide +kernel
theorem dX12_teach_56 : decode cX12_teach 56 = .ok (.invokestatic 177, 3) := by decide +kernel
theorem dX12_teach_59 : decode cX12_teach 59 = .ok (.ifCond .eq 16, 3) := by decide +kernel
theorem dX12_teach_62 : decode cX12_teach 62 = .ok (.aload_n 0, 1) := by decide +kernel
theorem dX12_teach_63 : decode cX12_teach 63 = .ok (.iload_n 1, 1) := by decide +kernel
theorem dX12_teach_64 : decode cX12_teach 64 = .ok (.iload_n 3, 1) := by decide +kernel
theorem dX12_teach_65 : decode cX12_teach 65 = .ok (.invokevirtual 355, 3) := by decide +kernel
theorem dX12_teach_68 : decode cX12_teach 68 = .ok (.ifCond .ne 7, 3) := by decide +kernel
theorem dX12_teach_71 : decode cX12_teach 71 = .ok (.iconst 1, 1) := by decide +kernel
theorem dX12_teach_72 : decode cX12_teach 72 = .ok (.goto 4, 3) := by decide +kernel
theorem dX12_teach_75 : decode cX12_teach 75 = .ok (.iconst 0, 1) := by decide +kernel
theorem dX12_teach_76 : decode cX12_teach 76 = .ok (.istore 4, 2) := by decide +kernel
theorem dX12_teach_78 : decode cX12_teach 78 = .ok (.iload 4, 2) := by decide +kernel
theorem dX12_teach_80 : decode cX12_teach 80 = .ok (.ifCond .ne 6, 3) := by decide +kernel
theorem dX12_teach_83 : decode cX12_teach 83 = .ok (.bipush (-2), 2) := by decide +kernel
theorem dX12_teach_85 : decode cX12_teach 85 = .ok (.ireturn, 1) := by decide +kernel
theorem dX12_teach_86 : decode cX12_teach 86 = .ok (.iload_n 2, 1) := by decide +kernel
theorem dX12_teach_87 : decode cX12_teach 87 = .ok (.ifCond .ne 12, 3) := by decide +kernel
theorem dX12_teach_90 : decode cX12_teach 90 = .ok (.aload_n 0, 1) := by decide +kernel
theorem dX12_teach_91 : decode cX12_teach 91 = .ok (.getfield 126, 3) := by decide +kernel
theorem dX12_teach_94 : decode cX12_teach 94 = .ok (.iload_n 1, 1) := by decide +kernel
theorem dX12_teach_95 : decode cX12_teach 95 = .ok (.iaload, 1) := by decide +kernel
theorem dX12_teach_96 : decode cX12_teach 96 = .ok (.goto 23, 3) := by decide +kernel
theorem dX12_teach_99 : decode cX12_teach 99 = .ok (.iload_n 2, 1) := by decide +kernel
theorem dX12_teach_100 : decode cX12_teach 100 = .ok (.iconst 1, 1) := by decide +kernel
theorem dX12_teach_101 : decode cX12_teach 101 = .ok (.if_icmp .ne 12, 3) := by decide +kernel
theorem dX12_teach_104 : decode cX12_teach 104 = .ok (.aload_n 0, 1) := by decide +kernel
theorem dX12_teach_105 : decode cX12_teach 105 = .ok (.getfield 129, 3) := by decide +kernel
theorem dX12_teach_108 : decode cX12_teach 108 = .ok (.iload_n 1, 1) := by decide +kernel
theorem dX12_teach_109 : decode cX12_teach 109 = .ok (.iaload, 1) := by decide +kernel
theorem dX12_teach_110 : decode cX12_teach 110 = .ok (.goto 9, 3) := by decide +kernel
theorem dX12_teach_113 : decode cX12_teach 113 = .ok (.aload_n 0, 1) := by decide +kernel
theorem dX12_teach_114 : decode cX12_teach 114 = .ok (.getfield 132, 3) := by decide +kernel
theorem dX12_teach_117 : decode cX12_teach 117 = .ok (.iload_n 1, 1) := by decide +kernel
theorem dX12_teach_118 : decode cX12_teach 118 = .ok (.iaload, 1) := by decide +kernel
theorem dX12_teach_119 : decode cX12_teach 119 = .ok (.istore 5, 2) := by decide +kernel
theorem dX12_teach_121 : decode cX12_teach 121 = .ok (.iload_n 2, 1) := by decide +kernel
theorem dX12_teach_122 : decode cX12_teach 122 = .ok (.ifCond .ne 13, 3) := by decide +kernel
theorem dX12_teach_125 : decode cX12_teach 125 = .ok (.aload_n 0, 1) := by decide +kernel
theorem dX12_teach_126 : decode cX12_teach 126 = .ok (.getfield 126, 3) := by decide +kernel
theorem dX12_teach_129 : decode cX12_teach 129 = .ok (.iload_n 1, 1) := by decide +kernel
theorem dX12_teach_130 : decode cX12_teach 130 = .ok (.iload_n 3, 1) := by decide +kernel
theorem dX12_teach_131 : decode cX12_teach 131 = .ok (.iastore, 1) := by decide +kernel
theorem dX12_teach_132 : decode cX12_teach 132 = .ok (.goto 25, 3) := by decide +kernel
theorem dX12_teach_135 : decode cX12_teach 135 = .ok (.iload_n 2, 1) := by decide +kernel
theorem dX12_teach_136 : decode cX12_teach 136 = .ok (.iconst 1, 1) := by decide +kernel
theorem dX12_teach_137 : decode cX12_teach 137 = .ok (.if_icmp .ne 13, 3) := by decide +kernel
theorem dX12_teach_140 : decode cX12_teach 140 = .ok (.aload_n 0, 1) := by decide +kernel
theorem dX12_teach_141 : decode cX12_teach 141 = .ok (.getfield 129, 3) := by decide +kernel
theorem dX12_teach_144 : decode cX12_teach 144 = .ok (.iload_n 1, 1) := by decide +kernel
theorem dX12_teach_145 : decode cX12_teach 145 = .ok (.iload_n 3, 1) := by decide +kernel
theorem dX12_teach_146 : decode cX12_teach 146 = .ok (.iastore, 1) := by decide +kernel
theorem dX12_teach_147 : decode cX12_teach 147 = .ok (.goto 10, 3) := by decide +kernel
theorem dX12_teach_150 : decode cX12_teach 150 = .ok (.aload_n 0, 1) := by decide +kernel
theorem dX12_teach_151 : decode cX12_teach 151 = .ok (.getfield 132, 3) := by decide +kernel
theorem dX12_teach_154 : decode cX12_teach 154 = .ok (.iload_n 1, 1) := by decide +kernel
theorem dX12_teach_155 : decode cX12_teach 155 = .ok (.iload_n 3, 1) := by decide +kernel
theorem dX12_teach_156 : decode cX12_teach 156 = .ok (.iastore, 1) := by decide +kernel
theorem dX12_teach_157 : decode cX12_teach 157 = .ok (.iload 5, 2) := by decide +kernel
theorem dX12_teach_159 : decode cX12_teach 159 = .ok (.ireturn, 1) := by decide +kernel
theorem dX12_mayNext_0 : decode cX12_mayNext 0 = .ok (.iload_n 1, 1) := by decide +kernel
theorem dX12_mayNext_1 : decode cX12_mayNext 1 = .ok (.iload_n 2, 1) := by decide +kernel
theorem dX12_mayNext_2 : decode cX12_mayNext 2 = .ok (.ishr, 1) := by decide +kernel
theorem dX12_mayNext_3 : decode cX12_mayNext 3 = .ok (.iconst 1, 1) := by decide +kernel
theorem dX12_mayNext_4 : decode cX12_mayNext 4 = .ok (.iand, 1) := by decide +kernel
theorem dX12_mayNext_5 : decode cX12_mayNext 5 = .ok (.ifCond .ne 31, 3) := by decide +kernel
theorem dX12_mayNext_8 : decode cX12_mayNext 8 = .ok (.aload_n 0, 1) := by decide +kernel
theorem dX12_mayNext_9 : decode cX12_mayNext 9 = .ok (.getfield 132, 3) := by decide +kernel
theorem dX12_mayNext_12 : decode cX12_mayNext 12 = .ok (.iload_n 2, 1) := by decide +kernel
theorem dX12_mayNext_13 : decode cX12_mayNext 13 = .ok (.iaload, 1) := by decide +kernel
theorem dX12_mayNext_14 : decode cX12_mayNext 14 = .ok (.iconst (-1), 1) := by decide +kernel
theorem dX12_mayNext_15 : decode cX12_mayNext 15 = .ok (.if_icmp .eq 17, 3) := by decide +kernel
theorem dX12_mayNext_18 : decode cX12_mayNext 18 = .ok (.iload_n 1, 1) := by decide +kernel
theorem dX12_mayNext_19 : decode cX12_mayNext 19 = .ok (.aload_n 0, 1) := by decide +kernel
theorem dX12_mayNext_20 : decode cX12_mayNext 20 = .ok (.getfield 132, 3) := by decide +kernel
theorem dX12_mayNext_23 : decode cX12_mayNext 23 = .ok (.iload_n 2, 1) := by decide +kernel
theorem dX12_mayNext_24 : decode cX12_mayNext 24 = .ok (.iaload, 1) := by decide +kernel
theorem dX12_mayNext_25 : decode cX12_mayNext 25 = .ok (.ishr, 1) := by decide +kernel
theorem dX12_mayNext_26 : decode cX12_mayNext 26 = .ok (.iconst 1, 1) := by decide +kernel
theorem dX12_mayNext_27 : decode cX12_mayNext 27 = .ok (.iand, 1) := by decide +kernel
theorem dX12_mayNext_28 : decode cX12_mayNext 28 = .ok (.iconst 1, 1) := by decide +kernel
theorem dX12_mayNext_29 : decode cX12_mayNext 29 = .ok (.if_icmp .ne 7, 3) := by decide +kernel
theorem dX12_mayNext_32 : decode cX12_mayNext 32 = .ok (.iconst 1, 1) := by decide +kernel
theorem dX12_mayNext_33 : decode cX12_mayNext 33 = .ok (.goto 4, 3) := by decide +kernel
theorem dX12_mayNext_36 : decode cX12_mayNext 36 = .ok (.iconst 0, 1) := by decide +kernel
theorem dX12_mayNext_37 : decode cX12_mayNext 37 = .ok (.ireturn, 1) := by decide +kernel
theorem dX12_timeOf_0 : decode cX12_timeOf 0 = .ok (.iconst 0, 1) := by decide +kernel
theorem dX12_timeOf_1 : decode cX12_timeOf 1 = .ok (.istore_n 2, 1) := by decide +kernel
theorem dX12_timeOf_2 : decode cX12_timeOf 2 = .ok (.iconst 0, 1) := by decide +kernel
theorem dX12_timeOf_3 : decode cX12_timeOf 3 = .ok (.istore_n 3, 1) := by decide +kernel
theorem dX12_timeOf_4 : decode cX12_timeOf 4 = .ok (.iload_n 3, 1) := by decide +kernel
theorem dX12_timeOf_5 : decode cX12_timeOf 5 = .ok (.aload_n 0, 1) := by decide +kernel
theorem dX12_timeOf_6 : decode cX12_timeOf 6 = .ok (.getfield 184, 3) := by decide +kernel
theorem dX12_timeOf_9 : decode cX12_timeOf 9 = .ok (.if_icmp .ge 31, 3) := by decide +kernel
theorem dX12_timeOf_12 : decode cX12_timeOf 12 = .ok (.iload_n 2, 1) := by decide +kernel
theorem dX12_timeOf_13 : decode cX12_timeOf 13 = .ok (.iload_n 1, 1) := by decide +kernel
theorem dX12_timeOf_14 : decode cX12_timeOf 14 = .ok (.iload_n 3, 1) := by decide +kernel
theorem dX12_timeOf_15 : decode cX12_timeOf 15 = .ok (.ishr, 1) := by decide +kernel
theorem dX12_timeOf_16 : decode cX12_timeOf 16 = .ok (.iconst 1, 1) := by decide +kernel
theorem dX12_timeOf_17 : decode cX12_timeOf 17 = .ok (.iand, 1) := by decide +kernel
theorem dX12_timeOf_18 : decode cX12_timeOf 18 = .ok (.iconst 1, 1) := by decide +kernel
theorem dX12_timeOf_19 : decode cX12_timeOf 19 = .ok (.if_icmp .ne 12, 3) := by decide +kernel
theorem dX12_timeOf_22 : decode cX12_timeOf 22 = .ok (.aload_n 0, 1) := by decide +kernel
theorem dX12_timeOf_23 : decode cX12_timeOf 23 = .ok (.getfield 126, 3) := by decide +kernel
theorem dX12_timeOf_26 : decode cX12_timeOf 26 = .ok (.iload_n 3, 1) := by decide +kernel
theorem dX12_timeOf_27 : decode cX12_timeOf 27 = .ok (.iaload, 1) := by decide +kernel
theorem dX12_timeOf_28 : decode cX12_timeOf 28 = .ok (.goto 4, 3) := by decide +kernel
theorem dX12_timeOf_31 : decode cX12_timeOf 31 = .ok (.iconst 0, 1) := by decide +kernel
theorem dX12_timeOf_32 : decode cX12_timeOf 32 = .ok (.iadd, 1) := by decide +kernel
theorem dX12_timeOf_33 : decode cX12_timeOf 33 = .ok (.istore_n 2, 1) := by decide +kernel
theorem dX12_timeOf_34 : decode cX12_timeOf 34 = .ok (.iinc 3 1, 3) := by decide +kernel
theorem dX12_timeOf_37 : decode cX12_timeOf 37 = .ok (.goto (-33), 3) := by decide +kernel
theorem dX12_timeOf_40 : decode cX12_timeOf 40 = .ok (.iload_n 2, 1) := by decide +kernel
theorem dX12_timeOf_41 : decode cX12_timeOf 41 = .ok (.ireturn, 1) := by decide +kernel
theorem dX12_findRow_0 : decode cX12_findRow 0 = .ok (.iconst 1, 1) := by decide +kernel
theorem dX12_findRow_1 : decode cX12_findRow 1 = .ok (.aload_n 0, 1) := by decide +kernel
theorem dX12_findRow_2 : decode cX12_findRow 2 = .ok (.getfield 184, 3) := by decide +kernel
theorem dX12_findRow_5 : decode cX12_findRow 5 = .ok (.ishl, 1) := by decide +kernel
theorem dX12_findRow_6 : decode cX12_findRow 6 = .ok (.iconst 1, 1) := by decide +kernel
theorem dX12_findRow_7 : decode cX12_findRow 7 = .ok (.isub, 1) := by decide +kernel
theorem dX12_findRow_8 : decode cX12_findRow 8 = .ok (.istore_n 1, 1) := by decide +kernel
theorem dX12_findRow_9 : decode cX12_findRow 9 = .ok (.aload_n 0, 1) := by decide +kernel
theorem dX12_findRow_10 : decode cX12_findRow 10 = .ok (.getfield 171, 3) := by decide +kernel
theorem dX12_findRow_13 : decode cX12_findRow 13 = .ok (.iload_n 1, 1) := by decide +kernel
theorem dX12_findRow_14 : decode cX12_findRow 14 = .ok (.iconst 0, 1) := by decide +kernel
theorem dX12_findRow_15 : decode cX12_findRow 15 = .ok (.iastore, 1) := by decide +kernel
theorem dX12_findRow_16 : decode cX12_findRow 16 = .ok (.iload_n 1, 1) := by decide +kernel
theorem dX12_findRow_17 : decode cX12_findRow 17 = .ok (.iconst 1, 1) := by decide +kernel
theorem dX12_findRow_18 : decode cX12_findRow 18 = .ok (.isub, 1) := by decide +kernel
theorem dX12_findRow_19 : decode cX12_findRow 19 = .ok (.istore_n 2, 1) := by decide +kernel
theorem dX12_findRow_20 : decode cX12_findRow 20 = .ok (.iload_n 2, 1) := by decide +kernel
theorem dX12_findRow_21 : decode cX12_findRow 21 = .ok (.ifCond .lt 103, 3) := by decide +kernel
theorem dX12_findRow_24 : decode cX12_findRow 24 = .ok (.aload_n 0, 1) := by decide +kernel
theorem dX12_findRow_25 : decode cX12_findRow 25 = .ok (.getfield 171, 3) := by decide +kernel
theorem dX12_findRow_28 : decode cX12_findRow 28 = .ok (.iload_n 2, 1) := by decide +kernel
theorem dX12_findRow_29 : decode cX12_findRow 29 = .ok (.ldc_w 358, 3) := by decide +kernel
theorem dX12_findRow_32 : decode cX12_findRow 32 = .ok (.iastore, 1) := by decide +kernel
theorem dX12_findRow_33 : decode cX12_findRow 33 = .ok (.iconst 0, 1) := by decide +kernel
theorem dX12_findRow_34 : decode cX12_findRow 34 = .ok (.istore_n 3, 1) := by decide +kernel
theorem dX12_findRow_35 : decode cX12_findRow 35 = .ok (.iload_n 3, 1) := by decide +kernel
theorem dX12_findRow_36 : decode cX12_findRow 36 = .ok (.aload_n 0, 1) := by decide +kernel
theorem dX12_findRow_37 : decode cX12_findRow 37 = .ok (.getfield 184, 3) := by decide +kernel
theorem dX12_findRow_40 : decode cX12_findRow 40 = .ok (.if_icmp .ge 78, 3) := by decide +kernel
theorem dX12_findRow_43 : decode cX12_findRow 43 = .ok (.aload_n 0, 1) := by decide +kernel
theorem dX12_findRow_44 : decode cX12_findRow 44 = .ok (.iload_n 2, 1) := by decide +kernel
theorem dX12_findRow_45 : decode cX12_findRow 45 = .ok (.iload_n 3, 1) := by decide +kernel
theorem dX12_findRow_46 : decode cX12_findRow 46 = .ok (.invokevirtual 359, 3) := by decide +kernel
theorem dX12_findRow_49 : decode cX12_findRow 49 = .ok (.ifCond .eq 63, 3) := by decide +kernel
theorem dX12_findRow_52 : decode cX12_findRow 52 = .ok (.aload_n 0, 1) := by decide +kernel
theorem dX12_findRow_53 : decode cX12_findRow 53 = .ok (.getfield 171, 3) := by decide +kernel
theorem dX12_findRow_56 : decode cX12_findRow 56 = .ok (.iload_n 2, 1) := by decide +kernel
theorem dX12_findRow_57 : decode cX12_findRow 57 = .ok (.iconst 1, 1) := by decide +kernel
theorem dX12_findRow_58 : decode cX12_findRow 58 = .ok (.iload_n 3, 1) := by decide +kernel
theorem dX12_findRow_59 : decode cX12_findRow 59 = .ok (.ishl, 1) := by decide +kernel
theorem dX12_findRow_60 : decode cX12_findRow 60 = .ok (.ior, 1) := by decide +kernel
theorem dX12_findRow_61 : decode cX12_findRow 61 = .ok (.iaload, 1) := by decide +kernel
theorem dX12_findRow_62 : decode cX12_findRow 62 = .ok (.aload_n 0, 1) := by decide +kernel
theorem dX12_findRow_63 : decode cX12_findRow 63 = .ok (.getfield 129, 3) := by decide +kernel
theorem dX12_findRow_66 : decode cX12_findRow 66 = .ok (.iload_n 3, 1) := by decide +kernel
theorem dX12_findRow_67 : decode cX12_findRow 67 = .ok (.iaload, 1) := by decide +kernel
theorem dX12_findRow_68 : decode cX12_findRow 68 = .ok (.aload_n 0, 1) := by decide +kernel
theorem dX12_findRow_69 : decode cX12_findRow 69 = .ok (.iload_n 2, 1) := by decide +kernel
theorem dX12_findRow_70 : decode cX12_findRow 70 = .ok (.invokevirtual 362, 3) := by decide +kernel
theorem dX12_findRow_73 : decode cX12_findRow 73 = .ok (.aload_n 0, 1) := by decide +kernel
theorem dX12_findRow_74 : decode cX12_findRow 74 = .ok (.getfield 126, 3) := by decide +kernel
theorem dX12_findRow_77 : decode cX12_findRow 77 = .ok (.iload_n 3, 1) := by decide +kernel
theorem dX12_findRow_78 : decode cX12_findRow 78 = .ok (.iaload, 1) := by decide +kernel
theorem dX12_findRow_79 : decode cX12_findRow 79 = .ok (.iadd, 1) := by decide +kernel
theorem dX12_findRow_80 : decode cX12_findRow 80 = .ok (.imul, 1) := by decide +kernel
theorem dX12_findRow_81 : decode cX12_findRow 81 = .ok (.iadd, 1) := by decide +kernel
theorem dX12_findRow_82 : decode cX12_findRow 82 = .ok (.istore 4, 2) := by decide +kernel
theorem dX12_findRow_84 : decode cX12_findRow 84 = .ok (.aload_n 0, 1) := by decide +kernel
theorem dX12_findRow_85 : decode cX12_findRow 85 = .ok (.getfield 171, 3) := by decide +kernel
theorem dX12_findRow_88 : decode cX12_findRow 88 = .ok (.iload_n 2, 1) := by decide +kernel
theorem dX12_findRow_89 : decode cX12_findRow 89 = .ok (.iload 4, 2) := by decide +kernel
theorem dX12_findRow_91 : decode cX12_findRow 91 = .ok (.aload_n 0, 1) := by decide +kernel
theorem dX12_findRow_92 : decode cX12_findRow 92 = .ok (.getfield 171, 3) := by decide +kernel
theorem dX12_findRow_95 : decode cX12_findRow 95 = .ok (.iload_n 2, 1) := by decide +kernel
theorem dX12_findRow_96 : decode cX12_findRow 96 = .ok (.iaload, 1) := by decide +kernel
theorem dX12_findRow_97 : decode cX12_findRow 97 = .ok (.if_icmp .ge 8, 3) := by decide +kernel
theorem dX12_findRow_100 : decode cX12_findRow 100 = .ok (.iload 4, 2) := by decide +kernel
theorem dX12_findRow_102 : decode cX12_findRow 102 = .ok (.goto 9, 3) := by decide +kernel
theorem dX12_findRow_105 : decode cX12_findRow 105 = .ok (.aload_n 0, 1) := by decide +kernel
theorem dX12_findRow_106 : decode cX12_findRow 106 = .ok (.getfield 171, 3) := by decide +kernel
theorem dX12_findRow_109 : decode cX12_findRow 109 = .ok (.iload_n 2, 1) := by decide +kernel
theorem dX12_findRow_110 : decode cX12_findRow 110 = .ok (.iaload, 1) := by decide +kernel
theorem dX12_findRow_111 : decode cX12_findRow 111 = .ok (.iastore, 1) := by decide +kernel
theorem dX12_findRow_112 : decode cX12_findRow 112 = .ok (.iinc 3 1, 3) := by decide +kernel
theorem dX12_findRow_115 : decode cX12_findRow 115 = .ok (.goto (-80), 3) := by decide +kernel
theorem dX12_findRow_118 : decode cX12_findRow 118 = .ok (.iinc 2 (-1), 3) := by decide +kernel
theorem dX12_findRow_121 : decode cX12_findRow 121 = .ok (.goto (-101), 3) := by decide +kernel
theorem dX12_findRow_124 : decode cX12_findRow 124 = .ok (.iconst 0, 1) := by decide +kernel
theorem dX12_findRow_125 : decode cX12_findRow 125 = .ok (.istore_n 2, 1) := by decide +kernel
theorem dX12_findRow_126 : decode cX12_findRow 126 = .ok (.iconst 0, 1) := by decide +kernel
theorem dX12_findRow_127 : decode cX12_findRow 127 = .ok (.istore_n 3, 1) := by decide +kernel
theorem dX12_findRow_128 : decode cX12_findRow 128 = .ok (.iload_n 3, 1) := by decide +kernel
theorem dX12_findRow_129 : decode cX12_findRow 129 = .ok (.aload_n 0, 1) := by decide +kernel
theorem dX12_findRow_130 : decode cX12_findRow 130 = .ok (.getfield 184, 3) := by decide +kernel
theorem dX12_findRow_133 : decode cX12_findRow 133 = .ok (.if_icmp .ge 85, 3) := by decide +kernel
theorem dX12_findRow_136 : decode cX12_findRow 136 = .ok (.iconst 0, 1) := by decide +kernel
theorem dX12_findRow_137 : decode cX12_findRow 137 = .ok (.istore 4, 2) := by decide +kernel
theorem dX12_findRow_139 : decode cX12_findRow 139 = .ok (.aload_n 0, 1) := by decide +kernel
theorem dX12_findRow_140 : decode cX12_findRow 140 = .ok (.iload_n 2, 1) := by decide +kernel
theorem dX12_findRow_141 : decode cX12_findRow 141 = .ok (.iload 4, 2) := by decide +kernel
theorem dX12_findRow_143 : decode cX12_findRow 143 = .ok (.invokevirtual 359, 3) := by decide +kernel
theorem dX12_findRow_146 : decode cX12_findRow 146 = .ok (.ifCond .eq 45, 3) := by decide +kernel
theorem dX12_findRow_149 : decode cX12_findRow 149 = .ok (.aload_n 0, 1) := by decide +kernel
theorem dX12_findRow_150 : decode cX12_findRow 150 = .ok (.getfield 171, 3) := by decide +kernel
theorem dX12_findRow_153 : decode cX12_findRow 153 = .ok (.iload_n 2, 1) := by decide +kernel
theorem dX12_findRow_154 : decode cX12_findRow 154 = .ok (.iconst 1, 1) := by decide +kernel
theorem dX12_findRow_155 : decode cX12_findRow 155 = .ok (.iload 4, 2) := by decide +kernel
theorem dX12_findRow_157 : decode cX12_findRow 157 = .ok (.ishl, 1) := by decide +kernel
theorem dX12_findRow_158 : decode cX12_findRow 158 = .ok (.ior, 1) := by decide +kernel
theorem dX12_findRow_159 : decode cX12_findRow 159 = .ok (.iaload, 1) := by decide +kernel
theorem dX12_findRow_160 : decode cX12_findRow 160 = .ok (.aload_n 0, 1) := by decide +kernel
theorem dX12_findRow_161 : decode cX12_findRow 161 = .ok (.getfield 129, 3) := by decide +kernel
theorem dX12_findRow_164 : decode cX12_findRow 164 = .ok (.iload 4, 2) := by decide +kernel
theorem dX12_findRow_166 : decode cX12_findRow 166 = .ok (.iaload, 1) := by decide +kernel
theorem dX12_findRow_167 : decode cX12_findRow 167 = .ok (.aload_n 0, 1) := by decide +kernel
theorem dX12_findRow_168 : decode cX12_findRow 168 = .ok (.iload_n 2, 1) := by decide +kernel
theorem dX12_findRow_169 : decode cX12_findRow 169 = .ok (.invokevirtual 362, 3) := by decide +kernel
theorem dX12_findRow_172 : decode cX12_findRow 172 = .ok (.aload_n 0, 1) := by decide +kernel
theorem dX12_findRow_173 : decode cX12_findRow 173 = .ok (.getfield 126, 3) := by decide +kernel
theorem dX12_findRow_176 : decode cX12_findRow 176 = .ok (.iload 4, 2) := by decide +kernel
theorem dX12_findRow_178 : decode cX12_findRow 178 = .ok (.iaload, 1) := by decide +kernel
theorem dX12_findRow_179 : decode cX12_findRow 179 = .ok (.iadd, 1) := by decide +kernel
theorem dX12_findRow_180 : decode cX12_findRow 180 = .ok (.imul, 1) := by decide +kernel
theorem dX12_findRow_181 : decode cX12_findRow 181 = .ok (.iadd, 1) := by decide +kernel
theorem dX12_findRow_182 : decode cX12_findRow 182 = .ok (.aload_n 0, 1) := by decide +kernel
theorem dX12_findRow_183 : decode cX12_findRow 183 = .ok (.getfield 171, 3) := by decide +kernel
theorem dX12_findRow_186 : decode cX12_findRow 186 = .ok (.iload_n 2, 1) := by decide +kernel
theorem dX12_findRow_187 : decode cX12_findRow 187 = .ok (.iaload, 1) := by decide +kernel
theorem dX12_findRow_188 : decode cX12_findRow 188 = .ok (.if_icmp .eq 9, 3) := by decide +kernel
theorem dX12_findRow_191 : decode cX12_findRow 191 = .ok (.iinc 4 1, 3) := by decide +kernel
theorem dX12_findRow_194 : decode cX12_findRow 194 = .ok (.goto (-55), 3) := by decide +kernel
theorem dX12_findRow_197 : decode cX12_findRow 197 = .ok (.aload_n 0, 1) := by decide +kernel
theorem dX12_findRow_198 : decode cX12_findRow 198 = .ok (.getfield 174, 3) := by decide +kernel
theorem dX12_findRow_201 : decode cX12_findRow 201 = .ok (.iload_n 3, 1) := by decide +kernel
theorem dX12_findRow_202 : decode cX12_findRow 202 = .ok (.iload 4, 2) := by decide +kernel
theorem dX12_findRow_204 : decode cX12_findRow 204 = .ok (.iastore, 1) := by decide +kernel
theorem dX12_findRow_205 : decode cX12_findRow 205 = .ok (.iload_n 2, 1) := by decide +kernel
theorem dX12_findRow_206 : decode cX12_findRow 206 = .ok (.iconst 1, 1) := by decide +kernel
theorem dX12_findRow_207 : decode cX12_findRow 207 = .ok (.iload 4, 2) := by decide +kernel
theorem dX12_findRow_209 : decode cX12_findRow 209 = .ok (.ishl, 1) := by decide +kernel
theorem dX12_findRow_210 : decode cX12_findRow 210 = .ok (.ior, 1) := by decide +kernel
theorem dX12_findRow_211 : decode cX12_findRow 211 = .ok (.istore_n 2, 1) := by decide +kernel
theorem dX12_findRow_212 : decode cX12_findRow 212 = .ok (.iinc 3 1, 3) := by decide +kernel
theorem dX12_findRow_215 : decode cX12_findRow 215 = .ok (.goto (-87), 3) := by decide +kernel
theorem dX12_findRow_218 : decode cX12_findRow 218 = .ok (.return_, 1) := by decide +kernel
theorem dX12_waits_0 : decode cX12_waits 0 = .ok (.aload_n 0, 1) := by decide +kernel
theorem dX12_waits_1 : decode cX12_waits 1 = .ok (.getfield 184, 3) := by decide +kernel
theorem dX12_waits_4 : decode cX12_waits 4 = .ok (.ifCond .ne 5, 3) := by decide +kernel
theorem dX12_waits_7 : decode cX12_waits 7 = .ok (.iconst (-1), 1) := by decide +kernel
theorem dX12_waits_8 : decode cX12_waits 8 = .ok (.ireturn, 1) := by decide +kernel
theorem dX12_waits_9 : decode cX12_waits 9 = .ok (.aload_n 0, 1) := by decide +kernel
theorem dX12_waits_10 : decode cX12_waits 10 = .ok (.invokevirtual 365, 3) := by decide +kernel
theorem dX12_waits_13 : decode cX12_waits 13 = .ok (.aload_n 0, 1) := by decide +kernel
theorem dX12_waits_14 : decode cX12_waits 14 = .ok (.getfield 171, 3) := by decide +kernel
theorem dX12_waits_17 : decode cX12_waits 17 = .ok (.iconst 0, 1) := by decide +kernel
theorem dX12_waits_18 : decode cX12_waits 18 = .ok (.iaload, 1) := by decide +kernel
theorem dX12_waits_19 : decode cX12_waits 19 = .ok (.ireturn, 1) := by decide +kernel
theorem dX12_taught_0 : decode cX12_taught 0 = .ok (.iload_n 1, 1) := by decide +kernel
theorem dX12_taught_1 : decode cX12_taught 1 = .ok (.iconst 0, 1) := by decide +kernel
theorem dX12_taught_2 : decode cX12_taught 2 = .ok (.aload_n 0, 1) := by decide +kernel
theorem dX12_taught_3 : decode cX12_taught 3 = .ok (.getfield 184, 3) := by decide +kernel
theorem dX12_taught_6 : decode cX12_taught 6 = .ok (.iconst 1, 1) := by decide +kernel
theorem dX12_taught_7 : decode cX12_taught 7 = .ok (.isub, 1) := by decide +kernel
theorem dX12_taught_8 : decode cX12_taught 8 = .ok (.invokestatic 177, 3) := by decide +kernel
theorem dX12_taught_11 : decode cX12_taught 11 = .ok (.ifCond .ne 5, 3) := by decide +kernel
theorem dX12_taught_14 : decode cX12_taught 14 = .ok (.iconst (-1), 1) := by decide +kernel
theorem dX12_taught_15 : decode cX12_taught 15 = .ok (.ireturn, 1) := by decide +kernel
theorem dX12_taught_16 : decode cX12_taught 16 = .ok (.aload_n 0, 1) := by decide +kernel
theorem dX12_taught_17 : decode cX12_taught 17 = .ok (.invokevirtual 365, 3) := by decide +kernel
theorem dX12_taught_20 : decode cX12_taught 20 = .ok (.aload_n 0, 1) := by decide +kernel
theorem dX12_taught_21 : decode cX12_taught 21 = .ok (.getfield 174, 3) := by decide +kernel
theorem dX12_taught_24 : decode cX12_taught 24 = .ok (.iload_n 1, 1) := by decide +kernel
theorem dX12_taught_25 : decode cX12_taught 25 = .ok (.iaload, 1) := by decide +kernel
theorem dX12_taught_26 : decode cX12_taught 26 = .ok (.ireturn, 1) := by decide +kernel
theorem dX12_runs_0 : decode cX12_runs 0 = .ok (.aload_n 0, 1) := by decide +kernel
theorem dX12_runs_1 : decode cX12_runs 1 = .ok (.getfield 368, 3) := by decide +kernel
theorem dX12_runs_4 : decode cX12_runs 4 = .ok (.bipush 20, 2) := by decide +kernel
theorem dX12_runs_6 : decode cX12_runs 6 = .ok (.if_icmp .ge 13, 3) := by decide +kernel
theorem dX12_runs_9 : decode cX12_runs 9 = .ok (.aload_n 0, 1) := by decide +kernel
theorem dX12_runs_10 : decode cX12_runs 10 = .ok (.getfield 135, 3) := by decide +kernel
theorem dX12_runs_13 : decode cX12_runs 13 = .ok (.aload_n 0, 1) := by decide +kernel
theorem dX12_runs_14 : decode cX12_runs 14 = .ok (.getfield 368, 3) := by decide +kernel
theorem dX12_runs_17 : decode cX12_runs 17 = .ok (.iload_n 1, 1) := by decide +kernel
theorem dX12_runs_18 : decode cX12_runs 18 = .ok (.iastore, 1) := by decide +kernel
theorem dX12_runs_19 : decode cX12_runs 19 = .ok (.aload_n 0, 1) := by decide +kernel
theorem dX12_runs_20 : decode cX12_runs 20 = .ok (.dup, 1) := by decide +kernel
theorem dX12_runs_21 : decode cX12_runs 21 = .ok (.getfield 368, 3) := by decide +kernel
theorem dX12_runs_24 : decode cX12_runs 24 = .ok (.iconst 1, 1) := by decide +kernel
theorem dX12_runs_25 : decode cX12_runs 25 = .ok (.iadd, 1) := by decide +kernel
theorem dX12_runs_26 : decode cX12_runs 26 = .ok (.putfield 368, 3) := by decide +kernel
theorem dX12_runs_29 : decode cX12_runs 29 = .ok (.return_, 1) := by decide +kernel
theorem dX12_holds10_0 : decode cX12_holds10 0 = .ok (.aload_n 0, 1) := by decide +kernel
theorem dX12_holds10_1 : decode cX12_holds10 1 = .ok (.bipush 10, 2) := by decide +kernel
theorem dX12_holds10_3 : decode cX12_holds10 3 = .ok (.invokevirtual 371, 3) := by decide +kernel
theorem dX12_holds10_6 : decode cX12_holds10 6 = .ok (.iload_n 1, 1) := by decide +kernel
theorem dX12_holds10_7 : decode cX12_holds10 7 = .ok (.aload_n 0, 1) := by decide +kernel
theorem dX12_holds10_8 : decode cX12_holds10 8 = .ok (.getfield 32, 3) := by decide +kernel
theorem dX12_holds10_11 : decode cX12_holds10 11 = .ok (.aload_n 0, 1) := by decide +kernel
theorem dX12_holds10_12 : decode cX12_holds10 12 = .ok (.getfield 374, 3) := by decide +kernel
theorem dX12_holds10_15 : decode cX12_holds10 15 = .ok (.iaload, 1) := by decide +kernel
theorem dX12_holds10_16 : decode cX12_holds10 16 = .ok (.iadd, 1) := by decide +kernel
theorem dX12_holds10_17 : decode cX12_holds10 17 = .ok (.ireturn, 1) := by decide +kernel
theorem dX12_actHolds_0 : decode cX12_actHolds 0 = .ok (.aload_n 0, 1) := by decide +kernel
theorem dX12_actHolds_1 : decode cX12_actHolds 1 = .ok (.getfield 26, 3) := by decide +kernel
theorem dX12_actHolds_4 : decode cX12_actHolds 4 = .ok (.aload_n 0, 1) := by decide +kernel
theorem dX12_actHolds_5 : decode cX12_actHolds 5 = .ok (.getfield 374, 3) := by decide +kernel
theorem dX12_actHolds_8 : decode cX12_actHolds 8 = .ok (.iaload, 1) := by decide +kernel
theorem dX12_actHolds_9 : decode cX12_actHolds 9 = .ok (.istore_n 2, 1) := by decide +kernel
theorem dX12_actHolds_10 : decode cX12_actHolds 10 = .ok (.iload_n 2, 1) := by decide +kernel
theorem dX12_actHolds_11 : decode cX12_actHolds 11 = .ok (.iconst 2, 1) := by decide +kernel
theorem dX12_actHolds_12 : decode cX12_actHolds 12 = .ok (.if_icmp .ne 17, 3) := by decide +kernel
theorem dX12_actHolds_15 : decode cX12_actHolds 15 = .ok (.aload_n 0, 1) := by decide +kernel
theorem dX12_actHolds_16 : decode cX12_actHolds 16 = .ok (.bipush 30, 2) := by decide +kernel
theorem dX12_actHolds_18 : decode cX12_actHolds 18 = .ok (.invokevirtual 371, 3) := by decide +kernel
theorem dX12_actHolds_21 : decode cX12_actHolds 21 = .ok (.aload_n 0, 1) := by decide +kernel
theorem dX12_actHolds_22 : decode cX12_actHolds 22 = .ok (.iload_n 1, 1) := by decide +kernel
theorem dX12_actHolds_23 : decode cX12_actHolds 23 = .ok (.invokevirtual 377, 3) := by decide +kernel
theorem dX12_actHolds_26 : decode cX12_actHolds 26 = .ok (.iconst 3, 1) := by decide +kernel
theorem dX12_actHolds_27 : decode cX12_actHolds 27 = .ok (.imul, 1) := by decide +kernel
theorem dX12_actHolds_28 : decode cX12_actHolds 28 = .ok (.ireturn, 1) := by decide +kernel
theorem dX12_actHolds_29 : decode cX12_actHolds 29 = .ok (.iload_n 2, 1) := by decide +kernel
theorem dX12_actHolds_30 : decode cX12_actHolds 30 = .ok (.iconst 4, 1) := by decide +kernel
theorem dX12_actHolds_31 : decode cX12_actHolds 31 = .ok (.if_icmp .lt 20, 3) := by decide +kernel
theorem dX12_actHolds_34 : decode cX12_actHolds 34 = .ok (.aload_n 0, 1) := by decide +kernel
theorem dX12_actHolds_35 : decode cX12_actHolds 35 = .ok (.bipush 50, 2) := by decide +kernel
theorem dX12_actHolds_37 : decode cX12_actHolds 37 = .ok (.invokevirtual 371, 3) := by decide +kernel
theorem dX12_actHolds_40 : decode cX12_actHolds 40 = .ok (.aload_n 0, 1) := by decide +kernel
theorem dX12_actHolds_41 : decode cX12_actHolds 41 = .ok (.iload_n 1, 1) := by decide +kernel
theorem dX12_actHolds_42 : decode cX12_actHolds 42 = .ok (.invokevirtual 377, 3) := by decide +kernel
theorem dX12_actHolds_45 : decode cX12_actHolds 45 = .ok (.aload_n 0, 1) := by decide +kernel
theorem dX12_actHolds_46 : decode cX12_actHolds 46 = .ok (.getfield 374, 3) := by decide +kernel
theorem dX12_actHolds_49 : decode cX12_actHolds 49 = .ok (.ixor, 1) := by decide +kernel
theorem dX12_actHolds_50 : decode cX12_actHolds 50 = .ok (.ireturn, 1) := by decide +kernel
theorem dX12_actHolds_51 : decode cX12_actHolds 51 = .ok (.aload_n 0, 1) := by decide +kernel
theorem dX12_actHolds_52 : decode cX12_actHolds 52 = .ok (.iload_n 1, 1) := by decide +kernel
theorem dX12_actHolds_53 : decode cX12_actHolds 53 = .ok (.invokevirtual 377, 3) := by decide +kernel
theorem dX12_actHolds_56 : decode cX12_actHolds 56 = .ok (.ireturn, 1) := by decide +kernel
theorem dX12_hangs11_0 : decode cX12_hangs11 0 = .ok (.aload_n 0, 1) := by decide +kernel
theorem dX12_hangs11_1 : decode cX12_hangs11 1 = .ok (.bipush 11, 2) := by decide +kernel
theorem dX12_hangs11_3 : decode cX12_hangs11 3 = .ok (.invokevirtual 371, 3) := by decide +kernel
theorem dX12_hangs11_6 : decode cX12_hangs11 6 = .ok (.aload_n 0, 1) := by decide +kernel
theorem dX12_hangs11_7 : decode cX12_hangs11 7 = .ok (.iload_n 1, 1) := by decide +kernel
theorem dX12_hangs11_8 : decode cX12_hangs11 8 = .ok (.invokevirtual 380, 3) := by decide +kernel
theorem dX12_hangs11_11 : decode cX12_hangs11 11 = .ok (.iconst 2, 1) := by decide +kernel
theorem dX12_hangs11_12 : decode cX12_hangs11 12 = .ok (.imul, 1) := by decide +kernel
theorem dX12_hangs11_13 : decode cX12_hangs11 13 = .ok (.ireturn, 1) := by decide +kernel
theorem dX12_hangs20_0 : decode cX12_hangs20 0 = .ok (.aload_n 0, 1) := by decide +kernel
theorem dX12_hangs20_1 : decode cX12_hangs20 1 = .ok (.bipush 20, 2) := by decide +kernel
theorem dX12_hangs20_3 : decode cX12_hangs20 3 = .ok (.invokevirtual 371, 3) := by decide +kernel
theorem dX12_hangs20_6 : decode cX12_hangs20 6 = .ok (.aload_n 0, 1) := by decide +kernel
theorem dX12_hangs20_7 : decode cX12_hangs20 7 = .ok (.iload_n 1, 1) := by decide +kernel
theorem dX12_hangs20_8 : decode cX12_hangs20 8 = .ok (.invokevirtual 383, 3) := by decide +kernel
theorem dX12_hangs20_11 : decode cX12_hangs20 11 = .ok (.aload_n 0, 1) := by decide +kernel
theorem dX12_hangs20_12 : decode cX12_hangs20 12 = .ok (.getfield 32, 3) := by decide +kernel
theorem dX12_hangs20_15 : decode cX12_hangs20 15 = .ok (.aload_n 0, 1) := by decide +kernel
theorem dX12_hangs20_16 : decode cX12_hangs20 16 = .ok (.getfield 374, 3) := by decide +kernel
theorem dX12_hangs20_19 : decode cX12_hangs20 19 = .ok (.iaload, 1) := by decide +kernel
theorem dX12_hangs20_20 : decode cX12_hangs20 20 = .ok (.isub, 1) := by decide +kernel
theorem dX12_hangs20_21 : decode cX12_hangs20 21 = .ok (.ireturn, 1) := by decide +kernel
theorem dX12_actHangs_0 : decode cX12_actHangs 0 = .ok (.aload_n 0, 1) := by decide +kernel
theorem dX12_actHangs_1 : decode cX12_actHangs 1 = .ok (.getfield 26, 3) := by decide +kernel
theorem dX12_actHangs_4 : decode cX12_actHangs 4 = .ok (.aload_n 0, 1) := by decide +kernel
theorem dX12_actHangs_5 : decode cX12_actHangs 5 = .ok (.getfield 374, 3) := by decide +kernel
theorem dX12_actHangs_8 : decode cX12_actHangs 8 = .ok (.iaload, 1) := by decide +kernel
theorem dX12_actHangs_9 : decode cX12_actHangs 9 = .ok (.istore_n 2, 1) := by decide +kernel
theorem dX12_actHangs_10 : decode cX12_actHangs 10 = .ok (.iload_n 2, 1) := by decide +kernel
theorem dX12_actHangs_11 : decode cX12_actHangs 11 = .ok (.iconst 5, 1) := by decide +kernel
theorem dX12_actHangs_12 : decode cX12_actHangs 12 = .ok (.if_icmp .ne 20, 3) := by decide +kernel
theorem dX12_actHangs_15 : decode cX12_actHangs 15 = .ok (.aload_n 0, 1) := by decide +kernel
theorem dX12_actHangs_16 : decode cX12_actHangs 16 = .ok (.bipush 61, 2) := by decide +kernel
theorem dX12_actHangs_18 : decode cX12_actHangs 18 = .ok (.invokevirtual 371, 3) := by decide +kernel
theorem dX12_actHangs_21 : decode cX12_actHangs 21 = .ok (.aload_n 0, 1) := by decide +kernel
theorem dX12_actHangs_22 : decode cX12_actHangs 22 = .ok (.iload_n 1, 1) := by decide +kernel
theorem dX12_actHangs_23 : decode cX12_actHangs 23 = .ok (.aload_n 0, 1) := by decide +kernel
theorem dX12_actHangs_24 : decode cX12_actHangs 24 = .ok (.getfield 374, 3) := by decide +kernel
theorem dX12_actHangs_27 : decode cX12_actHangs 27 = .ok (.isub, 1) := by decide +kernel
theorem dX12_actHangs_28 : decode cX12_actHangs 28 = .ok (.invokevirtual 386, 3) := by decide +kernel
theorem dX12_actHangs_31 : decode cX12_actHangs 31 = .ok (.ireturn, 1) := by decide +kernel
theorem dX12_actHangs_32 : decode cX12_actHangs 32 = .ok (.iload_n 2, 1) := by decide +kernel
theorem dX12_actHangs_33 : decode cX12_actHangs 33 = .ok (.iconst 1, 1) := by decide +kernel
theorem dX12_actHangs_34 : decode cX12_actHangs 34 = .ok (.if_icmp .eq 8, 3) := by decide +kernel
theorem dX12_actHangs_37 : decode cX12_actHangs 37 = .ok (.iload_n 2, 1) := by decide +kernel
theorem dX12_actHangs_38 : decode cX12_actHangs 38 = .ok (.iconst 4, 1) := by decide +kernel
theorem dX12_actHangs_39 : decode cX12_actHangs 39 = .ok (.if_icmp .ne 11, 3) := by decide +kernel
theorem dX12_actHangs_42 : decode cX12_actHangs 42 = .ok (.aload_n 0, 1) := by decide +kernel
theorem dX12_actHangs_43 : decode cX12_actHangs 43 = .ok (.iload_n 1, 1) := by decide +kernel
theorem dX12_actHangs_44 : decode cX12_actHangs 44 = .ok (.invokevirtual 386, 3) := by decide +kernel
theorem dX12_actHangs_47 : decode cX12_actHangs 47 = .ok (.goto 8, 3) := by decide +kernel
theorem dX12_actHangs_50 : decode cX12_actHangs 50 = .ok (.aload_n 0, 1) := by decide +kernel
theorem dX12_actHangs_51 : decode cX12_actHangs 51 = .ok (.iload_n 1, 1) := by decide +kernel
theorem dX12_actHangs_52 : decode cX12_actHangs 52 = .ok (.invokevirtual 383, 3) := by decide +kernel
theorem dX12_actHangs_55 : decode cX12_actHangs 55 = .ok (.ireturn, 1) := by decide +kernel
theorem dX12_saves12_0 : decode cX12_saves12 0 = .ok (.aload_n 0, 1) := by decide +kernel
theorem dX12_saves12_1 : decode cX12_saves12 1 = .ok (.bipush 12, 2) := by decide +kernel
theorem dX12_saves12_3 : decode cX12_saves12 3 = .ok (.invokevirtual 371, 3) := by decide +kernel
theorem dX12_saves12_6 : decode cX12_saves12 6 = .ok (.aload_n 0, 1) := by decide +kernel
theorem dX12_saves12_7 : decode cX12_saves12 7 = .ok (.iload_n 1, 1) := by decide +kernel
theorem dX12_saves12_8 : decode cX12_saves12 8 = .ok (.invokevirtual 389, 3) := by decide +kernel
theorem dX12_saves12_11 : decode cX12_saves12 11 = .ok (.istore_n 2, 1) := by decide +kernel
theorem dX12_saves12_12 : decode cX12_saves12 12 = .ok (.iload_n 2, 1) := by decide +kernel
theorem dX12_saves12_13 : decode cX12_saves12 13 = .ok (.aload_n 0, 1) := by decide +kernel
theorem dX12_saves12_14 : decode cX12_saves12 14 = .ok (.iload_n 1, 1) := by decide +kernel
theorem dX12_saves12_15 : decode cX12_saves12 15 = .ok (.aload_n 0, 1) := by decide +kernel
theorem dX12_saves12_16 : decode cX12_saves12 16 = .ok (.getfield 374, 3) := by decide +kernel
theorem dX12_saves12_19 : decode cX12_saves12 19 = .ok (.iadd, 1) := by decide +kernel
theorem dX12_saves12_20 : decode cX12_saves12 20 = .ok (.invokevirtual 380, 3) := by decide +kernel
theorem dX12_saves12_23 : decode cX12_saves12 23 = .ok (.ixor, 1) := by decide +kernel
theorem dX12_saves12_24 : decode cX12_saves12 24 = .ok (.ireturn, 1) := by decide +kernel
theorem dX12_actSaves_0 : decode cX12_actSaves 0 = .ok (.aload_n 0, 1) := by decide +kernel
theorem dX12_actSaves_1 : decode cX12_actSaves 1 = .ok (.getfield 26, 3) := by decide +kernel
theorem dX12_actSaves_4 : decode cX12_actSaves 4 = .ok (.aload_n 0, 1) := by decide +kernel
theorem dX12_actSaves_5 : decode cX12_actSaves 5 = .ok (.getfield 374, 3) := by decide +kernel
theorem dX12_actSaves_8 : decode cX12_actSaves 8 = .ok (.iaload, 1) := by decide +kernel
theorem dX12_actSaves_9 : decode cX12_actSaves 9 = .ok (.istore_n 2, 1) := by decide +kernel
theorem dX12_actSaves_10 : decode cX12_actSaves 10 = .ok (.iload_n 2, 1) := by decide +kernel
theorem dX12_actSaves_11 : decode cX12_actSaves 11 = .ok (.iconst 3, 1) := by decide +kernel
theorem dX12_actSaves_12 : decode cX12_actSaves 12 = .ok (.if_icmp .ne 17, 3) := by decide +kernel
theorem dX12_actSaves_15 : decode cX12_actSaves 15 = .ok (.aload_n 0, 1) := by decide +kernel
theorem dX12_actSaves_16 : decode cX12_actSaves 16 = .ok (.bipush 40, 2) := by decide +kernel
theorem dX12_actSaves_18 : decode cX12_actSaves 18 = .ok (.invokevirtual 371, 3) := by decide +kernel
theorem dX12_actSaves_21 : decode cX12_actSaves 21 = .ok (.aload_n 0, 1) := by decide +kernel
theorem dX12_actSaves_22 : decode cX12_actSaves 22 = .ok (.iload_n 1, 1) := by decide +kernel
theorem dX12_actSaves_23 : decode cX12_actSaves 23 = .ok (.iconst 1, 1) := by decide +kernel
theorem dX12_actSaves_24 : decode cX12_actSaves 24 = .ok (.iadd, 1) := by decide +kernel
theorem dX12_actSaves_25 : decode cX12_actSaves 25 = .ok (.invokevirtual 392, 3) := by decide +kernel
theorem dX12_actSaves_28 : decode cX12_actSaves 28 = .ok (.ireturn, 1) := by decide +kernel
theorem dX12_actSaves_29 : decode cX12_actSaves 29 = .ok (.iload_n 2, 1) := by decide +kernel
theorem dX12_actSaves_30 : decode cX12_actSaves 30 = .ok (.iconst 5, 1) := by decide +kernel
theorem dX12_actSaves_31 : decode cX12_actSaves 31 = .ok (.if_icmp .ne 17, 3) := by decide +kernel
theorem dX12_actSaves_34 : decode cX12_actSaves 34 = .ok (.aload_n 0, 1) := by decide +kernel
theorem dX12_actSaves_35 : decode cX12_actSaves 35 = .ok (.bipush 60, 2) := by decide +kernel
theorem dX12_actSaves_37 : decode cX12_actSaves 37 = .ok (.invokevirtual 371, 3) := by decide +kernel
theorem dX12_actSaves_40 : decode cX12_actSaves 40 = .ok (.aload_n 0, 1) := by decide +kernel
theorem dX12_actSaves_41 : decode cX12_actSaves 41 = .ok (.iload_n 1, 1) := by decide +kernel
theorem dX12_actSaves_42 : decode cX12_actSaves 42 = .ok (.invokevirtual 392, 3) := by decide +kernel
theorem dX12_actSaves_45 : decode cX12_actSaves 45 = .ok (.iconst 4, 1) := by decide +kernel
theorem dX12_actSaves_46 : decode cX12_actSaves 46 = .ok (.iadd, 1) := by decide +kernel
theorem dX12_actSaves_47 : decode cX12_actSaves 47 = .ok (.ireturn, 1) := by decide +kernel
theorem dX12_actSaves_48 : decode cX12_actSaves 48 = .ok (.aload_n 0, 1) := by decide +kernel
theorem dX12_actSaves_49 : decode cX12_actSaves 49 = .ok (.iload_n 1, 1) := by decide +kernel
theorem dX12_actSaves_50 : decode cX12_actSaves 50 = .ok (.invokevirtual 392, 3) := by decide +kernel
theorem dX12_actSaves_53 : decode cX12_actSaves 53 = .ok (.ireturn, 1) := by decide +kernel
theorem dX12_act_0 : decode cX12_act 0 = .ok (.aload_n 0, 1) := by decide +kernel
theorem dX12_act_1 : decode cX12_act 1 = .ok (.iconst 0, 1) := by decide +kernel
theorem dX12_act_2 : decode cX12_act 2 = .ok (.putfield 368, 3) := by decide +kernel
theorem dX12_act_5 : decode cX12_act 5 = .ok (.aload_n 0, 1) := by decide +kernel
theorem dX12_act_6 : decode cX12_act 6 = .ok (.iload_n 1, 1) := by decide +kernel
theorem dX12_act_7 : decode cX12_act 7 = .ok (.invokevirtual 242, 3) := by decide +kernel
theorem dX12_act_10 : decode cX12_act 10 = .ok (.ifCond .eq 12, 3) := by decide +kernel
theorem dX12_act_13 : decode cX12_act 13 = .ok (.iload_n 2, 1) := by decide +kernel
theorem dX12_act_14 : decode cX12_act 14 = .ok (.iconst 0, 1) := by decide +kernel
theorem dX12_act_15 : decode cX12_act 15 = .ok (.iconst 2, 1) := by decide +kernel
theorem dX12_act_16 : decode cX12_act 16 = .ok (.invokestatic 177, 3) := by decide +kernel
theorem dX12_act_19 : decode cX12_act 19 = .ok (.ifCond .ne 5, 3) := by decide +kernel
theorem dX12_act_22 : decode cX12_act 22 = .ok (.iconst 0, 1) := by decide +kernel
theorem dX12_act_23 : decode cX12_act 23 = .ok (.ireturn, 1) := by decide +kernel
theorem dX12_act_24 : decode cX12_act 24 = .ok (.aload_n 0, 1) := by decide +kernel
theorem dX12_act_25 : decode cX12_act 25 = .ok (.iload_n 1, 1) := by decide +kernel
theorem dX12_act_26 : decode cX12_act 26 = .ok (.putfield 374, 3) := by decide +kernel
theorem dX12_act_29 : decode cX12_act 29 = .ok (.iload_n 2, 1) := by decide +kernel
theorem dX12_act_30 : decode cX12_act 30 = .ok (.ifCond .ne 11, 3) := by decide +kernel
theorem dX12_act_33 : decode cX12_act 33 = .ok (.aload_n 0, 1) := by decide +kernel
theorem dX12_act_34 : decode cX12_act 34 = .ok (.iload_n 3, 1) := by decide +kernel
theorem dX12_act_35 : decode cX12_act 35 = .ok (.invokevirtual 380, 3) := by decide +kernel
theorem dX12_act_38 : decode cX12_act 38 = .ok (.goto 21, 3) := by decide +kernel
theorem dX12_act_41 : decode cX12_act 41 = .ok (.iload_n 2, 1) := by decide +kernel
theorem dX12_act_42 : decode cX12_act 42 = .ok (.iconst 1, 1) := by decide +kernel
theorem dX12_act_43 : decode cX12_act 43 = .ok (.if_icmp .ne 11, 3) := by decide +kernel
theorem dX12_act_46 : decode cX12_act 46 = .ok (.aload_n 0, 1) := by decide +kernel
theorem dX12_act_47 : decode cX12_act 47 = .ok (.iload_n 3, 1) := by decide +kernel
theorem dX12_act_48 : decode cX12_act 48 = .ok (.invokevirtual 389, 3) := by decide +kernel
theorem dX12_act_51 : decode cX12_act 51 = .ok (.goto 8, 3) := by decide +kernel
theorem dX12_act_54 : decode cX12_act 54 = .ok (.aload_n 0, 1) := by decide +kernel
theorem dX12_act_55 : decode cX12_act 55 = .ok (.iload_n 3, 1) := by decide +kernel
theorem dX12_act_56 : decode cX12_act 56 = .ok (.invokevirtual 395, 3) := by decide +kernel
theorem dX12_act_59 : decode cX12_act 59 = .ok (.ireturn, 1) := by decide +kernel
theorem dX12_trace_0 : decode cX12_trace 0 = .ok (.iload_n 1, 1) := by decide +kernel
theorem dX12_trace_1 : decode cX12_trace 1 = .ok (.iconst 0, 1) := by decide +kernel
theorem dX12_trace_2 : decode cX12_trace 2 = .ok (.aload_n 0, 1) := by decide +kernel
theorem dX12_trace_3 : decode cX12_trace 3 = .ok (.getfield 368, 3) := by decide +kernel
theorem dX12_trace_6 : decode cX12_trace 6 = .ok (.bipush 20, 2) := by decide +kernel
theorem dX12_trace_8 : decode cX12_trace 8 = .ok (.if_icmp .ge 10, 3) := by decide +kernel
theorem dX12_trace_11 : decode cX12_trace 11 = .ok (.aload_n 0, 1) := by decide +kernel
theorem dX12_trace_12 : decode cX12_trace 12 = .ok (.getfield 368, 3) := by decide +kernel
theorem dX12_trace_15 : decode cX12_trace 15 = .ok (.goto 5, 3) := by decide +kernel
theorem dX12_trace_18 : decode cX12_trace 18 = .ok (.bipush 20, 2) := by decide +kernel
theorem dX12_trace_20 : decode cX12_trace 20 = .ok (.iconst 1, 1) := by decide +kernel
theorem dX12_trace_21 : decode cX12_trace 21 = .ok (.isub, 1) := by decide +kernel
theorem dX12_trace_22 : decode cX12_trace 22 = .ok (.invokestatic 177, 3) := by decide +kernel
theorem dX12_trace_25 : decode cX12_trace 25 = .ok (.ifCond .eq 12, 3) := by decide +kernel
theorem dX12_trace_28 : decode cX12_trace 28 = .ok (.aload_n 0, 1) := by decide +kernel
theorem dX12_trace_29 : decode cX12_trace 29 = .ok (.getfield 135, 3) := by decide +kernel
theorem dX12_trace_32 : decode cX12_trace 32 = .ok (.iload_n 1, 1) := by decide +kernel
theorem dX12_trace_33 : decode cX12_trace 33 = .ok (.iaload, 1) := by decide +kernel
theorem dX12_trace_34 : decode cX12_trace 34 = .ok (.goto 4, 3) := by decide +kernel
theorem dX12_trace_37 : decode cX12_trace 37 = .ok (.iconst (-1), 1) := by decide +kernel
theorem dX12_trace_38 : decode cX12_trace 38 = .ok (.ireturn, 1) := by decide +kernel
theorem dX12_above_0 : decode cX12_above 0 = .ok (.iload_n 0, 1) := by decide +kernel
theorem dX12_above_1 : decode cX12_above 1 = .ok (.iconst 5, 1) := by decide +kernel
theorem dX12_above_2 : decode cX12_above 2 = .ok (.if_icmp .ne 7, 3) := by decide +kernel
theorem dX12_above_5 : decode cX12_above 5 = .ok (.iconst 4, 1) := by decide +kernel
theorem dX12_above_6 : decode cX12_above 6 = .ok (.goto 21, 3) := by decide +kernel
theorem dX12_above_9 : decode cX12_above 9 = .ok (.iload_n 0, 1) := by decide +kernel
theorem dX12_above_10 : decode cX12_above 10 = .ok (.iconst 4, 1) := by decide +kernel
theorem dX12_above_11 : decode cX12_above 11 = .ok (.if_icmp .ne 7, 3) := by decide +kernel
theorem dX12_above_14 : decode cX12_above 14 = .ok (.iconst 1, 1) := by decide +kernel
theorem dX12_above_15 : decode cX12_above 15 = .ok (.goto 12, 3) := by decide +kernel
theorem dX12_above_18 : decode cX12_above 18 = .ok (.iload_n 0, 1) := by decide +kernel
theorem dX12_above_19 : decode cX12_above 19 = .ok (.ifCond .ne 7, 3) := by decide +kernel
theorem dX12_above_22 : decode cX12_above 22 = .ok (.iconst (-1), 1) := by decide +kernel
theorem dX12_above_23 : decode cX12_above 23 = .ok (.goto 4, 3) := by decide +kernel
theorem dX12_above_26 : decode cX12_above 26 = .ok (.iconst 0, 1) := by decide +kernel
theorem dX12_above_27 : decode cX12_above 27 = .ok (.ireturn, 1) := by decide +kernel
theorem dX12_taken_0 : decode cX12_taken 0 = .ok (.iload_n 2, 1) := by decide +kernel
theorem dX12_taken_1 : decode cX12_taken 1 = .ok (.iconst 0, 1) := by decide +kernel
theorem dX12_taken_2 : decode cX12_taken 2 = .ok (.iconst 5, 1) := by decide +kernel
theorem dX12_taken_3 : decode cX12_taken 3 = .ok (.invokestatic 177, 3) := by decide +kernel
theorem dX12_taken_6 : decode cX12_taken 6 = .ok (.ifCond .ne 6, 3) := by decide +kernel
theorem dX12_taken_9 : decode cX12_taken 9 = .ok (.bipush (-2), 2) := by decide +kernel
theorem dX12_taken_11 : decode cX12_taken 11 = .ok (.ireturn, 1) := by decide +kernel
theorem dX12_taken_12 : decode cX12_taken 12 = .ok (.aload_n 0, 1) := by decide +kernel
theorem dX12_taken_13 : decode cX12_taken 13 = .ok (.iload_n 1, 1) := by decide +kernel
theorem dX12_taken_14 : decode cX12_taken 14 = .ok (.invokevirtual 242, 3) := by decide +kernel
theorem dX12_taken_17 : decode cX12_taken 17 = .ok (.ifCond .ne 6, 3) := by decide +kernel
theorem dX12_taken_20 : decode cX12_taken 20 = .ok (.bipush (-11), 2) := by decide +kernel
theorem dX12_taken_22 : decode cX12_taken 22 = .ok (.ireturn, 1) := by decide +kernel
theorem dX12_taken_23 : decode cX12_taken 23 = .ok (.aload_n 0, 1) := by decide +kernel
theorem dX12_taken_24 : decode cX12_taken 24 = .ok (.getfield 26, 3) := by decide +kernel
theorem dX12_taken_27 : decode cX12_taken 27 = .ok (.iload_n 1, 1) := by decide +kernel
theorem dX12_taken_28 : decode cX12_taken 28 = .ok (.iaload, 1) := by decide +kernel
theorem dX12_taken_29 : decode cX12_taken 29 = .ok (.istore_n 3, 1) := by decide +kernel
theorem dX12_taken_30 : decode cX12_taken 30 = .ok (.iload_n 3, 1) := by decide +kernel
theorem dX12_taken_31 : decode cX12_taken 31 = .ok (.iconst (-1), 1) := by decide +kernel
theorem dX12_taken_32 : decode cX12_taken 32 = .ok (.if_icmp .eq 16, 3) := by decide +kernel
theorem dX12_taken_35 : decode cX12_taken 35 = .ok (.iload_n 3, 1) := by decide +kernel
theorem dX12_taken_36 : decode cX12_taken 36 = .ok (.iload_n 2, 1) := by decide +kernel
theorem dX12_taken_37 : decode cX12_taken 37 = .ok (.if_icmp .eq 11, 3) := by decide +kernel
theorem dX12_taken_40 : decode cX12_taken 40 = .ok (.iload_n 3, 1) := by decide +kernel
theorem dX12_taken_41 : decode cX12_taken 41 = .ok (.invokestatic 398, 3) := by decide +kernel
theorem dX12_taken_44 : decode cX12_taken 44 = .ok (.istore_n 3, 1) := by decide +kernel
theorem dX12_taken_45 : decode cX12_taken 45 = .ok (.goto (-15), 3) := by decide +kernel
theorem dX12_taken_48 : decode cX12_taken 48 = .ok (.iload_n 3, 1) := by decide +kernel
theorem dX12_taken_49 : decode cX12_taken 49 = .ok (.iconst (-1), 1) := by decide +kernel
theorem dX12_taken_50 : decode cX12_taken 50 = .ok (.if_icmp .ne 8, 3) := by decide +kernel
theorem dX12_taken_53 : decode cX12_taken 53 = .ok (.bipush (-13), 2) := by decide +kernel
theorem dX12_taken_55 : decode cX12_taken 55 = .ok (.goto 9, 3) := by decide +kernel
theorem dX12_taken_58 : decode cX12_taken 58 = .ok (.aload_n 0, 1) := by decide +kernel
theorem dX12_taken_59 : decode cX12_taken 59 = .ok (.getfield 26, 3) := by decide +kernel
theorem dX12_taken_62 : decode cX12_taken 62 = .ok (.iload_n 1, 1) := by decide +kernel
theorem dX12_taken_63 : decode cX12_taken 63 = .ok (.iaload, 1) := by decide +kernel
theorem dX12_taken_64 : decode cX12_taken 64 = .ok (.ireturn, 1) := by decide +kernel
theorem dX12_count_0 : decode cX12_count 0 = .ok (.iconst 0, 1) := by decide +kernel
theorem dX12_count_1 : decode cX12_count 1 = .ok (.istore_n 2, 1) := by decide +kernel
theorem dX12_count_2 : decode cX12_count 2 = .ok (.iload_n 1, 1) := by decide +kernel
theorem dX12_count_3 : decode cX12_count 3 = .ok (.tableswitch 184 0 12 #[65, 70, 75, 80, 85, 85, 130, 135, 140, 145, 150, 174, 179], 65) := by decide +kernel
theorem dX12_count_68 : decode cX12_count 68 = .ok (.aload_n 0, 1) := by decide +kernel
theorem dX12_count_69 : decode cX12_count 69 = .ok (.getfield 181, 3) := by decide +kernel
theorem dX12_count_72 : decode cX12_count 72 = .ok (.ireturn, 1) := by decide +kernel
theorem dX12_count_73 : decode cX12_count 73 = .ok (.aload_n 0, 1) := by decide +kernel
theorem dX12_count_74 : decode cX12_count 74 = .ok (.getfield 184, 3) := by decide +kernel
theorem dX12_count_77 : decode cX12_count 77 = .ok (.ireturn, 1) := by decide +kernel
theorem dX12_count_78 : decode cX12_count 78 = .ok (.aload_n 0, 1) := by decide +kernel
theorem dX12_count_79 : decode cX12_count 79 = .ok (.getfield 299, 3) := by decide +kernel
theorem dX12_count_82 : decode cX12_count 82 = .ok (.ireturn, 1) := by decide +kernel
theorem dX12_count_83 : decode cX12_count 83 = .ok (.aload_n 0, 1) := by decide +kernel
theorem dX12_count_84 : decode cX12_count 84 = .ok (.getfield 287, 3) := by decide +kernel
theorem dX12_count_87 : decode cX12_count 87 = .ok (.ireturn, 1) := by decide +kernel
theorem dX12_count_88 : decode cX12_count 88 = .ok (.iconst 0, 1) := by decide +kernel
theorem dX12_count_89 : decode cX12_count 89 = .ok (.istore_n 3, 1) := by decide +kernel
theorem dX12_count_90 : decode cX12_count 90 = .ok (.iload_n 3, 1) := by decide +kernel
theorem dX12_count_91 : decode cX12_count 91 = .ok (.aload_n 0, 1) := by decide +kernel
theorem dX12_count_92 : decode cX12_count 92 = .ok (.getfield 287, 3) := by decide +kernel
theorem dX12_count_95 : decode cX12_count 95 = .ok (.if_icmp .ge 36, 3) := by decide +kernel
theorem dX12_count_98 : decode cX12_count 98 = .ok (.iload_n 2, 1) := by decide +kernel
theorem dX12_count_99 : decode cX12_count 99 = .ok (.aload_n 0, 1) := by decide +kernel
theorem dX12_count_100 : decode cX12_count 100 = .ok (.getfield 105, 3) := by decide +kernel
theorem dX12_count_103 : decode cX12_count 103 = .ok (.iload_n 3, 1) := by decide +kernel
theorem dX12_count_104 : decode cX12_count 104 = .ok (.iaload, 1) := by decide +kernel
theorem dX12_count_105 : decode cX12_count 105 = .ok (.iload_n 1, 1) := by decide +kernel
theorem dX12_count_106 : decode cX12_count 106 = .ok (.iconst 4, 1) := by decide +kernel
theorem dX12_count_107 : decode cX12_count 107 = .ok (.if_icmp .ne 7, 3) := by decide +kernel
theorem dX12_count_110 : decode cX12_count 110 = .ok (.iconst 0, 1) := by decide +kernel
theorem dX12_count_111 : decode cX12_count 111 = .ok (.goto 4, 3) := by decide +kernel
theorem dX12_count_114 : decode cX12_count 114 = .ok (.iconst 2, 1) := by decide +kernel
theorem dX12_count_115 : decode cX12_count 115 = .ok (.if_icmp .ne 7, 3) := by decide +kernel
theorem dX12_count_118 : decode cX12_count 118 = .ok (.iconst 1, 1) := by decide +kernel
theorem dX12_count_119 : decode cX12_count 119 = .ok (.goto 4, 3) := by decide +kernel
theorem dX12_count_122 : decode cX12_count 122 = .ok (.iconst 0, 1) := by decide +kernel
theorem dX12_count_123 : decode cX12_count 123 = .ok (.iadd, 1) := by decide +kernel
theorem dX12_count_124 : decode cX12_count 124 = .ok (.istore_n 2, 1) := by decide +kernel
theorem dX12_count_125 : decode cX12_count 125 = .ok (.iinc 3 1, 3) := by decide +kernel
theorem dX12_count_128 : decode cX12_count 128 = .ok (.goto (-38), 3) := by decide +kernel
theorem dX12_count_131 : decode cX12_count 131 = .ok (.iload_n 2, 1) := by decide +kernel
theorem dX12_count_132 : decode cX12_count 132 = .ok (.ireturn, 1) := by decide +kernel
theorem dX12_count_133 : decode cX12_count 133 = .ok (.aload_n 0, 1) := by decide +kernel
theorem dX12_count_134 : decode cX12_count 134 = .ok (.getfield 194, 3) := by decide +kernel
theorem dX12_count_137 : decode cX12_count 137 = .ok (.ireturn, 1) := by decide +kernel
theorem dX12_count_138 : decode cX12_count 138 = .ok (.aload_n 0, 1) := by decide +kernel
theorem dX12_count_139 : decode cX12_count 139 = .ok (.getfield 346, 3) := by decide +kernel
theorem dX12_count_142 : decode cX12_count 142 = .ok (.ireturn, 1) := by decide +kernel
theorem dX12_count_143 : decode cX12_count 143 = .ok (.aload_n 0, 1) := by decide +kernel
theorem dX12_count_144 : decode cX12_count 144 = .ok (.getfield 349, 3) := by decide +kernel
theorem dX12_count_147 : decode cX12_count 147 = .ok (.ireturn, 1) := by decide +kernel
theorem dX12_count_148 : decode cX12_count 148 = .ok (.aload_n 0, 1) := by decide +kernel
theorem dX12_count_149 : decode cX12_count 149 = .ok (.getfield 197, 3) := by decide +kernel
theorem dX12_count_152 : decode cX12_count 152 = .ok (.ireturn, 1) := by decide +kernel
theorem dX12_count_153 : decode cX12_count 153 = .ok (.iconst 0, 1) := by decide +kernel
theorem dX12_count_154 : decode cX12_count 154 = .ok (.istore_n 3, 1) := by decide +kernel
theorem dX12_count_155 : decode cX12_count 155 = .ok (.iload_n 3, 1) := by decide +kernel
theorem dX12_count_156 : decode cX12_count 156 = .ok (.iconst 5, 1) := by decide +kernel
theorem dX12_count_157 : decode cX12_count 157 = .ok (.if_icmp .ge 18, 3) := by decide +kernel
theorem dX12_count_160 : decode cX12_count 160 = .ok (.iload_n 2, 1) := by decide +kernel
theorem dX12_count_161 : decode cX12_count 161 = .ok (.aload_n 0, 1) := by decide +kernel
theorem dX12_count_162 : decode cX12_count 162 = .ok (.getfield 114, 3) := by decide +kernel
theorem dX12_count_165 : decode cX12_count 165 = .ok (.iload_n 3, 1) := by decide +kernel
theorem dX12_count_166 : decode cX12_count 166 = .ok (.iaload, 1) := by decide +kernel
theorem dX12_count_167 : decode cX12_count 167 = .ok (.iadd, 1) := by decide +kernel
theorem dX12_count_168 : decode cX12_count 168 = .ok (.istore_n 2, 1) := by decide +kernel
theorem dX12_count_169 : decode cX12_count 169 = .ok (.iinc 3 1, 3) := by decide +kernel
theorem dX12_count_172 : decode cX12_count 172 = .ok (.goto (-17), 3) := by decide +kernel
theorem dX12_count_175 : decode cX12_count 175 = .ok (.iload_n 2, 1) := by decide +kernel
theorem dX12_count_176 : decode cX12_count 176 = .ok (.ireturn, 1) := by decide +kernel
theorem dX12_count_177 : decode cX12_count 177 = .ok (.aload_n 0, 1) := by decide +kernel
theorem dX12_count_178 : decode cX12_count 178 = .ok (.getfield 368, 3) := by decide +kernel
theorem dX12_count_181 : decode cX12_count 181 = .ok (.ireturn, 1) := by decide +kernel
theorem dX12_count_182 : decode cX12_count 182 = .ok (.aload_n 0, 1) := by decide +kernel
theorem dX12_count_183 : decode cX12_count 183 = .ok (.getfield 280, 3) := by decide +kernel
theorem dX12_count_186 : decode cX12_count 186 = .ok (.ireturn, 1) := by decide +kernel
theorem dX12_count_187 : decode cX12_count 187 = .ok (.bipush (-2), 2) := by decide +kernel
theorem dX12_count_189 : decode cX12_count 189 = .ok (.ireturn, 1) := by decide +kernel
theorem dX12_sheet_0 : decode cX12_sheet 0 = .ok (.iload_n 1, 1) := by decide +kernel
theorem dX12_sheet_1 : decode cX12_sheet 1 = .ok (.iconst 0, 1) := by decide +kernel
theorem dX12_sheet_2 : decode cX12_sheet 2 = .ok (.iconst 2, 1) := by decide +kernel
theorem dX12_sheet_3 : decode cX12_sheet 3 = .ok (.invokestatic 177, 3) := by decide +kernel
theorem dX12_sheet_6 : decode cX12_sheet 6 = .ok (.ifCond .eq 12, 3) := by decide +kernel
theorem dX12_sheet_9 : decode cX12_sheet 9 = .ok (.iload_n 2, 1) := by decide +kernel
theorem dX12_sheet_10 : decode cX12_sheet 10 = .ok (.iconst (-1), 1) := by decide +kernel
theorem dX12_sheet_11 : decode cX12_sheet 11 = .ok (.iconst 2, 1) := by decide +kernel
theorem dX12_sheet_12 : decode cX12_sheet 12 = .ok (.invokestatic 177, 3) := by decide +kernel
theorem dX12_sheet_15 : decode cX12_sheet 15 = .ok (.ifCond .ne 6, 3) := by decide +kernel
theorem dX12_sheet_18 : decode cX12_sheet 18 = .ok (.bipush (-2), 2) := by decide +kernel
theorem dX12_sheet_20 : decode cX12_sheet 20 = .ok (.ireturn, 1) := by decide +kernel
theorem dX12_sheet_21 : decode cX12_sheet 21 = .ok (.iload_n 2, 1) := by decide +kernel
theorem dX12_sheet_22 : decode cX12_sheet 22 = .ok (.iconst (-1), 1) := by decide +kernel
theorem dX12_sheet_23 : decode cX12_sheet 23 = .ok (.if_icmp .eq 12, 3) := by decide +kernel
theorem dX12_sheet_26 : decode cX12_sheet 26 = .ok (.iload_n 3, 1) := by decide +kernel
theorem dX12_sheet_27 : decode cX12_sheet 27 = .ok (.bipush 40, 2) := by decide +kernel
theorem dX12_sheet_29 : decode cX12_sheet 29 = .ok (.if_icmp .le 6, 3) := by decide +kernel
theorem dX12_sheet_32 : decode cX12_sheet 32 = .ok (.bipush (-2), 2) := by decide +kernel
theorem dX12_sheet_34 : decode cX12_sheet 34 = .ok (.ireturn, 1) := by decide +kernel
theorem dX12_sheet_35 : decode cX12_sheet 35 = .ok (.iload_n 2, 1) := by decide +kernel
theorem dX12_sheet_36 : decode cX12_sheet 36 = .ok (.iconst (-1), 1) := by decide +kernel
theorem dX12_sheet_37 : decode cX12_sheet 37 = .ok (.if_icmp .eq 10, 3) := by decide +kernel
theorem dX12_sheet_40 : decode cX12_sheet 40 = .ok (.iload_n 3, 1) := by decide +kernel
theorem dX12_sheet_41 : decode cX12_sheet 41 = .ok (.ifCond .ge 6, 3) := by decide +kernel
theorem dX12_sheet_44 : decode cX12_sheet 44 = .ok (.bipush (-14), 2) := by decide +kernel
theorem dX12_sheet_46 : decode cX12_sheet 46 = .ok (.ireturn, 1) := by decide +kernel
theorem dX12_sheet_47 : decode cX12_sheet 47 = .ok (.aload_n 0, 1) := by decide +kernel
theorem dX12_sheet_48 : decode cX12_sheet 48 = .ok (.getfield 138, 3) := by decide +kernel
theorem dX12_sheet_51 : decode cX12_sheet 51 = .ok (.iload_n 1, 1) := by decide +kernel
theorem dX12_sheet_52 : decode cX12_sheet 52 = .ok (.iload_n 2, 1) := by decide +kernel
theorem dX12_sheet_53 : decode cX12_sheet 53 = .ok (.iastore, 1) := by decide +kernel
theorem dX12_sheet_54 : decode cX12_sheet 54 = .ok (.aload_n 0, 1) := by decide +kernel
theorem dX12_sheet_55 : decode cX12_sheet 55 = .ok (.getfield 141, 3) := by decide +kernel
theorem dX12_sheet_58 : decode cX12_sheet 58 = .ok (.iload_n 1, 1) := by decide +kernel
theorem dX12_sheet_59 : decode cX12_sheet 59 = .ok (.iload_n 2, 1) := by decide +kernel
theorem dX12_sheet_60 : decode cX12_sheet 60 = .ok (.iconst (-1), 1) := by decide +kernel
theorem dX12_sheet_61 : decode cX12_sheet 61 = .ok (.if_icmp .ne 7, 3) := by decide +kernel
theorem dX12_sheet_64 : decode cX12_sheet 64 = .ok (.iconst 0, 1) := by decide +kernel
theorem dX12_sheet_65 : decode cX12_sheet 65 = .ok (.goto 4, 3) := by decide +kernel
theorem dX12_sheet_68 : decode cX12_sheet 68 = .ok (.iload_n 3, 1) := by decide +kernel
theorem dX12_sheet_69 : decode cX12_sheet 69 = .ok (.iastore, 1) := by decide +kernel
theorem dX12_sheet_70 : decode cX12_sheet 70 = .ok (.iconst 0, 1) := by decide +kernel
theorem dX12_sheet_71 : decode cX12_sheet 71 = .ok (.istore 4, 2) := by decide +kernel
theorem dX12_sheet_73 : decode cX12_sheet 73 = .ok (.iload 4, 2) := by decide +kernel
theorem dX12_sheet_75 : decode cX12_sheet 75 = .ok (.bipush 40, 2) := by decide +kernel
theorem dX12_sheet_77 : decode cX12_sheet 77 = .ok (.if_icmp .ge 22, 3) := by decide +kernel
theorem dX12_sheet_80 : decode cX12_sheet 80 = .ok (.aload_n 0, 1) := by decide +kernel
theorem dX12_sheet_81 : decode cX12_sheet 81 = .ok (.getfield 144, 3) := by decide +kernel
theorem dX12_sheet_84 : decode cX12_sheet 84 = .ok (.bipush 40, 2) := by decide +kernel
theorem dX12_sheet_86 : decode cX12_sheet 86 = .ok (.iload_n 1, 1) := by decide +kernel
theorem dX12_sheet_87 : decode cX12_sheet 87 = .ok (.imul, 1) := by decide +kernel
theorem dX12_sheet_88 : decode cX12_sheet 88 = .ok (.iload 4, 2) := by decide +kernel
theorem dX12_sheet_90 : decode cX12_sheet 90 = .ok (.iadd, 1) := by decide +kernel
theorem dX12_sheet_91 : decode cX12_sheet 91 = .ok (.iconst 0, 1) := by decide +kernel
theorem dX12_sheet_92 : decode cX12_sheet 92 = .ok (.iastore, 1) := by decide +kernel
theorem dX12_sheet_93 : decode cX12_sheet 93 = .ok (.iinc 4 1, 3) := by decide +kernel
theorem dX12_sheet_96 : decode cX12_sheet 96 = .ok (.goto (-23), 3) := by decide +kernel
theorem dX12_sheet_99 : decode cX12_sheet 99 = .ok (.iconst 1, 1) := by decide +kernel
theorem dX12_sheet_100 : decode cX12_sheet 100 = .ok (.ireturn, 1) := by decide +kernel
theorem dX12_cell_0 : decode cX12_cell 0 = .ok (.iload_n 1, 1) := by decide +kernel
theorem dX12_cell_1 : decode cX12_cell 1 = .ok (.iconst 0, 1) := by decide +kernel
theorem dX12_cell_2 : decode cX12_cell 2 = .ok (.iconst 2, 1) := by decide +kernel
theorem dX12_cell_3 : decode cX12_cell 3 = .ok (.invokestatic 177, 3) := by decide +kernel
theorem dX12_cell_6 : decode cX12_cell 6 = .ok (.ifCond .ne 6, 3) := by decide +kernel
theorem dX12_cell_9 : decode cX12_cell 9 = .ok (.bipush (-2), 2) := by decide +kernel
theorem dX12_cell_11 : decode cX12_cell 11 = .ok (.ireturn, 1) := by decide +kernel
theorem dX12_cell_12 : decode cX12_cell 12 = .ok (.aload_n 0, 1) := by decide +kernel
theorem dX12_cell_13 : decode cX12_cell 13 = .ok (.getfield 138, 3) := by decide +kernel
theorem dX12_cell_16 : decode cX12_cell 16 = .ok (.iload_n 1, 1) := by decide +kernel
theorem dX12_cell_17 : decode cX12_cell 17 = .ok (.iaload, 1) := by decide +kernel
theorem dX12_cell_18 : decode cX12_cell 18 = .ok (.iconst (-1), 1) := by decide +kernel
theorem dX12_cell_19 : decode cX12_cell 19 = .ok (.if_icmp .ne 6, 3) := by decide +kernel
theorem dX12_cell_22 : decode cX12_cell 22 = .ok (.bipush (-11), 2) := by decide +kernel
theorem dX12_cell_24 : decode cX12_cell 24 = .ok (.ireturn, 1) := by decide +kernel
theorem dX12_cell_25 : decode cX12_cell 25 = .ok (.iload_n 2, 1) := by decide +kernel
theorem dX12_cell_26 : decode cX12_cell 26 = .ok (.iconst 0, 1) := by decide +kernel
theorem dX12_cell_27 : decode cX12_cell 27 = .ok (.aload_n 0, 1) := by decide +kernel
theorem dX12_cell_28 : decode cX12_cell 28 = .ok (.getfield 141, 3) := by decide +kernel
theorem dX12_cell_31 : decode cX12_cell 31 = .ok (.iload_n 1, 1) := by decide +kernel
theorem dX12_cell_32 : decode cX12_cell 32 = .ok (.iaload, 1) := by decide +kernel
theorem dX12_cell_33 : decode cX12_cell 33 = .ok (.iconst 1, 1) := by decide +kernel
theorem dX12_cell_34 : decode cX12_cell 34 = .ok (.isub, 1) := by decide +kernel
theorem dX12_cell_35 : decode cX12_cell 35 = .ok (.invokestatic 177, 3) := by decide +kernel
theorem dX12_cell_38 : decode cX12_cell 38 = .ok (.ifCond .ne 6, 3) := by decide +kernel
theorem dX12_cell_41 : decode cX12_cell 41 = .ok (.bipush (-12), 2) := by decide +kernel
theorem dX12_cell_43 : decode cX12_cell 43 = .ok (.ireturn, 1) := by decide +kernel
theorem dX12_cell_44 : decode cX12_cell 44 = .ok (.aload_n 0, 1) := by decide +kernel
theorem dX12_cell_45 : decode cX12_cell 45 = .ok (.getfield 144, 3) := by decide +kernel
theorem dX12_cell_48 : decode cX12_cell 48 = .ok (.bipush 40, 2) := by decide +kernel
theorem dX12_cell_50 : decode cX12_cell 50 = .ok (.iload_n 1, 1) := by decide +kernel
theorem dX12_cell_51 : decode cX12_cell 51 = .ok (.imul, 1) := by decide +kernel
theorem dX12_cell_52 : decode cX12_cell 52 = .ok (.iload_n 2, 1) := by decide +kernel
theorem dX12_cell_53 : decode cX12_cell 53 = .ok (.iadd, 1) := by decide +kernel
theorem dX12_cell_54 : decode cX12_cell 54 = .ok (.aload_n 0, 1) := by decide +kernel
theorem dX12_cell_55 : decode cX12_cell 55 = .ok (.getfield 138, 3) := by decide +kernel
theorem dX12_cell_58 : decode cX12_cell 58 = .ok (.iload_n 1, 1) := by decide +kernel
theorem dX12_cell_59 : decode cX12_cell 59 = .ok (.iaload, 1) := by decide +kernel
theorem dX12_cell_60 : decode cX12_cell 60 = .ok (.ifCond .ne 8, 3) := by decide +kernel
theorem dX12_cell_63 : decode cX12_cell 63 = .ok (.iload_n 3, 1) := by decide +kernel
theorem dX12_cell_64 : decode cX12_cell 64 = .ok (.i2b, 1) := by decide +kernel
theorem dX12_cell_65 : decode cX12_cell 65 = .ok (.goto 19, 3) := by decide +kernel
theorem dX12_cell_68 : decode cX12_cell 68 = .ok (.aload_n 0, 1) := by decide +kernel
theorem dX12_cell_69 : decode cX12_cell 69 = .ok (.getfield 138, 3) := by decide +kernel
theorem dX12_cell_72 : decode cX12_cell 72 = .ok (.iload_n 1, 1) := by decide +kernel
theorem dX12_cell_73 : decode cX12_cell 73 = .ok (.iaload, 1) := by decide +kernel
theorem dX12_cell_74 : decode cX12_cell 74 = .ok (.iconst 1, 1) := by decide +kernel
theorem dX12_cell_75 : decode cX12_cell 75 = .ok (.if_icmp .ne 8, 3) := by decide +kernel
theorem dX12_cell_78 : decode cX12_cell 78 = .ok (.iload_n 3, 1) := by decide +kernel
theorem dX12_cell_79 : decode cX12_cell 79 = .ok (.i2s, 1) := by decide +kernel
theorem dX12_cell_80 : decode cX12_cell 80 = .ok (.goto 4, 3) := by decide +kernel
theorem dX12_cell_83 : decode cX12_cell 83 = .ok (.iload_n 3, 1) := by decide +kernel
theorem dX12_cell_84 : decode cX12_cell 84 = .ok (.iastore, 1) := by decide +kernel
theorem dX12_cell_85 : decode cX12_cell 85 = .ok (.iconst 1, 1) := by decide +kernel
theorem dX12_cell_86 : decode cX12_cell 86 = .ok (.ireturn, 1) := by decide +kernel
theorem dX12_copy_0 : decode cX12_copy 0 = .ok (.iload_n 1, 1) := by decide +kernel
theorem dX12_copy_1 : decode cX12_copy 1 = .ok (.iconst 0, 1) := by decide +kernel
theorem dX12_copy_2 : decode cX12_copy 2 = .ok (.iconst 2, 1) := by decide +kernel
theorem dX12_copy_3 : decode cX12_copy 3 = .ok (.invokestatic 177, 3) := by decide +kernel
theorem dX12_copy_6 : decode cX12_copy 6 = .ok (.ifCond .eq 12, 3) := by decide +kernel
theorem dX12_copy_9 : decode cX12_copy 9 = .ok (.iload_n 3, 1) := by decide +kernel
theorem dX12_copy_10 : decode cX12_copy 10 = .ok (.iconst 0, 1) := by decide +kernel
theorem dX12_copy_11 : decode cX12_copy 11 = .ok (.iconst 2, 1) := by decide +kernel
theorem dX12_copy_12 : decode cX12_copy 12 = .ok (.invokestatic 177, 3) := by decide +kernel
theorem dX12_copy_15 : decode cX12_copy 15 = .ok (.ifCond .ne 6, 3) := by decide +kernel
theorem dX12_copy_18 : decode cX12_copy 18 = .ok (.bipush (-2), 2) := by decide +kernel
theorem dX12_copy_20 : decode cX12_copy 20 = .ok (.ireturn, 1) := by decide +kernel
theorem dX12_copy_21 : decode cX12_copy 21 = .ok (.aload_n 0, 1) := by decide +kernel
theorem dX12_copy_22 : decode cX12_copy 22 = .ok (.getfield 138, 3) := by decide +kernel
theorem dX12_copy_25 : decode cX12_copy 25 = .ok (.iload_n 1, 1) := by decide +kernel
theorem dX12_copy_26 : decode cX12_copy 26 = .ok (.iaload, 1) := by decide +kernel
theorem dX12_copy_27 : decode cX12_copy 27 = .ok (.iconst (-1), 1) := by decide +kernel
theorem dX12_copy_28 : decode cX12_copy 28 = .ok (.if_icmp .eq 13, 3) := by decide +kernel
theorem dX12_copy_31 : decode cX12_copy 31 = .ok (.aload_n 0, 1) := by decide +kernel
theorem dX12_copy_32 : decode cX12_copy 32 = .ok (.getfield 138, 3) := by decide +kernel
theorem dX12_copy_35 : decode cX12_copy 35 = .ok (.iload_n 3, 1) := by decide +kernel
theorem dX12_copy_36 : decode cX12_copy 36 = .ok (.iaload, 1) := by decide +kernel
theorem dX12_copy_37 : decode cX12_copy 37 = .ok (.iconst (-1), 1) := by decide +kernel
theorem dX12_copy_38 : decode cX12_copy 38 = .ok (.if_icmp .ne 6, 3) := by decide +kernel
theorem dX12_copy_41 : decode cX12_copy 41 = .ok (.bipush (-11), 2) := by decide +kernel
theorem dX12_copy_43 : decode cX12_copy 43 = .ok (.ireturn, 1) := by decide +kernel
theorem dX12_copy_44 : decode cX12_copy 44 = .ok (.aload_n 0, 1) := by decide +kernel
theorem dX12_copy_45 : decode cX12_copy 45 = .ok (.getfield 138, 3) := by decide +kernel
theorem dX12_copy_48 : decode cX12_copy 48 = .ok (.iload_n 1, 1) := by decide +kernel
theorem dX12_copy_49 : decode cX12_copy 49 = .ok (.iaload, 1) := by decide +kernel
theorem dX12_copy_50 : decode cX12_copy 50 = .ok (.aload_n 0, 1) := by decide +kernel
theorem dX12_copy_51 : decode cX12_copy 51 = .ok (.getfield 138, 3) := by decide +kernel
theorem dX12_copy_54 : decode cX12_copy 54 = .ok (.iload_n 3, 1) := by decide +kernel
theorem dX12_copy_55 : decode cX12_copy 55 = .ok (.iaload, 1) := by decide +kernel
theorem dX12_copy_56 : decode cX12_copy 56 = .ok (.if_icmp .eq 6, 3) := by decide +kernel
theorem dX12_copy_59 : decode cX12_copy 59 = .ok (.bipush (-13), 2) := by decide +kernel
theorem dX12_copy_61 : decode cX12_copy 61 = .ok (.ireturn, 1) := by decide +kernel
theorem dX12_copy_62 : decode cX12_copy 62 = .ok (.iload 5, 2) := by decide +kernel
theorem dX12_copy_64 : decode cX12_copy 64 = .ok (.ifCond .lt 60, 3) := by decide +kernel
theorem dX12_copy_67 : decode cX12_copy 67 = .ok (.iload_n 2, 1) := by decide +kernel
theorem dX12_copy_68 : decode cX12_copy 68 = .ok (.ifCond .lt 56, 3) := by decide +kernel
theorem dX12_copy_71 : decode cX12_copy 71 = .ok (.iload 4, 2) := by decide +kernel
theorem dX12_copy_73 : decode cX12_copy 73 = .ok (.ifCond .lt 51, 3) := by decide +kernel
theorem dX12_copy_76 : decode cX12_copy 76 = .ok (.iload_n 2, 1) := by decide +kernel
theorem dX12_copy_77 : decode cX12_copy 77 = .ok (.aload_n 0, 1) := by decide +kernel
theorem dX12_copy_78 : decode cX12_copy 78 = .ok (.getfield 141, 3) := by decide +kernel
theorem dX12_copy_81 : decode cX12_copy 81 = .ok (.iload_n 1, 1) := by decide +kernel
theorem dX12_copy_82 : decode cX12_copy 82 = .ok (.iaload, 1) := by decide +kernel
theorem dX12_copy_83 : decode cX12_copy 83 = .ok (.if_icmp .gt 41, 3) := by decide +kernel
theorem dX12_copy_86 : decode cX12_copy 86 = .ok (.iload 4, 2) := by decide +kernel
theorem dX12_copy_88 : decode cX12_copy 88 = .ok (.aload_n 0, 1) := by decide +kernel
theorem dX12_copy_89 : decode cX12_copy 89 = .ok (.getfield 141, 3) := by decide +kernel
theorem dX12_copy_92 : decode cX12_copy 92 = .ok (.iload_n 3, 1) := by decide +kernel
theorem dX12_copy_93 : decode cX12_copy 93 = .ok (.iaload, 1) := by decide +kernel
theorem dX12_copy_94 : decode cX12_copy 94 = .ok (.if_icmp .gt 30, 3) := by decide +kernel
theorem dX12_copy_97 : decode cX12_copy 97 = .ok (.iload 5, 2) := by decide +kernel
theorem dX12_copy_99 : decode cX12_copy 99 = .ok (.aload_n 0, 1) := by decide +kernel
theorem dX12_copy_100 : decode cX12_copy 100 = .ok (.getfield 141, 3) := by decide +kernel
theorem dX12_copy_103 : decode cX12_copy 103 = .ok (.iload_n 1, 1) := by decide +kernel
theorem dX12_copy_104 : decode cX12_copy 104 = .ok (.iaload, 1) := by decide +kernel
theorem dX12_copy_105 : decode cX12_copy 105 = .ok (.iload_n 2, 1) := by decide +kernel
theorem dX12_copy_106 : decode cX12_copy 106 = .ok (.isub, 1) := by decide +kernel
theorem dX12_copy_107 : decode cX12_copy 107 = .ok (.if_icmp .gt 17, 3) := by decide +kernel
theorem dX12_copy_110 : decode cX12_copy 110 = .ok (.iload 5, 2) := by decide +kernel
theorem dX12_copy_112 : decode cX12_copy 112 = .ok (.aload_n 0, 1) := by decide +kernel
theorem dX12_copy_113 : decode cX12_copy 113 = .ok (.getfield 141, 3) := by decide +kernel
theorem dX12_copy_116 : decode cX12_copy 116 = .ok (.iload_n 3, 1) := by decide +kernel
theorem dX12_copy_117 : decode cX12_copy 117 = .ok (.iaload, 1) := by decide +kernel
theorem dX12_copy_118 : decode cX12_copy 118 = .ok (.iload 4, 2) := by decide +kernel
theorem dX12_copy_120 : decode cX12_copy 120 = .ok (.isub, 1) := by decide +kernel
theorem dX12_copy_121 : decode cX12_copy 121 = .ok (.if_icmp .le 6, 3) := by decide +kernel
theorem dX12_copy_124 : decode cX12_copy 124 = .ok (.bipush (-12), 2) := by decide +kernel
theorem dX12_copy_126 : decode cX12_copy 126 = .ok (.ireturn, 1) := by decide +kernel
theorem dX12_copy_127 : decode cX12_copy 127 = .ok (.bipush 40, 2) := by decide +kernel
theorem dX12_copy_129 : decode cX12_copy 129 = .ok (.iload_n 1, 1) := by decide +kernel
theorem dX12_copy_130 : decode cX12_copy 130 = .ok (.imul, 1) := by decide +kernel
theorem dX12_copy_131 : decode cX12_copy 131 = .ok (.iload_n 2, 1) := by decide +kernel
theorem dX12_copy_132 : decode cX12_copy 132 = .ok (.iadd, 1) := by decide +kernel
theorem dX12_copy_133 : decode cX12_copy 133 = .ok (.istore 6, 2) := by decide +kernel
theorem dX12_copy_135 : decode cX12_copy 135 = .ok (.bipush 40, 2) := by decide +kernel
theorem dX12_copy_137 : decode cX12_copy 137 = .ok (.iload_n 3, 1) := by decide +kernel
theorem dX12_copy_138 : decode cX12_copy 138 = .ok (.imul, 1) := by decide +kernel
theorem dX12_copy_139 : decode cX12_copy 139 = .ok (.iload 4, 2) := by decide +kernel
theorem dX12_copy_141 : decode cX12_copy 141 = .ok (.iadd, 1) := by decide +kernel
theorem dX12_copy_142 : decode cX12_copy 142 = .ok (.istore 7, 2) := by decide +kernel
theorem dX12_copy_144 : decode cX12_copy 144 = .ok (.iconst 0, 1) := by decide +kernel
theorem dX12_copy_145 : decode cX12_copy 145 = .ok (.istore 8, 2) := by decide +kernel
theorem dX12_copy_147 : decode cX12_copy 147 = .ok (.iload 8, 2) := by decide +kernel
theorem dX12_copy_149 : decode cX12_copy 149 = .ok (.iload 5, 2) := by decide +kernel
theorem dX12_copy_151 : decode cX12_copy 151 = .ok (.if_icmp .ge 50, 3) := by decide +kernel
theorem dX12_copy_154 : decode cX12_copy 154 = .ok (.iload 6, 2) := by decide +kernel
theorem dX12_copy_156 : decode cX12_copy 156 = .ok (.iload 7, 2) := by decide +kernel
theorem dX12_copy_158 : decode cX12_copy 158 = .ok (.if_icmp .ge 13, 3) := by decide +kernel
theorem dX12_copy_161 : decode cX12_copy 161 = .ok (.iload 5, 2) := by decide +kernel
theorem dX12_copy_163 : decode cX12_copy 163 = .ok (.iconst 1, 1) := by decide +kernel
theorem dX12_copy_164 : decode cX12_copy 164 = .ok (.isub, 1) := by decide +kernel
theorem dX12_copy_165 : decode cX12_copy 165 = .ok (.iload 8, 2) := by decide +kernel
theorem dX12_copy_167 : decode cX12_copy 167 = .ok (.isub, 1) := by decide +kernel
theorem dX12_copy_168 : decode cX12_copy 168 = .ok (.goto 5, 3) := by decide +kernel
theorem dX12_copy_171 : decode cX12_copy 171 = .ok (.iload 8, 2) := by decide +kernel
theorem dX12_copy_173 : decode cX12_copy 173 = .ok (.istore 9, 2) := by decide +kernel
theorem dX12_copy_175 : decode cX12_copy 175 = .ok (.aload_n 0, 1) := by decide +kernel
theorem dX12_copy_176 : decode cX12_copy 176 = .ok (.getfield 144, 3) := by decide +kernel
theorem dX12_copy_179 : decode cX12_copy 179 = .ok (.iload 7, 2) := by decide +kernel
theorem dX12_copy_181 : decode cX12_copy 181 = .ok (.iload 9, 2) := by decide +kernel
theorem dX12_copy_183 : decode cX12_copy 183 = .ok (.iadd, 1) := by decide +kernel
theorem dX12_copy_184 : decode cX12_copy 184 = .ok (.aload_n 0, 1) := by decide +kernel
theorem dX12_copy_185 : decode cX12_copy 185 = .ok (.getfield 144, 3) := by decide +kernel
theorem dX12_copy_188 : decode cX12_copy 188 = .ok (.iload 6, 2) := by decide +kernel
theorem dX12_copy_190 : decode cX12_copy 190 = .ok (.iload 9, 2) := by decide +kernel
theorem dX12_copy_192 : decode cX12_copy 192 = .ok (.iadd, 1) := by decide +kernel
theorem dX12_copy_193 : decode cX12_copy 193 = .ok (.iaload, 1) := by decide +kernel
theorem dX12_copy_194 : decode cX12_copy 194 = .ok (.iastore, 1) := by decide +kernel
theorem dX12_copy_195 : decode cX12_copy 195 = .ok (.iinc 8 1, 3) := by decide +kernel
theorem dX12_copy_198 : decode cX12_copy 198 = .ok (.goto (-51), 3) := by decide +kernel
theorem dX12_copy_201 : decode cX12_copy 201 = .ok (.iload 5, 2) := by decide +kernel
theorem dX12_copy_203 : decode cX12_copy 203 = .ok (.ireturn, 1) := by decide +kernel
