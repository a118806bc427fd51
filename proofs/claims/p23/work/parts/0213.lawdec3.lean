/-! part 703: decode rows of the law's own methods (printed rows) -/
theorem dL_isOrder_74 : decode cL_isOrder 74 = .ok (.iload 5, 2) := by decide +kernel
theorem dL_isOrder_76 : decode cL_isOrder 76 = .ok (.iload 7, 2) := by decide +kernel
theorem dL_isOrder_78 : decode cL_isOrder 78 = .ok (.invokevirtual 65, 3) := by decide +kernel
theorem dL_isOrder_81 : decode cL_isOrder 81 = .ok (.istore 8, 2) := by decide +kernel
theorem dL_isOrder_83 : decode cL_isOrder 83 = .ok (.iload 5, 2) := by decide +kernel
theorem dL_isOrder_85 : decode cL_isOrder 85 = .ok (.iload 7, 2) := by decide +kernel
theorem dL_isOrder_87 : decode cL_isOrder 87 = .ok (.if_icmp .ne 7, 3) := by decide +kernel
theorem dL_isOrder_90 : decode cL_isOrder 90 = .ok (.iconst 0, 1) := by decide +kernel
theorem dL_isOrder_91 : decode cL_isOrder 91 = .ok (.goto 12, 3) := by decide +kernel
theorem dL_isOrder_94 : decode cL_isOrder 94 = .ok (.aload_n 0, 1) := by decide +kernel
theorem dL_isOrder_95 : decode cL_isOrder 95 = .ok (.iload_n 1, 1) := by decide +kernel
theorem dL_isOrder_96 : decode cL_isOrder 96 = .ok (.iload 7, 2) := by decide +kernel
theorem dL_isOrder_98 : decode cL_isOrder 98 = .ok (.iload 5, 2) := by decide +kernel
theorem dL_isOrder_100 : decode cL_isOrder 100 = .ok (.invokevirtual 65, 3) := by decide +kernel
theorem dL_isOrder_103 : decode cL_isOrder 103 = .ok (.istore 9, 2) := by decide +kernel
theorem dL_isOrder_105 : decode cL_isOrder 105 = .ok (.iload 5, 2) := by decide +kernel
theorem dL_isOrder_107 : decode cL_isOrder 107 = .ok (.iload 7, 2) := by decide +kernel
theorem dL_isOrder_109 : decode cL_isOrder 109 = .ok (.if_icmp .eq 45, 3) := by decide +kernel
theorem dL_isOrder_112 : decode cL_isOrder 112 = .ok (.iload 8, 2) := by decide +kernel
theorem dL_isOrder_114 : decode cL_isOrder 114 = .ok (.ifCond .ne 11, 3) := by decide +kernel
theorem dL_isOrder_117 : decode cL_isOrder 117 = .ok (.iload 9, 2) := by decide +kernel
theorem dL_isOrder_119 : decode cL_isOrder 119 = .ok (.ifCond .eq 35, 3) := by decide +kernel
theorem dL_isOrder_122 : decode cL_isOrder 122 = .ok (.goto 30, 3) := by decide +kernel
theorem dL_isOrder_125 : decode cL_isOrder 125 = .ok (.iload 8, 2) := by decide +kernel
theorem dL_isOrder_127 : decode cL_isOrder 127 = .ok (.iconst 3, 1) := by decide +kernel
theorem dL_isOrder_128 : decode cL_isOrder 128 = .ok (.if_icmp .ge 15, 3) := by decide +kernel
theorem dL_isOrder_131 : decode cL_isOrder 131 = .ok (.iload 9, 2) := by decide +kernel
theorem dL_isOrder_133 : decode cL_isOrder 133 = .ok (.iload 8, 2) := by decide +kernel
theorem dL_isOrder_135 : decode cL_isOrder 135 = .ok (.iconst 2, 1) := by decide +kernel
theorem dL_isOrder_136 : decode cL_isOrder 136 = .ok (.iadd, 1) := by decide +kernel
theorem dL_isOrder_137 : decode cL_isOrder 137 = .ok (.if_icmp .eq 17, 3) := by decide +kernel
theorem dL_isOrder_140 : decode cL_isOrder 140 = .ok (.goto 12, 3) := by decide +kernel
theorem dL_isOrder_143 : decode cL_isOrder 143 = .ok (.iload 9, 2) := by decide +kernel
theorem dL_isOrder_145 : decode cL_isOrder 145 = .ok (.iload 8, 2) := by decide +kernel
theorem dL_isOrder_147 : decode cL_isOrder 147 = .ok (.iconst 2, 1) := by decide +kernel
theorem dL_isOrder_148 : decode cL_isOrder 148 = .ok (.isub, 1) := by decide +kernel
theorem dL_isOrder_149 : decode cL_isOrder 149 = .ok (.if_icmp .eq 5, 3) := by decide +kernel
theorem dL_isOrder_152 : decode cL_isOrder 152 = .ok (.iconst 0, 1) := by decide +kernel
theorem dL_isOrder_153 : decode cL_isOrder 153 = .ok (.ireturn, 1) := by decide +kernel
theorem dL_isOrder_154 : decode cL_isOrder 154 = .ok (.aload_n 0, 1) := by decide +kernel
theorem dL_isOrder_155 : decode cL_isOrder 155 = .ok (.iload 5, 2) := by decide +kernel
theorem dL_isOrder_157 : decode cL_isOrder 157 = .ok (.iconst 0, 1) := by decide +kernel
theorem dL_isOrder_158 : decode cL_isOrder 158 = .ok (.invokevirtual 56, 3) := by decide +kernel
theorem dL_isOrder_161 : decode cL_isOrder 161 = .ok (.iconst 1, 1) := by decide +kernel
theorem dL_isOrder_162 : decode cL_isOrder 162 = .ok (.if_icmp .ne 18, 3) := by decide +kernel
theorem dL_isOrder_165 : decode cL_isOrder 165 = .ok (.aload_n 0, 1) := by decide +kernel
theorem dL_isOrder_166 : decode cL_isOrder 166 = .ok (.iload 7, 2) := by decide +kernel
theorem dL_isOrder_168 : decode cL_isOrder 168 = .ok (.iconst 0, 1) := by decide +kernel
theorem dL_isOrder_169 : decode cL_isOrder 169 = .ok (.invokevirtual 56, 3) := by decide +kernel
theorem dL_isOrder_172 : decode cL_isOrder 172 = .ok (.iconst 1, 1) := by decide +kernel
theorem dL_isOrder_173 : decode cL_isOrder 173 = .ok (.if_icmp .ne 7, 3) := by decide +kernel
theorem dL_isOrder_176 : decode cL_isOrder 176 = .ok (.iconst 1, 1) := by decide +kernel
theorem dL_isOrder_177 : decode cL_isOrder 177 = .ok (.goto 4, 3) := by decide +kernel
theorem dL_isOrder_180 : decode cL_isOrder 180 = .ok (.iconst 0, 1) := by decide +kernel
theorem dL_isOrder_181 : decode cL_isOrder 181 = .ok (.istore 10, 2) := by decide +kernel
theorem dL_isOrder_183 : decode cL_isOrder 183 = .ok (.iload 10, 2) := by decide +kernel
theorem dL_isOrder_185 : decode cL_isOrder 185 = .ok (.ifCond .eq 20, 3) := by decide +kernel
theorem dL_isOrder_188 : decode cL_isOrder 188 = .ok (.iload 8, 2) := by decide +kernel
theorem dL_isOrder_190 : decode cL_isOrder 190 = .ok (.ifCond .le 15, 3) := by decide +kernel
theorem dL_isOrder_193 : decode cL_isOrder 193 = .ok (.iload 8, 2) := by decide +kernel
theorem dL_isOrder_195 : decode cL_isOrder 195 = .ok (.iconst 3, 1) := by decide +kernel
theorem dL_isOrder_196 : decode cL_isOrder 196 = .ok (.if_icmp .ge 9, 3) := by decide +kernel
theorem dL_isOrder_199 : decode cL_isOrder 199 = .ok (.iload_n 2, 1) := by decide +kernel
theorem dL_isOrder_200 : decode cL_isOrder 200 = .ok (.iconst 1, 1) := by decide +kernel
theorem dL_isOrder_201 : decode cL_isOrder 201 = .ok (.iadd, 1) := by decide +kernel
theorem dL_isOrder_202 : decode cL_isOrder 202 = .ok (.goto 4, 3) := by decide +kernel
theorem dL_isOrder_205 : decode cL_isOrder 205 = .ok (.iload_n 2, 1) := by decide +kernel
theorem dL_isOrder_206 : decode cL_isOrder 206 = .ok (.istore_n 2, 1) := by decide +kernel
theorem dL_isOrder_207 : decode cL_isOrder 207 = .ok (.iload 6, 2) := by decide +kernel
theorem dL_isOrder_209 : decode cL_isOrder 209 = .ok (.ifCond .eq 18, 3) := by decide +kernel
theorem dL_isOrder_212 : decode cL_isOrder 212 = .ok (.iload 10, 2) := by decide +kernel
theorem dL_isOrder_214 : decode cL_isOrder 214 = .ok (.ifCond .eq 9, 3) := by decide +kernel
theorem dL_isOrder_217 : decode cL_isOrder 217 = .ok (.iload 8, 2) := by decide +kernel
theorem dL_isOrder_219 : decode cL_isOrder 219 = .ok (.iconst 2, 1) := by decide +kernel
theorem dL_isOrder_220 : decode cL_isOrder 220 = .ok (.if_icmp .gt 7, 3) := by decide +kernel
theorem dL_isOrder_223 : decode cL_isOrder 223 = .ok (.iconst 1, 1) := by decide +kernel
theorem dL_isOrder_224 : decode cL_isOrder 224 = .ok (.goto 4, 3) := by decide +kernel
theorem dL_isOrder_227 : decode cL_isOrder 227 = .ok (.iconst 0, 1) := by decide +kernel
theorem dL_isOrder_228 : decode cL_isOrder 228 = .ok (.istore 6, 2) := by decide +kernel
theorem dL_isOrder_230 : decode cL_isOrder 230 = .ok (.iconst 0, 1) := by decide +kernel
theorem dL_isOrder_231 : decode cL_isOrder 231 = .ok (.istore 11, 2) := by decide +kernel
theorem dL_isOrder_233 : decode cL_isOrder 233 = .ok (.iload 11, 2) := by decide +kernel
theorem dL_isOrder_235 : decode cL_isOrder 235 = .ok (.bipush 8, 2) := by decide +kernel
theorem dL_isOrder_237 : decode cL_isOrder 237 = .ok (.if_icmp .ge 87, 3) := by decide +kernel
theorem dL_isOrder_240 : decode cL_isOrder 240 = .ok (.iload 8, 2) := by decide +kernel
theorem dL_isOrder_242 : decode cL_isOrder 242 = .ok (.ifCond .le 82, 3) := by decide +kernel
theorem dL_isOrder_245 : decode cL_isOrder 245 = .ok (.iload 8, 2) := by decide +kernel
theorem dL_isOrder_247 : decode cL_isOrder 247 = .ok (.iconst 3, 1) := by decide +kernel
theorem dL_isOrder_248 : decode cL_isOrder 248 = .ok (.if_icmp .ge 76, 3) := by decide +kernel
theorem dL_isOrder_251 : decode cL_isOrder 251 = .ok (.iload 11, 2) := by decide +kernel
theorem dL_isOrder_253 : decode cL_isOrder 253 = .ok (.iload 7, 2) := by decide +kernel
theorem dL_isOrder_255 : decode cL_isOrder 255 = .ok (.if_icmp .eq 10, 3) := by decide +kernel
theorem dL_isOrder_258 : decode cL_isOrder 258 = .ok (.iload 11, 2) := by decide +kernel
theorem dL_isOrder_260 : decode cL_isOrder 260 = .ok (.iload 5, 2) := by decide +kernel
theorem dL_isOrder_262 : decode cL_isOrder 262 = .ok (.if_icmp .ne 7, 3) := by decide +kernel
theorem dL_isOrder_265 : decode cL_isOrder 265 = .ok (.iconst 0, 1) := by decide +kernel
theorem dL_isOrder_266 : decode cL_isOrder 266 = .ok (.goto 12, 3) := by decide +kernel
theorem dL_isOrder_269 : decode cL_isOrder 269 = .ok (.aload_n 0, 1) := by decide +kernel
theorem dL_isOrder_270 : decode cL_isOrder 270 = .ok (.iload_n 1, 1) := by decide +kernel
theorem dL_isOrder_271 : decode cL_isOrder 271 = .ok (.iload 7, 2) := by decide +kernel
theorem dL_isOrder_273 : decode cL_isOrder 273 = .ok (.iload 11, 2) := by decide +kernel
theorem dL_isOrder_275 : decode cL_isOrder 275 = .ok (.invokevirtual 65, 3) := by decide +kernel
theorem dL_isOrder_278 : decode cL_isOrder 278 = .ok (.istore 12, 2) := by decide +kernel
theorem dL_isOrder_280 : decode cL_isOrder 280 = .ok (.iload 12, 2) := by decide +kernel
theorem dL_isOrder_282 : decode cL_isOrder 282 = .ok (.ifCond .le 36, 3) := by decide +kernel
theorem dL_isOrder_285 : decode cL_isOrder 285 = .ok (.iload 12, 2) := by decide +kernel
theorem dL_isOrder_287 : decode cL_isOrder 287 = .ok (.iconst 3, 1) := by decide +kernel
theorem dL_isOrder_288 : decode cL_isOrder 288 = .ok (.if_icmp .ge 30, 3) := by decide +kernel
theorem dL_isOrder_291 : decode cL_isOrder 291 = .ok (.aload_n 0, 1) := by decide +kernel
theorem dL_isOrder_292 : decode cL_isOrder 292 = .ok (.iload_n 1, 1) := by decide +kernel
theorem dL_isOrder_293 : decode cL_isOrder 293 = .ok (.iload 5, 2) := by decide +kernel
theorem dL_isOrder_295 : decode cL_isOrder 295 = .ok (.iload 11, 2) := by decide +kernel
theorem dL_isOrder_297 : decode cL_isOrder 297 = .ok (.invokevirtual 65, 3) := by decide +kernel
theorem dL_isOrder_300 : decode cL_isOrder 300 = .ok (.ifCond .eq 16, 3) := by decide +kernel
theorem dL_isOrder_303 : decode cL_isOrder 303 = .ok (.aload_n 0, 1) := by decide +kernel
theorem dL_isOrder_304 : decode cL_isOrder 304 = .ok (.iload_n 1, 1) := by decide +kernel
theorem dL_isOrder_305 : decode cL_isOrder 305 = .ok (.iload 5, 2) := by decide +kernel
theorem dL_isOrder_307 : decode cL_isOrder 307 = .ok (.iload 11, 2) := by decide +kernel
theorem dL_isOrder_309 : decode cL_isOrder 309 = .ok (.invokevirtual 65, 3) := by decide +kernel
theorem dL_isOrder_312 : decode cL_isOrder 312 = .ok (.iconst 2, 1) := by decide +kernel
theorem dL_isOrder_313 : decode cL_isOrder 313 = .ok (.if_icmp .le 5, 3) := by decide +kernel
theorem dL_isOrder_316 : decode cL_isOrder 316 = .ok (.iconst 0, 1) := by decide +kernel
theorem dL_isOrder_317 : decode cL_isOrder 317 = .ok (.ireturn, 1) := by decide +kernel
theorem dL_isOrder_318 : decode cL_isOrder 318 = .ok (.iinc 11 1, 3) := by decide +kernel
theorem dL_isOrder_321 : decode cL_isOrder 321 = .ok (.goto (-88), 3) := by decide +kernel
theorem dL_isOrder_324 : decode cL_isOrder 324 = .ok (.iinc 7 1, 3) := by decide +kernel
theorem dL_isOrder_327 : decode cL_isOrder 327 = .ok (.goto (-273), 3) := by decide +kernel
theorem dL_isOrder_330 : decode cL_isOrder 330 = .ok (.iload 6, 2) := by decide +kernel
theorem dL_isOrder_332 : decode cL_isOrder 332 = .ok (.ifCond .eq 9, 3) := by decide +kernel
theorem dL_isOrder_335 : decode cL_isOrder 335 = .ok (.iload_n 3, 1) := by decide +kernel
theorem dL_isOrder_336 : decode cL_isOrder 336 = .ok (.iconst 1, 1) := by decide +kernel
theorem dL_isOrder_337 : decode cL_isOrder 337 = .ok (.iadd, 1) := by decide +kernel
theorem dL_isOrder_338 : decode cL_isOrder 338 = .ok (.goto 4, 3) := by decide +kernel
theorem dL_isOrder_341 : decode cL_isOrder 341 = .ok (.iload_n 3, 1) := by decide +kernel
theorem dL_isOrder_342 : decode cL_isOrder 342 = .ok (.istore_n 3, 1) := by decide +kernel
theorem dL_isOrder_343 : decode cL_isOrder 343 = .ok (.iinc 5 1, 3) := by decide +kernel
theorem dL_isOrder_346 : decode cL_isOrder 346 = .ok (.goto (-336), 3) := by decide +kernel
theorem dL_isOrder_349 : decode cL_isOrder 349 = .ok (.aload_n 0, 1) := by decide +kernel
theorem dL_isOrder_350 : decode cL_isOrder 350 = .ok (.iload_n 1, 1) := by decide +kernel
theorem dL_isOrder_351 : decode cL_isOrder 351 = .ok (.iconst 1, 1) := by decide +kernel
theorem dL_isOrder_352 : decode cL_isOrder 352 = .ok (.invokevirtual 68, 3) := by decide +kernel
theorem dL_isOrder_355 : decode cL_isOrder 355 = .ok (.istore 5, 2) := by decide +kernel
theorem dL_isOrder_357 : decode cL_isOrder 357 = .ok (.aload_n 0, 1) := by decide +kernel
theorem dL_isOrder_358 : decode cL_isOrder 358 = .ok (.iload_n 1, 1) := by decide +kernel
theorem dL_isOrder_359 : decode cL_isOrder 359 = .ok (.iconst 2, 1) := by decide +kernel
theorem dL_isOrder_360 : decode cL_isOrder 360 = .ok (.invokevirtual 68, 3) := by decide +kernel
theorem dL_isOrder_363 : decode cL_isOrder 363 = .ok (.istore 6, 2) := by decide +kernel
theorem dL_isOrder_365 : decode cL_isOrder 365 = .ok (.aload_n 0, 1) := by decide +kernel
theorem dL_isOrder_366 : decode cL_isOrder 366 = .ok (.iload_n 1, 1) := by decide +kernel
theorem dL_isOrder_367 : decode cL_isOrder 367 = .ok (.invokevirtual 71, 3) := by decide +kernel
theorem dL_isOrder_370 : decode cL_isOrder 370 = .ok (.lstore 7, 2) := by decide +kernel
theorem dL_isOrder_372 : decode cL_isOrder 372 = .ok (.aload_n 0, 1) := by decide +kernel
theorem dL_isOrder_373 : decode cL_isOrder 373 = .ok (.iload_n 1, 1) := by decide +kernel
theorem dL_isOrder_374 : decode cL_isOrder 374 = .ok (.iconst 0, 1) := by decide +kernel
theorem dL_isOrder_375 : decode cL_isOrder 375 = .ok (.invokevirtual 68, 3) := by decide +kernel
theorem dL_isOrder_378 : decode cL_isOrder 378 = .ok (.iload_n 2, 1) := by decide +kernel
theorem dL_isOrder_379 : decode cL_isOrder 379 = .ok (.if_icmp .ne 62, 3) := by decide +kernel
theorem dL_isOrder_382 : decode cL_isOrder 382 = .ok (.aload_n 0, 1) := by decide +kernel
theorem dL_isOrder_383 : decode cL_isOrder 383 = .ok (.iload_n 1, 1) := by decide +kernel
theorem dL_isOrder_384 : decode cL_isOrder 384 = .ok (.iconst 3, 1) := by decide +kernel
theorem dL_isOrder_385 : decode cL_isOrder 385 = .ok (.invokevirtual 68, 3) := by decide +kernel
theorem dL_isOrder_388 : decode cL_isOrder 388 = .ok (.iload_n 3, 1) := by decide +kernel
theorem dL_isOrder_389 : decode cL_isOrder 389 = .ok (.if_icmp .ne 52, 3) := by decide +kernel
theorem dL_isOrder_392 : decode cL_isOrder 392 = .ok (.iload 5, 2) := by decide +kernel
theorem dL_isOrder_394 : decode cL_isOrder 394 = .ok (.iload 6, 2) := by decide +kernel
theorem dL_isOrder_396 : decode cL_isOrder 396 = .ok (.iadd, 1) := by decide +kernel
theorem dL_isOrder_397 : decode cL_isOrder 397 = .ok (.iload 4, 2) := by decide +kernel
theorem dL_isOrder_399 : decode cL_isOrder 399 = .ok (.iconst 1, 1) := by decide +kernel
theorem dL_isOrder_400 : decode cL_isOrder 400 = .ok (.iadd, 1) := by decide +kernel
theorem dL_isOrder_401 : decode cL_isOrder 401 = .ok (.if_icmp .gt 40, 3) := by decide +kernel
theorem dL_isOrder_404 : decode cL_isOrder 404 = .ok (.iload 5, 2) := by decide +kernel
theorem dL_isOrder_406 : decode cL_isOrder 406 = .ok (.iload 6, 2) := by decide +kernel
theorem dL_isOrder_408 : decode cL_isOrder 408 = .ok (.imul, 1) := by decide +kernel
theorem dL_isOrder_409 : decode cL_isOrder 409 = .ok (.iload 4, 2) := by decide +kernel
theorem dL_isOrder_411 : decode cL_isOrder 411 = .ok (.if_icmp .lt 30, 3) := by decide +kernel
theorem dL_isOrder_414 : decode cL_isOrder 414 = .ok (.iload 4, 2) := by decide +kernel
theorem dL_isOrder_416 : decode cL_isOrder 416 = .ok (.ifCond .ne 7, 3) := by decide +kernel
theorem dL_isOrder_419 : decode cL_isOrder 419 = .ok (.iconst 1, 1) := by decide +kernel
theorem dL_isOrder_420 : decode cL_isOrder 420 = .ok (.goto 4, 3) := by decide +kernel
theorem dL_isOrder_423 : decode cL_isOrder 423 = .ok (.iconst 0, 1) := by decide +kernel
theorem dL_isOrder_424 : decode cL_isOrder 424 = .ok (.iload 5, 2) := by decide +kernel
theorem dL_isOrder_426 : decode cL_isOrder 426 = .ok (.ifCond .ne 7, 3) := by decide +kernel
theorem dL_isOrder_429 : decode cL_isOrder 429 = .ok (.iconst 1, 1) := by decide +kernel
theorem dL_isOrder_430 : decode cL_isOrder 430 = .ok (.goto 4, 3) := by decide +kernel
theorem dL_isOrder_433 : decode cL_isOrder 433 = .ok (.iconst 0, 1) := by decide +kernel
theorem dL_isOrder_434 : decode cL_isOrder 434 = .ok (.if_icmp .ne 7, 3) := by decide +kernel
theorem dL_isOrder_437 : decode cL_isOrder 437 = .ok (.iconst 1, 1) := by decide +kernel
theorem dL_isOrder_438 : decode cL_isOrder 438 = .ok (.goto 4, 3) := by decide +kernel
theorem dL_isOrder_441 : decode cL_isOrder 441 = .ok (.iconst 0, 1) := by decide +kernel
theorem dL_isOrder_442 : decode cL_isOrder 442 = .ok (.istore 9, 2) := by decide +kernel
theorem dL_isOrder_444 : decode cL_isOrder 444 = .ok (.iload 9, 2) := by decide +kernel
theorem dL_isOrder_446 : decode cL_isOrder 446 = .ok (.ifCond .eq 80, 3) := by decide +kernel
theorem dL_isOrder_449 : decode cL_isOrder 449 = .ok (.lload 7, 2) := by decide +kernel
theorem dL_isOrder_451 : decode cL_isOrder 451 = .ok (.lconst 1, 1) := by decide +kernel
theorem dL_isOrder_452 : decode cL_isOrder 452 = .ok (.lcmp, 1) := by decide +kernel
theorem dL_isOrder_453 : decode cL_isOrder 453 = .ok (.ifCond .lt 73, 3) := by decide +kernel
theorem dL_isOrder_456 : decode cL_isOrder 456 = .ok (.iload_n 2, 1) := by decide +kernel
theorem dL_isOrder_457 : decode cL_isOrder 457 = .ok (.ifCond .ne 7, 3) := by decide +kernel
theorem dL_isOrder_460 : decode cL_isOrder 460 = .ok (.iconst 1, 1) := by decide +kernel
theorem dL_isOrder_461 : decode cL_isOrder 461 = .ok (.goto 4, 3) := by decide +kernel
theorem dL_isOrder_464 : decode cL_isOrder 464 = .ok (.iconst 0, 1) := by decide +kernel
theorem dL_isOrder_465 : decode cL_isOrder 465 = .ok (.iload 6, 2) := by decide +kernel
theorem dL_isOrder_467 : decode cL_isOrder 467 = .ok (.iload 4, 2) := by decide +kernel
theorem dL_isOrder_469 : decode cL_isOrder 469 = .ok (.if_icmp .ne 7, 3) := by decide +kernel
theorem dL_isOrder_472 : decode cL_isOrder 472 = .ok (.iconst 1, 1) := by decide +kernel
theorem dL_isOrder_473 : decode cL_isOrder 473 = .ok (.goto 4, 3) := by decide +kernel
theorem dL_isOrder_476 : decode cL_isOrder 476 = .ok (.iconst 0, 1) := by decide +kernel
theorem dL_isOrder_477 : decode cL_isOrder 477 = .ok (.if_icmp .ne 49, 3) := by decide +kernel
theorem dL_isOrder_480 : decode cL_isOrder 480 = .ok (.iload_n 2, 1) := by decide +kernel
theorem dL_isOrder_481 : decode cL_isOrder 481 = .ok (.iload 4, 2) := by decide +kernel
theorem dL_isOrder_483 : decode cL_isOrder 483 = .ok (.iload 4, 2) := by decide +kernel
theorem dL_isOrder_485 : decode cL_isOrder 485 = .ok (.iconst 1, 1) := by decide +kernel
theorem dL_isOrder_486 : decode cL_isOrder 486 = .ok (.isub, 1) := by decide +kernel
theorem dL_isOrder_487 : decode cL_isOrder 487 = .ok (.imul, 1) := by decide +kernel
theorem dL_isOrder_488 : decode cL_isOrder 488 = .ok (.iconst 2, 1) := by decide +kernel
theorem dL_isOrder_489 : decode cL_isOrder 489 = .ok (.idiv, 1) := by decide +kernel
theorem dL_isOrder_490 : decode cL_isOrder 490 = .ok (.if_icmp .ne 7, 3) := by decide +kernel
theorem dL_isOrder_493 : decode cL_isOrder 493 = .ok (.iconst 1, 1) := by decide +kernel
theorem dL_isOrder_494 : decode cL_isOrder 494 = .ok (.goto 4, 3) := by decide +kernel
theorem dL_isOrder_497 : decode cL_isOrder 497 = .ok (.iconst 0, 1) := by decide +kernel
theorem dL_isOrder_498 : decode cL_isOrder 498 = .ok (.lload 7, 2) := by decide +kernel
theorem dL_isOrder_500 : decode cL_isOrder 500 = .ok (.lconst 1, 1) := by decide +kernel
theorem dL_isOrder_501 : decode cL_isOrder 501 = .ok (.lcmp, 1) := by decide +kernel
theorem dL_isOrder_502 : decode cL_isOrder 502 = .ok (.ifCond .ne 7, 3) := by decide +kernel
theorem dL_isOrder_505 : decode cL_isOrder 505 = .ok (.iconst 1, 1) := by decide +kernel
theorem dL_isOrder_506 : decode cL_isOrder 506 = .ok (.goto 4, 3) := by decide +kernel
theorem dL_isOrder_509 : decode cL_isOrder 509 = .ok (.iconst 0, 1) := by decide +kernel
theorem dL_isOrder_510 : decode cL_isOrder 510 = .ok (.if_icmp .ne 16, 3) := by decide +kernel
theorem dL_isOrder_513 : decode cL_isOrder 513 = .ok (.iload_n 3, 1) := by decide +kernel
theorem dL_isOrder_514 : decode cL_isOrder 514 = .ok (.ifCond .gt 8, 3) := by decide +kernel
