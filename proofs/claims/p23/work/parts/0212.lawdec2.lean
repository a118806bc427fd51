/-! part 702: decode rows of the law's own methods (printed rows) -/
theorem dL_areQueues_172 : decode cL_areQueues 172 = .ok (.if_icmp .ne 56, 3) := by decide +kernel
theorem dL_areQueues_175 : decode cL_areQueues 175 = .ok (.aload_n 0, 1) := by decide +kernel
theorem dL_areQueues_176 : decode cL_areQueues 176 = .ok (.iload 4, 2) := by decide +kernel
theorem dL_areQueues_178 : decode cL_areQueues 178 = .ok (.iload 5, 2) := by decide +kernel
theorem dL_areQueues_180 : decode cL_areQueues 180 = .ok (.iconst 0, 1) := by decide +kernel
theorem dL_areQueues_181 : decode cL_areQueues 181 = .ok (.invokevirtual 59, 3) := by decide +kernel
theorem dL_areQueues_184 : decode cL_areQueues 184 = .ok (.bipush (-9), 2) := by decide +kernel
theorem dL_areQueues_186 : decode cL_areQueues 186 = .ok (.if_icmp .ne 42, 3) := by decide +kernel
theorem dL_areQueues_189 : decode cL_areQueues 189 = .ok (.iload 5, 2) := by decide +kernel
theorem dL_areQueues_191 : decode cL_areQueues 191 = .ok (.ifCond .eq 33, 3) := by decide +kernel
theorem dL_areQueues_194 : decode cL_areQueues 194 = .ok (.aload_n 0, 1) := by decide +kernel
theorem dL_areQueues_195 : decode cL_areQueues 195 = .ok (.iload 4, 2) := by decide +kernel
theorem dL_areQueues_197 : decode cL_areQueues 197 = .ok (.iconst 0, 1) := by decide +kernel
theorem dL_areQueues_198 : decode cL_areQueues 198 = .ok (.invokevirtual 56, 3) := by decide +kernel
theorem dL_areQueues_201 : decode cL_areQueues 201 = .ok (.iconst 1, 1) := by decide +kernel
theorem dL_areQueues_202 : decode cL_areQueues 202 = .ok (.if_icmp .ne 26, 3) := by decide +kernel
theorem dL_areQueues_205 : decode cL_areQueues 205 = .ok (.aload_n 0, 1) := by decide +kernel
theorem dL_areQueues_206 : decode cL_areQueues 206 = .ok (.iload 4, 2) := by decide +kernel
theorem dL_areQueues_208 : decode cL_areQueues 208 = .ok (.bipush 7, 2) := by decide +kernel
theorem dL_areQueues_210 : decode cL_areQueues 210 = .ok (.invokevirtual 56, 3) := by decide +kernel
theorem dL_areQueues_213 : decode cL_areQueues 213 = .ok (.aload_n 0, 1) := by decide +kernel
theorem dL_areQueues_214 : decode cL_areQueues 214 = .ok (.iload 4, 2) := by decide +kernel
theorem dL_areQueues_216 : decode cL_areQueues 216 = .ok (.iconst 0, 1) := by decide +kernel
theorem dL_areQueues_217 : decode cL_areQueues 217 = .ok (.iconst 3, 1) := by decide +kernel
theorem dL_areQueues_218 : decode cL_areQueues 218 = .ok (.invokevirtual 59, 3) := by decide +kernel
theorem dL_areQueues_221 : decode cL_areQueues 221 = .ok (.if_icmp .ne 7, 3) := by decide +kernel
theorem dL_areQueues_224 : decode cL_areQueues 224 = .ok (.iconst 1, 1) := by decide +kernel
theorem dL_areQueues_225 : decode cL_areQueues 225 = .ok (.goto 4, 3) := by decide +kernel
theorem dL_areQueues_228 : decode cL_areQueues 228 = .ok (.iconst 0, 1) := by decide +kernel
theorem dL_areQueues_229 : decode cL_areQueues 229 = .ok (.istore 7, 2) := by decide +kernel
theorem dL_areQueues_231 : decode cL_areQueues 231 = .ok (.iload 7, 2) := by decide +kernel
theorem dL_areQueues_233 : decode cL_areQueues 233 = .ok (.ifCond .eq 61, 3) := by decide +kernel
theorem dL_areQueues_236 : decode cL_areQueues 236 = .ok (.iload 5, 2) := by decide +kernel
theorem dL_areQueues_238 : decode cL_areQueues 238 = .ok (.ifCond .le 38, 3) := by decide +kernel
theorem dL_areQueues_241 : decode cL_areQueues 241 = .ok (.aload_n 0, 1) := by decide +kernel
theorem dL_areQueues_242 : decode cL_areQueues 242 = .ok (.iload 4, 2) := by decide +kernel
theorem dL_areQueues_244 : decode cL_areQueues 244 = .ok (.iconst 5, 1) := by decide +kernel
theorem dL_areQueues_245 : decode cL_areQueues 245 = .ok (.invokevirtual 56, 3) := by decide +kernel
theorem dL_areQueues_248 : decode cL_areQueues 248 = .ok (.iconst 1, 1) := by decide +kernel
theorem dL_areQueues_249 : decode cL_areQueues 249 = .ok (.if_icmp .ne 7, 3) := by decide +kernel
theorem dL_areQueues_252 : decode cL_areQueues 252 = .ok (.iconst 1, 1) := by decide +kernel
theorem dL_areQueues_253 : decode cL_areQueues 253 = .ok (.goto 4, 3) := by decide +kernel
theorem dL_areQueues_256 : decode cL_areQueues 256 = .ok (.iconst 0, 1) := by decide +kernel
theorem dL_areQueues_257 : decode cL_areQueues 257 = .ok (.aload_n 0, 1) := by decide +kernel
theorem dL_areQueues_258 : decode cL_areQueues 258 = .ok (.iload 4, 2) := by decide +kernel
theorem dL_areQueues_260 : decode cL_areQueues 260 = .ok (.bipush 6, 2) := by decide +kernel
theorem dL_areQueues_262 : decode cL_areQueues 262 = .ok (.invokevirtual 56, 3) := by decide +kernel
theorem dL_areQueues_265 : decode cL_areQueues 265 = .ok (.ifCond .ne 7, 3) := by decide +kernel
theorem dL_areQueues_268 : decode cL_areQueues 268 = .ok (.iconst 1, 1) := by decide +kernel
theorem dL_areQueues_269 : decode cL_areQueues 269 = .ok (.goto 4, 3) := by decide +kernel
theorem dL_areQueues_272 : decode cL_areQueues 272 = .ok (.iconst 0, 1) := by decide +kernel
theorem dL_areQueues_273 : decode cL_areQueues 273 = .ok (.if_icmp .ne 21, 3) := by decide +kernel
theorem dL_areQueues_276 : decode cL_areQueues 276 = .ok (.iload 5, 2) := by decide +kernel
theorem dL_areQueues_278 : decode cL_areQueues 278 = .ok (.ifCond .ne 18, 3) := by decide +kernel
theorem dL_areQueues_281 : decode cL_areQueues 281 = .ok (.aload_n 0, 1) := by decide +kernel
theorem dL_areQueues_282 : decode cL_areQueues 282 = .ok (.iload 4, 2) := by decide +kernel
theorem dL_areQueues_284 : decode cL_areQueues 284 = .ok (.bipush 7, 2) := by decide +kernel
theorem dL_areQueues_286 : decode cL_areQueues 286 = .ok (.invokevirtual 56, 3) := by decide +kernel
theorem dL_areQueues_289 : decode cL_areQueues 289 = .ok (.bipush (-9), 2) := by decide +kernel
theorem dL_areQueues_291 : decode cL_areQueues 291 = .ok (.if_icmp .eq 5, 3) := by decide +kernel
theorem dL_areQueues_294 : decode cL_areQueues 294 = .ok (.iconst 0, 1) := by decide +kernel
theorem dL_areQueues_295 : decode cL_areQueues 295 = .ok (.ireturn, 1) := by decide +kernel
theorem dL_areQueues_296 : decode cL_areQueues 296 = .ok (.iinc 4 1, 3) := by decide +kernel
theorem dL_areQueues_299 : decode cL_areQueues 299 = .ok (.goto (-290), 3) := by decide +kernel
theorem dL_areQueues_302 : decode cL_areQueues 302 = .ok (.aload_n 0, 1) := by decide +kernel
theorem dL_areQueues_303 : decode cL_areQueues 303 = .ok (.bipush 8, 2) := by decide +kernel
theorem dL_areQueues_305 : decode cL_areQueues 305 = .ok (.invokevirtual 62, 3) := by decide +kernel
theorem dL_areQueues_308 : decode cL_areQueues 308 = .ok (.istore 4, 2) := by decide +kernel
theorem dL_areQueues_310 : decode cL_areQueues 310 = .ok (.iload_n 1, 1) := by decide +kernel
theorem dL_areQueues_311 : decode cL_areQueues 311 = .ok (.ifCond .ne 22, 3) := by decide +kernel
theorem dL_areQueues_314 : decode cL_areQueues 314 = .ok (.iload 4, 2) := by decide +kernel
theorem dL_areQueues_316 : decode cL_areQueues 316 = .ok (.bipush (-9), 2) := by decide +kernel
theorem dL_areQueues_318 : decode cL_areQueues 318 = .ok (.if_icmp .ne 11, 3) := by decide +kernel
theorem dL_areQueues_321 : decode cL_areQueues 321 = .ok (.iload_n 3, 1) := by decide +kernel
theorem dL_areQueues_322 : decode cL_areQueues 322 = .ok (.ifCond .ne 7, 3) := by decide +kernel
theorem dL_areQueues_325 : decode cL_areQueues 325 = .ok (.iconst 1, 1) := by decide +kernel
theorem dL_areQueues_326 : decode cL_areQueues 326 = .ok (.goto 38, 3) := by decide +kernel
theorem dL_areQueues_329 : decode cL_areQueues 329 = .ok (.iconst 0, 1) := by decide +kernel
theorem dL_areQueues_330 : decode cL_areQueues 330 = .ok (.goto 34, 3) := by decide +kernel
theorem dL_areQueues_333 : decode cL_areQueues 333 = .ok (.iload_n 3, 1) := by decide +kernel
theorem dL_areQueues_334 : decode cL_areQueues 334 = .ok (.ifCond .le 29, 3) := by decide +kernel
theorem dL_areQueues_337 : decode cL_areQueues 337 = .ok (.aload_n 0, 1) := by decide +kernel
theorem dL_areQueues_338 : decode cL_areQueues 338 = .ok (.iload 4, 2) := by decide +kernel
theorem dL_areQueues_340 : decode cL_areQueues 340 = .ok (.iconst 5, 1) := by decide +kernel
theorem dL_areQueues_341 : decode cL_areQueues 341 = .ok (.invokevirtual 56, 3) := by decide +kernel
theorem dL_areQueues_344 : decode cL_areQueues 344 = .ok (.iconst 1, 1) := by decide +kernel
theorem dL_areQueues_345 : decode cL_areQueues 345 = .ok (.if_icmp .ne 18, 3) := by decide +kernel
theorem dL_areQueues_348 : decode cL_areQueues 348 = .ok (.aload_n 0, 1) := by decide +kernel
theorem dL_areQueues_349 : decode cL_areQueues 349 = .ok (.iload 4, 2) := by decide +kernel
theorem dL_areQueues_351 : decode cL_areQueues 351 = .ok (.bipush 7, 2) := by decide +kernel
theorem dL_areQueues_353 : decode cL_areQueues 353 = .ok (.invokevirtual 56, 3) := by decide +kernel
theorem dL_areQueues_356 : decode cL_areQueues 356 = .ok (.ifCond .ne 7, 3) := by decide +kernel
theorem dL_areQueues_359 : decode cL_areQueues 359 = .ok (.iconst 1, 1) := by decide +kernel
theorem dL_areQueues_360 : decode cL_areQueues 360 = .ok (.goto 4, 3) := by decide +kernel
theorem dL_areQueues_363 : decode cL_areQueues 363 = .ok (.iconst 0, 1) := by decide +kernel
theorem dL_areQueues_364 : decode cL_areQueues 364 = .ok (.istore 5, 2) := by decide +kernel
theorem dL_areQueues_366 : decode cL_areQueues 366 = .ok (.iload 5, 2) := by decide +kernel
theorem dL_areQueues_368 : decode cL_areQueues 368 = .ok (.ifCond .eq 61, 3) := by decide +kernel
theorem dL_areQueues_371 : decode cL_areQueues 371 = .ok (.aload_n 0, 1) := by decide +kernel
theorem dL_areQueues_372 : decode cL_areQueues 372 = .ok (.iconst 1, 1) := by decide +kernel
theorem dL_areQueues_373 : decode cL_areQueues 373 = .ok (.invokevirtual 62, 3) := by decide +kernel
theorem dL_areQueues_376 : decode cL_areQueues 376 = .ok (.iload_n 1, 1) := by decide +kernel
theorem dL_areQueues_377 : decode cL_areQueues 377 = .ok (.if_icmp .ne 52, 3) := by decide +kernel
theorem dL_areQueues_380 : decode cL_areQueues 380 = .ok (.aload_n 0, 1) := by decide +kernel
theorem dL_areQueues_381 : decode cL_areQueues 381 = .ok (.iconst 4, 1) := by decide +kernel
theorem dL_areQueues_382 : decode cL_areQueues 382 = .ok (.invokevirtual 62, 3) := by decide +kernel
theorem dL_areQueues_385 : decode cL_areQueues 385 = .ok (.iload_n 2, 1) := by decide +kernel
theorem dL_areQueues_386 : decode cL_areQueues 386 = .ok (.if_icmp .ne 43, 3) := by decide +kernel
theorem dL_areQueues_389 : decode cL_areQueues 389 = .ok (.aload_n 0, 1) := by decide +kernel
theorem dL_areQueues_390 : decode cL_areQueues 390 = .ok (.bipush 7, 2) := by decide +kernel
theorem dL_areQueues_392 : decode cL_areQueues 392 = .ok (.invokevirtual 62, 3) := by decide +kernel
theorem dL_areQueues_395 : decode cL_areQueues 395 = .ok (.iload_n 3, 1) := by decide +kernel
theorem dL_areQueues_396 : decode cL_areQueues 396 = .ok (.if_icmp .ne 33, 3) := by decide +kernel
theorem dL_areQueues_399 : decode cL_areQueues 399 = .ok (.aload_n 0, 1) := by decide +kernel
theorem dL_areQueues_400 : decode cL_areQueues 400 = .ok (.iconst 2, 1) := by decide +kernel
theorem dL_areQueues_401 : decode cL_areQueues 401 = .ok (.invokevirtual 62, 3) := by decide +kernel
theorem dL_areQueues_404 : decode cL_areQueues 404 = .ok (.aload_n 0, 1) := by decide +kernel
theorem dL_areQueues_405 : decode cL_areQueues 405 = .ok (.iconst 3, 1) := by decide +kernel
theorem dL_areQueues_406 : decode cL_areQueues 406 = .ok (.invokevirtual 62, 3) := by decide +kernel
theorem dL_areQueues_409 : decode cL_areQueues 409 = .ok (.iload_n 1, 1) := by decide +kernel
theorem dL_areQueues_410 : decode cL_areQueues 410 = .ok (.iadd, 1) := by decide +kernel
theorem dL_areQueues_411 : decode cL_areQueues 411 = .ok (.if_icmp .ne 18, 3) := by decide +kernel
theorem dL_areQueues_414 : decode cL_areQueues 414 = .ok (.aload_n 0, 1) := by decide +kernel
theorem dL_areQueues_415 : decode cL_areQueues 415 = .ok (.bipush 9, 2) := by decide +kernel
theorem dL_areQueues_417 : decode cL_areQueues 417 = .ok (.invokevirtual 62, 3) := by decide +kernel
theorem dL_areQueues_420 : decode cL_areQueues 420 = .ok (.bipush 40, 2) := by decide +kernel
theorem dL_areQueues_422 : decode cL_areQueues 422 = .ok (.if_icmp .gt 7, 3) := by decide +kernel
theorem dL_areQueues_425 : decode cL_areQueues 425 = .ok (.iconst 1, 1) := by decide +kernel
theorem dL_areQueues_426 : decode cL_areQueues 426 = .ok (.goto 4, 3) := by decide +kernel
theorem dL_areQueues_429 : decode cL_areQueues 429 = .ok (.iconst 0, 1) := by decide +kernel
theorem dL_areQueues_430 : decode cL_areQueues 430 = .ok (.ireturn, 1) := by decide +kernel
theorem dL_isNext_0 : decode cL_isNext 0 = .ok (.aload_n 0, 1) := by decide +kernel
theorem dL_isNext_1 : decode cL_isNext 1 = .ok (.bipush 8, 2) := by decide +kernel
theorem dL_isNext_3 : decode cL_isNext 3 = .ok (.invokevirtual 62, 3) := by decide +kernel
theorem dL_isNext_6 : decode cL_isNext 6 = .ok (.istore_n 1, 1) := by decide +kernel
theorem dL_isNext_7 : decode cL_isNext 7 = .ok (.iconst 0, 1) := by decide +kernel
theorem dL_isNext_8 : decode cL_isNext 8 = .ok (.istore_n 2, 1) := by decide +kernel
theorem dL_isNext_9 : decode cL_isNext 9 = .ok (.iload_n 2, 1) := by decide +kernel
theorem dL_isNext_10 : decode cL_isNext 10 = .ok (.bipush 8, 2) := by decide +kernel
theorem dL_isNext_12 : decode cL_isNext 12 = .ok (.if_icmp .ge 77, 3) := by decide +kernel
theorem dL_isNext_15 : decode cL_isNext 15 = .ok (.iload_n 1, 1) := by decide +kernel
theorem dL_isNext_16 : decode cL_isNext 16 = .ok (.ifCond .lt 73, 3) := by decide +kernel
theorem dL_isNext_19 : decode cL_isNext 19 = .ok (.aload_n 0, 1) := by decide +kernel
theorem dL_isNext_20 : decode cL_isNext 20 = .ok (.iload_n 2, 1) := by decide +kernel
theorem dL_isNext_21 : decode cL_isNext 21 = .ok (.iconst 5, 1) := by decide +kernel
theorem dL_isNext_22 : decode cL_isNext 22 = .ok (.invokevirtual 56, 3) := by decide +kernel
theorem dL_isNext_25 : decode cL_isNext 25 = .ok (.iconst 1, 1) := by decide +kernel
theorem dL_isNext_26 : decode cL_isNext 26 = .ok (.if_icmp .ne 57, 3) := by decide +kernel
theorem dL_isNext_29 : decode cL_isNext 29 = .ok (.aload_n 0, 1) := by decide +kernel
theorem dL_isNext_30 : decode cL_isNext 30 = .ok (.iload_n 2, 1) := by decide +kernel
theorem dL_isNext_31 : decode cL_isNext 31 = .ok (.iconst 2, 1) := by decide +kernel
theorem dL_isNext_32 : decode cL_isNext 32 = .ok (.invokevirtual 56, 3) := by decide +kernel
theorem dL_isNext_35 : decode cL_isNext 35 = .ok (.i2l, 1) := by decide +kernel
theorem dL_isNext_36 : decode cL_isNext 36 = .ok (.aload_n 0, 1) := by decide +kernel
theorem dL_isNext_37 : decode cL_isNext 37 = .ok (.iload_n 1, 1) := by decide +kernel
theorem dL_isNext_38 : decode cL_isNext 38 = .ok (.iconst 1, 1) := by decide +kernel
theorem dL_isNext_39 : decode cL_isNext 39 = .ok (.invokevirtual 56, 3) := by decide +kernel
theorem dL_isNext_42 : decode cL_isNext 42 = .ok (.i2l, 1) := by decide +kernel
theorem dL_isNext_43 : decode cL_isNext 43 = .ok (.lmul, 1) := by decide +kernel
theorem dL_isNext_44 : decode cL_isNext 44 = .ok (.lstore_n 3, 1) := by decide +kernel
theorem dL_isNext_45 : decode cL_isNext 45 = .ok (.aload_n 0, 1) := by decide +kernel
theorem dL_isNext_46 : decode cL_isNext 46 = .ok (.iload_n 1, 1) := by decide +kernel
theorem dL_isNext_47 : decode cL_isNext 47 = .ok (.iconst 2, 1) := by decide +kernel
theorem dL_isNext_48 : decode cL_isNext 48 = .ok (.invokevirtual 56, 3) := by decide +kernel
theorem dL_isNext_51 : decode cL_isNext 51 = .ok (.i2l, 1) := by decide +kernel
theorem dL_isNext_52 : decode cL_isNext 52 = .ok (.aload_n 0, 1) := by decide +kernel
theorem dL_isNext_53 : decode cL_isNext 53 = .ok (.iload_n 2, 1) := by decide +kernel
theorem dL_isNext_54 : decode cL_isNext 54 = .ok (.iconst 1, 1) := by decide +kernel
theorem dL_isNext_55 : decode cL_isNext 55 = .ok (.invokevirtual 56, 3) := by decide +kernel
theorem dL_isNext_58 : decode cL_isNext 58 = .ok (.i2l, 1) := by decide +kernel
theorem dL_isNext_59 : decode cL_isNext 59 = .ok (.lmul, 1) := by decide +kernel
theorem dL_isNext_60 : decode cL_isNext 60 = .ok (.lstore 5, 2) := by decide +kernel
theorem dL_isNext_62 : decode cL_isNext 62 = .ok (.lload_n 3, 1) := by decide +kernel
theorem dL_isNext_63 : decode cL_isNext 63 = .ok (.lload 5, 2) := by decide +kernel
theorem dL_isNext_65 : decode cL_isNext 65 = .ok (.lcmp, 1) := by decide +kernel
theorem dL_isNext_66 : decode cL_isNext 66 = .ok (.ifCond .lt 15, 3) := by decide +kernel
theorem dL_isNext_69 : decode cL_isNext 69 = .ok (.lload_n 3, 1) := by decide +kernel
theorem dL_isNext_70 : decode cL_isNext 70 = .ok (.lload 5, 2) := by decide +kernel
theorem dL_isNext_72 : decode cL_isNext 72 = .ok (.lcmp, 1) := by decide +kernel
theorem dL_isNext_73 : decode cL_isNext 73 = .ok (.ifCond .ne 10, 3) := by decide +kernel
theorem dL_isNext_76 : decode cL_isNext 76 = .ok (.iload_n 2, 1) := by decide +kernel
theorem dL_isNext_77 : decode cL_isNext 77 = .ok (.iload_n 1, 1) := by decide +kernel
theorem dL_isNext_78 : decode cL_isNext 78 = .ok (.if_icmp .ge 5, 3) := by decide +kernel
theorem dL_isNext_81 : decode cL_isNext 81 = .ok (.iconst 0, 1) := by decide +kernel
theorem dL_isNext_82 : decode cL_isNext 82 = .ok (.ireturn, 1) := by decide +kernel
theorem dL_isNext_83 : decode cL_isNext 83 = .ok (.iinc 2 1, 3) := by decide +kernel
theorem dL_isNext_86 : decode cL_isNext 86 = .ok (.goto (-77), 3) := by decide +kernel
theorem dL_isNext_89 : decode cL_isNext 89 = .ok (.iconst 1, 1) := by decide +kernel
theorem dL_isNext_90 : decode cL_isNext 90 = .ok (.ireturn, 1) := by decide +kernel
theorem dL_isOrder_0 : decode cL_isOrder 0 = .ok (.iconst 0, 1) := by decide +kernel
theorem dL_isOrder_1 : decode cL_isOrder 1 = .ok (.istore_n 2, 1) := by decide +kernel
theorem dL_isOrder_2 : decode cL_isOrder 2 = .ok (.iconst 0, 1) := by decide +kernel
theorem dL_isOrder_3 : decode cL_isOrder 3 = .ok (.istore_n 3, 1) := by decide +kernel
theorem dL_isOrder_4 : decode cL_isOrder 4 = .ok (.iconst 0, 1) := by decide +kernel
theorem dL_isOrder_5 : decode cL_isOrder 5 = .ok (.istore 4, 2) := by decide +kernel
theorem dL_isOrder_7 : decode cL_isOrder 7 = .ok (.iconst 0, 1) := by decide +kernel
theorem dL_isOrder_8 : decode cL_isOrder 8 = .ok (.istore 5, 2) := by decide +kernel
theorem dL_isOrder_10 : decode cL_isOrder 10 = .ok (.iload 5, 2) := by decide +kernel
theorem dL_isOrder_12 : decode cL_isOrder 12 = .ok (.bipush 8, 2) := by decide +kernel
theorem dL_isOrder_14 : decode cL_isOrder 14 = .ok (.if_icmp .ge 335, 3) := by decide +kernel
theorem dL_isOrder_17 : decode cL_isOrder 17 = .ok (.aload_n 0, 1) := by decide +kernel
theorem dL_isOrder_18 : decode cL_isOrder 18 = .ok (.iload 5, 2) := by decide +kernel
theorem dL_isOrder_20 : decode cL_isOrder 20 = .ok (.iconst 0, 1) := by decide +kernel
theorem dL_isOrder_21 : decode cL_isOrder 21 = .ok (.invokevirtual 56, 3) := by decide +kernel
theorem dL_isOrder_24 : decode cL_isOrder 24 = .ok (.iconst 1, 1) := by decide +kernel
theorem dL_isOrder_25 : decode cL_isOrder 25 = .ok (.if_icmp .ne 7, 3) := by decide +kernel
theorem dL_isOrder_28 : decode cL_isOrder 28 = .ok (.iconst 1, 1) := by decide +kernel
theorem dL_isOrder_29 : decode cL_isOrder 29 = .ok (.goto 4, 3) := by decide +kernel
theorem dL_isOrder_32 : decode cL_isOrder 32 = .ok (.iconst 0, 1) := by decide +kernel
theorem dL_isOrder_33 : decode cL_isOrder 33 = .ok (.istore 6, 2) := by decide +kernel
theorem dL_isOrder_35 : decode cL_isOrder 35 = .ok (.iload 6, 2) := by decide +kernel
theorem dL_isOrder_37 : decode cL_isOrder 37 = .ok (.ifCond .eq 10, 3) := by decide +kernel
theorem dL_isOrder_40 : decode cL_isOrder 40 = .ok (.iload 4, 2) := by decide +kernel
theorem dL_isOrder_42 : decode cL_isOrder 42 = .ok (.iconst 1, 1) := by decide +kernel
theorem dL_isOrder_43 : decode cL_isOrder 43 = .ok (.iadd, 1) := by decide +kernel
theorem dL_isOrder_44 : decode cL_isOrder 44 = .ok (.goto 5, 3) := by decide +kernel
theorem dL_isOrder_47 : decode cL_isOrder 47 = .ok (.iload 4, 2) := by decide +kernel
theorem dL_isOrder_49 : decode cL_isOrder 49 = .ok (.istore 4, 2) := by decide +kernel
theorem dL_isOrder_51 : decode cL_isOrder 51 = .ok (.iconst 0, 1) := by decide +kernel
theorem dL_isOrder_52 : decode cL_isOrder 52 = .ok (.istore 7, 2) := by decide +kernel
theorem dL_isOrder_54 : decode cL_isOrder 54 = .ok (.iload 7, 2) := by decide +kernel
theorem dL_isOrder_56 : decode cL_isOrder 56 = .ok (.bipush 8, 2) := by decide +kernel
theorem dL_isOrder_58 : decode cL_isOrder 58 = .ok (.if_icmp .ge 272, 3) := by decide +kernel
theorem dL_isOrder_61 : decode cL_isOrder 61 = .ok (.iload 5, 2) := by decide +kernel
theorem dL_isOrder_63 : decode cL_isOrder 63 = .ok (.iload 7, 2) := by decide +kernel
theorem dL_isOrder_65 : decode cL_isOrder 65 = .ok (.if_icmp .ne 7, 3) := by decide +kernel
theorem dL_isOrder_68 : decode cL_isOrder 68 = .ok (.iconst 0, 1) := by decide +kernel
theorem dL_isOrder_69 : decode cL_isOrder 69 = .ok (.goto 12, 3) := by decide +kernel
theorem dL_isOrder_72 : decode cL_isOrder 72 = .ok (.aload_n 0, 1) := by decide +kernel
theorem dL_isOrder_73 : decode cL_isOrder 73 = .ok (.iload_n 1, 1) := by decide +kernel
