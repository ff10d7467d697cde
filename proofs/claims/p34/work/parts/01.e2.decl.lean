theorem dL_people_210 : decode cL_people 210 = .ok (.aload 10, 2) := by decide +kernel
theorem dL_people_212 : decode cL_people 212 = .ok (.iconst 5, 1) := by decide +kernel
theorem dL_people_213 : decode cL_people 213 = .ok (.iaload, 1) := by decide +kernel
theorem dL_people_214 : decode cL_people 214 = .ok (.if_icmp .ge 33, 3) := by decide +kernel
theorem dL_people_217 : decode cL_people 217 = .ok (.iload 12, 2) := by decide +kernel
theorem dL_people_219 : decode cL_people 219 = .ok (.aload 4, 2) := by decide +kernel
theorem dL_people_221 : decode cL_people 221 = .ok (.aload 10, 2) := by decide +kernel
theorem dL_people_223 : decode cL_people 223 = .ok (.iload 13, 2) := by decide +kernel
theorem dL_people_225 : decode cL_people 225 = .ok (.invokestatic 120, 3) := by decide +kernel
theorem dL_people_228 : decode cL_people 228 = .ok (.iload 11, 2) := by decide +kernel
theorem dL_people_230 : decode cL_people 230 = .ok (.if_icmp .ne 7, 3) := by decide +kernel
theorem dL_people_233 : decode cL_people 233 = .ok (.iconst 1, 1) := by decide +kernel
theorem dL_people_234 : decode cL_people 234 = .ok (.goto 4, 3) := by decide +kernel
theorem dL_people_237 : decode cL_people 237 = .ok (.iconst 0, 1) := by decide +kernel
theorem dL_people_238 : decode cL_people 238 = .ok (.iadd, 1) := by decide +kernel
theorem dL_people_239 : decode cL_people 239 = .ok (.istore 12, 2) := by decide +kernel
theorem dL_people_241 : decode cL_people 241 = .ok (.iinc 13 1, 3) := by decide +kernel
theorem dL_people_244 : decode cL_people 244 = .ok (.goto (-36), 3) := by decide +kernel
theorem dL_people_247 : decode cL_people 247 = .ok (.aload 4, 2) := by decide +kernel
theorem dL_people_249 : decode cL_people 249 = .ok (.aload 10, 2) := by decide +kernel
theorem dL_people_251 : decode cL_people 251 = .ok (.iconst 4, 1) := by decide +kernel
theorem dL_people_252 : decode cL_people 252 = .ok (.iload 11, 2) := by decide +kernel
theorem dL_people_254 : decode cL_people 254 = .ok (.iconst 0, 1) := by decide +kernel
theorem dL_people_255 : decode cL_people 255 = .ok (.invokestatic 148, 3) := by decide +kernel
theorem dL_people_258 : decode cL_people 258 = .ok (.aload_n 0, 1) := by decide +kernel
theorem dL_people_259 : decode cL_people 259 = .ok (.iload 11, 2) := by decide +kernel
theorem dL_people_261 : decode cL_people 261 = .ok (.invokestatic 170, 3) := by decide +kernel
theorem dL_people_264 : decode cL_people 264 = .ok (.iload 12, 2) := by decide +kernel
theorem dL_people_266 : decode cL_people 266 = .ok (.if_icmp .ne 7, 3) := by decide +kernel
theorem dL_people_269 : decode cL_people 269 = .ok (.iconst 1, 1) := by decide +kernel
theorem dL_people_270 : decode cL_people 270 = .ok (.goto 4, 3) := by decide +kernel
theorem dL_people_273 : decode cL_people 273 = .ok (.iconst 0, 1) := by decide +kernel
theorem dL_people_274 : decode cL_people 274 = .ok (.ireturn, 1) := by decide +kernel
theorem dL_people_275 : decode cL_people 275 = .ok (.iconst 1, 1) := by decide +kernel
theorem dL_people_276 : decode cL_people 276 = .ok (.iload_n 2, 1) := by decide +kernel
theorem dL_people_277 : decode cL_people 277 = .ok (.iload_n 2, 1) := by decide +kernel
theorem dL_people_278 : decode cL_people 278 = .ok (.bipush 96, 2) := by decide +kernel
theorem dL_people_280 : decode cL_people 280 = .ok (.iand, 1) := by decide +kernel
theorem dL_people_281 : decode cL_people 281 = .ok (.ifCond .ne 8, 3) := by decide +kernel
theorem dL_people_284 : decode cL_people 284 = .ok (.bipush 9, 2) := by decide +kernel
theorem dL_people_286 : decode cL_people 286 = .ok (.goto 4, 3) := by decide +kernel
theorem dL_people_289 : decode cL_people 289 = .ok (.iconst 3, 1) := by decide +kernel
theorem dL_people_290 : decode cL_people 290 = .ok (.invokestatic 128, 3) := by decide +kernel
theorem dL_people_293 : decode cL_people 293 = .ok (.iadd, 1) := by decide +kernel
theorem dL_people_294 : decode cL_people 294 = .ok (.istore 12, 2) := by decide +kernel
theorem dL_people_296 : decode cL_people 296 = .ok (.aload_n 0, 1) := by decide +kernel
theorem dL_people_297 : decode cL_people 297 = .ok (.iconst 0, 1) := by decide +kernel
theorem dL_people_298 : decode cL_people 298 = .ok (.invokestatic 172, 3) := by decide +kernel
theorem dL_people_301 : decode cL_people 301 = .ok (.sipush (-7200), 3) := by decide +kernel
theorem dL_people_304 : decode cL_people 304 = .ok (.if_icmp .ne 27, 3) := by decide +kernel
theorem dL_people_307 : decode cL_people 307 = .ok (.aload_n 0, 1) := by decide +kernel
theorem dL_people_308 : decode cL_people 308 = .ok (.bipush 101, 2) := by decide +kernel
theorem dL_people_310 : decode cL_people 310 = .ok (.invokestatic 172, 3) := by decide +kernel
theorem dL_people_313 : decode cL_people 313 = .ok (.sipush (-7200), 3) := by decide +kernel
theorem dL_people_316 : decode cL_people 316 = .ok (.if_icmp .ne 15, 3) := by decide +kernel
theorem dL_people_319 : decode cL_people 319 = .ok (.aload_n 0, 1) := by decide +kernel
theorem dL_people_320 : decode cL_people 320 = .ok (.ldc 174, 2) := by decide +kernel
theorem dL_people_322 : decode cL_people 322 = .ok (.invokestatic 172, 3) := by decide +kernel
theorem dL_people_325 : decode cL_people 325 = .ok (.sipush (-7200), 3) := by decide +kernel
theorem dL_people_328 : decode cL_people 328 = .ok (.if_icmp .eq 5, 3) := by decide +kernel
theorem dL_people_331 : decode cL_people 331 = .ok (.iconst 0, 1) := by decide +kernel
theorem dL_people_332 : decode cL_people 332 = .ok (.ireturn, 1) := by decide +kernel
theorem dL_people_333 : decode cL_people 333 = .ok (.iconst 0, 1) := by decide +kernel
theorem dL_people_334 : decode cL_people 334 = .ok (.istore 13, 2) := by decide +kernel
theorem dL_people_336 : decode cL_people 336 = .ok (.iload 13, 2) := by decide +kernel
theorem dL_people_338 : decode cL_people 338 = .ok (.iload 12, 2) := by decide +kernel
theorem dL_people_340 : decode cL_people 340 = .ok (.if_icmp .ge 59, 3) := by decide +kernel
theorem dL_people_343 : decode cL_people 343 = .ok (.aload 4, 2) := by decide +kernel
theorem dL_people_345 : decode cL_people 345 = .ok (.aload 5, 2) := by decide +kernel
theorem dL_people_347 : decode cL_people 347 = .ok (.aload 6, 2) := by decide +kernel
theorem dL_people_349 : decode cL_people 349 = .ok (.aload 10, 2) := by decide +kernel
theorem dL_people_351 : decode cL_people 351 = .ok (.invokestatic 175, 3) := by decide +kernel
theorem dL_people_354 : decode cL_people 354 = .ok (.aload 4, 2) := by decide +kernel
theorem dL_people_356 : decode cL_people 356 = .ok (.aload 6, 2) := by decide +kernel
theorem dL_people_358 : decode cL_people 358 = .ok (.aload 7, 2) := by decide +kernel
theorem dL_people_360 : decode cL_people 360 = .ok (.aload 8, 2) := by decide +kernel
theorem dL_people_362 : decode cL_people 362 = .ok (.aload 10, 2) := by decide +kernel
theorem dL_people_364 : decode cL_people 364 = .ok (.invokestatic 179, 3) := by decide +kernel
theorem dL_people_367 : decode cL_people 367 = .ok (.aload 10, 2) := by decide +kernel
theorem dL_people_369 : decode cL_people 369 = .ok (.iconst 0, 1) := by decide +kernel
theorem dL_people_370 : decode cL_people 370 = .ok (.dup2, 1) := by decide +kernel
theorem dL_people_371 : decode cL_people 371 = .ok (.iaload, 1) := by decide +kernel
theorem dL_people_372 : decode cL_people 372 = .ok (.iconst 1, 1) := by decide +kernel
theorem dL_people_373 : decode cL_people 373 = .ok (.iadd, 1) := by decide +kernel
theorem dL_people_374 : decode cL_people 374 = .ok (.iastore, 1) := by decide +kernel
theorem dL_people_375 : decode cL_people 375 = .ok (.aload 10, 2) := by decide +kernel
theorem dL_people_377 : decode cL_people 377 = .ok (.iconst 0, 1) := by decide +kernel
theorem dL_people_378 : decode cL_people 378 = .ok (.iaload, 1) := by decide +kernel
theorem dL_people_379 : decode cL_people 379 = .ok (.bipush 8, 2) := by decide +kernel
theorem dL_people_381 : decode cL_people 381 = .ok (.irem, 1) := by decide +kernel
theorem dL_people_382 : decode cL_people 382 = .ok (.ifCond .ne 11, 3) := by decide +kernel
theorem dL_people_385 : decode cL_people 385 = .ok (.aload 10, 2) := by decide +kernel
theorem dL_people_387 : decode cL_people 387 = .ok (.iconst 2, 1) := by decide +kernel
theorem dL_people_388 : decode cL_people 388 = .ok (.aload 10, 2) := by decide +kernel
theorem dL_people_390 : decode cL_people 390 = .ok (.iconst 1, 1) := by decide +kernel
theorem dL_people_391 : decode cL_people 391 = .ok (.iaload, 1) := by decide +kernel
theorem dL_people_392 : decode cL_people 392 = .ok (.iastore, 1) := by decide +kernel
theorem dL_people_393 : decode cL_people 393 = .ok (.iinc 13 1, 3) := by decide +kernel
theorem dL_people_396 : decode cL_people 396 = .ok (.goto (-60), 3) := by decide +kernel
theorem dL_people_399 : decode cL_people 399 = .ok (.aload_n 0, 1) := by decide +kernel
theorem dL_people_400 : decode cL_people 400 = .ok (.iload 12, 2) := by decide +kernel
theorem dL_people_402 : decode cL_people 402 = .ok (.invokestatic 172, 3) := by decide +kernel
theorem dL_people_405 : decode cL_people 405 = .ok (.aload 10, 2) := by decide +kernel
theorem dL_people_407 : decode cL_people 407 = .ok (.iconst 0, 1) := by decide +kernel
theorem dL_people_408 : decode cL_people 408 = .ok (.iaload, 1) := by decide +kernel
theorem dL_people_409 : decode cL_people 409 = .ok (.if_icmp .ne 7, 3) := by decide +kernel
theorem dL_people_412 : decode cL_people 412 = .ok (.iconst 1, 1) := by decide +kernel
theorem dL_people_413 : decode cL_people 413 = .ok (.goto 4, 3) := by decide +kernel
theorem dL_people_416 : decode cL_people 416 = .ok (.iconst 0, 1) := by decide +kernel
theorem dL_people_417 : decode cL_people 417 = .ok (.ireturn, 1) := by decide +kernel
theorem dL_letter_0 : decode cL_letter 0 = .ok (.iload_n 0, 1) := by decide +kernel
theorem dL_letter_1 : decode cL_letter 1 = .ok (.ifCond .ne 8, 3) := by decide +kernel
theorem dL_letter_4 : decode cL_letter 4 = .ok (.bipush 64, 2) := by decide +kernel
theorem dL_letter_6 : decode cL_letter 6 = .ok (.goto 66, 3) := by decide +kernel
theorem dL_letter_9 : decode cL_letter 9 = .ok (.iload_n 0, 1) := by decide +kernel
theorem dL_letter_10 : decode cL_letter 10 = .ok (.iconst 1, 1) := by decide +kernel
theorem dL_letter_11 : decode cL_letter 11 = .ok (.if_icmp .ne 8, 3) := by decide +kernel
theorem dL_letter_14 : decode cL_letter 14 = .ok (.bipush 48, 2) := by decide +kernel
theorem dL_letter_16 : decode cL_letter 16 = .ok (.goto 56, 3) := by decide +kernel
theorem dL_letter_19 : decode cL_letter 19 = .ok (.iload_n 0, 1) := by decide +kernel
theorem dL_letter_20 : decode cL_letter 20 = .ok (.iconst 2, 1) := by decide +kernel
theorem dL_letter_21 : decode cL_letter 21 = .ok (.if_icmp .ne 8, 3) := by decide +kernel
theorem dL_letter_24 : decode cL_letter 24 = .ok (.bipush 56, 2) := by decide +kernel
theorem dL_letter_26 : decode cL_letter 26 = .ok (.goto 46, 3) := by decide +kernel
theorem dL_letter_29 : decode cL_letter 29 = .ok (.iload_n 0, 1) := by decide +kernel
theorem dL_letter_30 : decode cL_letter 30 = .ok (.iconst 3, 1) := by decide +kernel
theorem dL_letter_31 : decode cL_letter 31 = .ok (.if_icmp .ne 8, 3) := by decide +kernel
theorem dL_letter_34 : decode cL_letter 34 = .ok (.bipush 57, 2) := by decide +kernel
theorem dL_letter_36 : decode cL_letter 36 = .ok (.goto 36, 3) := by decide +kernel
theorem dL_letter_39 : decode cL_letter 39 = .ok (.iload_n 0, 1) := by decide +kernel
theorem dL_letter_40 : decode cL_letter 40 = .ok (.iconst 4, 1) := by decide +kernel
theorem dL_letter_41 : decode cL_letter 41 = .ok (.if_icmp .ne 8, 3) := by decide +kernel
theorem dL_letter_44 : decode cL_letter 44 = .ok (.bipush 97, 2) := by decide +kernel
theorem dL_letter_46 : decode cL_letter 46 = .ok (.goto 26, 3) := by decide +kernel
theorem dL_letter_49 : decode cL_letter 49 = .ok (.iload_n 0, 1) := by decide +kernel
theorem dL_letter_50 : decode cL_letter 50 = .ok (.iconst 5, 1) := by decide +kernel
theorem dL_letter_51 : decode cL_letter 51 = .ok (.if_icmp .ne 8, 3) := by decide +kernel
theorem dL_letter_54 : decode cL_letter 54 = .ok (.ldc 183, 2) := by decide +kernel
theorem dL_letter_56 : decode cL_letter 56 = .ok (.goto 16, 3) := by decide +kernel
theorem dL_letter_59 : decode cL_letter 59 = .ok (.iload_n 0, 1) := by decide +kernel
theorem dL_letter_60 : decode cL_letter 60 = .ok (.bipush 6, 2) := by decide +kernel
theorem dL_letter_62 : decode cL_letter 62 = .ok (.if_icmp .ne 8, 3) := by decide +kernel
theorem dL_letter_65 : decode cL_letter 65 = .ok (.ldc 184, 2) := by decide +kernel
theorem dL_letter_67 : decode cL_letter 67 = .ok (.goto 5, 3) := by decide +kernel
theorem dL_letter_70 : decode cL_letter 70 = .ok (.bipush 49, 2) := by decide +kernel
theorem dL_letter_72 : decode cL_letter 72 = .ok (.ireturn, 1) := by decide +kernel
theorem dL_isWhole_0 : decode cL_isWhole 0 = .ok (.iconst 0, 1) := by decide +kernel
theorem dL_isWhole_1 : decode cL_isWhole 1 = .ok (.istore_n 1, 1) := by decide +kernel
theorem dL_isWhole_2 : decode cL_isWhole 2 = .ok (.iload_n 1, 1) := by decide +kernel
theorem dL_isWhole_3 : decode cL_isWhole 3 = .ok (.aload_n 0, 1) := by decide +kernel
theorem dL_isWhole_4 : decode cL_isWhole 4 = .ok (.bipush 8, 2) := by decide +kernel
theorem dL_isWhole_6 : decode cL_isWhole 6 = .ok (.iaload, 1) := by decide +kernel
theorem dL_isWhole_7 : decode cL_isWhole 7 = .ok (.if_icmp .ge 72, 3) := by decide +kernel
theorem dL_isWhole_10 : decode cL_isWhole 10 = .ok (.aload_n 0, 1) := by decide +kernel
theorem dL_isWhole_11 : decode cL_isWhole 11 = .ok (.bipush 9, 2) := by decide +kernel
theorem dL_isWhole_13 : decode cL_isWhole 13 = .ok (.iaload, 1) := by decide +kernel
theorem dL_isWhole_14 : decode cL_isWhole 14 = .ok (.iconst 3, 1) := by decide +kernel
theorem dL_isWhole_15 : decode cL_isWhole 15 = .ok (.iload_n 1, 1) := by decide +kernel
theorem dL_isWhole_16 : decode cL_isWhole 16 = .ok (.imul, 1) := by decide +kernel
theorem dL_isWhole_17 : decode cL_isWhole 17 = .ok (.ishr, 1) := by decide +kernel
theorem dL_isWhole_18 : decode cL_isWhole 18 = .ok (.bipush 7, 2) := by decide +kernel
theorem dL_isWhole_20 : decode cL_isWhole 20 = .ok (.iand, 1) := by decide +kernel
theorem dL_isWhole_21 : decode cL_isWhole 21 = .ok (.istore_n 2, 1) := by decide +kernel
theorem dL_isWhole_22 : decode cL_isWhole 22 = .ok (.iload_n 2, 1) := by decide +kernel
theorem dL_isWhole_23 : decode cL_isWhole 23 = .ok (.bipush 6, 2) := by decide +kernel
theorem dL_isWhole_25 : decode cL_isWhole 25 = .ok (.if_icmp .eq 36, 3) := by decide +kernel
theorem dL_isWhole_28 : decode cL_isWhole 28 = .ok (.iload_n 2, 1) := by decide +kernel
theorem dL_isWhole_29 : decode cL_isWhole 29 = .ok (.iconst 5, 1) := by decide +kernel
theorem dL_isWhole_30 : decode cL_isWhole 30 = .ok (.if_icmp .ne 33, 3) := by decide +kernel
theorem dL_isWhole_33 : decode cL_isWhole 33 = .ok (.iload_n 1, 1) := by decide +kernel
theorem dL_isWhole_34 : decode cL_isWhole 34 = .ok (.iconst 1, 1) := by decide +kernel
theorem dL_isWhole_35 : decode cL_isWhole 35 = .ok (.iadd, 1) := by decide +kernel
theorem dL_isWhole_36 : decode cL_isWhole 36 = .ok (.aload_n 0, 1) := by decide +kernel
theorem dL_isWhole_37 : decode cL_isWhole 37 = .ok (.bipush 8, 2) := by decide +kernel
theorem dL_isWhole_39 : decode cL_isWhole 39 = .ok (.iaload, 1) := by decide +kernel
theorem dL_isWhole_40 : decode cL_isWhole 40 = .ok (.if_icmp .eq 21, 3) := by decide +kernel
theorem dL_isWhole_43 : decode cL_isWhole 43 = .ok (.aload_n 0, 1) := by decide +kernel
theorem dL_isWhole_44 : decode cL_isWhole 44 = .ok (.bipush 9, 2) := by decide +kernel
theorem dL_isWhole_46 : decode cL_isWhole 46 = .ok (.iaload, 1) := by decide +kernel
theorem dL_isWhole_47 : decode cL_isWhole 47 = .ok (.iconst 3, 1) := by decide +kernel
theorem dL_isWhole_48 : decode cL_isWhole 48 = .ok (.iload_n 1, 1) := by decide +kernel
theorem dL_isWhole_49 : decode cL_isWhole 49 = .ok (.imul, 1) := by decide +kernel
theorem dL_isWhole_50 : decode cL_isWhole 50 = .ok (.iconst 3, 1) := by decide +kernel
theorem dL_isWhole_51 : decode cL_isWhole 51 = .ok (.iadd, 1) := by decide +kernel
theorem dL_isWhole_52 : decode cL_isWhole 52 = .ok (.ishr, 1) := by decide +kernel
theorem dL_isWhole_53 : decode cL_isWhole 53 = .ok (.bipush 7, 2) := by decide +kernel
theorem dL_isWhole_55 : decode cL_isWhole 55 = .ok (.iand, 1) := by decide +kernel
theorem dL_isWhole_56 : decode cL_isWhole 56 = .ok (.bipush 6, 2) := by decide +kernel
theorem dL_isWhole_58 : decode cL_isWhole 58 = .ok (.if_icmp .eq 5, 3) := by decide +kernel
theorem dL_isWhole_61 : decode cL_isWhole 61 = .ok (.iconst 0, 1) := by decide +kernel
theorem dL_isWhole_62 : decode cL_isWhole 62 = .ok (.ireturn, 1) := by decide +kernel
theorem dL_isWhole_63 : decode cL_isWhole 63 = .ok (.iload_n 1, 1) := by decide +kernel
theorem dL_isWhole_64 : decode cL_isWhole 64 = .ok (.iload_n 2, 1) := by decide +kernel
theorem dL_isWhole_65 : decode cL_isWhole 65 = .ok (.iconst 5, 1) := by decide +kernel
theorem dL_isWhole_66 : decode cL_isWhole 66 = .ok (.if_icmp .ne 7, 3) := by decide +kernel
theorem dL_isWhole_69 : decode cL_isWhole 69 = .ok (.iconst 2, 1) := by decide +kernel
theorem dL_isWhole_70 : decode cL_isWhole 70 = .ok (.goto 4, 3) := by decide +kernel
theorem dL_isWhole_73 : decode cL_isWhole 73 = .ok (.iconst 1, 1) := by decide +kernel
theorem dL_isWhole_74 : decode cL_isWhole 74 = .ok (.iadd, 1) := by decide +kernel
theorem dL_isWhole_75 : decode cL_isWhole 75 = .ok (.istore_n 1, 1) := by decide +kernel
theorem dL_isWhole_76 : decode cL_isWhole 76 = .ok (.goto (-74), 3) := by decide +kernel
theorem dL_isWhole_79 : decode cL_isWhole 79 = .ok (.aload_n 0, 1) := by decide +kernel
theorem dL_isWhole_80 : decode cL_isWhole 80 = .ok (.bipush 8, 2) := by decide +kernel
theorem dL_isWhole_82 : decode cL_isWhole 82 = .ok (.iaload, 1) := by decide +kernel
theorem dL_isWhole_83 : decode cL_isWhole 83 = .ok (.ifCond .le 7, 3) := by decide +kernel
theorem dL_isWhole_86 : decode cL_isWhole 86 = .ok (.iconst 1, 1) := by decide +kernel
theorem dL_isWhole_87 : decode cL_isWhole 87 = .ok (.goto 4, 3) := by decide +kernel
theorem dL_isWhole_90 : decode cL_isWhole 90 = .ok (.iconst 0, 1) := by decide +kernel
theorem dL_isWhole_91 : decode cL_isWhole 91 = .ok (.ireturn, 1) := by decide +kernel
set_option maxRecDepth 20000 in
theorem ggL_chats_L_low : GoodIn wsL_chats wsL_low := goodIn_r _ [4] (by decide +kernel) (by decide +kernel)
set_option maxRecDepth 20000 in
theorem gL_chats_L_low : GoodIn wsL_chats (va_wsS RL 128 yL_low wsL_low) := goodIn_app (goodIn_of _ (by decide +kernel)) ggL_chats_L_low
set_option maxRecDepth 20000 in
theorem ggL_chats_L_insert : GoodIn wsL_chats wsL_insert := goodIn_ca (goodIn_ca (goodIn_r _ [7, 8, 9, 10, 11, 12, 13, 14, 15, 16, 17, 18, 19, 20, 21, 22, 23, 24, 25, 26, 27, 28, 251, 252, 253, 254, 255, 256, 257, 258, 259, 260, 261, 262, 263, 264, 265, 266] (by decide +kernel) (by decide +kernel)) (goodIn_sub (fun _ h => List.mem_cons_of_mem _ (List.mem_append_left _ (List.mem_append_left _ (List.mem_append_right _ h)))) (by decide +kernel))) (goodIn_sub (fun _ h => List.mem_cons_of_mem _ (List.mem_append_left _ (List.mem_append_right _ h))) (by decide +kernel))
set_option maxRecDepth 20000 in
theorem gL_chats_L_insert : GoodIn wsL_chats (va_wsS RL 185 yL_insert wsL_insert) := goodIn_app (goodIn_of _ (by decide +kernel)) ggL_chats_L_insert
set_option maxRecDepth 20000 in
theorem ggL_chats_X6_clear : GoodIn wsL_chats wsX6_clear := goodIn_r _ [32, 19, 20, 21, 22, 23, 24, 33, 34, 35, 251, 252, 253, 254, 255, 256, 257, 258, 259, 260, 261, 262, 263, 264, 265, 266] (by decide +kernel) (by decide +kernel)
set_option maxRecDepth 20000 in
theorem gL_chats_X6_clear : GoodIn wsL_chats (wsV RL 188 RX6 yX6_clear wsX6_clear) := goodIn_app (goodIn_of _ (by decide +kernel)) ggL_chats_X6_clear
set_option maxRecDepth 20000 in
theorem ggL_chats_L_letter : GoodIn wsL_chats wsL_letter := goodIn_r _ [38, 39, 40] (by decide +kernel) (by decide +kernel)
set_option maxRecDepth 20000 in
theorem gL_chats_L_letter : GoodIn wsL_chats (va_wsS RL 192 yL_letter wsL_letter) := goodIn_app (goodIn_of _ (by decide +kernel)) ggL_chats_L_letter
set_option maxRecDepth 20000 in
theorem ggL_chats_L_post : GoodIn wsL_chats wsL_post := goodIn_ca (goodIn_ca (goodIn_r _ [43, 44, 9, 45, 46, 47, 13, 48, 17, 18, 19, 49, 50, 51, 52, 53, 54, 55, 56, 57, 58, 59, 60, 61, 62, 63, 64, 65, 66, 67, 68, 21, 69, 70, 24, 28, 71, 72, 73, 74, 75, 76, 77, 78, 79, 80, 81, 82, 83, 84, 85, 86, 87, 88, 89, 90, 91, 92, 93, 94, 95, 96, 97, 98, 99, 100, 101, 102, 103, 104, 105, 106, 107, 108, 109, 110, 111, 112, 113, 114, 115, 116, 117, 118, 119, 120, 121, 122, 123, 124, 125, 126, 127, 128, 129, 130, 131, 132, 133, 134, 135, 136, 137, 138, 139, 140, 141, 142, 143, 144, 145, 146, 147, 148, 149, 150, 151, 152, 153, 154, 155, 156, 157, 33, 34, 35, 158, 159, 160, 161, 162, 163, 164, 165, 166, 167, 168, 169, 170, 171, 172, 173, 174, 175, 176, 177, 178, 179, 180, 181, 182, 251, 252, 253, 254, 255, 256, 257, 258, 259, 260, 261, 262, 263, 264, 267, 265, 266, 268, 269, 270, 271, 272] (by decide +kernel) (by decide +kernel)) (goodIn_sub (fun _ h => List.mem_cons_of_mem _ (List.mem_append_left _ (List.mem_append_right _ h))) (by decide +kernel))) (goodIn_sub (fun _ h => List.mem_cons_of_mem _ (List.mem_append_right _ h)) (by decide +kernel))
set_option maxRecDepth 20000 in
theorem gL_chats_L_post : GoodIn wsL_chats (va_wsS RL 196 yL_post wsL_post) := goodIn_app (goodIn_of _ (by decide +kernel)) ggL_chats_L_post
set_option maxRecDepth 20000 in
theorem ggL_chats_L_hasLeft : GoodIn wsL_chats wsL_hasLeft := goodIn_r _ [185, 186, 187, 3, 188, 189, 190, 191, 192, 193, 194, 195] (by decide +kernel) (by decide +kernel)
set_option maxRecDepth 20000 in
theorem gL_chats_L_hasLeft : GoodIn wsL_chats (va_wsS RL 116 yL_hasLeft wsL_hasLeft) := goodIn_app (goodIn_of _ (by decide +kernel)) ggL_chats_L_hasLeft
set_option maxRecDepth 20000 in
theorem ggL_chats_L_isWhole : GoodIn wsL_chats wsL_isWhole := goodIn_r _ [198] (by decide +kernel) (by decide +kernel)
set_option maxRecDepth 20000 in
theorem gL_chats_L_isWhole : GoodIn wsL_chats (va_wsS RL 198 yL_isWhole wsL_isWhole) := goodIn_app (goodIn_of _ (by decide +kernel)) ggL_chats_L_isWhole
set_option maxRecDepth 20000 in
theorem ggL_chats_L_signs : GoodIn wsL_chats wsL_signs := goodIn_ca (goodIn_r _ [201, 44, 202, 203, 204, 13, 205, 49, 206, 207, 208, 209, 210, 57, 58, 80, 81, 82, 83, 84, 85, 211, 212, 213, 214, 215, 216, 217, 218, 219, 220, 221, 222, 223, 224, 225, 226, 110, 227, 52, 228, 229, 103, 251, 252, 253, 254, 255, 256, 257, 258, 259, 260, 261, 262, 263, 264, 268, 269, 270, 267] (by decide +kernel) (by decide +kernel)) (goodIn_sub (fun _ h => List.mem_cons_of_mem _ (List.mem_append_right _ h)) (by decide +kernel))
set_option maxRecDepth 20000 in
theorem gL_chats_L_signs : GoodIn wsL_chats (va_wsS RL 202 yL_signs wsL_signs) := goodIn_app (goodIn_of _ (by decide +kernel)) ggL_chats_L_signs
set_option maxRecDepth 20000 in
theorem ggL_chats_L_note : GoodIn wsL_chats wsL_note := goodIn_r _ [232, 233] (by decide +kernel) (by decide +kernel)
set_option maxRecDepth 20000 in
theorem gL_chats_L_note : GoodIn wsL_chats (va_wsS RL 148 yL_note wsL_note) := goodIn_app (goodIn_of _ (by decide +kernel)) ggL_chats_L_note
set_option maxRecDepth 20000 in
theorem ggL_chats_L_finish : GoodIn wsL_chats wsL_finish := goodIn_ca (goodIn_ca (goodIn_r _ [236, 44, 9, 237, 238, 239, 13, 240, 17, 18, 165, 166, 167, 54, 55, 56, 57, 58, 59, 60, 61, 62, 53, 63, 64, 65, 66, 67, 168, 169, 170, 171, 172, 173, 174, 175, 140, 176, 177, 178, 179, 180, 181, 182, 89, 151, 152, 126, 153, 154, 155, 156, 157, 251, 252, 253, 254, 255, 256, 257, 258, 259, 260, 261, 262, 263, 264, 271, 272] (by decide +kernel) (by decide +kernel)) (goodIn_sub (fun _ h => List.mem_cons_of_mem _ (List.mem_append_left _ (List.mem_append_right _ h))) (by decide +kernel))) (goodIn_sub (fun _ h => List.mem_cons_of_mem _ (List.mem_append_right _ h)) (by decide +kernel))
set_option maxRecDepth 20000 in
theorem gL_chats_L_finish : GoodIn wsL_chats (va_wsS RL 204 yL_finish wsL_finish) := goodIn_app (goodIn_of _ (by decide +kernel)) ggL_chats_L_finish
set_option maxRecDepth 20000 in
theorem ggL_chats_L_taskOf : GoodIn wsL_chats wsL_taskOf := goodIn_ca (goodIn_r _ [243, 44, 244, 245, 246, 13, 247, 165, 59, 60, 61, 62, 57, 58, 53, 251, 252, 253, 254, 255, 256, 257, 258, 259, 260, 261, 262, 263, 264] (by decide +kernel) (by decide +kernel)) (goodIn_sub (fun _ h => List.mem_cons_of_mem _ (List.mem_append_right _ h)) (by decide +kernel))
set_option maxRecDepth 20000 in
theorem gL_chats_L_taskOf : GoodIn wsL_chats (va_wsS RL 206 yL_taskOf wsL_taskOf) := goodIn_app (goodIn_of _ (by decide +kernel)) ggL_chats_L_taskOf
set_option maxRecDepth 20000 in
theorem ggL_chats_L_task : GoodIn wsL_chats wsL_task := goodIn_r _ [250, 186, 187, 3, 188, 189, 190, 191, 192, 193, 194, 195] (by decide +kernel) (by decide +kernel)
set_option maxRecDepth 20000 in
theorem gL_chats_L_task : GoodIn wsL_chats (va_wsS RL 208 yL_task wsL_task) := goodIn_app (goodIn_of _ (by decide +kernel)) ggL_chats_L_task
theorem dL_chats_0 : decode cL_chats 0 = .ok (.iload_n 2, 1) := by decide +kernel
theorem dL_chats_1 : decode cL_chats 1 = .ok (.bipush 9, 2) := by decide +kernel
theorem dL_chats_3 : decode cL_chats 3 = .ok (.invokestatic 128, 3) := by decide +kernel
theorem dL_chats_6 : decode cL_chats 6 = .ok (.istore 8, 2) := by decide +kernel
theorem dL_chats_8 : decode cL_chats 8 = .ok (.iload_n 1, 1) := by decide +kernel
theorem dL_chats_9 : decode cL_chats 9 = .ok (.iconst 5, 1) := by decide +kernel
theorem dL_chats_10 : decode cL_chats 10 = .ok (.if_icmp .ge 322, 3) := by decide +kernel
theorem dL_chats_13 : decode cL_chats 13 = .ok (.aload_n 0, 1) := by decide +kernel
theorem dL_chats_14 : decode cL_chats 14 = .ok (.iconst (-1), 1) := by decide +kernel
theorem dL_chats_15 : decode cL_chats 15 = .ok (.bipush 97, 2) := by decide +kernel
theorem dL_chats_17 : decode cL_chats 17 = .ok (.invokestatic 185, 3) := by decide +kernel
theorem dL_chats_20 : decode cL_chats 20 = .ok (.sipush (-7200), 3) := by decide +kernel
theorem dL_chats_23 : decode cL_chats 23 = .ok (.if_icmp .ne 22, 3) := by decide +kernel
theorem dL_chats_26 : decode cL_chats 26 = .ok (.aload_n 0, 1) := by decide +kernel
theorem dL_chats_27 : decode cL_chats 27 = .ok (.aload 7, 2) := by decide +kernel
theorem dL_chats_29 : decode cL_chats 29 = .ok (.bipush 8, 2) := by decide +kernel
theorem dL_chats_31 : decode cL_chats 31 = .ok (.iaload, 1) := by decide +kernel
theorem dL_chats_32 : decode cL_chats 32 = .ok (.iconst 1, 1) := by decide +kernel
theorem dL_chats_33 : decode cL_chats 33 = .ok (.iadd, 1) := by decide +kernel
theorem dL_chats_34 : decode cL_chats 34 = .ok (.bipush 97, 2) := by decide +kernel
theorem dL_chats_36 : decode cL_chats 36 = .ok (.invokestatic 185, 3) := by decide +kernel
theorem dL_chats_39 : decode cL_chats 39 = .ok (.sipush (-7200), 3) := by decide +kernel
theorem dL_chats_42 : decode cL_chats 42 = .ok (.if_icmp .eq 5, 3) := by decide +kernel
theorem dL_chats_45 : decode cL_chats 45 = .ok (.iconst 0, 1) := by decide +kernel
theorem dL_chats_46 : decode cL_chats 46 = .ok (.ireturn, 1) := by decide +kernel
theorem dL_chats_47 : decode cL_chats 47 = .ok (.aload 7, 2) := by decide +kernel
theorem dL_chats_49 : decode cL_chats 49 = .ok (.bipush 8, 2) := by decide +kernel
theorem dL_chats_51 : decode cL_chats 51 = .ok (.iaload, 1) := by decide +kernel
theorem dL_chats_52 : decode cL_chats 52 = .ok (.bipush 7, 2) := by decide +kernel
theorem dL_chats_54 : decode cL_chats 54 = .ok (.if_icmp .le 37, 3) := by decide +kernel
theorem dL_chats_57 : decode cL_chats 57 = .ok (.aload 7, 2) := by decide +kernel
theorem dL_chats_59 : decode cL_chats 59 = .ok (.bipush 8, 2) := by decide +kernel
theorem dL_chats_61 : decode cL_chats 61 = .ok (.iaload, 1) := by decide +kernel
theorem dL_chats_62 : decode cL_chats 62 = .ok (.istore 9, 2) := by decide +kernel
theorem dL_chats_64 : decode cL_chats 64 = .ok (.aload 7, 2) := by decide +kernel
theorem dL_chats_66 : decode cL_chats 66 = .ok (.bipush 8, 2) := by decide +kernel
theorem dL_chats_68 : decode cL_chats 68 = .ok (.iconst 0, 1) := by decide +kernel
theorem dL_chats_69 : decode cL_chats 69 = .ok (.iastore, 1) := by decide +kernel
theorem dL_chats_70 : decode cL_chats 70 = .ok (.aload 7, 2) := by decide +kernel
theorem dL_chats_72 : decode cL_chats 72 = .ok (.bipush 9, 2) := by decide +kernel
theorem dL_chats_74 : decode cL_chats 74 = .ok (.iconst 0, 1) := by decide +kernel
theorem dL_chats_75 : decode cL_chats 75 = .ok (.iastore, 1) := by decide +kernel
theorem dL_chats_76 : decode cL_chats 76 = .ok (.aload_n 0, 1) := by decide +kernel
theorem dL_chats_77 : decode cL_chats 77 = .ok (.invokevirtual 188, 3) := by decide +kernel
theorem dL_chats_80 : decode cL_chats 80 = .ok (.iload 9, 2) := by decide +kernel
theorem dL_chats_82 : decode cL_chats 82 = .ok (.if_icmp .ne 7, 3) := by decide +kernel
theorem dL_chats_85 : decode cL_chats 85 = .ok (.iconst 1, 1) := by decide +kernel
theorem dL_chats_86 : decode cL_chats 86 = .ok (.goto 4, 3) := by decide +kernel
theorem dL_chats_89 : decode cL_chats 89 = .ok (.iconst 0, 1) := by decide +kernel
theorem dL_chats_90 : decode cL_chats 90 = .ok (.ireturn, 1) := by decide +kernel
theorem dL_chats_91 : decode cL_chats 91 = .ok (.iload_n 2, 1) := by decide +kernel
theorem dL_chats_92 : decode cL_chats 92 = .ok (.bipush 96, 2) := by decide +kernel
theorem dL_chats_94 : decode cL_chats 94 = .ok (.iand, 1) := by decide +kernel
theorem dL_chats_95 : decode cL_chats 95 = .ok (.ifCond .ne 7, 3) := by decide +kernel
theorem dL_chats_98 : decode cL_chats 98 = .ok (.iconst 1, 1) := by decide +kernel
theorem dL_chats_99 : decode cL_chats 99 = .ok (.goto 4, 3) := by decide +kernel
theorem dL_chats_102 : decode cL_chats 102 = .ok (.iconst 2, 1) := by decide +kernel
theorem dL_chats_103 : decode cL_chats 103 = .ok (.istore 9, 2) := by decide +kernel
theorem dL_chats_105 : decode cL_chats 105 = .ok (.iload_n 3, 1) := by decide +kernel
theorem dL_chats_106 : decode cL_chats 106 = .ok (.bipush 6, 2) := by decide +kernel
theorem dL_chats_108 : decode cL_chats 108 = .ok (.iand, 1) := by decide +kernel
theorem dL_chats_109 : decode cL_chats 109 = .ok (.ifCond .ne 19, 3) := by decide +kernel
theorem dL_chats_112 : decode cL_chats 112 = .ok (.iload_n 3, 1) := by decide +kernel
theorem dL_chats_113 : decode cL_chats 113 = .ok (.iconst 3, 1) := by decide +kernel
theorem dL_chats_114 : decode cL_chats 114 = .ok (.ishr, 1) := by decide +kernel
theorem dL_chats_115 : decode cL_chats 115 = .ok (.aload 7, 2) := by decide +kernel
theorem dL_chats_117 : decode cL_chats 117 = .ok (.bipush 8, 2) := by decide +kernel
theorem dL_chats_119 : decode cL_chats 119 = .ok (.iaload, 1) := by decide +kernel
theorem dL_chats_120 : decode cL_chats 120 = .ok (.iconst 1, 1) := by decide +kernel
theorem dL_chats_121 : decode cL_chats 121 = .ok (.iadd, 1) := by decide +kernel
theorem dL_chats_122 : decode cL_chats 122 = .ok (.invokestatic 128, 3) := by decide +kernel
theorem dL_chats_125 : decode cL_chats 125 = .ok (.goto 8, 3) := by decide +kernel
theorem dL_chats_128 : decode cL_chats 128 = .ok (.aload 7, 2) := by decide +kernel
theorem dL_chats_130 : decode cL_chats 130 = .ok (.bipush 8, 2) := by decide +kernel
theorem dL_chats_132 : decode cL_chats 132 = .ok (.iaload, 1) := by decide +kernel
theorem dL_chats_133 : decode cL_chats 133 = .ok (.istore 10, 2) := by decide +kernel
theorem dL_chats_135 : decode cL_chats 135 = .ok (.iload 9, 2) := by decide +kernel
theorem dL_chats_137 : decode cL_chats 137 = .ok (.iconst 1, 1) := by decide +kernel
theorem dL_chats_138 : decode cL_chats 138 = .ok (.if_icmp .ne 15, 3) := by decide +kernel
theorem dL_chats_141 : decode cL_chats 141 = .ok (.iload_n 2, 1) := by decide +kernel
theorem dL_chats_142 : decode cL_chats 142 = .ok (.bipush 7, 2) := by decide +kernel
theorem dL_chats_144 : decode cL_chats 144 = .ok (.ishr, 1) := by decide +kernel
theorem dL_chats_145 : decode cL_chats 145 = .ok (.bipush 8, 2) := by decide +kernel
theorem dL_chats_147 : decode cL_chats 147 = .ok (.invokestatic 128, 3) := by decide +kernel
theorem dL_chats_150 : decode cL_chats 150 = .ok (.goto 16, 3) := by decide +kernel
theorem dL_chats_153 : decode cL_chats 153 = .ok (.iload_n 2, 1) := by decide +kernel
theorem dL_chats_154 : decode cL_chats 154 = .ok (.sipush 384, 3) := by decide +kernel
theorem dL_chats_157 : decode cL_chats 157 = .ok (.iand, 1) := by decide +kernel
theorem dL_chats_158 : decode cL_chats 158 = .ok (.ifCond .ne 7, 3) := by decide +kernel
theorem dL_chats_161 : decode cL_chats 161 = .ok (.iconst 5, 1) := by decide +kernel
theorem dL_chats_162 : decode cL_chats 162 = .ok (.goto 4, 3) := by decide +kernel
theorem dL_chats_165 : decode cL_chats 165 = .ok (.iconst 0, 1) := by decide +kernel
theorem dL_chats_166 : decode cL_chats 166 = .ok (.istore 11, 2) := by decide +kernel
theorem dL_chats_168 : decode cL_chats 168 = .ok (.iload 11, 2) := by decide +kernel
theorem dL_chats_170 : decode cL_chats 170 = .ok (.iconst 5, 1) := by decide +kernel
theorem dL_chats_171 : decode cL_chats 171 = .ok (.if_icmp .ne 8, 3) := by decide +kernel
theorem dL_chats_174 : decode cL_chats 174 = .ok (.bipush 6, 2) := by decide +kernel
theorem dL_chats_176 : decode cL_chats 176 = .ok (.goto 27, 3) := by decide +kernel
theorem dL_chats_179 : decode cL_chats 179 = .ok (.iload_n 3, 1) := by decide +kernel
theorem dL_chats_180 : decode cL_chats 180 = .ok (.bipush 7, 2) := by decide +kernel
theorem dL_chats_182 : decode cL_chats 182 = .ok (.ishr, 1) := by decide +kernel
theorem dL_chats_183 : decode cL_chats 183 = .ok (.iconst 4, 1) := by decide +kernel
theorem dL_chats_184 : decode cL_chats 184 = .ok (.invokestatic 128, 3) := by decide +kernel
theorem dL_chats_187 : decode cL_chats 187 = .ok (.ifCond .ne 8, 3) := by decide +kernel
theorem dL_chats_190 : decode cL_chats 190 = .ok (.bipush 7, 2) := by decide +kernel
theorem dL_chats_192 : decode cL_chats 192 = .ok (.goto 11, 3) := by decide +kernel
theorem dL_chats_195 : decode cL_chats 195 = .ok (.iload_n 3, 1) := by decide +kernel
theorem dL_chats_196 : decode cL_chats 196 = .ok (.bipush 7, 2) := by decide +kernel
theorem dL_chats_198 : decode cL_chats 198 = .ok (.ishr, 1) := by decide +kernel
theorem dL_chats_199 : decode cL_chats 199 = .ok (.iconst 4, 1) := by decide +kernel
theorem dL_chats_200 : decode cL_chats 200 = .ok (.invokestatic 128, 3) := by decide +kernel
theorem dL_chats_203 : decode cL_chats 203 = .ok (.istore 12, 2) := by decide +kernel
theorem dL_chats_205 : decode cL_chats 205 = .ok (.iconst 1, 1) := by decide +kernel
theorem dL_chats_206 : decode cL_chats 206 = .ok (.istore 13, 2) := by decide +kernel
theorem dL_chats_208 : decode cL_chats 208 = .ok (.iconst 0, 1) := by decide +kernel
theorem dL_chats_209 : decode cL_chats 209 = .ok (.istore 14, 2) := by decide +kernel
theorem dL_chats_211 : decode cL_chats 211 = .ok (.iload 14, 2) := by decide +kernel
theorem dL_chats_213 : decode cL_chats 213 = .ok (.iload 9, 2) := by decide +kernel
theorem dL_chats_215 : decode cL_chats 215 = .ok (.if_icmp .ge 114, 3) := by decide +kernel
theorem dL_chats_218 : decode cL_chats 218 = .ok (.iload 13, 2) := by decide +kernel
theorem dL_chats_220 : decode cL_chats 220 = .ok (.ifCond .eq 109, 3) := by decide +kernel
theorem dL_chats_223 : decode cL_chats 223 = .ok (.iload 14, 2) := by decide +kernel
theorem dL_chats_225 : decode cL_chats 225 = .ok (.ifCond .ne 8, 3) := by decide +kernel
theorem dL_chats_228 : decode cL_chats 228 = .ok (.iload 11, 2) := by decide +kernel
theorem dL_chats_230 : decode cL_chats 230 = .ok (.goto 5, 3) := by decide +kernel
theorem dL_chats_233 : decode cL_chats 233 = .ok (.iload 12, 2) := by decide +kernel
theorem dL_chats_235 : decode cL_chats 235 = .ok (.istore 15, 2) := by decide +kernel
theorem dL_chats_237 : decode cL_chats 237 = .ok (.aload 7, 2) := by decide +kernel
theorem dL_chats_239 : decode cL_chats 239 = .ok (.bipush 9, 2) := by decide +kernel
theorem dL_chats_241 : decode cL_chats 241 = .ok (.iaload, 1) := by decide +kernel
theorem dL_chats_242 : decode cL_chats 242 = .ok (.iconst 1, 1) := by decide +kernel
theorem dL_chats_243 : decode cL_chats 243 = .ok (.iconst 3, 1) := by decide +kernel
theorem dL_chats_244 : decode cL_chats 244 = .ok (.iload 10, 2) := by decide +kernel
theorem dL_chats_246 : decode cL_chats 246 = .ok (.iload 14, 2) := by decide +kernel
theorem dL_chats_248 : decode cL_chats 248 = .ok (.iadd, 1) := by decide +kernel
theorem dL_chats_249 : decode cL_chats 249 = .ok (.imul, 1) := by decide +kernel
theorem dL_chats_250 : decode cL_chats 250 = .ok (.ishl, 1) := by decide +kernel
theorem dL_chats_251 : decode cL_chats 251 = .ok (.iconst 1, 1) := by decide +kernel
theorem dL_chats_252 : decode cL_chats 252 = .ok (.isub, 1) := by decide +kernel
theorem dL_chats_253 : decode cL_chats 253 = .ok (.iand, 1) := by decide +kernel
theorem dL_chats_254 : decode cL_chats 254 = .ok (.istore 16, 2) := by decide +kernel
theorem dL_chats_256 : decode cL_chats 256 = .ok (.aload 7, 2) := by decide +kernel
theorem dL_chats_258 : decode cL_chats 258 = .ok (.bipush 9, 2) := by decide +kernel
theorem dL_chats_260 : decode cL_chats 260 = .ok (.iload 16, 2) := by decide +kernel
theorem dL_chats_262 : decode cL_chats 262 = .ok (.iload 15, 2) := by decide +kernel
theorem dL_chats_264 : decode cL_chats 264 = .ok (.iconst 3, 1) := by decide +kernel
theorem dL_chats_265 : decode cL_chats 265 = .ok (.iload 10, 2) := by decide +kernel
theorem dL_chats_267 : decode cL_chats 267 = .ok (.iload 14, 2) := by decide +kernel
theorem dL_chats_269 : decode cL_chats 269 = .ok (.iadd, 1) := by decide +kernel
theorem dL_chats_270 : decode cL_chats 270 = .ok (.imul, 1) := by decide +kernel
theorem dL_chats_271 : decode cL_chats 271 = .ok (.ishl, 1) := by decide +kernel
theorem dL_chats_272 : decode cL_chats 272 = .ok (.ior, 1) := by decide +kernel
theorem dL_chats_273 : decode cL_chats 273 = .ok (.aload 7, 2) := by decide +kernel
theorem dL_chats_275 : decode cL_chats 275 = .ok (.bipush 9, 2) := by decide +kernel
theorem dL_chats_277 : decode cL_chats 277 = .ok (.iaload, 1) := by decide +kernel
theorem dL_chats_278 : decode cL_chats 278 = .ok (.iload 16, 2) := by decide +kernel
theorem dL_chats_280 : decode cL_chats 280 = .ok (.isub, 1) := by decide +kernel
theorem dL_chats_281 : decode cL_chats 281 = .ok (.iconst 3, 1) := by decide +kernel
theorem dL_chats_282 : decode cL_chats 282 = .ok (.ishl, 1) := by decide +kernel
theorem dL_chats_283 : decode cL_chats 283 = .ok (.ior, 1) := by decide +kernel
theorem dL_chats_284 : decode cL_chats 284 = .ok (.iastore, 1) := by decide +kernel
theorem dL_chats_285 : decode cL_chats 285 = .ok (.aload 7, 2) := by decide +kernel
theorem dL_chats_287 : decode cL_chats 287 = .ok (.bipush 8, 2) := by decide +kernel
theorem dL_chats_289 : decode cL_chats 289 = .ok (.dup2, 1) := by decide +kernel
theorem dL_chats_290 : decode cL_chats 290 = .ok (.iaload, 1) := by decide +kernel
theorem dL_chats_291 : decode cL_chats 291 = .ok (.iconst 1, 1) := by decide +kernel
theorem dL_chats_292 : decode cL_chats 292 = .ok (.iadd, 1) := by decide +kernel
theorem dL_chats_293 : decode cL_chats 293 = .ok (.iastore, 1) := by decide +kernel
theorem dL_chats_294 : decode cL_chats 294 = .ok (.aload_n 0, 1) := by decide +kernel
theorem dL_chats_295 : decode cL_chats 295 = .ok (.iload 10, 2) := by decide +kernel
theorem dL_chats_297 : decode cL_chats 297 = .ok (.iload 14, 2) := by decide +kernel
theorem dL_chats_299 : decode cL_chats 299 = .ok (.iadd, 1) := by decide +kernel
theorem dL_chats_300 : decode cL_chats 300 = .ok (.iload 15, 2) := by decide +kernel
theorem dL_chats_302 : decode cL_chats 302 = .ok (.invokestatic 192, 3) := by decide +kernel
theorem dL_chats_305 : decode cL_chats 305 = .ok (.invokestatic 185, 3) := by decide +kernel
theorem dL_chats_308 : decode cL_chats 308 = .ok (.aload 7, 2) := by decide +kernel
theorem dL_chats_310 : decode cL_chats 310 = .ok (.bipush 8, 2) := by decide +kernel
theorem dL_chats_312 : decode cL_chats 312 = .ok (.iaload, 1) := by decide +kernel
theorem dL_chats_313 : decode cL_chats 313 = .ok (.if_icmp .ne 7, 3) := by decide +kernel
theorem dL_chats_316 : decode cL_chats 316 = .ok (.iconst 1, 1) := by decide +kernel
theorem dL_chats_317 : decode cL_chats 317 = .ok (.goto 4, 3) := by decide +kernel
theorem dL_chats_320 : decode cL_chats 320 = .ok (.iconst 0, 1) := by decide +kernel
theorem dL_chats_321 : decode cL_chats 321 = .ok (.istore 13, 2) := by decide +kernel
theorem dL_chats_323 : decode cL_chats 323 = .ok (.iinc 14 1, 3) := by decide +kernel
theorem dL_chats_326 : decode cL_chats 326 = .ok (.goto (-115), 3) := by decide +kernel
theorem dL_chats_329 : decode cL_chats 329 = .ok (.iload 13, 2) := by decide +kernel
theorem dL_chats_331 : decode cL_chats 331 = .ok (.ireturn, 1) := by decide +kernel
theorem dL_chats_332 : decode cL_chats 332 = .ok (.iload_n 1, 1) := by decide +kernel
theorem dL_chats_333 : decode cL_chats 333 = .ok (.bipush 8, 2) := by decide +kernel
theorem dL_chats_335 : decode cL_chats 335 = .ok (.if_icmp .ge 379, 3) := by decide +kernel
theorem dL_chats_338 : decode cL_chats 338 = .ok (.iload_n 3, 1) := by decide +kernel
theorem dL_chats_339 : decode cL_chats 339 = .ok (.aload 7, 2) := by decide +kernel
theorem dL_chats_341 : decode cL_chats 341 = .ok (.bipush 7, 2) := by decide +kernel
theorem dL_chats_343 : decode cL_chats 343 = .ok (.iaload, 1) := by decide +kernel
theorem dL_chats_344 : decode cL_chats 344 = .ok (.iconst 1, 1) := by decide +kernel
theorem dL_chats_345 : decode cL_chats 345 = .ok (.iadd, 1) := by decide +kernel
theorem dL_chats_346 : decode cL_chats 346 = .ok (.invokestatic 128, 3) := by decide +kernel
theorem dL_chats_349 : decode cL_chats 349 = .ok (.istore 9, 2) := by decide +kernel
theorem dL_chats_351 : decode cL_chats 351 = .ok (.aload_n 0, 1) := by decide +kernel
theorem dL_chats_352 : decode cL_chats 352 = .ok (.bipush 9, 2) := by decide +kernel
theorem dL_chats_354 : decode cL_chats 354 = .ok (.iconst (-1), 1) := by decide +kernel
theorem dL_chats_355 : decode cL_chats 355 = .ok (.invokestatic 196, 3) := by decide +kernel
theorem dL_chats_358 : decode cL_chats 358 = .ok (.sipush (-7100), 3) := by decide +kernel
theorem dL_chats_361 : decode cL_chats 361 = .ok (.if_icmp .ne 34, 3) := by decide +kernel
theorem dL_chats_364 : decode cL_chats 364 = .ok (.aload_n 0, 1) := by decide +kernel
theorem dL_chats_365 : decode cL_chats 365 = .ok (.iload 8, 2) := by decide +kernel
theorem dL_chats_367 : decode cL_chats 367 = .ok (.aload 7, 2) := by decide +kernel
theorem dL_chats_369 : decode cL_chats 369 = .ok (.bipush 7, 2) := by decide +kernel
theorem dL_chats_371 : decode cL_chats 371 = .ok (.iaload, 1) := by decide +kernel
theorem dL_chats_372 : decode cL_chats 372 = .ok (.invokestatic 196, 3) := by decide +kernel
theorem dL_chats_375 : decode cL_chats 375 = .ok (.sipush (-7100), 3) := by decide +kernel
theorem dL_chats_378 : decode cL_chats 378 = .ok (.if_icmp .ne 17, 3) := by decide +kernel
theorem dL_chats_381 : decode cL_chats 381 = .ok (.aload_n 0, 1) := by decide +kernel
theorem dL_chats_382 : decode cL_chats 382 = .ok (.iload 8, 2) := by decide +kernel
theorem dL_chats_384 : decode cL_chats 384 = .ok (.bipush (-2), 2) := by decide +kernel
theorem dL_chats_386 : decode cL_chats 386 = .ok (.invokestatic 196, 3) := by decide +kernel
theorem dL_chats_389 : decode cL_chats 389 = .ok (.sipush (-7100), 3) := by decide +kernel
theorem dL_chats_392 : decode cL_chats 392 = .ok (.if_icmp .eq 5, 3) := by decide +kernel
theorem dL_chats_395 : decode cL_chats 395 = .ok (.iconst 0, 1) := by decide +kernel
theorem dL_chats_396 : decode cL_chats 396 = .ok (.ireturn, 1) := by decide +kernel
theorem dL_chats_397 : decode cL_chats 397 = .ok (.iload 9, 2) := by decide +kernel
theorem dL_chats_399 : decode cL_chats 399 = .ok (.aload 7, 2) := by decide +kernel
theorem dL_chats_401 : decode cL_chats 401 = .ok (.bipush 7, 2) := by decide +kernel
theorem dL_chats_403 : decode cL_chats 403 = .ok (.iaload, 1) := by decide +kernel
theorem dL_chats_404 : decode cL_chats 404 = .ok (.if_icmp .eq 10, 3) := by decide +kernel
theorem dL_chats_407 : decode cL_chats 407 = .ok (.iload_n 3, 1) := by decide +kernel
theorem dL_chats_408 : decode cL_chats 408 = .ok (.bipush 96, 2) := by decide +kernel
theorem dL_chats_410 : decode cL_chats 410 = .ok (.iand, 1) := by decide +kernel
theorem dL_chats_411 : decode cL_chats 411 = .ok (.ifCond .ne 7, 3) := by decide +kernel
theorem dL_chats_414 : decode cL_chats 414 = .ok (.iconst (-1), 1) := by decide +kernel
theorem dL_chats_415 : decode cL_chats 415 = .ok (.goto 5, 3) := by decide +kernel
theorem dL_chats_418 : decode cL_chats 418 = .ok (.iload 9, 2) := by decide +kernel
theorem dL_chats_420 : decode cL_chats 420 = .ok (.istore 10, 2) := by decide +kernel
theorem dL_chats_422 : decode cL_chats 422 = .ok (.aload 4, 2) := by decide +kernel
theorem dL_chats_424 : decode cL_chats 424 = .ok (.aload 7, 2) := by decide +kernel
theorem dL_chats_426 : decode cL_chats 426 = .ok (.iload 8, 2) := by decide +kernel
theorem dL_chats_428 : decode cL_chats 428 = .ok (.invokestatic 116, 3) := by decide +kernel
theorem dL_chats_431 : decode cL_chats 431 = .ok (.ifCond .ne 11, 3) := by decide +kernel
theorem dL_chats_434 : decode cL_chats 434 = .ok (.aload 7, 2) := by decide +kernel
theorem dL_chats_436 : decode cL_chats 436 = .ok (.invokestatic 198, 3) := by decide +kernel
theorem dL_chats_439 : decode cL_chats 439 = .ok (.ifCond .ne 23, 3) := by decide +kernel
theorem dL_chats_442 : decode cL_chats 442 = .ok (.aload_n 0, 1) := by decide +kernel
theorem dL_chats_443 : decode cL_chats 443 = .ok (.iload 8, 2) := by decide +kernel
theorem dL_chats_445 : decode cL_chats 445 = .ok (.iload 10, 2) := by decide +kernel
theorem dL_chats_447 : decode cL_chats 447 = .ok (.invokestatic 196, 3) := by decide +kernel
theorem dL_chats_450 : decode cL_chats 450 = .ok (.sipush (-7300), 3) := by decide +kernel
theorem dL_chats_453 : decode cL_chats 453 = .ok (.if_icmp .ne 7, 3) := by decide +kernel
theorem dL_chats_456 : decode cL_chats 456 = .ok (.iconst 1, 1) := by decide +kernel
theorem dL_chats_457 : decode cL_chats 457 = .ok (.goto 4, 3) := by decide +kernel
theorem dL_chats_460 : decode cL_chats 460 = .ok (.iconst 0, 1) := by decide +kernel
theorem dL_chats_461 : decode cL_chats 461 = .ok (.ireturn, 1) := by decide +kernel
theorem dL_chats_462 : decode cL_chats 462 = .ok (.aload 7, 2) := by decide +kernel
theorem dL_chats_464 : decode cL_chats 464 = .ok (.bipush 6, 2) := by decide +kernel
theorem dL_chats_466 : decode cL_chats 466 = .ok (.iaload, 1) := by decide +kernel
theorem dL_chats_467 : decode cL_chats 467 = .ok (.bipush 12, 2) := by decide +kernel
theorem dL_chats_469 : decode cL_chats 469 = .ok (.if_icmp .ne 21, 3) := by decide +kernel
theorem dL_chats_472 : decode cL_chats 472 = .ok (.aload_n 0, 1) := by decide +kernel
theorem dL_chats_473 : decode cL_chats 473 = .ok (.bipush 12, 2) := by decide +kernel
theorem dL_chats_475 : decode cL_chats 475 = .ok (.invokestatic 202, 3) := by decide +kernel
theorem dL_chats_478 : decode cL_chats 478 = .ok (.sipush (-7100), 3) := by decide +kernel
theorem dL_chats_481 : decode cL_chats 481 = .ok (.if_icmp .ne 7, 3) := by decide +kernel
theorem dL_chats_484 : decode cL_chats 484 = .ok (.iconst 1, 1) := by decide +kernel
theorem dL_chats_485 : decode cL_chats 485 = .ok (.goto 4, 3) := by decide +kernel
theorem dL_chats_488 : decode cL_chats 488 = .ok (.iconst 0, 1) := by decide +kernel
theorem dL_chats_489 : decode cL_chats 489 = .ok (.ireturn, 1) := by decide +kernel
theorem dL_chats_490 : decode cL_chats 490 = .ok (.iload 10, 2) := by decide +kernel
theorem dL_chats_492 : decode cL_chats 492 = .ok (.ifCond .ge 11, 3) := by decide +kernel
theorem dL_chats_495 : decode cL_chats 495 = .ok (.aload 7, 2) := by decide +kernel
theorem dL_chats_497 : decode cL_chats 497 = .ok (.bipush 7, 2) := by decide +kernel
theorem dL_chats_499 : decode cL_chats 499 = .ok (.iaload, 1) := by decide +kernel
theorem dL_chats_500 : decode cL_chats 500 = .ok (.goto 5, 3) := by decide +kernel
theorem dL_chats_503 : decode cL_chats 503 = .ok (.iload 10, 2) := by decide +kernel
theorem dL_chats_505 : decode cL_chats 505 = .ok (.istore 11, 2) := by decide +kernel
theorem dL_chats_507 : decode cL_chats 507 = .ok (.aload 7, 2) := by decide +kernel
theorem dL_chats_509 : decode cL_chats 509 = .ok (.bipush 7, 2) := by decide +kernel
theorem dL_chats_511 : decode cL_chats 511 = .ok (.dup2, 1) := by decide +kernel
theorem dL_chats_512 : decode cL_chats 512 = .ok (.iaload, 1) := by decide +kernel
theorem dL_chats_513 : decode cL_chats 513 = .ok (.iload 10, 2) := by decide +kernel
theorem dL_chats_515 : decode cL_chats 515 = .ok (.ifCond .ge 7, 3) := by decide +kernel
theorem dL_chats_518 : decode cL_chats 518 = .ok (.iconst 1, 1) := by decide +kernel
theorem dL_chats_519 : decode cL_chats 519 = .ok (.goto 4, 3) := by decide +kernel
theorem dL_chats_522 : decode cL_chats 522 = .ok (.iconst 0, 1) := by decide +kernel
theorem dL_chats_523 : decode cL_chats 523 = .ok (.iadd, 1) := by decide +kernel
theorem dL_chats_524 : decode cL_chats 524 = .ok (.iastore, 1) := by decide +kernel
theorem dL_chats_525 : decode cL_chats 525 = .ok (.iconst (-1), 1) := by decide +kernel
theorem dL_chats_526 : decode cL_chats 526 = .ok (.istore 12, 2) := by decide +kernel
theorem dL_chats_528 : decode cL_chats 528 = .ok (.iconst 0, 1) := by decide +kernel
theorem dL_chats_529 : decode cL_chats 529 = .ok (.istore 13, 2) := by decide +kernel
theorem dL_chats_531 : decode cL_chats 531 = .ok (.iload 13, 2) := by decide +kernel
theorem dL_chats_533 : decode cL_chats 533 = .ok (.iconst 1, 1) := by decide +kernel
theorem dL_chats_534 : decode cL_chats 534 = .ok (.iadd, 1) := by decide +kernel
theorem dL_chats_535 : decode cL_chats 535 = .ok (.aload 7, 2) := by decide +kernel
theorem dL_chats_537 : decode cL_chats 537 = .ok (.bipush 8, 2) := by decide +kernel
theorem dL_chats_539 : decode cL_chats 539 = .ok (.iaload, 1) := by decide +kernel
theorem dL_chats_540 : decode cL_chats 540 = .ok (.if_icmp .ge 85, 3) := by decide +kernel
theorem dL_chats_543 : decode cL_chats 543 = .ok (.aload 7, 2) := by decide +kernel
theorem dL_chats_545 : decode cL_chats 545 = .ok (.bipush 9, 2) := by decide +kernel
theorem dL_chats_547 : decode cL_chats 547 = .ok (.iaload, 1) := by decide +kernel
theorem dL_chats_548 : decode cL_chats 548 = .ok (.iconst 3, 1) := by decide +kernel
theorem dL_chats_549 : decode cL_chats 549 = .ok (.iload 13, 2) := by decide +kernel
theorem dL_chats_551 : decode cL_chats 551 = .ok (.imul, 1) := by decide +kernel
theorem dL_chats_552 : decode cL_chats 552 = .ok (.iconst 3, 1) := by decide +kernel
theorem dL_chats_553 : decode cL_chats 553 = .ok (.iadd, 1) := by decide +kernel
theorem dL_chats_554 : decode cL_chats 554 = .ok (.ishr, 1) := by decide +kernel
theorem dL_chats_555 : decode cL_chats 555 = .ok (.bipush 7, 2) := by decide +kernel
theorem dL_chats_557 : decode cL_chats 557 = .ok (.iand, 1) := by decide +kernel
theorem dL_chats_558 : decode cL_chats 558 = .ok (.istore 14, 2) := by decide +kernel
theorem dL_chats_560 : decode cL_chats 560 = .ok (.aload 7, 2) := by decide +kernel
theorem dL_chats_562 : decode cL_chats 562 = .ok (.bipush 9, 2) := by decide +kernel
theorem dL_chats_564 : decode cL_chats 564 = .ok (.iaload, 1) := by decide +kernel
theorem dL_chats_565 : decode cL_chats 565 = .ok (.iconst 3, 1) := by decide +kernel
theorem dL_chats_566 : decode cL_chats 566 = .ok (.iload 13, 2) := by decide +kernel
theorem dL_chats_568 : decode cL_chats 568 = .ok (.imul, 1) := by decide +kernel
theorem dL_chats_569 : decode cL_chats 569 = .ok (.ishr, 1) := by decide +kernel
theorem dL_chats_570 : decode cL_chats 570 = .ok (.bipush 7, 2) := by decide +kernel
theorem dL_chats_572 : decode cL_chats 572 = .ok (.iand, 1) := by decide +kernel
theorem dL_chats_573 : decode cL_chats 573 = .ok (.ifCond .ne 46, 3) := by decide +kernel
theorem dL_chats_576 : decode cL_chats 576 = .ok (.iload 14, 2) := by decide +kernel
theorem dL_chats_578 : decode cL_chats 578 = .ok (.iconst 1, 1) := by decide +kernel
theorem dL_chats_579 : decode cL_chats 579 = .ok (.if_icmp .eq 16, 3) := by decide +kernel
theorem dL_chats_582 : decode cL_chats 582 = .ok (.iload 14, 2) := by decide +kernel
theorem dL_chats_584 : decode cL_chats 584 = .ok (.iconst 2, 1) := by decide +kernel
theorem dL_chats_585 : decode cL_chats 585 = .ok (.if_icmp .eq 10, 3) := by decide +kernel
theorem dL_chats_588 : decode cL_chats 588 = .ok (.iload 14, 2) := by decide +kernel
theorem dL_chats_590 : decode cL_chats 590 = .ok (.bipush 7, 2) := by decide +kernel
theorem dL_chats_592 : decode cL_chats 592 = .ok (.if_icmp .ne 27, 3) := by decide +kernel
theorem dL_chats_595 : decode cL_chats 595 = .ok (.iload 14, 2) := by decide +kernel
theorem dL_chats_597 : decode cL_chats 597 = .ok (.iconst 1, 1) := by decide +kernel
theorem dL_chats_598 : decode cL_chats 598 = .ok (.if_icmp .ne 7, 3) := by decide +kernel
theorem dL_chats_601 : decode cL_chats 601 = .ok (.iconst 0, 1) := by decide +kernel
theorem dL_chats_602 : decode cL_chats 602 = .ok (.goto 15, 3) := by decide +kernel
theorem dL_chats_605 : decode cL_chats 605 = .ok (.iload 14, 2) := by decide +kernel
theorem dL_chats_607 : decode cL_chats 607 = .ok (.iconst 2, 1) := by decide +kernel
theorem dL_chats_608 : decode cL_chats 608 = .ok (.if_icmp .ne 8, 3) := by decide +kernel
theorem dL_chats_611 : decode cL_chats 611 = .ok (.bipush 8, 2) := by decide +kernel
theorem dL_chats_613 : decode cL_chats 613 = .ok (.goto 4, 3) := by decide +kernel
theorem dL_chats_616 : decode cL_chats 616 = .ok (.iconst 1, 1) := by decide +kernel
theorem dL_chats_617 : decode cL_chats 617 = .ok (.istore 12, 2) := by decide +kernel
theorem dL_chats_619 : decode cL_chats 619 = .ok (.iinc 13 1, 3) := by decide +kernel
theorem dL_chats_622 : decode cL_chats 622 = .ok (.goto (-91), 3) := by decide +kernel
theorem dL_chats_625 : decode cL_chats 625 = .ok (.aload 5, 2) := by decide +kernel
theorem dL_chats_627 : decode cL_chats 627 = .ok (.aload 7, 2) := by decide +kernel
theorem dL_chats_629 : decode cL_chats 629 = .ok (.bipush 6, 2) := by decide +kernel
theorem dL_chats_631 : decode cL_chats 631 = .ok (.iaload, 1) := by decide +kernel
theorem dL_chats_632 : decode cL_chats 632 = .ok (.aload 7, 2) := by decide +kernel
theorem dL_chats_634 : decode cL_chats 634 = .ok (.bipush 8, 2) := by decide +kernel
theorem dL_chats_636 : decode cL_chats 636 = .ok (.iaload, 1) := by decide +kernel
theorem dL_chats_637 : decode cL_chats 637 = .ok (.bipush 16, 2) := by decide +kernel
theorem dL_chats_639 : decode cL_chats 639 = .ok (.aload 7, 2) := by decide +kernel
theorem dL_chats_641 : decode cL_chats 641 = .ok (.bipush 9, 2) := by decide +kernel
theorem dL_chats_643 : decode cL_chats 643 = .ok (.iaload, 1) := by decide +kernel
theorem dL_chats_644 : decode cL_chats 644 = .ok (.imul, 1) := by decide +kernel
theorem dL_chats_645 : decode cL_chats 645 = .ok (.iadd, 1) := by decide +kernel
theorem dL_chats_646 : decode cL_chats 646 = .ok (.iastore, 1) := by decide +kernel
theorem dL_chats_647 : decode cL_chats 647 = .ok (.aload 6, 2) := by decide +kernel
theorem dL_chats_649 : decode cL_chats 649 = .ok (.aload 7, 2) := by decide +kernel
theorem dL_chats_651 : decode cL_chats 651 = .ok (.bipush 6, 2) := by decide +kernel
theorem dL_chats_653 : decode cL_chats 653 = .ok (.iaload, 1) := by decide +kernel
theorem dL_chats_654 : decode cL_chats 654 = .ok (.iload 11, 2) := by decide +kernel
theorem dL_chats_656 : decode cL_chats 656 = .ok (.iastore, 1) := by decide +kernel
theorem dL_chats_657 : decode cL_chats 657 = .ok (.aload 7, 2) := by decide +kernel
theorem dL_chats_659 : decode cL_chats 659 = .ok (.bipush 6, 2) := by decide +kernel
theorem dL_chats_661 : decode cL_chats 661 = .ok (.dup2, 1) := by decide +kernel
theorem dL_chats_662 : decode cL_chats 662 = .ok (.iaload, 1) := by decide +kernel
theorem dL_chats_663 : decode cL_chats 663 = .ok (.iconst 1, 1) := by decide +kernel
theorem dL_chats_664 : decode cL_chats 664 = .ok (.iadd, 1) := by decide +kernel
theorem dL_chats_665 : decode cL_chats 665 = .ok (.iastore, 1) := by decide +kernel
theorem dL_chats_666 : decode cL_chats 666 = .ok (.aload 7, 2) := by decide +kernel
theorem dL_chats_668 : decode cL_chats 668 = .ok (.bipush 8, 2) := by decide +kernel
theorem dL_chats_670 : decode cL_chats 670 = .ok (.iconst 0, 1) := by decide +kernel
theorem dL_chats_671 : decode cL_chats 671 = .ok (.iastore, 1) := by decide +kernel
theorem dL_chats_672 : decode cL_chats 672 = .ok (.aload 7, 2) := by decide +kernel
theorem dL_chats_674 : decode cL_chats 674 = .ok (.bipush 9, 2) := by decide +kernel
theorem dL_chats_676 : decode cL_chats 676 = .ok (.iconst 0, 1) := by decide +kernel
theorem dL_chats_677 : decode cL_chats 677 = .ok (.iastore, 1) := by decide +kernel
theorem dL_chats_678 : decode cL_chats 678 = .ok (.iload 12, 2) := by decide +kernel
theorem dL_chats_680 : decode cL_chats 680 = .ok (.ifCond .lt 15, 3) := by decide +kernel
theorem dL_chats_683 : decode cL_chats 683 = .ok (.aload 4, 2) := by decide +kernel
theorem dL_chats_685 : decode cL_chats 685 = .ok (.aload 7, 2) := by decide +kernel
theorem dL_chats_687 : decode cL_chats 687 = .ok (.iconst 5, 1) := by decide +kernel
theorem dL_chats_688 : decode cL_chats 688 = .ok (.iload 12, 2) := by decide +kernel
theorem dL_chats_690 : decode cL_chats 690 = .ok (.iload 11, 2) := by decide +kernel
theorem dL_chats_692 : decode cL_chats 692 = .ok (.invokestatic 148, 3) := by decide +kernel
theorem dL_chats_695 : decode cL_chats 695 = .ok (.aload_n 0, 1) := by decide +kernel
theorem dL_chats_696 : decode cL_chats 696 = .ok (.iload 8, 2) := by decide +kernel
theorem dL_chats_698 : decode cL_chats 698 = .ok (.iload 10, 2) := by decide +kernel
theorem dL_chats_700 : decode cL_chats 700 = .ok (.invokestatic 196, 3) := by decide +kernel
theorem dL_chats_703 : decode cL_chats 703 = .ok (.iload 11, 2) := by decide +kernel
theorem dL_chats_705 : decode cL_chats 705 = .ok (.if_icmp .ne 7, 3) := by decide +kernel
theorem dL_chats_708 : decode cL_chats 708 = .ok (.iconst 1, 1) := by decide +kernel
theorem dL_chats_709 : decode cL_chats 709 = .ok (.goto 4, 3) := by decide +kernel
theorem dL_chats_712 : decode cL_chats 712 = .ok (.iconst 0, 1) := by decide +kernel
theorem dL_chats_713 : decode cL_chats 713 = .ok (.ireturn, 1) := by decide +kernel
theorem dL_chats_714 : decode cL_chats 714 = .ok (.iload_n 3, 1) := by decide +kernel
theorem dL_chats_715 : decode cL_chats 715 = .ok (.aload 7, 2) := by decide +kernel
theorem dL_chats_717 : decode cL_chats 717 = .ok (.bipush 7, 2) := by decide +kernel
theorem dL_chats_719 : decode cL_chats 719 = .ok (.iaload, 1) := by decide +kernel
theorem dL_chats_720 : decode cL_chats 720 = .ok (.iconst 1, 1) := by decide +kernel
theorem dL_chats_721 : decode cL_chats 721 = .ok (.iadd, 1) := by decide +kernel
theorem dL_chats_722 : decode cL_chats 722 = .ok (.invokestatic 128, 3) := by decide +kernel
theorem dL_chats_725 : decode cL_chats 725 = .ok (.istore 9, 2) := by decide +kernel
theorem dL_chats_727 : decode cL_chats 727 = .ok (.iload 9, 2) := by decide +kernel
theorem dL_chats_729 : decode cL_chats 729 = .ok (.aload 7, 2) := by decide +kernel
theorem dL_chats_731 : decode cL_chats 731 = .ok (.bipush 7, 2) := by decide +kernel
theorem dL_chats_733 : decode cL_chats 733 = .ok (.iaload, 1) := by decide +kernel
theorem dL_chats_734 : decode cL_chats 734 = .ok (.if_icmp .ne 48, 3) := by decide +kernel
theorem dL_chats_737 : decode cL_chats 737 = .ok (.aload_n 0, 1) := by decide +kernel
theorem dL_chats_738 : decode cL_chats 738 = .ok (.iload 8, 2) := by decide +kernel
theorem dL_chats_740 : decode cL_chats 740 = .ok (.iload 9, 2) := by decide +kernel
theorem dL_chats_742 : decode cL_chats 742 = .ok (.invokestatic 204, 3) := by decide +kernel
theorem dL_chats_745 : decode cL_chats 745 = .ok (.sipush (-7100), 3) := by decide +kernel
theorem dL_chats_748 : decode cL_chats 748 = .ok (.if_icmp .ne 32, 3) := by decide +kernel
theorem dL_chats_751 : decode cL_chats 751 = .ok (.aload_n 0, 1) := by decide +kernel
theorem dL_chats_752 : decode cL_chats 752 = .ok (.iload 9, 2) := by decide +kernel
theorem dL_chats_754 : decode cL_chats 754 = .ok (.invokestatic 206, 3) := by decide +kernel
theorem dL_chats_757 : decode cL_chats 757 = .ok (.sipush (-7100), 3) := by decide +kernel
theorem dL_chats_760 : decode cL_chats 760 = .ok (.if_icmp .ne 20, 3) := by decide +kernel
theorem dL_chats_763 : decode cL_chats 763 = .ok (.aload_n 0, 1) := by decide +kernel
theorem dL_chats_764 : decode cL_chats 764 = .ok (.bipush 9, 2) := by decide +kernel
theorem dL_chats_766 : decode cL_chats 766 = .ok (.iconst 0, 1) := by decide +kernel
theorem dL_chats_767 : decode cL_chats 767 = .ok (.invokestatic 204, 3) := by decide +kernel
theorem dL_chats_770 : decode cL_chats 770 = .ok (.sipush (-7100), 3) := by decide +kernel
theorem dL_chats_773 : decode cL_chats 773 = .ok (.if_icmp .ne 7, 3) := by decide +kernel
theorem dL_chats_776 : decode cL_chats 776 = .ok (.iconst 1, 1) := by decide +kernel
theorem dL_chats_777 : decode cL_chats 777 = .ok (.goto 4, 3) := by decide +kernel
theorem dL_chats_780 : decode cL_chats 780 = .ok (.iconst 0, 1) := by decide +kernel
theorem dL_chats_781 : decode cL_chats 781 = .ok (.ireturn, 1) := by decide +kernel
theorem dL_chats_782 : decode cL_chats 782 = .ok (.aload 4, 2) := by decide +kernel
theorem dL_chats_784 : decode cL_chats 784 = .ok (.aload 7, 2) := by decide +kernel
theorem dL_chats_786 : decode cL_chats 786 = .ok (.iload 9, 2) := by decide +kernel
theorem dL_chats_788 : decode cL_chats 788 = .ok (.invokestatic 208, 3) := by decide +kernel
theorem dL_chats_791 : decode cL_chats 791 = .ok (.istore 10, 2) := by decide +kernel
theorem dL_chats_793 : decode cL_chats 793 = .ok (.iload 10, 2) := by decide +kernel
theorem dL_chats_795 : decode cL_chats 795 = .ok (.ifCond .lt 15, 3) := by decide +kernel
theorem dL_chats_798 : decode cL_chats 798 = .ok (.iload_n 2, 1) := by decide +kernel
theorem dL_chats_799 : decode cL_chats 799 = .ok (.bipush 96, 2) := by decide +kernel
theorem dL_chats_801 : decode cL_chats 801 = .ok (.iand, 1) := by decide +kernel
theorem dL_chats_802 : decode cL_chats 802 = .ok (.ifCond .le 8, 3) := by decide +kernel
theorem dL_chats_805 : decode cL_chats 805 = .ok (.iload 10, 2) := by decide +kernel
theorem dL_chats_807 : decode cL_chats 807 = .ok (.goto 5, 3) := by decide +kernel
theorem dL_chats_810 : decode cL_chats 810 = .ok (.iload 8, 2) := by decide +kernel
theorem dL_chats_812 : decode cL_chats 812 = .ok (.istore 8, 2) := by decide +kernel
theorem dL_chats_814 : decode cL_chats 814 = .ok (.iload 10, 2) := by decide +kernel
theorem dL_chats_816 : decode cL_chats 816 = .ok (.iload 8, 2) := by decide +kernel
theorem dL_chats_818 : decode cL_chats 818 = .ok (.if_icmp .ne 15, 3) := by decide +kernel
theorem dL_chats_821 : decode cL_chats 821 = .ok (.aload 4, 2) := by decide +kernel
theorem dL_chats_823 : decode cL_chats 823 = .ok (.aload 7, 2) := by decide +kernel
theorem dL_chats_825 : decode cL_chats 825 = .ok (.iload 8, 2) := by decide +kernel
theorem dL_chats_827 : decode cL_chats 827 = .ok (.invokestatic 116, 3) := by decide +kernel
theorem dL_chats_830 : decode cL_chats 830 = .ok (.ifCond .eq 23, 3) := by decide +kernel
theorem dL_chats_833 : decode cL_chats 833 = .ok (.aload_n 0, 1) := by decide +kernel
theorem dL_chats_834 : decode cL_chats 834 = .ok (.iload 8, 2) := by decide +kernel
theorem dL_chats_836 : decode cL_chats 836 = .ok (.iload 9, 2) := by decide +kernel
theorem dL_chats_838 : decode cL_chats 838 = .ok (.invokestatic 204, 3) := by decide +kernel
theorem dL_chats_841 : decode cL_chats 841 = .ok (.sipush (-7300), 3) := by decide +kernel
theorem dL_chats_844 : decode cL_chats 844 = .ok (.if_icmp .ne 7, 3) := by decide +kernel
theorem dL_chats_847 : decode cL_chats 847 = .ok (.iconst 1, 1) := by decide +kernel
theorem dL_chats_848 : decode cL_chats 848 = .ok (.goto 4, 3) := by decide +kernel
theorem dL_chats_851 : decode cL_chats 851 = .ok (.iconst 0, 1) := by decide +kernel
theorem dL_chats_852 : decode cL_chats 852 = .ok (.ireturn, 1) := by decide +kernel
theorem dL_chats_853 : decode cL_chats 853 = .ok (.aload 4, 2) := by decide +kernel
theorem dL_chats_855 : decode cL_chats 855 = .ok (.aload 7, 2) := by decide +kernel
theorem dL_chats_857 : decode cL_chats 857 = .ok (.bipush 6, 2) := by decide +kernel
theorem dL_chats_859 : decode cL_chats 859 = .ok (.iload 8, 2) := by decide +kernel
theorem dL_chats_861 : decode cL_chats 861 = .ok (.iload 9, 2) := by decide +kernel
theorem dL_chats_863 : decode cL_chats 863 = .ok (.invokestatic 148, 3) := by decide +kernel
theorem dL_chats_866 : decode cL_chats 866 = .ok (.aload_n 0, 1) := by decide +kernel
theorem dL_chats_867 : decode cL_chats 867 = .ok (.iload 8, 2) := by decide +kernel
theorem dL_chats_869 : decode cL_chats 869 = .ok (.iload 9, 2) := by decide +kernel
theorem dL_chats_871 : decode cL_chats 871 = .ok (.invokestatic 204, 3) := by decide +kernel
theorem dL_chats_874 : decode cL_chats 874 = .ok (.ifCond .ne 7, 3) := by decide +kernel
theorem dL_chats_877 : decode cL_chats 877 = .ok (.iconst 1, 1) := by decide +kernel
theorem dL_chats_878 : decode cL_chats 878 = .ok (.goto 4, 3) := by decide +kernel
theorem dL_chats_881 : decode cL_chats 881 = .ok (.iconst 0, 1) := by decide +kernel
theorem dL_chats_882 : decode cL_chats 882 = .ok (.ireturn, 1) := by decide +kernel
set_option maxRecDepth 20000 in
theorem ggL_sign_L_letter : GoodIn wsL_sign wsL_letter := goodIn_r _ [5, 6, 7] (by decide +kernel) (by decide +kernel)
set_option maxRecDepth 20000 in
theorem gL_sign_L_letter : GoodIn wsL_sign (va_wsS RL 192 yL_letter wsL_letter) := goodIn_app (goodIn_of _ (by decide +kernel)) ggL_sign_L_letter
theorem dL_sign_0 : decode cL_sign 0 = .ok (.iconst 0, 1) := by decide +kernel
theorem dL_sign_1 : decode cL_sign 1 = .ok (.istore_n 2, 1) := by decide +kernel
theorem dL_sign_2 : decode cL_sign 2 = .ok (.iconst 0, 1) := by decide +kernel
theorem dL_sign_3 : decode cL_sign 3 = .ok (.istore_n 3, 1) := by decide +kernel
theorem dL_sign_4 : decode cL_sign 4 = .ok (.iload_n 2, 1) := by decide +kernel
theorem dL_sign_5 : decode cL_sign 5 = .ok (.iload_n 0, 1) := by decide +kernel
theorem dL_sign_6 : decode cL_sign 6 = .ok (.bipush 15, 2) := by decide +kernel
theorem dL_sign_8 : decode cL_sign 8 = .ok (.iand, 1) := by decide +kernel
theorem dL_sign_9 : decode cL_sign 9 = .ok (.if_icmp .ge 57, 3) := by decide +kernel
theorem dL_sign_12 : decode cL_sign 12 = .ok (.iload_n 0, 1) := by decide +kernel
theorem dL_sign_13 : decode cL_sign 13 = .ok (.iconst 4, 1) := by decide +kernel
theorem dL_sign_14 : decode cL_sign 14 = .ok (.iconst 3, 1) := by decide +kernel
theorem dL_sign_15 : decode cL_sign 15 = .ok (.iload_n 2, 1) := by decide +kernel
theorem dL_sign_16 : decode cL_sign 16 = .ok (.imul, 1) := by decide +kernel
theorem dL_sign_17 : decode cL_sign 17 = .ok (.iadd, 1) := by decide +kernel
theorem dL_sign_18 : decode cL_sign 18 = .ok (.ishr, 1) := by decide +kernel
theorem dL_sign_19 : decode cL_sign 19 = .ok (.bipush 7, 2) := by decide +kernel
theorem dL_sign_21 : decode cL_sign 21 = .ok (.iand, 1) := by decide +kernel
theorem dL_sign_22 : decode cL_sign 22 = .ok (.istore 4, 2) := by decide +kernel
theorem dL_sign_24 : decode cL_sign 24 = .ok (.iload_n 3, 1) := by decide +kernel
theorem dL_sign_25 : decode cL_sign 25 = .ok (.iload_n 1, 1) := by decide +kernel
theorem dL_sign_26 : decode cL_sign 26 = .ok (.if_icmp .ne 20, 3) := by decide +kernel
theorem dL_sign_29 : decode cL_sign 29 = .ok (.iload 4, 2) := by decide +kernel
theorem dL_sign_31 : decode cL_sign 31 = .ok (.iconst 5, 1) := by decide +kernel
theorem dL_sign_32 : decode cL_sign 32 = .ok (.if_icmp .ne 8, 3) := by decide +kernel
theorem dL_sign_35 : decode cL_sign 35 = .ok (.ldc 211, 2) := by decide +kernel
theorem dL_sign_37 : decode cL_sign 37 = .ok (.goto 8, 3) := by decide +kernel
theorem dL_sign_40 : decode cL_sign 40 = .ok (.iload 4, 2) := by decide +kernel
theorem dL_sign_42 : decode cL_sign 42 = .ok (.invokestatic 192, 3) := by decide +kernel
theorem dL_sign_45 : decode cL_sign 45 = .ok (.ireturn, 1) := by decide +kernel
theorem dL_sign_46 : decode cL_sign 46 = .ok (.iload_n 2, 1) := by decide +kernel
theorem dL_sign_47 : decode cL_sign 47 = .ok (.iload 4, 2) := by decide +kernel
theorem dL_sign_49 : decode cL_sign 49 = .ok (.iconst 5, 1) := by decide +kernel
theorem dL_sign_50 : decode cL_sign 50 = .ok (.if_icmp .ne 7, 3) := by decide +kernel
theorem dL_sign_53 : decode cL_sign 53 = .ok (.iconst 2, 1) := by decide +kernel
theorem dL_sign_54 : decode cL_sign 54 = .ok (.goto 4, 3) := by decide +kernel
theorem dL_sign_57 : decode cL_sign 57 = .ok (.iconst 1, 1) := by decide +kernel
theorem dL_sign_58 : decode cL_sign 58 = .ok (.iadd, 1) := by decide +kernel
theorem dL_sign_59 : decode cL_sign 59 = .ok (.istore_n 2, 1) := by decide +kernel
theorem dL_sign_60 : decode cL_sign 60 = .ok (.iinc 3 1, 3) := by decide +kernel
theorem dL_sign_63 : decode cL_sign 63 = .ok (.goto (-59), 3) := by decide +kernel
theorem dL_sign_66 : decode cL_sign 66 = .ok (.iconst (-1), 1) := by decide +kernel
theorem dL_sign_67 : decode cL_sign 67 = .ok (.ireturn, 1) := by decide +kernel
set_option maxRecDepth 20000 in
theorem ggL_isTold_L_entryAt : GoodIn wsL_isTold wsL_entryAt := goodIn_ca (goodIn_r _ [4, 5, 6, 7, 8, 9, 10, 11, 12, 13, 14, 15, 16, 17, 18, 19, 20, 21, 22, 302, 303, 304, 305, 306, 307, 308, 309, 310, 311, 312, 313, 314, 315, 316, 317] (by decide +kernel) (by decide +kernel)) (goodIn_sub (fun _ h => List.mem_cons_of_mem _ (List.mem_append_right _ h)) (by decide +kernel))
set_option maxRecDepth 20000 in
theorem gL_isTold_L_entryAt : GoodIn wsL_isTold (va_wsS RL 212 yL_entryAt wsL_entryAt) := goodIn_app (goodIn_of _ (by decide +kernel)) ggL_isTold_L_entryAt
set_option maxRecDepth 20000 in
theorem ggL_isTold_L_entry : GoodIn wsL_isTold wsL_entry := goodIn_r _ [25, 26] (by decide +kernel) (by decide +kernel)
set_option maxRecDepth 20000 in
theorem gL_isTold_L_entry : GoodIn wsL_isTold (va_wsS RL 104 yL_entry wsL_entry) := goodIn_app (goodIn_of _ (by decide +kernel)) ggL_isTold_L_entry
set_option maxRecDepth 20000 in
theorem ggL_isTold_L_opened : GoodIn wsL_isTold wsL_opened := goodIn_r _ [29, 23, 24, 3, 25, 26, 30, 31, 32] (by decide +kernel) (by decide +kernel)
set_option maxRecDepth 20000 in
theorem gL_isTold_L_opened : GoodIn wsL_isTold (va_wsS RL 138 yL_opened wsL_opened) := goodIn_app (goodIn_of _ (by decide +kernel)) ggL_isTold_L_opened
set_option maxRecDepth 20000 in
theorem ggL_isTold_L_isOpen : GoodIn wsL_isTold wsL_isOpen := goodIn_ca (goodIn_r _ [35, 5, 36, 37, 38, 9, 39, 40, 41, 42, 43, 11, 12, 302, 303, 304, 305, 306, 307, 308, 309, 310, 311, 312, 313, 314, 315, 318, 319, 320] (by decide +kernel) (by decide +kernel)) (goodIn_sub (fun _ h => List.mem_cons_of_mem _ (List.mem_append_right _ h)) (by decide +kernel))
set_option maxRecDepth 20000 in
theorem gL_isTold_L_isOpen : GoodIn wsL_isTold (va_wsS RL 214 yL_isOpen wsL_isOpen) := goodIn_app (goodIn_of _ (by decide +kernel)) ggL_isTold_L_isOpen
set_option maxRecDepth 20000 in
theorem ggL_isTold_L_isOpenByLog : GoodIn wsL_isTold wsL_isOpenByLog := goodIn_ca (goodIn_r _ [46, 5, 47, 48, 49, 9, 50, 13, 41, 42, 43, 11, 12, 14, 15, 16, 17, 18, 51, 52, 53, 22, 54, 55, 56, 57, 58, 59, 60, 61, 62, 63, 302, 303, 304, 305, 306, 307, 308, 309, 310, 311, 312, 313, 314, 315, 316, 317] (by decide +kernel) (by decide +kernel)) (goodIn_sub (fun _ h => List.mem_cons_of_mem _ (List.mem_append_right _ h)) (by decide +kernel))
set_option maxRecDepth 20000 in
theorem gL_isTold_L_isOpenByLog : GoodIn wsL_isTold (va_wsS RL 216 yL_isOpenByLog wsL_isOpenByLog) := goodIn_app (goodIn_of _ (by decide +kernel)) ggL_isTold_L_isOpenByLog
set_option maxRecDepth 20000 in
theorem ggL_isTold_L_tagsByLog : GoodIn wsL_isTold wsL_tagsByLog := goodIn_ca (goodIn_r _ [66, 5, 67, 68, 69, 9, 70, 13, 41, 42, 43, 11, 12, 14, 15, 16, 17, 18, 51, 52, 53, 22, 58, 59, 60, 71, 72, 73, 74, 75, 76, 77, 78, 79, 80, 81, 82, 83, 84, 85, 86, 87, 88, 89, 90, 91, 92, 93, 94, 95, 96, 97, 98, 99, 302, 303, 304, 305, 306, 307, 308, 309, 310, 311, 312, 313, 314, 315, 316, 317, 321, 322, 323, 324, 325, 326, 327] (by decide +kernel) (by decide +kernel)) (goodIn_sub (fun _ h => List.mem_cons_of_mem _ (List.mem_append_right _ h)) (by decide +kernel))
set_option maxRecDepth 20000 in
theorem gL_isTold_L_tagsByLog : GoodIn wsL_isTold (va_wsS RL 218 yL_tagsByLog wsL_tagsByLog) := goodIn_app (goodIn_of _ (by decide +kernel)) ggL_isTold_L_tagsByLog
set_option maxRecDepth 20000 in
theorem ggL_isTold_L_hanging : GoodIn wsL_isTold wsL_hanging := goodIn_r _ [102, 103, 104, 3, 105, 23, 24, 25, 26, 30, 31, 32, 106, 107, 108] (by decide +kernel) (by decide +kernel)
set_option maxRecDepth 20000 in
theorem gL_isTold_L_hanging : GoodIn wsL_isTold (va_wsS RL 141 yL_hanging wsL_hanging) := goodIn_app (goodIn_of _ (by decide +kernel)) ggL_isTold_L_hanging
set_option maxRecDepth 20000 in
theorem ggL_isTold_L_low : GoodIn wsL_isTold wsL_low := goodIn_r _ [111] (by decide +kernel) (by decide +kernel)
set_option maxRecDepth 20000 in
theorem gL_isTold_L_low : GoodIn wsL_isTold (va_wsS RL 128 yL_low wsL_low) := goodIn_app (goodIn_of _ (by decide +kernel)) ggL_isTold_L_low
set_option maxRecDepth 20000 in
theorem ggL_isTold_L_obstacle : GoodIn wsL_isTold wsL_obstacle := goodIn_ca (goodIn_r _ [114, 5, 115, 116, 117, 9, 118, 119, 120, 121, 11, 12, 41, 42, 43, 122, 123, 124, 125, 126, 127, 128, 129, 130, 131, 132, 133, 134, 135, 136, 137, 138, 139, 140, 141, 75, 76, 77, 78, 79, 80, 81, 82, 83, 84, 85, 86, 87, 88, 89, 90, 91, 92, 93, 94, 95, 96, 97, 98, 99, 302, 303, 304, 305, 306, 307, 308, 309, 310, 311, 312, 313, 314, 315, 321, 322, 323, 324, 325, 326, 327] (by decide +kernel) (by decide +kernel)) (goodIn_sub (fun _ h => List.mem_cons_of_mem _ (List.mem_append_right _ h)) (by decide +kernel))
set_option maxRecDepth 20000 in
theorem gL_isTold_L_obstacle : GoodIn wsL_isTold (va_wsS RL 220 yL_obstacle wsL_obstacle) := goodIn_app (goodIn_of _ (by decide +kernel)) ggL_isTold_L_obstacle
set_option maxRecDepth 20000 in
theorem ggL_isTold_L_why : GoodIn wsL_isTold wsL_why := goodIn_r _ [144, 145, 146, 3, 147, 23, 24, 25, 26, 30, 31, 32, 106, 107, 108, 103, 104, 105] (by decide +kernel) (by decide +kernel)
set_option maxRecDepth 20000 in
theorem gL_isTold_L_why : GoodIn wsL_isTold (va_wsS RL 124 yL_why wsL_why) := goodIn_app (goodIn_of _ (by decide +kernel)) ggL_isTold_L_why
set_option maxRecDepth 20000 in
theorem ggL_isTold_L_canAct : GoodIn wsL_isTold wsL_canAct := goodIn_ca (goodIn_r _ [150, 5, 151, 152, 153, 9, 154, 119, 120, 121, 11, 12, 132, 133, 134, 135, 136, 137, 126, 127, 128, 129, 130, 131, 302, 303, 304, 305, 306, 307, 308, 309, 310, 311, 312, 313, 314, 315] (by decide +kernel) (by decide +kernel)) (goodIn_sub (fun _ h => List.mem_cons_of_mem _ (List.mem_append_right _ h)) (by decide +kernel))
set_option maxRecDepth 20000 in
theorem gL_isTold_L_canAct : GoodIn wsL_isTold (va_wsS RL 222 yL_canAct wsL_canAct) := goodIn_app (goodIn_of _ (by decide +kernel)) ggL_isTold_L_canAct
set_option maxRecDepth 20000 in
theorem ggL_isTold_L_mayAct : GoodIn wsL_isTold wsL_mayAct := goodIn_r _ [157, 142, 143, 3, 144, 145, 146, 147, 23, 24, 25, 26, 30, 31, 32, 106, 107, 108, 103, 104, 105] (by decide +kernel) (by decide +kernel)
set_option maxRecDepth 20000 in
theorem gL_isTold_L_mayAct : GoodIn wsL_isTold (va_wsS RL 131 yL_mayAct wsL_mayAct) := goodIn_app (goodIn_of _ (by decide +kernel)) ggL_isTold_L_mayAct
set_option maxRecDepth 20000 in
theorem ggL_isTold_L_level : GoodIn wsL_isTold wsL_level := goodIn_ca (goodIn_r _ [160, 5, 161, 162, 163, 9, 164, 165, 166, 167, 168, 11, 12, 169, 170, 171, 302, 303, 304, 305, 306, 307, 308, 309, 310, 311, 312, 313, 314, 315] (by decide +kernel) (by decide +kernel)) (goodIn_sub (fun _ h => List.mem_cons_of_mem _ (List.mem_append_right _ h)) (by decide +kernel))
set_option maxRecDepth 20000 in
theorem gL_isTold_L_level : GoodIn wsL_isTold (va_wsS RL 224 yL_level wsL_level) := goodIn_app (goodIn_of _ (by decide +kernel)) ggL_isTold_L_level
set_option maxRecDepth 20000 in
theorem ggL_isTold_L_stateOf : GoodIn wsL_isTold wsL_stateOf := goodIn_ca (goodIn_r _ [174, 5, 175, 176, 177, 9, 178, 11, 12, 179, 180, 77, 78, 79, 80, 81, 82, 83, 84, 85, 86, 87, 88, 89, 90, 91, 92, 93, 94, 95, 96, 97, 98, 99, 302, 303, 304, 305, 306, 307, 308, 309, 310, 311, 312, 313, 314, 315, 328, 329, 330, 331, 332, 333, 325, 326, 327] (by decide +kernel) (by decide +kernel)) (goodIn_sub (fun _ h => List.mem_cons_of_mem _ (List.mem_append_right _ h)) (by decide +kernel))
set_option maxRecDepth 20000 in
theorem gL_isTold_L_stateOf : GoodIn wsL_isTold (va_wsS RL 163 yL_stateOf wsL_stateOf) := goodIn_app (goodIn_of _ (by decide +kernel)) ggL_isTold_L_stateOf
set_option maxRecDepth 20000 in
theorem ggL_isTold_L_ownerOf : GoodIn wsL_isTold wsL_ownerOf := goodIn_ca (goodIn_r _ [183, 5, 184, 185, 186, 9, 187, 75, 76, 188, 189, 190, 191, 11, 12, 77, 78, 79, 80, 81, 82, 83, 84, 85, 86, 87, 88, 89, 90, 91, 92, 93, 94, 95, 96, 97, 98, 99, 302, 303, 304, 305, 306, 307, 308, 309, 310, 311, 312, 313, 314, 315, 321, 322, 323, 324, 325, 326, 327] (by decide +kernel) (by decide +kernel)) (goodIn_sub (fun _ h => List.mem_cons_of_mem _ (List.mem_append_right _ h)) (by decide +kernel))
set_option maxRecDepth 20000 in
theorem gL_isTold_L_ownerOf : GoodIn wsL_isTold (va_wsS RL 226 yL_ownerOf wsL_ownerOf) := goodIn_app (goodIn_of _ (by decide +kernel)) ggL_isTold_L_ownerOf
set_option maxRecDepth 20000 in
theorem ggL_isTold_L_hanger : GoodIn wsL_isTold wsL_hanger := goodIn_r _ [105, 23, 24, 3, 25, 26, 30, 31, 32, 106, 107, 108] (by decide +kernel) (by decide +kernel)
set_option maxRecDepth 20000 in
theorem gL_isTold_L_hanger : GoodIn wsL_isTold (va_wsS RL 120 yL_hanger wsL_hanger) := goodIn_app (goodIn_of _ (by decide +kernel)) ggL_isTold_L_hanger
set_option maxRecDepth 20000 in
theorem ggL_isTold_L_valveOf : GoodIn wsL_isTold wsL_valveOf := goodIn_ca (goodIn_r _ [194, 5, 195, 196, 197, 9, 198, 75, 76, 188, 189, 190, 191, 11, 12, 77, 78, 79, 80, 81, 82, 83, 84, 85, 86, 87, 88, 89, 90, 91, 92, 93, 94, 95, 96, 97, 98, 99, 302, 303, 304, 305, 306, 307, 308, 309, 310, 311, 312, 313, 314, 315, 321, 322, 323, 324, 325, 326, 327] (by decide +kernel) (by decide +kernel)) (goodIn_sub (fun _ h => List.mem_cons_of_mem _ (List.mem_append_right _ h)) (by decide +kernel))
set_option maxRecDepth 20000 in
theorem gL_isTold_L_valveOf : GoodIn wsL_isTold (va_wsS RL 157 yL_valveOf wsL_valveOf) := goodIn_app (goodIn_of _ (by decide +kernel)) ggL_isTold_L_valveOf
set_option maxRecDepth 20000 in
theorem ggL_isTold_L_taskOf : GoodIn wsL_isTold wsL_taskOf := goodIn_ca (goodIn_r _ [201, 5, 202, 203, 204, 9, 205, 206, 207, 208, 209, 210, 11, 12, 211, 302, 303, 304, 305, 306, 307, 308, 309, 310, 311, 312, 313, 314, 315] (by decide +kernel) (by decide +kernel)) (goodIn_sub (fun _ h => List.mem_cons_of_mem _ (List.mem_append_right _ h)) (by decide +kernel))
set_option maxRecDepth 20000 in
theorem gL_isTold_L_taskOf : GoodIn wsL_isTold (va_wsS RL 206 yL_taskOf wsL_taskOf) := goodIn_app (goodIn_of _ (by decide +kernel)) ggL_isTold_L_taskOf
set_option maxRecDepth 20000 in
theorem ggL_isTold_L_task : GoodIn wsL_isTold wsL_task := goodIn_r _ [214, 23, 24, 3, 25, 26, 30, 31, 32, 106, 107, 108] (by decide +kernel) (by decide +kernel)
set_option maxRecDepth 20000 in
theorem gL_isTold_L_task : GoodIn wsL_isTold (va_wsS RL 208 yL_task wsL_task) := goodIn_app (goodIn_of _ (by decide +kernel)) ggL_isTold_L_task
set_option maxRecDepth 20000 in
theorem ggL_isTold_L_sign : GoodIn wsL_isTold wsL_sign := goodIn_r _ [217, 218, 219, 220, 3, 221, 222, 223] (by decide +kernel) (by decide +kernel)
set_option maxRecDepth 20000 in
theorem gL_isTold_L_sign : GoodIn wsL_isTold (va_wsS RL 228 yL_sign wsL_sign) := goodIn_app (goodIn_of _ (by decide +kernel)) ggL_isTold_L_sign
set_option maxRecDepth 20000 in
theorem ggL_isTold_L_signs : GoodIn wsL_isTold wsL_signs := goodIn_ca (goodIn_r _ [226, 5, 227, 228, 229, 9, 230, 231, 232, 233, 234, 235, 236, 11, 12, 77, 78, 79, 80, 81, 82, 83, 84, 85, 86, 87, 88, 89, 90, 91, 92, 93, 94, 95, 96, 97, 98, 99, 237, 238, 239, 240, 241, 302, 303, 304, 305, 306, 307, 308, 309, 310, 311, 312, 313, 314, 315, 325, 326, 327, 334] (by decide +kernel) (by decide +kernel)) (goodIn_sub (fun _ h => List.mem_cons_of_mem _ (List.mem_append_right _ h)) (by decide +kernel))
set_option maxRecDepth 20000 in
theorem gL_isTold_L_signs : GoodIn wsL_isTold (va_wsS RL 202 yL_signs wsL_signs) := goodIn_app (goodIn_of _ (by decide +kernel)) ggL_isTold_L_signs
set_option maxRecDepth 20000 in
theorem ggL_isTold_L_signAt : GoodIn wsL_isTold wsL_signAt := goodIn_ca (goodIn_r _ [244, 5, 245, 246, 247, 9, 248, 231, 232, 233, 234, 235, 236, 11, 12, 77, 78, 79, 80, 81, 82, 249, 250, 251, 83, 84, 85, 86, 87, 88, 89, 90, 91, 92, 93, 94, 95, 96, 97, 98, 99, 252, 238, 253, 254, 241, 302, 303, 304, 305, 306, 307, 308, 309, 310, 311, 312, 313, 314, 315, 325, 326, 327, 334] (by decide +kernel) (by decide +kernel)) (goodIn_sub (fun _ h => List.mem_cons_of_mem _ (List.mem_append_right _ h)) (by decide +kernel))
set_option maxRecDepth 20000 in
theorem gL_isTold_L_signAt : GoodIn wsL_isTold (va_wsS RL 231 yL_signAt wsL_signAt) := goodIn_app (goodIn_of _ (by decide +kernel)) ggL_isTold_L_signAt
set_option maxRecDepth 20000 in
theorem ggL_isTold_L_signBack : GoodIn wsL_isTold wsL_signBack := goodIn_ca (goodIn_r _ [257, 5, 258, 259, 260, 9, 261, 231, 232, 233, 234, 235, 236, 11, 12, 77, 78, 79, 80, 81, 82, 249, 250, 251, 83, 84, 85, 86, 87, 88, 89, 90, 91, 92, 93, 94, 95, 96, 97, 98, 99, 237, 238, 239, 240, 241, 252, 253, 254, 302, 303, 304, 305, 306, 307, 308, 309, 310, 311, 312, 313, 314, 315, 325, 326, 327, 334] (by decide +kernel) (by decide +kernel)) (goodIn_sub (fun _ h => List.mem_cons_of_mem _ (List.mem_append_right _ h)) (by decide +kernel))
set_option maxRecDepth 20000 in
theorem gL_isTold_L_signBack : GoodIn wsL_isTold (va_wsS RL 233 yL_signBack wsL_signBack) := goodIn_app (goodIn_of _ (by decide +kernel)) ggL_isTold_L_signBack
set_option maxRecDepth 20000 in
theorem ggL_isTold_X6_hour : GoodIn wsL_isTold wsX6_hour := goodIn_r _ [265, 131, 302, 303, 304, 305, 306, 307, 308, 309, 310, 311, 312, 313, 314, 315] (by decide +kernel) (by decide +kernel)
set_option maxRecDepth 20000 in
theorem gL_isTold_X6_hour : GoodIn wsL_isTold (wsV RL 235 RX6 yX6_hour wsX6_hour) := goodIn_app (goodIn_of _ (by decide +kernel)) ggL_isTold_X6_hour
set_option maxRecDepth 20000 in
theorem ggL_isTold_X6_entries : GoodIn wsL_isTold wsX6_entries := goodIn_r _ [269, 13, 14, 15, 16, 17, 18, 302, 303, 304, 305, 306, 307, 308, 309, 310, 311, 312, 313, 314, 315, 316, 317] (by decide +kernel) (by decide +kernel)
set_option maxRecDepth 20000 in
theorem gL_isTold_X6_entries : GoodIn wsL_isTold (wsV RL 238 RX6 yX6_entries wsX6_entries) := goodIn_app (goodIn_of _ (by decide +kernel)) ggL_isTold_X6_entries
set_option maxRecDepth 20000 in
theorem ggL_isTold_X6_spilled : GoodIn wsL_isTold wsX6_spilled := goodIn_r _ [273, 274, 302, 303, 304, 305, 306, 307, 308, 309, 310, 311, 312, 313, 314, 315] (by decide +kernel) (by decide +kernel)
set_option maxRecDepth 20000 in
theorem gL_isTold_X6_spilled : GoodIn wsL_isTold (wsV RL 241 RX6 yX6_spilled wsX6_spilled) := goodIn_app (goodIn_of _ (by decide +kernel)) ggL_isTold_X6_spilled
set_option maxRecDepth 20000 in
theorem ggL_isTold_X6_messages : GoodIn wsL_isTold wsX6_messages := goodIn_r _ [278, 231, 77, 78, 79, 80, 81, 82, 302, 303, 304, 305, 306, 307, 308, 309, 310, 311, 312, 313, 314, 315, 325, 326, 327] (by decide +kernel) (by decide +kernel)
set_option maxRecDepth 20000 in
theorem gL_isTold_X6_messages : GoodIn wsL_isTold (wsV RL 244 RX6 yX6_messages wsX6_messages) := goodIn_app (goodIn_of _ (by decide +kernel)) ggL_isTold_X6_messages
set_option maxRecDepth 20000 in
theorem ggL_isTold_X6_isWhole : GoodIn wsL_isTold wsX6_isWhole := goodIn_r _ [282, 283, 284, 285, 286, 287, 288, 289, 290, 291, 292, 293, 294, 295, 296, 297, 298, 302, 303, 304, 305, 306, 307, 308, 309, 310, 311, 312, 313, 314, 315, 335, 336] (by decide +kernel) (by decide +kernel)
set_option maxRecDepth 20000 in
theorem gL_isTold_X6_isWhole : GoodIn wsL_isTold (wsV RL 247 RX6 yX6_isWhole wsX6_isWhole) := goodIn_app (goodIn_of _ (by decide +kernel)) ggL_isTold_X6_isWhole
set_option maxRecDepth 20000 in
theorem ggL_isTold_L_isWhole : GoodIn wsL_isTold wsL_isWhole := goodIn_r _ [301] (by decide +kernel) (by decide +kernel)
set_option maxRecDepth 20000 in
theorem gL_isTold_L_isWhole : GoodIn wsL_isTold (va_wsS RL 198 yL_isWhole wsL_isWhole) := goodIn_app (goodIn_of _ (by decide +kernel)) ggL_isTold_L_isWhole
theorem dL_isTold_0 : decode cL_isTold 0 = .ok (.iconst 0, 1) := by decide +kernel
theorem dL_isTold_1 : decode cL_isTold 1 = .ok (.istore 9, 2) := by decide +kernel
theorem dL_isTold_3 : decode cL_isTold 3 = .ok (.iload 9, 2) := by decide +kernel
theorem dL_isTold_5 : decode cL_isTold 5 = .ok (.aload 8, 2) := by decide +kernel
theorem dL_isTold_7 : decode cL_isTold 7 = .ok (.iconst 1, 1) := by decide +kernel
theorem dL_isTold_8 : decode cL_isTold 8 = .ok (.iaload, 1) := by decide +kernel
theorem dL_isTold_9 : decode cL_isTold 9 = .ok (.if_icmp .ge 26, 3) := by decide +kernel
theorem dL_isTold_12 : decode cL_isTold 12 = .ok (.aload_n 0, 1) := by decide +kernel
theorem dL_isTold_13 : decode cL_isTold 13 = .ok (.iload 9, 2) := by decide +kernel
theorem dL_isTold_15 : decode cL_isTold 15 = .ok (.invokestatic 212, 3) := by decide +kernel
theorem dL_isTold_18 : decode cL_isTold 18 = .ok (.aload_n 2, 1) := by decide +kernel
theorem dL_isTold_19 : decode cL_isTold 19 = .ok (.iload 9, 2) := by decide +kernel
theorem dL_isTold_21 : decode cL_isTold 21 = .ok (.invokestatic 104, 3) := by decide +kernel
theorem dL_isTold_24 : decode cL_isTold 24 = .ok (.if_icmp .eq 5, 3) := by decide +kernel
theorem dL_isTold_27 : decode cL_isTold 27 = .ok (.iconst 0, 1) := by decide +kernel
theorem dL_isTold_28 : decode cL_isTold 28 = .ok (.ireturn, 1) := by decide +kernel
theorem dL_isTold_29 : decode cL_isTold 29 = .ok (.iinc 9 1, 3) := by decide +kernel
theorem dL_isTold_32 : decode cL_isTold 32 = .ok (.goto (-29), 3) := by decide +kernel
theorem dL_isTold_35 : decode cL_isTold 35 = .ok (.iconst 0, 1) := by decide +kernel
theorem dL_isTold_36 : decode cL_isTold 36 = .ok (.istore 9, 2) := by decide +kernel
theorem dL_isTold_38 : decode cL_isTold 38 = .ok (.iload 9, 2) := by decide +kernel
theorem dL_isTold_40 : decode cL_isTold 40 = .ok (.bipush 8, 2) := by decide +kernel
theorem dL_isTold_42 : decode cL_isTold 42 = .ok (.if_icmp .ge 70, 3) := by decide +kernel
theorem dL_isTold_45 : decode cL_isTold 45 = .ok (.aload_n 2, 1) := by decide +kernel
theorem dL_isTold_46 : decode cL_isTold 46 = .ok (.aload 8, 2) := by decide +kernel
theorem dL_isTold_48 : decode cL_isTold 48 = .ok (.iload 9, 2) := by decide +kernel
theorem dL_isTold_50 : decode cL_isTold 50 = .ok (.invokestatic 138, 3) := by decide +kernel
theorem dL_isTold_53 : decode cL_isTold 53 = .ok (.ifCond .eq 7, 3) := by decide +kernel
theorem dL_isTold_56 : decode cL_isTold 56 = .ok (.iconst 1, 1) := by decide +kernel
theorem dL_isTold_57 : decode cL_isTold 57 = .ok (.goto 4, 3) := by decide +kernel
theorem dL_isTold_60 : decode cL_isTold 60 = .ok (.iconst 0, 1) := by decide +kernel
theorem dL_isTold_61 : decode cL_isTold 61 = .ok (.istore 10, 2) := by decide +kernel
theorem dL_isTold_63 : decode cL_isTold 63 = .ok (.aload_n 0, 1) := by decide +kernel
theorem dL_isTold_64 : decode cL_isTold 64 = .ok (.iload 9, 2) := by decide +kernel
theorem dL_isTold_66 : decode cL_isTold 66 = .ok (.invokestatic 214, 3) := by decide +kernel
theorem dL_isTold_69 : decode cL_isTold 69 = .ok (.iload 10, 2) := by decide +kernel
theorem dL_isTold_71 : decode cL_isTold 71 = .ok (.if_icmp .ne 33, 3) := by decide +kernel
theorem dL_isTold_74 : decode cL_isTold 74 = .ok (.aload_n 0, 1) := by decide +kernel
theorem dL_isTold_75 : decode cL_isTold 75 = .ok (.iload 9, 2) := by decide +kernel
theorem dL_isTold_77 : decode cL_isTold 77 = .ok (.invokestatic 216, 3) := by decide +kernel
theorem dL_isTold_80 : decode cL_isTold 80 = .ok (.iload 10, 2) := by decide +kernel
theorem dL_isTold_82 : decode cL_isTold 82 = .ok (.if_icmp .ne 22, 3) := by decide +kernel
theorem dL_isTold_85 : decode cL_isTold 85 = .ok (.aload_n 0, 1) := by decide +kernel
theorem dL_isTold_86 : decode cL_isTold 86 = .ok (.iload 9, 2) := by decide +kernel
theorem dL_isTold_88 : decode cL_isTold 88 = .ok (.invokestatic 218, 3) := by decide +kernel
theorem dL_isTold_91 : decode cL_isTold 91 = .ok (.aload_n 2, 1) := by decide +kernel
theorem dL_isTold_92 : decode cL_isTold 92 = .ok (.aload 5, 2) := by decide +kernel
theorem dL_isTold_94 : decode cL_isTold 94 = .ok (.aload 8, 2) := by decide +kernel
theorem dL_isTold_96 : decode cL_isTold 96 = .ok (.iload 9, 2) := by decide +kernel
theorem dL_isTold_98 : decode cL_isTold 98 = .ok (.invokestatic 141, 3) := by decide +kernel
theorem dL_isTold_101 : decode cL_isTold 101 = .ok (.if_icmp .eq 5, 3) := by decide +kernel
theorem dL_isTold_104 : decode cL_isTold 104 = .ok (.iconst 0, 1) := by decide +kernel
theorem dL_isTold_105 : decode cL_isTold 105 = .ok (.ireturn, 1) := by decide +kernel
theorem dL_isTold_106 : decode cL_isTold 106 = .ok (.iinc 9 1, 3) := by decide +kernel
theorem dL_isTold_109 : decode cL_isTold 109 = .ok (.goto (-71), 3) := by decide +kernel
theorem dL_isTold_112 : decode cL_isTold 112 = .ok (.iload_n 1, 1) := by decide +kernel
theorem dL_isTold_113 : decode cL_isTold 113 = .ok (.bipush 9, 2) := by decide +kernel
theorem dL_isTold_115 : decode cL_isTold 115 = .ok (.invokestatic 128, 3) := by decide +kernel
