theorem dL_isTold_118 : decode cL_isTold 118 = .ok (.istore 9, 2) := by decide +kernel
theorem dL_isTold_120 : decode cL_isTold 120 = .ok (.iload_n 1, 1) := by decide +kernel
theorem dL_isTold_121 : decode cL_isTold 121 = .ok (.iconst 4, 1) := by decide +kernel
theorem dL_isTold_122 : decode cL_isTold 122 = .ok (.ishr, 1) := by decide +kernel
theorem dL_isTold_123 : decode cL_isTold 123 = .ok (.iconst 3, 1) := by decide +kernel
theorem dL_isTold_124 : decode cL_isTold 124 = .ok (.invokestatic 128, 3) := by decide +kernel
theorem dL_isTold_127 : decode cL_isTold 127 = .ok (.istore 10, 2) := by decide +kernel
theorem dL_isTold_129 : decode cL_isTold 129 = .ok (.aload_n 0, 1) := by decide +kernel
theorem dL_isTold_130 : decode cL_isTold 130 = .ok (.iload 9, 2) := by decide +kernel
theorem dL_isTold_132 : decode cL_isTold 132 = .ok (.iload 10, 2) := by decide +kernel
theorem dL_isTold_134 : decode cL_isTold 134 = .ok (.invokestatic 220, 3) := by decide +kernel
theorem dL_isTold_137 : decode cL_isTold 137 = .ok (.aload_n 2, 1) := by decide +kernel
theorem dL_isTold_138 : decode cL_isTold 138 = .ok (.aload 5, 2) := by decide +kernel
theorem dL_isTold_140 : decode cL_isTold 140 = .ok (.aload 6, 2) := by decide +kernel
theorem dL_isTold_142 : decode cL_isTold 142 = .ok (.aload 8, 2) := by decide +kernel
theorem dL_isTold_144 : decode cL_isTold 144 = .ok (.iload 9, 2) := by decide +kernel
theorem dL_isTold_146 : decode cL_isTold 146 = .ok (.iload 10, 2) := by decide +kernel
theorem dL_isTold_148 : decode cL_isTold 148 = .ok (.invokestatic 124, 3) := by decide +kernel
theorem dL_isTold_151 : decode cL_isTold 151 = .ok (.if_icmp .ne 32, 3) := by decide +kernel
theorem dL_isTold_154 : decode cL_isTold 154 = .ok (.aload_n 0, 1) := by decide +kernel
theorem dL_isTold_155 : decode cL_isTold 155 = .ok (.iload 9, 2) := by decide +kernel
theorem dL_isTold_157 : decode cL_isTold 157 = .ok (.invokestatic 222, 3) := by decide +kernel
theorem dL_isTold_160 : decode cL_isTold 160 = .ok (.aload_n 2, 1) := by decide +kernel
theorem dL_isTold_161 : decode cL_isTold 161 = .ok (.aload 5, 2) := by decide +kernel
theorem dL_isTold_163 : decode cL_isTold 163 = .ok (.aload 6, 2) := by decide +kernel
theorem dL_isTold_165 : decode cL_isTold 165 = .ok (.aload 8, 2) := by decide +kernel
theorem dL_isTold_167 : decode cL_isTold 167 = .ok (.iload 9, 2) := by decide +kernel
theorem dL_isTold_169 : decode cL_isTold 169 = .ok (.invokestatic 131, 3) := by decide +kernel
theorem dL_isTold_172 : decode cL_isTold 172 = .ok (.ifCond .eq 7, 3) := by decide +kernel
theorem dL_isTold_175 : decode cL_isTold 175 = .ok (.iconst 1, 1) := by decide +kernel
theorem dL_isTold_176 : decode cL_isTold 176 = .ok (.goto 4, 3) := by decide +kernel
theorem dL_isTold_179 : decode cL_isTold 179 = .ok (.iconst 0, 1) := by decide +kernel
theorem dL_isTold_180 : decode cL_isTold 180 = .ok (.if_icmp .eq 5, 3) := by decide +kernel
theorem dL_isTold_183 : decode cL_isTold 183 = .ok (.iconst 0, 1) := by decide +kernel
theorem dL_isTold_184 : decode cL_isTold 184 = .ok (.ireturn, 1) := by decide +kernel
theorem dL_isTold_185 : decode cL_isTold 185 = .ok (.iconst 0, 1) := by decide +kernel
theorem dL_isTold_186 : decode cL_isTold 186 = .ok (.istore 11, 2) := by decide +kernel
theorem dL_isTold_188 : decode cL_isTold 188 = .ok (.iload 11, 2) := by decide +kernel
theorem dL_isTold_190 : decode cL_isTold 190 = .ok (.iconst 3, 1) := by decide +kernel
theorem dL_isTold_191 : decode cL_isTold 191 = .ok (.if_icmp .ge 24, 3) := by decide +kernel
theorem dL_isTold_194 : decode cL_isTold 194 = .ok (.aload_n 0, 1) := by decide +kernel
theorem dL_isTold_195 : decode cL_isTold 195 = .ok (.iload 11, 2) := by decide +kernel
theorem dL_isTold_197 : decode cL_isTold 197 = .ok (.invokestatic 224, 3) := by decide +kernel
theorem dL_isTold_200 : decode cL_isTold 200 = .ok (.aload_n 3, 1) := by decide +kernel
theorem dL_isTold_201 : decode cL_isTold 201 = .ok (.iload 11, 2) := by decide +kernel
theorem dL_isTold_203 : decode cL_isTold 203 = .ok (.iaload, 1) := by decide +kernel
theorem dL_isTold_204 : decode cL_isTold 204 = .ok (.if_icmp .eq 5, 3) := by decide +kernel
theorem dL_isTold_207 : decode cL_isTold 207 = .ok (.iconst 0, 1) := by decide +kernel
theorem dL_isTold_208 : decode cL_isTold 208 = .ok (.ireturn, 1) := by decide +kernel
theorem dL_isTold_209 : decode cL_isTold 209 = .ok (.iinc 11 1, 3) := by decide +kernel
theorem dL_isTold_212 : decode cL_isTold 212 = .ok (.goto (-24), 3) := by decide +kernel
theorem dL_isTold_215 : decode cL_isTold 215 = .ok (.iconst 0, 1) := by decide +kernel
theorem dL_isTold_216 : decode cL_isTold 216 = .ok (.istore 11, 2) := by decide +kernel
theorem dL_isTold_218 : decode cL_isTold 218 = .ok (.iload 11, 2) := by decide +kernel
theorem dL_isTold_220 : decode cL_isTold 220 = .ok (.aload 8, 2) := by decide +kernel
theorem dL_isTold_222 : decode cL_isTold 222 = .ok (.iconst 4, 1) := by decide +kernel
theorem dL_isTold_223 : decode cL_isTold 223 = .ok (.iaload, 1) := by decide +kernel
theorem dL_isTold_224 : decode cL_isTold 224 = .ok (.if_icmp .ge 28, 3) := by decide +kernel
theorem dL_isTold_227 : decode cL_isTold 227 = .ok (.aload_n 0, 1) := by decide +kernel
theorem dL_isTold_228 : decode cL_isTold 228 = .ok (.iload 11, 2) := by decide +kernel
theorem dL_isTold_230 : decode cL_isTold 230 = .ok (.invokestatic 163, 3) := by decide +kernel
theorem dL_isTold_233 : decode cL_isTold 233 = .ok (.aload 4, 2) := by decide +kernel
theorem dL_isTold_235 : decode cL_isTold 235 = .ok (.iload 11, 2) := by decide +kernel
theorem dL_isTold_237 : decode cL_isTold 237 = .ok (.iaload, 1) := by decide +kernel
theorem dL_isTold_238 : decode cL_isTold 238 = .ok (.bipush 18, 2) := by decide +kernel
theorem dL_isTold_240 : decode cL_isTold 240 = .ok (.ishr, 1) := by decide +kernel
theorem dL_isTold_241 : decode cL_isTold 241 = .ok (.if_icmp .eq 5, 3) := by decide +kernel
theorem dL_isTold_244 : decode cL_isTold 244 = .ok (.iconst 0, 1) := by decide +kernel
theorem dL_isTold_245 : decode cL_isTold 245 = .ok (.ireturn, 1) := by decide +kernel
theorem dL_isTold_246 : decode cL_isTold 246 = .ok (.iinc 11 1, 3) := by decide +kernel
theorem dL_isTold_249 : decode cL_isTold 249 = .ok (.goto (-31), 3) := by decide +kernel
theorem dL_isTold_252 : decode cL_isTold 252 = .ok (.iconst 0, 1) := by decide +kernel
theorem dL_isTold_253 : decode cL_isTold 253 = .ok (.istore 11, 2) := by decide +kernel
theorem dL_isTold_255 : decode cL_isTold 255 = .ok (.iload 11, 2) := by decide +kernel
theorem dL_isTold_257 : decode cL_isTold 257 = .ok (.aload 8, 2) := by decide +kernel
theorem dL_isTold_259 : decode cL_isTold 259 = .ok (.iconst 5, 1) := by decide +kernel
theorem dL_isTold_260 : decode cL_isTold 260 = .ok (.iaload, 1) := by decide +kernel
theorem dL_isTold_261 : decode cL_isTold 261 = .ok (.if_icmp .ge 78, 3) := by decide +kernel
theorem dL_isTold_264 : decode cL_isTold 264 = .ok (.aload_n 0, 1) := by decide +kernel
theorem dL_isTold_265 : decode cL_isTold 265 = .ok (.iload 11, 2) := by decide +kernel
theorem dL_isTold_267 : decode cL_isTold 267 = .ok (.invokestatic 226, 3) := by decide +kernel
theorem dL_isTold_270 : decode cL_isTold 270 = .ok (.istore 12, 2) := by decide +kernel
theorem dL_isTold_272 : decode cL_isTold 272 = .ok (.aload_n 2, 1) := by decide +kernel
theorem dL_isTold_273 : decode cL_isTold 273 = .ok (.aload 8, 2) := by decide +kernel
theorem dL_isTold_275 : decode cL_isTold 275 = .ok (.iload 11, 2) := by decide +kernel
theorem dL_isTold_277 : decode cL_isTold 277 = .ok (.invokestatic 120, 3) := by decide +kernel
theorem dL_isTold_280 : decode cL_isTold 280 = .ok (.ifCond .lt 7, 3) := by decide +kernel
theorem dL_isTold_283 : decode cL_isTold 283 = .ok (.iconst 1, 1) := by decide +kernel
theorem dL_isTold_284 : decode cL_isTold 284 = .ok (.goto 4, 3) := by decide +kernel
theorem dL_isTold_287 : decode cL_isTold 287 = .ok (.iconst 0, 1) := by decide +kernel
theorem dL_isTold_288 : decode cL_isTold 288 = .ok (.istore 13, 2) := by decide +kernel
theorem dL_isTold_290 : decode cL_isTold 290 = .ok (.aload_n 0, 1) := by decide +kernel
theorem dL_isTold_291 : decode cL_isTold 291 = .ok (.iload 11, 2) := by decide +kernel
theorem dL_isTold_293 : decode cL_isTold 293 = .ok (.invokestatic 157, 3) := by decide +kernel
theorem dL_isTold_296 : decode cL_isTold 296 = .ok (.iload 13, 2) := by decide +kernel
theorem dL_isTold_298 : decode cL_isTold 298 = .ok (.ifCond .eq 11, 3) := by decide +kernel
theorem dL_isTold_301 : decode cL_isTold 301 = .ok (.aload 5, 2) := by decide +kernel
theorem dL_isTold_303 : decode cL_isTold 303 = .ok (.iload 11, 2) := by decide +kernel
theorem dL_isTold_305 : decode cL_isTold 305 = .ok (.iaload, 1) := by decide +kernel
theorem dL_isTold_306 : decode cL_isTold 306 = .ok (.goto 4, 3) := by decide +kernel
theorem dL_isTold_309 : decode cL_isTold 309 = .ok (.iconst (-1), 1) := by decide +kernel
theorem dL_isTold_310 : decode cL_isTold 310 = .ok (.if_icmp .ne 21, 3) := by decide +kernel
theorem dL_isTold_313 : decode cL_isTold 313 = .ok (.iload 13, 2) := by decide +kernel
theorem dL_isTold_315 : decode cL_isTold 315 = .ok (.ifCond .eq 18, 3) := by decide +kernel
theorem dL_isTold_318 : decode cL_isTold 318 = .ok (.iload 12, 2) := by decide +kernel
theorem dL_isTold_320 : decode cL_isTold 320 = .ok (.aload_n 2, 1) := by decide +kernel
theorem dL_isTold_321 : decode cL_isTold 321 = .ok (.aload 8, 2) := by decide +kernel
theorem dL_isTold_323 : decode cL_isTold 323 = .ok (.iload 11, 2) := by decide +kernel
theorem dL_isTold_325 : decode cL_isTold 325 = .ok (.invokestatic 120, 3) := by decide +kernel
theorem dL_isTold_328 : decode cL_isTold 328 = .ok (.if_icmp .eq 5, 3) := by decide +kernel
theorem dL_isTold_331 : decode cL_isTold 331 = .ok (.iconst 0, 1) := by decide +kernel
theorem dL_isTold_332 : decode cL_isTold 332 = .ok (.ireturn, 1) := by decide +kernel
theorem dL_isTold_333 : decode cL_isTold 333 = .ok (.iinc 11 1, 3) := by decide +kernel
theorem dL_isTold_336 : decode cL_isTold 336 = .ok (.goto (-81), 3) := by decide +kernel
theorem dL_isTold_339 : decode cL_isTold 339 = .ok (.iconst 0, 1) := by decide +kernel
theorem dL_isTold_340 : decode cL_isTold 340 = .ok (.istore 11, 2) := by decide +kernel
theorem dL_isTold_342 : decode cL_isTold 342 = .ok (.iload 11, 2) := by decide +kernel
theorem dL_isTold_344 : decode cL_isTold 344 = .ok (.aload 8, 2) := by decide +kernel
theorem dL_isTold_346 : decode cL_isTold 346 = .ok (.bipush 7, 2) := by decide +kernel
theorem dL_isTold_348 : decode cL_isTold 348 = .ok (.iaload, 1) := by decide +kernel
theorem dL_isTold_349 : decode cL_isTold 349 = .ok (.if_icmp .ge 28, 3) := by decide +kernel
theorem dL_isTold_352 : decode cL_isTold 352 = .ok (.aload_n 0, 1) := by decide +kernel
theorem dL_isTold_353 : decode cL_isTold 353 = .ok (.iload 11, 2) := by decide +kernel
theorem dL_isTold_355 : decode cL_isTold 355 = .ok (.invokestatic 206, 3) := by decide +kernel
theorem dL_isTold_358 : decode cL_isTold 358 = .ok (.aload_n 2, 1) := by decide +kernel
theorem dL_isTold_359 : decode cL_isTold 359 = .ok (.aload 8, 2) := by decide +kernel
theorem dL_isTold_361 : decode cL_isTold 361 = .ok (.iload 11, 2) := by decide +kernel
theorem dL_isTold_363 : decode cL_isTold 363 = .ok (.invokestatic 208, 3) := by decide +kernel
theorem dL_isTold_366 : decode cL_isTold 366 = .ok (.if_icmp .eq 5, 3) := by decide +kernel
theorem dL_isTold_369 : decode cL_isTold 369 = .ok (.iconst 0, 1) := by decide +kernel
theorem dL_isTold_370 : decode cL_isTold 370 = .ok (.ireturn, 1) := by decide +kernel
theorem dL_isTold_371 : decode cL_isTold 371 = .ok (.iinc 11 1, 3) := by decide +kernel
theorem dL_isTold_374 : decode cL_isTold 374 = .ok (.goto (-32), 3) := by decide +kernel
theorem dL_isTold_377 : decode cL_isTold 377 = .ok (.aload 8, 2) := by decide +kernel
theorem dL_isTold_379 : decode cL_isTold 379 = .ok (.bipush 6, 2) := by decide +kernel
theorem dL_isTold_381 : decode cL_isTold 381 = .ok (.iaload, 1) := by decide +kernel
theorem dL_isTold_382 : decode cL_isTold 382 = .ok (.ifCond .le 151, 3) := by decide +kernel
theorem dL_isTold_385 : decode cL_isTold 385 = .ok (.iload_n 1, 1) := by decide +kernel
theorem dL_isTold_386 : decode cL_isTold 386 = .ok (.aload 8, 2) := by decide +kernel
theorem dL_isTold_388 : decode cL_isTold 388 = .ok (.bipush 6, 2) := by decide +kernel
theorem dL_isTold_390 : decode cL_isTold 390 = .ok (.iaload, 1) := by decide +kernel
theorem dL_isTold_391 : decode cL_isTold 391 = .ok (.invokestatic 128, 3) := by decide +kernel
theorem dL_isTold_394 : decode cL_isTold 394 = .ok (.istore 11, 2) := by decide +kernel
theorem dL_isTold_396 : decode cL_isTold 396 = .ok (.iconst 0, 1) := by decide +kernel
theorem dL_isTold_397 : decode cL_isTold 397 = .ok (.istore 12, 2) := by decide +kernel
theorem dL_isTold_399 : decode cL_isTold 399 = .ok (.aload 7, 2) := by decide +kernel
theorem dL_isTold_401 : decode cL_isTold 401 = .ok (.iload 11, 2) := by decide +kernel
theorem dL_isTold_403 : decode cL_isTold 403 = .ok (.iaload, 1) := by decide +kernel
theorem dL_isTold_404 : decode cL_isTold 404 = .ok (.iload 12, 2) := by decide +kernel
theorem dL_isTold_406 : decode cL_isTold 406 = .ok (.invokestatic 228, 3) := by decide +kernel
theorem dL_isTold_409 : decode cL_isTold 409 = .ok (.ifCond .lt 9, 3) := by decide +kernel
theorem dL_isTold_412 : decode cL_isTold 412 = .ok (.iinc 12 1, 3) := by decide +kernel
theorem dL_isTold_415 : decode cL_isTold 415 = .ok (.goto (-16), 3) := by decide +kernel
theorem dL_isTold_418 : decode cL_isTold 418 = .ok (.aload_n 0, 1) := by decide +kernel
theorem dL_isTold_419 : decode cL_isTold 419 = .ok (.iload 11, 2) := by decide +kernel
theorem dL_isTold_421 : decode cL_isTold 421 = .ok (.invokestatic 202, 3) := by decide +kernel
theorem dL_isTold_424 : decode cL_isTold 424 = .ok (.iload 12, 2) := by decide +kernel
theorem dL_isTold_426 : decode cL_isTold 426 = .ok (.if_icmp .ne 40, 3) := by decide +kernel
theorem dL_isTold_429 : decode cL_isTold 429 = .ok (.aload_n 0, 1) := by decide +kernel
theorem dL_isTold_430 : decode cL_isTold 430 = .ok (.iload 11, 2) := by decide +kernel
theorem dL_isTold_432 : decode cL_isTold 432 = .ok (.iload 12, 2) := by decide +kernel
theorem dL_isTold_434 : decode cL_isTold 434 = .ok (.invokestatic 231, 3) := by decide +kernel
theorem dL_isTold_437 : decode cL_isTold 437 = .ok (.iconst (-1), 1) := by decide +kernel
theorem dL_isTold_438 : decode cL_isTold 438 = .ok (.if_icmp .ne 28, 3) := by decide +kernel
theorem dL_isTold_441 : decode cL_isTold 441 = .ok (.aload_n 0, 1) := by decide +kernel
theorem dL_isTold_442 : decode cL_isTold 442 = .ok (.iload 11, 2) := by decide +kernel
theorem dL_isTold_444 : decode cL_isTold 444 = .ok (.iload 12, 2) := by decide +kernel
theorem dL_isTold_446 : decode cL_isTold 446 = .ok (.invokestatic 233, 3) := by decide +kernel
theorem dL_isTold_449 : decode cL_isTold 449 = .ok (.iconst (-1), 1) := by decide +kernel
theorem dL_isTold_450 : decode cL_isTold 450 = .ok (.if_icmp .ne 16, 3) := by decide +kernel
theorem dL_isTold_453 : decode cL_isTold 453 = .ok (.aload_n 0, 1) := by decide +kernel
theorem dL_isTold_454 : decode cL_isTold 454 = .ok (.iload 11, 2) := by decide +kernel
theorem dL_isTold_456 : decode cL_isTold 456 = .ok (.iconst (-1), 1) := by decide +kernel
theorem dL_isTold_457 : decode cL_isTold 457 = .ok (.invokestatic 233, 3) := by decide +kernel
theorem dL_isTold_460 : decode cL_isTold 460 = .ok (.sipush (-7100), 3) := by decide +kernel
theorem dL_isTold_463 : decode cL_isTold 463 = .ok (.if_icmp .eq 5, 3) := by decide +kernel
theorem dL_isTold_466 : decode cL_isTold 466 = .ok (.iconst 0, 1) := by decide +kernel
theorem dL_isTold_467 : decode cL_isTold 467 = .ok (.ireturn, 1) := by decide +kernel
theorem dL_isTold_468 : decode cL_isTold 468 = .ok (.iconst 0, 1) := by decide +kernel
theorem dL_isTold_469 : decode cL_isTold 469 = .ok (.istore 13, 2) := by decide +kernel
theorem dL_isTold_471 : decode cL_isTold 471 = .ok (.iload 13, 2) := by decide +kernel
theorem dL_isTold_473 : decode cL_isTold 473 = .ok (.iload 12, 2) := by decide +kernel
theorem dL_isTold_475 : decode cL_isTold 475 = .ok (.if_icmp .ge 58, 3) := by decide +kernel
theorem dL_isTold_478 : decode cL_isTold 478 = .ok (.aload_n 0, 1) := by decide +kernel
theorem dL_isTold_479 : decode cL_isTold 479 = .ok (.iload 11, 2) := by decide +kernel
theorem dL_isTold_481 : decode cL_isTold 481 = .ok (.iload 13, 2) := by decide +kernel
theorem dL_isTold_483 : decode cL_isTold 483 = .ok (.invokestatic 231, 3) := by decide +kernel
theorem dL_isTold_486 : decode cL_isTold 486 = .ok (.aload 7, 2) := by decide +kernel
theorem dL_isTold_488 : decode cL_isTold 488 = .ok (.iload 11, 2) := by decide +kernel
theorem dL_isTold_490 : decode cL_isTold 490 = .ok (.iaload, 1) := by decide +kernel
theorem dL_isTold_491 : decode cL_isTold 491 = .ok (.iload 13, 2) := by decide +kernel
theorem dL_isTold_493 : decode cL_isTold 493 = .ok (.invokestatic 228, 3) := by decide +kernel
theorem dL_isTold_496 : decode cL_isTold 496 = .ok (.if_icmp .ne 29, 3) := by decide +kernel
theorem dL_isTold_499 : decode cL_isTold 499 = .ok (.aload_n 0, 1) := by decide +kernel
theorem dL_isTold_500 : decode cL_isTold 500 = .ok (.iload 11, 2) := by decide +kernel
theorem dL_isTold_502 : decode cL_isTold 502 = .ok (.iload 12, 2) := by decide +kernel
theorem dL_isTold_504 : decode cL_isTold 504 = .ok (.iconst 1, 1) := by decide +kernel
theorem dL_isTold_505 : decode cL_isTold 505 = .ok (.isub, 1) := by decide +kernel
theorem dL_isTold_506 : decode cL_isTold 506 = .ok (.iload 13, 2) := by decide +kernel
theorem dL_isTold_508 : decode cL_isTold 508 = .ok (.isub, 1) := by decide +kernel
theorem dL_isTold_509 : decode cL_isTold 509 = .ok (.invokestatic 233, 3) := by decide +kernel
theorem dL_isTold_512 : decode cL_isTold 512 = .ok (.aload 7, 2) := by decide +kernel
theorem dL_isTold_514 : decode cL_isTold 514 = .ok (.iload 11, 2) := by decide +kernel
theorem dL_isTold_516 : decode cL_isTold 516 = .ok (.iaload, 1) := by decide +kernel
theorem dL_isTold_517 : decode cL_isTold 517 = .ok (.iload 13, 2) := by decide +kernel
theorem dL_isTold_519 : decode cL_isTold 519 = .ok (.invokestatic 228, 3) := by decide +kernel
theorem dL_isTold_522 : decode cL_isTold 522 = .ok (.if_icmp .eq 5, 3) := by decide +kernel
theorem dL_isTold_525 : decode cL_isTold 525 = .ok (.iconst 0, 1) := by decide +kernel
theorem dL_isTold_526 : decode cL_isTold 526 = .ok (.ireturn, 1) := by decide +kernel
theorem dL_isTold_527 : decode cL_isTold 527 = .ok (.iinc 13 1, 3) := by decide +kernel
theorem dL_isTold_530 : decode cL_isTold 530 = .ok (.goto (-59), 3) := by decide +kernel
theorem dL_isTold_533 : decode cL_isTold 533 = .ok (.aload_n 0, 1) := by decide +kernel
theorem dL_isTold_534 : decode cL_isTold 534 = .ok (.invokevirtual 235, 3) := by decide +kernel
theorem dL_isTold_537 : decode cL_isTold 537 = .ok (.aload 8, 2) := by decide +kernel
theorem dL_isTold_539 : decode cL_isTold 539 = .ok (.iconst 0, 1) := by decide +kernel
theorem dL_isTold_540 : decode cL_isTold 540 = .ok (.iaload, 1) := by decide +kernel
theorem dL_isTold_541 : decode cL_isTold 541 = .ok (.if_icmp .ne 217, 3) := by decide +kernel
theorem dL_isTold_544 : decode cL_isTold 544 = .ok (.aload_n 0, 1) := by decide +kernel
theorem dL_isTold_545 : decode cL_isTold 545 = .ok (.invokevirtual 238, 3) := by decide +kernel
theorem dL_isTold_548 : decode cL_isTold 548 = .ok (.aload 8, 2) := by decide +kernel
theorem dL_isTold_550 : decode cL_isTold 550 = .ok (.iconst 1, 1) := by decide +kernel
theorem dL_isTold_551 : decode cL_isTold 551 = .ok (.iaload, 1) := by decide +kernel
theorem dL_isTold_552 : decode cL_isTold 552 = .ok (.if_icmp .ne 206, 3) := by decide +kernel
theorem dL_isTold_555 : decode cL_isTold 555 = .ok (.aload_n 0, 1) := by decide +kernel
theorem dL_isTold_556 : decode cL_isTold 556 = .ok (.invokevirtual 241, 3) := by decide +kernel
theorem dL_isTold_559 : decode cL_isTold 559 = .ok (.aload 8, 2) := by decide +kernel
theorem dL_isTold_561 : decode cL_isTold 561 = .ok (.iconst 3, 1) := by decide +kernel
theorem dL_isTold_562 : decode cL_isTold 562 = .ok (.iaload, 1) := by decide +kernel
theorem dL_isTold_563 : decode cL_isTold 563 = .ok (.if_icmp .ne 195, 3) := by decide +kernel
theorem dL_isTold_566 : decode cL_isTold 566 = .ok (.aload_n 0, 1) := by decide +kernel
theorem dL_isTold_567 : decode cL_isTold 567 = .ok (.invokevirtual 244, 3) := by decide +kernel
theorem dL_isTold_570 : decode cL_isTold 570 = .ok (.aload 8, 2) := by decide +kernel
theorem dL_isTold_572 : decode cL_isTold 572 = .ok (.bipush 6, 2) := by decide +kernel
theorem dL_isTold_574 : decode cL_isTold 574 = .ok (.iaload, 1) := by decide +kernel
theorem dL_isTold_575 : decode cL_isTold 575 = .ok (.if_icmp .ne 183, 3) := by decide +kernel
theorem dL_isTold_578 : decode cL_isTold 578 = .ok (.aload_n 0, 1) := by decide +kernel
theorem dL_isTold_579 : decode cL_isTold 579 = .ok (.invokevirtual 247, 3) := by decide +kernel
theorem dL_isTold_582 : decode cL_isTold 582 = .ok (.aload 8, 2) := by decide +kernel
theorem dL_isTold_584 : decode cL_isTold 584 = .ok (.invokestatic 198, 3) := by decide +kernel
theorem dL_isTold_587 : decode cL_isTold 587 = .ok (.if_icmp .ne 171, 3) := by decide +kernel
theorem dL_isTold_590 : decode cL_isTold 590 = .ok (.aload_n 0, 1) := by decide +kernel
theorem dL_isTold_591 : decode cL_isTold 591 = .ok (.aload 8, 2) := by decide +kernel
theorem dL_isTold_593 : decode cL_isTold 593 = .ok (.iconst 1, 1) := by decide +kernel
theorem dL_isTold_594 : decode cL_isTold 594 = .ok (.iaload, 1) := by decide +kernel
theorem dL_isTold_595 : decode cL_isTold 595 = .ok (.invokestatic 212, 3) := by decide +kernel
theorem dL_isTold_598 : decode cL_isTold 598 = .ok (.sipush (-7100), 3) := by decide +kernel
theorem dL_isTold_601 : decode cL_isTold 601 = .ok (.if_icmp .ne 157, 3) := by decide +kernel
theorem dL_isTold_604 : decode cL_isTold 604 = .ok (.aload_n 0, 1) := by decide +kernel
theorem dL_isTold_605 : decode cL_isTold 605 = .ok (.iconst (-1), 1) := by decide +kernel
theorem dL_isTold_606 : decode cL_isTold 606 = .ok (.invokestatic 212, 3) := by decide +kernel
theorem dL_isTold_609 : decode cL_isTold 609 = .ok (.sipush (-7100), 3) := by decide +kernel
theorem dL_isTold_612 : decode cL_isTold 612 = .ok (.if_icmp .ne 146, 3) := by decide +kernel
theorem dL_isTold_615 : decode cL_isTold 615 = .ok (.aload_n 0, 1) := by decide +kernel
theorem dL_isTold_616 : decode cL_isTold 616 = .ok (.bipush 9, 2) := by decide +kernel
theorem dL_isTold_618 : decode cL_isTold 618 = .ok (.iconst 0, 1) := by decide +kernel
theorem dL_isTold_619 : decode cL_isTold 619 = .ok (.invokestatic 220, 3) := by decide +kernel
theorem dL_isTold_622 : decode cL_isTold 622 = .ok (.sipush (-7100), 3) := by decide +kernel
theorem dL_isTold_625 : decode cL_isTold 625 = .ok (.if_icmp .ne 133, 3) := by decide +kernel
theorem dL_isTold_628 : decode cL_isTold 628 = .ok (.aload_n 0, 1) := by decide +kernel
theorem dL_isTold_629 : decode cL_isTold 629 = .ok (.iconst 0, 1) := by decide +kernel
theorem dL_isTold_630 : decode cL_isTold 630 = .ok (.bipush 8, 2) := by decide +kernel
theorem dL_isTold_632 : decode cL_isTold 632 = .ok (.invokestatic 220, 3) := by decide +kernel
theorem dL_isTold_635 : decode cL_isTold 635 = .ok (.sipush (-7100), 3) := by decide +kernel
theorem dL_isTold_638 : decode cL_isTold 638 = .ok (.if_icmp .ne 120, 3) := by decide +kernel
theorem dL_isTold_641 : decode cL_isTold 641 = .ok (.aload_n 0, 1) := by decide +kernel
theorem dL_isTold_642 : decode cL_isTold 642 = .ok (.iconst (-1), 1) := by decide +kernel
theorem dL_isTold_643 : decode cL_isTold 643 = .ok (.invokestatic 222, 3) := by decide +kernel
theorem dL_isTold_646 : decode cL_isTold 646 = .ok (.sipush (-7100), 3) := by decide +kernel
theorem dL_isTold_649 : decode cL_isTold 649 = .ok (.if_icmp .ne 109, 3) := by decide +kernel
theorem dL_isTold_652 : decode cL_isTold 652 = .ok (.aload_n 0, 1) := by decide +kernel
theorem dL_isTold_653 : decode cL_isTold 653 = .ok (.bipush 8, 2) := by decide +kernel
theorem dL_isTold_655 : decode cL_isTold 655 = .ok (.invokestatic 214, 3) := by decide +kernel
theorem dL_isTold_658 : decode cL_isTold 658 = .ok (.sipush (-7100), 3) := by decide +kernel
theorem dL_isTold_661 : decode cL_isTold 661 = .ok (.if_icmp .ne 97, 3) := by decide +kernel
theorem dL_isTold_664 : decode cL_isTold 664 = .ok (.aload_n 0, 1) := by decide +kernel
theorem dL_isTold_665 : decode cL_isTold 665 = .ok (.iconst (-1), 1) := by decide +kernel
theorem dL_isTold_666 : decode cL_isTold 666 = .ok (.invokestatic 216, 3) := by decide +kernel
theorem dL_isTold_669 : decode cL_isTold 669 = .ok (.sipush (-7100), 3) := by decide +kernel
theorem dL_isTold_672 : decode cL_isTold 672 = .ok (.if_icmp .ne 86, 3) := by decide +kernel
theorem dL_isTold_675 : decode cL_isTold 675 = .ok (.aload_n 0, 1) := by decide +kernel
theorem dL_isTold_676 : decode cL_isTold 676 = .ok (.iconst 3, 1) := by decide +kernel
theorem dL_isTold_677 : decode cL_isTold 677 = .ok (.invokestatic 224, 3) := by decide +kernel
theorem dL_isTold_680 : decode cL_isTold 680 = .ok (.sipush (-7100), 3) := by decide +kernel
theorem dL_isTold_683 : decode cL_isTold 683 = .ok (.if_icmp .ne 75, 3) := by decide +kernel
theorem dL_isTold_686 : decode cL_isTold 686 = .ok (.aload_n 0, 1) := by decide +kernel
theorem dL_isTold_687 : decode cL_isTold 687 = .ok (.bipush 8, 2) := by decide +kernel
theorem dL_isTold_689 : decode cL_isTold 689 = .ok (.invokestatic 218, 3) := by decide +kernel
theorem dL_isTold_692 : decode cL_isTold 692 = .ok (.sipush (-7100), 3) := by decide +kernel
theorem dL_isTold_695 : decode cL_isTold 695 = .ok (.if_icmp .ne 63, 3) := by decide +kernel
theorem dL_isTold_698 : decode cL_isTold 698 = .ok (.aload_n 0, 1) := by decide +kernel
theorem dL_isTold_699 : decode cL_isTold 699 = .ok (.aload 8, 2) := by decide +kernel
theorem dL_isTold_701 : decode cL_isTold 701 = .ok (.iconst 5, 1) := by decide +kernel
theorem dL_isTold_702 : decode cL_isTold 702 = .ok (.iaload, 1) := by decide +kernel
theorem dL_isTold_703 : decode cL_isTold 703 = .ok (.invokestatic 226, 3) := by decide +kernel
theorem dL_isTold_706 : decode cL_isTold 706 = .ok (.sipush (-7100), 3) := by decide +kernel
theorem dL_isTold_709 : decode cL_isTold 709 = .ok (.if_icmp .ne 49, 3) := by decide +kernel
theorem dL_isTold_712 : decode cL_isTold 712 = .ok (.aload_n 0, 1) := by decide +kernel
theorem dL_isTold_713 : decode cL_isTold 713 = .ok (.iconst (-1), 1) := by decide +kernel
theorem dL_isTold_714 : decode cL_isTold 714 = .ok (.invokestatic 163, 3) := by decide +kernel
theorem dL_isTold_717 : decode cL_isTold 717 = .ok (.sipush (-7100), 3) := by decide +kernel
theorem dL_isTold_720 : decode cL_isTold 720 = .ok (.if_icmp .ne 38, 3) := by decide +kernel
theorem dL_isTold_723 : decode cL_isTold 723 = .ok (.aload_n 0, 1) := by decide +kernel
theorem dL_isTold_724 : decode cL_isTold 724 = .ok (.aload 8, 2) := by decide +kernel
theorem dL_isTold_726 : decode cL_isTold 726 = .ok (.bipush 7, 2) := by decide +kernel
theorem dL_isTold_728 : decode cL_isTold 728 = .ok (.iaload, 1) := by decide +kernel
theorem dL_isTold_729 : decode cL_isTold 729 = .ok (.invokestatic 206, 3) := by decide +kernel
theorem dL_isTold_732 : decode cL_isTold 732 = .ok (.sipush (-7100), 3) := by decide +kernel
theorem dL_isTold_735 : decode cL_isTold 735 = .ok (.if_icmp .ne 23, 3) := by decide +kernel
theorem dL_isTold_738 : decode cL_isTold 738 = .ok (.aload_n 0, 1) := by decide +kernel
theorem dL_isTold_739 : decode cL_isTold 739 = .ok (.aload 8, 2) := by decide +kernel
theorem dL_isTold_741 : decode cL_isTold 741 = .ok (.bipush 6, 2) := by decide +kernel
theorem dL_isTold_743 : decode cL_isTold 743 = .ok (.iaload, 1) := by decide +kernel
theorem dL_isTold_744 : decode cL_isTold 744 = .ok (.iconst 0, 1) := by decide +kernel
theorem dL_isTold_745 : decode cL_isTold 745 = .ok (.invokestatic 231, 3) := by decide +kernel
theorem dL_isTold_748 : decode cL_isTold 748 = .ok (.sipush (-7100), 3) := by decide +kernel
theorem dL_isTold_751 : decode cL_isTold 751 = .ok (.if_icmp .ne 7, 3) := by decide +kernel
theorem dL_isTold_754 : decode cL_isTold 754 = .ok (.iconst 1, 1) := by decide +kernel
theorem dL_isTold_755 : decode cL_isTold 755 = .ok (.goto 4, 3) := by decide +kernel
theorem dL_isTold_758 : decode cL_isTold 758 = .ok (.iconst 0, 1) := by decide +kernel
theorem dL_isTold_759 : decode cL_isTold 759 = .ok (.ireturn, 1) := by decide +kernel
set_option maxRecDepth 20000 in
theorem ggL_law_X6_init : GoodIn wsL_law wsX6_init := goodIn_r _ [7, 8, 9, 10, 11, 12, 4, 13, 14, 15, 16, 17, 18, 19, 20, 21, 22, 23, 24, 25, 26, 27, 28, 29, 30, 31, 32, 33, 34, 35, 36, 37, 38, 39, 40, 41, 42, 43, 44, 45, 46, 47, 48, 49, 50, 51, 52, 53, 54, 55, 56, 57, 58, 59, 60, 61, 62, 63, 64, 65, 66, 67, 68, 69, 70, 71, 72, 73, 624, 625, 626, 627, 628, 629, 630, 631, 632, 633, 634, 635, 636, 637, 638, 639, 640, 641, 642, 643, 644, 645, 646, 647] (by decide +kernel) (by decide +kernel)
set_option maxRecDepth 20000 in
theorem gL_law_X6_init : GoodIn wsL_law (wsX6_init) := ggL_law_X6_init
theorem gk_one {big : List Cond} {c : Cond} (h : c ∈ big) (hg : goodWord c = true) : GoodIn big [c] := fun w hw => by
  obtain rfl := List.mem_singleton.mp hw
  exact ⟨h, good_of_word hg⟩
theorem gk_cons {big a : List Cond} {c : Cond} (hc : GoodIn big [c]) (ha : GoodIn big a) : GoodIn big (c :: a) := fun w h => (List.mem_cons.mp h).elim (fun e => hc w (List.mem_cons.mpr (Or.inl e))) (ha w)
set_option maxRecDepth 20000 in
theorem gk0_isTold : GoodIn wsL_law [.code yL_isTold cL_isTold 14 (some .boolean)] := gk_one (List.mem_of_getElem? (i := 77) rfl) rfl
set_option maxRecDepth 20000 in
theorem gk_isTold_wsL_isTold_r1 : GoodIn wsL_law wsL_isTold_r1 := goodIn_r _ [78, 79, 76, 80, 81, 82, 83, 84, 2, 85, 86, 87, 27, 88, 26, 89, 90, 57, 91, 92, 93, 56, 94, 95] (by decide +kernel) (by decide +kernel)
set_option maxRecDepth 20000 in
theorem gk_isTold_wsL_isTold_r2 : GoodIn wsL_law wsL_isTold_r2 := goodIn_r _ [96, 97, 98, 99, 100, 101, 102, 103, 104, 105, 106, 107, 108, 109, 110, 12, 111, 112, 113, 114, 115, 116, 117, 118] (by decide +kernel) (by decide +kernel)
set_option maxRecDepth 20000 in
theorem gk_isTold_wsL_isTold_r3 : GoodIn wsL_law wsL_isTold_r3 := goodIn_r _ [119, 120, 121, 122, 123, 124, 125, 126, 127, 128, 129, 130, 131, 132, 133, 134, 135, 136, 137, 138, 139, 140, 141, 142] (by decide +kernel) (by decide +kernel)
set_option maxRecDepth 20000 in
theorem gk_isTold_wsL_isTold_r4 : GoodIn wsL_law wsL_isTold_r4 := goodIn_r _ [143, 144, 20, 145, 146, 147, 148, 19, 149, 150, 151, 152, 153, 154, 155, 156, 157, 158, 159, 160, 161, 162, 163, 164] (by decide +kernel) (by decide +kernel)
set_option maxRecDepth 20000 in
theorem gk_isTold_wsL_isTold_r5 : GoodIn wsL_law wsL_isTold_r5 := goodIn_r _ [165, 166, 42, 167, 168, 169, 170, 171, 172, 173, 174, 175, 176, 177, 178, 179, 180, 181, 182, 183, 184, 185, 186, 187] (by decide +kernel) (by decide +kernel)
set_option maxRecDepth 20000 in
theorem gk_isTold_wsL_isTold_r6 : GoodIn wsL_law wsL_isTold_r6 := goodIn_r _ [188, 189, 190, 191, 192, 193, 194, 195, 196, 15, 32, 197, 198, 199, 200, 16, 33, 201, 202, 203, 204, 205, 206, 207] (by decide +kernel) (by decide +kernel)
set_option maxRecDepth 20000 in
theorem gk_isTold_wsL_isTold_r7 : GoodIn wsL_law wsL_isTold_r7 := goodIn_r _ [208, 209, 210, 211, 212, 213, 214, 215, 216, 217, 218, 219, 220, 221, 222, 223, 224, 225, 226, 227, 13, 228, 229, 230] (by decide +kernel) (by decide +kernel)
set_option maxRecDepth 20000 in
theorem gk_isTold_wsL_isTold_r8 : GoodIn wsL_law wsL_isTold_r8 := goodIn_r _ [231, 232, 233, 234, 235, 236, 237, 238, 239, 240, 21, 241, 242, 243, 244, 245, 246, 247, 248, 249, 250, 251, 252, 253] (by decide +kernel) (by decide +kernel)
set_option maxRecDepth 20000 in
theorem gk_isTold_wsL_isTold_r9 : GoodIn wsL_law wsL_isTold_r9 := goodIn_r _ [254, 255, 256, 257, 258, 259, 260, 261, 262, 263, 264, 265, 266, 23, 267, 268, 269, 270, 35, 271, 272, 273, 274, 275] (by decide +kernel) (by decide +kernel)
set_option maxRecDepth 20000 in
theorem gk_isTold_wsL_isTold_r10 : GoodIn wsL_law wsL_isTold_r10 := goodIn_r _ [276, 277, 278, 279, 280, 281, 282, 283, 284, 285, 286, 287, 288, 289, 22, 290, 291, 292, 293, 294, 295, 296, 297, 298] (by decide +kernel) (by decide +kernel)
set_option maxRecDepth 20000 in
theorem gk_isTold_wsL_isTold_r11 : GoodIn wsL_law wsL_isTold_r11 := goodIn_r _ [299, 300, 301, 302, 303, 304, 305, 306, 307, 308, 309, 310, 311, 312, 313, 314, 315, 316, 317, 318, 319, 320, 321, 322] (by decide +kernel) (by decide +kernel)
set_option maxRecDepth 20000 in
theorem gk_isTold_wsL_isTold_r12 : GoodIn wsL_law wsL_isTold_r12 := goodIn_r _ [323, 324, 325, 326, 327, 328, 329, 330, 331, 34, 332, 333, 334, 335, 336, 337, 338, 339, 31, 340, 30, 341, 342, 63] (by decide +kernel) (by decide +kernel)
set_option maxRecDepth 20000 in
theorem gk_isTold_wsL_isTold_r13 : GoodIn wsL_law wsL_isTold_r13 := goodIn_r _ [62, 343, 344, 345, 346, 347, 348, 349, 350, 351, 352, 353, 354] (by decide +kernel) (by decide +kernel)
set_option maxRecDepth 20000 in
theorem gk_isTold_wsX60 : GoodIn wsL_law wsX60 := goodIn_r _ [624, 625, 626, 627, 628, 629, 630, 631, 632, 633, 634, 635, 636, 637] (by decide +kernel) (by decide +kernel)
set_option maxRecDepth 20000 in
theorem gk_isTold_wsX20 : GoodIn wsL_law wsX20 := goodIn_r _ [641, 642] (by decide +kernel) (by decide +kernel)
set_option maxRecDepth 20000 in
theorem gk_isTold_wsX50 : GoodIn wsL_law wsX50 := goodIn_r _ [645, 646, 647] (by decide +kernel) (by decide +kernel)
set_option maxRecDepth 20000 in
theorem gk_isTold_wsX40 : GoodIn wsL_law wsX40 := goodIn_r _ [648, 649, 650, 651] (by decide +kernel) (by decide +kernel)
set_option maxRecDepth 20000 in
theorem gk_isTold_wsJx4a65c0 : GoodIn wsL_law wsJx4a65c0 := goodIn_r _ [638, 639, 640] (by decide +kernel) (by decide +kernel)
set_option maxRecDepth 20000 in
theorem gk_isTold_wsX00 : GoodIn wsL_law wsX00 := goodIn_r _ [652, 653, 654, 655, 656, 657] (by decide +kernel) (by decide +kernel)
set_option maxRecDepth 20000 in
theorem gk_isTold_wsX30 : GoodIn wsL_law wsX30 := goodIn_r _ [658] (by decide +kernel) (by decide +kernel)
set_option maxRecDepth 20000 in
theorem gk_isTold_wsX10 : GoodIn wsL_law wsX10 := goodIn_r _ [643, 644] (by decide +kernel) (by decide +kernel)
set_option maxRecDepth 20000 in
theorem gk_isTold : GoodIn wsL_law (.code yL_isTold cL_isTold 14 (some .boolean) :: ((wsL_isTold_r1 ++ (wsL_isTold_r2 ++ (wsL_isTold_r3 ++ (wsL_isTold_r4 ++ (wsL_isTold_r5 ++ (wsL_isTold_r6 ++ (wsL_isTold_r7 ++ (wsL_isTold_r8 ++ (wsL_isTold_r9 ++ (wsL_isTold_r10 ++ (wsL_isTold_r11 ++ (wsL_isTold_r12 ++ wsL_isTold_r13)))))))))))) ++ wsX60 ++ wsX20 ++ wsX50 ++ wsX40 ++ wsJx4a65c0 ++ wsX00 ++ wsX30 ++ wsX10)) := gk_cons gk0_isTold (goodIn_app (goodIn_app (goodIn_app (goodIn_app (goodIn_app (goodIn_app (goodIn_app (goodIn_app (goodIn_app gk_isTold_wsL_isTold_r1 (goodIn_app gk_isTold_wsL_isTold_r2 (goodIn_app gk_isTold_wsL_isTold_r3 (goodIn_app gk_isTold_wsL_isTold_r4 (goodIn_app gk_isTold_wsL_isTold_r5 (goodIn_app gk_isTold_wsL_isTold_r6 (goodIn_app gk_isTold_wsL_isTold_r7 (goodIn_app gk_isTold_wsL_isTold_r8 (goodIn_app gk_isTold_wsL_isTold_r9 (goodIn_app gk_isTold_wsL_isTold_r10 (goodIn_app gk_isTold_wsL_isTold_r11 (goodIn_app gk_isTold_wsL_isTold_r12 gk_isTold_wsL_isTold_r13)))))))))))) gk_isTold_wsX60) gk_isTold_wsX20) gk_isTold_wsX50) gk_isTold_wsX40) gk_isTold_wsJx4a65c0) gk_isTold_wsX00) gk_isTold_wsX30) gk_isTold_wsX10)
set_option maxRecDepth 20000 in
theorem ggL_law_L_isTold : GoodIn wsL_law wsL_isTold := goodIn_ca (gk_isTold) (goodIn_sub (fun _ h => List.mem_append_left _ (List.mem_append_left _ (List.mem_append_right _ h))) (by decide +kernel))
set_option maxRecDepth 20000 in
theorem gL_law_L_isTold : GoodIn wsL_law (va_wsS RL 251 yL_isTold wsL_isTold) := goodIn_app (goodIn_of _ (by decide +kernel)) ggL_law_L_isTold
set_option maxRecDepth 20000 in
theorem ggL_law_L_cell : GoodIn wsL_law wsL_cell := goodIn_r _ [357, 358] (by decide +kernel) (by decide +kernel)
set_option maxRecDepth 20000 in
theorem gL_law_L_cell : GoodIn wsL_law (va_wsS RL 255 yL_cell wsL_cell) := goodIn_app (goodIn_of _ (by decide +kernel)) ggL_law_L_cell
set_option maxRecDepth 20000 in
theorem ggL_law_L_low : GoodIn wsL_law wsL_low := goodIn_r _ [178] (by decide +kernel) (by decide +kernel)
set_option maxRecDepth 20000 in
theorem gL_law_L_low : GoodIn wsL_law (va_wsS RL 128 yL_low wsL_low) := goodIn_app (goodIn_of _ (by decide +kernel)) ggL_law_L_low
-- in chunks
set_option maxRecDepth 20000 in
theorem gk0_valves : GoodIn wsL_law [.code yL_valves cL_valves 17 (some .boolean)] := gk_one (List.mem_of_getElem? (i := 361) rfl) rfl
set_option maxRecDepth 20000 in
theorem gk_valves_wsL_valves_r1 : GoodIn wsL_law wsL_valves_r1 := goodIn_r _ [176, 177, 76, 178, 218, 219, 220, 205, 206, 207, 208, 209, 210, 94, 95, 96, 97, 101, 102, 103, 173, 174, 175, 170] (by decide +kernel) (by decide +kernel)
set_option maxRecDepth 20000 in
theorem gk_valves_wsL_valves_r2 : GoodIn wsL_law wsL_valves_r2 := goodIn_r _ [171, 172, 362, 363, 364, 81, 365, 366, 367, 368, 369, 2, 370, 371, 372, 373, 374, 12, 111, 112, 113, 86, 87, 375] (by decide +kernel) (by decide +kernel)
set_option maxRecDepth 20000 in
theorem gk_valves_wsL_valves_r3 : GoodIn wsL_law wsL_valves_r3 := goodIn_r _ [376, 377, 231, 232, 233, 378, 379, 380, 381, 20, 145, 146, 147, 148, 19, 149, 150, 151, 152, 153, 154, 155, 156, 157] (by decide +kernel) (by decide +kernel)
set_option maxRecDepth 20000 in
theorem gk_valves_wsL_valves_r4 : GoodIn wsL_law wsL_valves_r4 := goodIn_r _ [158, 159, 160, 161, 162, 163, 164, 165, 166, 42, 98, 99, 100, 167, 168, 169, 382, 383, 384, 385, 386, 387, 388, 186] (by decide +kernel) (by decide +kernel)
set_option maxRecDepth 20000 in
theorem gk_valves_wsL_valves_r5 : GoodIn wsL_law wsL_valves_r5 := goodIn_r _ [187, 188, 189, 190, 191, 192, 193, 194, 195, 196, 15, 32, 197, 198, 199, 200, 16, 33, 201, 202, 203, 204, 389, 390] (by decide +kernel) (by decide +kernel)
set_option maxRecDepth 20000 in
theorem gk_valves_wsL_valves_r6 : GoodIn wsL_law wsL_valves_r6 := goodIn_r _ [391, 392, 27, 393, 26, 394, 395, 396, 397, 398, 399, 57, 56, 400, 401, 72, 402, 403, 404, 405, 406, 407, 408, 4] (by decide +kernel) (by decide +kernel)
set_option maxRecDepth 20000 in
theorem gk_valves_wsL_valves_r7 : GoodIn wsL_law wsL_valves_r7 := goodIn_r _ [409, 410, 411, 412, 413, 414, 415, 416, 417, 418, 419, 420, 421, 422, 423, 424, 425, 426, 427, 428, 429, 430, 431, 432] (by decide +kernel) (by decide +kernel)
set_option maxRecDepth 20000 in
theorem gk_valves_wsL_valves_r8 : GoodIn wsL_law wsL_valves_r8 := goodIn_r _ [433, 9, 10, 434, 435, 436, 437, 438, 439, 440, 441, 442, 443, 444, 445, 446, 447, 448, 449, 450, 451, 452, 453, 454] (by decide +kernel) (by decide +kernel)
set_option maxRecDepth 20000 in
theorem gk_valves_wsL_valves_r9 : GoodIn wsL_law wsL_valves_r9 := goodIn_r _ [455, 41, 456, 457, 458, 459, 460, 461, 462, 463, 464, 465, 466, 467, 468, 469, 470, 471, 472, 473, 474, 475, 476, 477] (by decide +kernel) (by decide +kernel)
set_option maxRecDepth 20000 in
theorem gk_valves_wsL_valves_r10 : GoodIn wsL_law wsL_valves_r10 := goodIn_r _ [478, 479, 480, 481, 482, 483, 484, 485, 486, 487, 249, 250, 251, 252, 488, 489, 490, 253, 254, 255, 256, 257, 258, 259] (by decide +kernel) (by decide +kernel)
set_option maxRecDepth 20000 in
theorem gk_valves_wsL_valves_r11 : GoodIn wsL_law wsL_valves_r11 := goodIn_r _ [491, 492, 493, 494, 495, 496, 497, 21, 498, 499, 500, 228, 229, 230, 501, 502, 503, 504, 505, 506, 507, 508, 509, 234] (by decide +kernel) (by decide +kernel)
set_option maxRecDepth 20000 in
theorem gk_valves_wsL_valves_r12 : GoodIn wsL_law wsL_valves_r12 := goodIn_r _ [235, 236, 237, 238, 239, 240, 241] (by decide +kernel) (by decide +kernel)
set_option maxRecDepth 20000 in
theorem gk_valves_wsX60 : GoodIn wsL_law wsX60 := goodIn_r _ [624, 625, 626, 627, 628, 629, 630, 631, 632, 633, 634, 635, 636, 637] (by decide +kernel) (by decide +kernel)
set_option maxRecDepth 20000 in
theorem gk_valves_wsX50 : GoodIn wsL_law wsX50 := goodIn_r _ [645, 646, 647] (by decide +kernel) (by decide +kernel)
set_option maxRecDepth 20000 in
theorem gk_valves_wsX40 : GoodIn wsL_law wsX40 := goodIn_r _ [648, 649, 650, 651] (by decide +kernel) (by decide +kernel)
set_option maxRecDepth 20000 in
theorem gk_valves_wsJx4a65c0 : GoodIn wsL_law wsJx4a65c0 := goodIn_r _ [638, 639, 640] (by decide +kernel) (by decide +kernel)
set_option maxRecDepth 20000 in
theorem gk_valves_wsX20 : GoodIn wsL_law wsX20 := goodIn_r _ [641, 642] (by decide +kernel) (by decide +kernel)
set_option maxRecDepth 20000 in
theorem gk_valves_wsX00 : GoodIn wsL_law wsX00 := goodIn_r _ [652, 653, 654, 655, 656, 657] (by decide +kernel) (by decide +kernel)
set_option maxRecDepth 20000 in
theorem gk_valves : GoodIn wsL_law (.code yL_valves cL_valves 17 (some .boolean) :: ((wsL_valves_r1 ++ (wsL_valves_r2 ++ (wsL_valves_r3 ++ (wsL_valves_r4 ++ (wsL_valves_r5 ++ (wsL_valves_r6 ++ (wsL_valves_r7 ++ (wsL_valves_r8 ++ (wsL_valves_r9 ++ (wsL_valves_r10 ++ (wsL_valves_r11 ++ wsL_valves_r12))))))))))) ++ wsX60 ++ wsX50 ++ wsX40 ++ wsJx4a65c0 ++ wsX20 ++ wsX00)) := gk_cons gk0_valves (goodIn_app (goodIn_app (goodIn_app (goodIn_app (goodIn_app (goodIn_app (goodIn_app gk_valves_wsL_valves_r1 (goodIn_app gk_valves_wsL_valves_r2 (goodIn_app gk_valves_wsL_valves_r3 (goodIn_app gk_valves_wsL_valves_r4 (goodIn_app gk_valves_wsL_valves_r5 (goodIn_app gk_valves_wsL_valves_r6 (goodIn_app gk_valves_wsL_valves_r7 (goodIn_app gk_valves_wsL_valves_r8 (goodIn_app gk_valves_wsL_valves_r9 (goodIn_app gk_valves_wsL_valves_r10 (goodIn_app gk_valves_wsL_valves_r11 gk_valves_wsL_valves_r12))))))))))) gk_valves_wsX60) gk_valves_wsX50) gk_valves_wsX40) gk_valves_wsJx4a65c0) gk_valves_wsX20) gk_valves_wsX00)
set_option maxRecDepth 20000 in
theorem ggL_law_L_valves : GoodIn wsL_law wsL_valves := goodIn_ca (goodIn_ca (goodIn_ca (gk_valves) (goodIn_sub (fun _ h => List.mem_append_left _ (List.mem_append_right _ h)) (by decide +kernel))) (goodIn_sub (fun _ h => List.mem_append_right _ h) (by decide +kernel))) (goodIn_sub (fun _ h => List.mem_append_left _ (List.mem_append_left _ (List.mem_append_right _ h))) (by decide +kernel))
set_option maxRecDepth 20000 in
theorem gL_law_L_valves : GoodIn wsL_law (va_wsS RL 259 yL_valves wsL_valves) := goodIn_app (goodIn_of _ (by decide +kernel)) ggL_law_L_valves
-- in chunks
set_option maxRecDepth 20000 in
theorem gk0_people : GoodIn wsL_law [.code yL_people cL_people 14 (some .boolean)] := gk_one (List.mem_of_getElem? (i := 512) rfl) rfl
set_option maxRecDepth 20000 in
theorem gk_people_wsL_people_r1 : GoodIn wsL_law wsL_people_r1 := goodIn_r _ [513, 176, 177, 76, 178, 514, 515, 516, 81, 366, 517, 518, 519, 2, 520, 27, 16, 186, 187, 188, 86, 87, 521, 522] (by decide +kernel) (by decide +kernel)
set_option maxRecDepth 20000 in
theorem gk_people_wsL_people_r2 : GoodIn wsL_law wsL_people_r2 := goodIn_r _ [523, 524, 373, 374, 15, 88, 26, 89, 90, 57, 208, 209, 210, 94, 95, 96, 97, 101, 102, 103, 173, 174, 175, 525] (by decide +kernel) (by decide +kernel)
set_option maxRecDepth 20000 in
theorem gk_people_wsL_people_r3 : GoodIn wsL_law wsL_people_r3 := goodIn_r _ [526, 527, 528, 529, 530, 531, 32, 20, 145, 397, 398, 399, 56, 400, 401, 72, 402, 403, 404, 405, 406, 407, 408, 4] (by decide +kernel) (by decide +kernel)
set_option maxRecDepth 20000 in
theorem gk_people_wsL_people_r4 : GoodIn wsL_law wsL_people_r4 := goodIn_r _ [409, 410, 411, 412, 413, 414, 415, 416, 146, 147, 148, 19, 149, 150, 151, 152, 153, 154, 155, 156, 157, 158, 159, 160] (by decide +kernel) (by decide +kernel)
set_option maxRecDepth 20000 in
theorem gk_people_wsL_people_r5 : GoodIn wsL_law wsL_people_r5 := goodIn_r _ [161, 162, 163, 164, 165, 166, 42, 170, 171, 172, 417, 418, 419, 420, 532, 533, 534, 365, 535, 536, 537, 538, 371, 372] (by decide +kernel) (by decide +kernel)
set_option maxRecDepth 20000 in
theorem gk_people_wsL_people_r6 : GoodIn wsL_law wsL_people_r6 := goodIn_r _ [539, 540, 541, 542, 12, 21, 33, 543, 544, 545, 546, 13, 547, 34, 231, 232, 233, 548, 549, 550, 551, 241, 552, 500] (by decide +kernel) (by decide +kernel)
set_option maxRecDepth 20000 in
theorem gk_people_wsL_people_r7 : GoodIn wsL_law wsL_people_r7 := goodIn_r _ [553, 554, 507, 506, 201, 202, 203, 204, 389, 390, 391, 392, 393, 394, 395, 396, 555, 556, 557, 98, 99, 100, 558, 559] (by decide +kernel) (by decide +kernel)
set_option maxRecDepth 20000 in
theorem gk_people_wsL_people_r8 : GoodIn wsL_law wsL_people_r8 := goodIn_r _ [560, 561, 562, 563, 167, 168, 169] (by decide +kernel) (by decide +kernel)
set_option maxRecDepth 20000 in
theorem gk_people_wsX60 : GoodIn wsL_law wsX60 := goodIn_r _ [624, 625, 626, 627, 628, 629, 630, 631, 632, 633, 634, 635, 636, 637] (by decide +kernel) (by decide +kernel)
set_option maxRecDepth 20000 in
theorem gk_people_wsX20 : GoodIn wsL_law wsX20 := goodIn_r _ [641, 642] (by decide +kernel) (by decide +kernel)
set_option maxRecDepth 20000 in
theorem gk_people_wsX40 : GoodIn wsL_law wsX40 := goodIn_r _ [648, 649, 650, 651] (by decide +kernel) (by decide +kernel)
set_option maxRecDepth 20000 in
theorem gk_people_wsJx4a65c0 : GoodIn wsL_law wsJx4a65c0 := goodIn_r _ [638, 639, 640] (by decide +kernel) (by decide +kernel)
set_option maxRecDepth 20000 in
theorem gk_people_wsX50 : GoodIn wsL_law wsX50 := goodIn_r _ [645, 646, 647] (by decide +kernel) (by decide +kernel)
set_option maxRecDepth 20000 in
theorem gk_people_wsX00 : GoodIn wsL_law wsX00 := goodIn_r _ [652, 653, 654, 655, 656, 657] (by decide +kernel) (by decide +kernel)
set_option maxRecDepth 20000 in
theorem gk_people : GoodIn wsL_law (.code yL_people cL_people 14 (some .boolean) :: ((wsL_people_r1 ++ (wsL_people_r2 ++ (wsL_people_r3 ++ (wsL_people_r4 ++ (wsL_people_r5 ++ (wsL_people_r6 ++ (wsL_people_r7 ++ wsL_people_r8))))))) ++ wsX60 ++ wsX20 ++ wsX40 ++ wsJx4a65c0 ++ wsX50 ++ wsX00)) := gk_cons gk0_people (goodIn_app (goodIn_app (goodIn_app (goodIn_app (goodIn_app (goodIn_app (goodIn_app gk_people_wsL_people_r1 (goodIn_app gk_people_wsL_people_r2 (goodIn_app gk_people_wsL_people_r3 (goodIn_app gk_people_wsL_people_r4 (goodIn_app gk_people_wsL_people_r5 (goodIn_app gk_people_wsL_people_r6 (goodIn_app gk_people_wsL_people_r7 gk_people_wsL_people_r8))))))) gk_people_wsX60) gk_people_wsX20) gk_people_wsX40) gk_people_wsJx4a65c0) gk_people_wsX50) gk_people_wsX00)
set_option maxRecDepth 20000 in
theorem ggL_law_L_people : GoodIn wsL_law wsL_people := goodIn_ca (goodIn_ca (goodIn_ca (gk_people) (goodIn_sub (fun _ h => List.mem_append_left _ (List.mem_append_left _ (List.mem_append_right _ h))) (by decide +kernel))) (goodIn_sub (fun _ h => List.mem_append_right _ h) (by decide +kernel))) (goodIn_sub (fun _ h => List.mem_append_left _ (List.mem_append_right _ h)) (by decide +kernel))
set_option maxRecDepth 20000 in
theorem gL_law_L_people : GoodIn wsL_law (va_wsS RL 263 yL_people wsL_people) := goodIn_app (goodIn_of _ (by decide +kernel)) ggL_law_L_people
-- in chunks
set_option maxRecDepth 20000 in
theorem gk0_chats : GoodIn wsL_law [.code yL_chats cL_chats 17 (some .boolean)] := gk_one (List.mem_of_getElem? (i := 566) rfl) rfl
set_option maxRecDepth 20000 in
theorem gk_chats_wsL_chats_r1 : GoodIn wsL_law wsL_chats_r1 := goodIn_r _ [176, 177, 76, 178, 567, 568, 569, 365, 366, 570, 571, 572, 2, 573, 371, 372, 373, 374, 31, 574, 30, 575, 576, 63] (by decide +kernel) (by decide +kernel)
set_option maxRecDepth 20000 in
theorem gk_chats_wsL_chats_r2 : GoodIn wsL_law wsL_chats_r2 := goodIn_r _ [577, 578, 579, 62, 580, 581, 582, 583, 584, 585, 586, 278, 279, 280, 281, 282, 587, 588, 589, 81, 590, 591, 592, 593] (by decide +kernel) (by decide +kernel)
set_option maxRecDepth 20000 in
theorem gk_chats_wsL_chats_r3 : GoodIn wsL_law wsL_chats_r3 := goodIn_r _ [22, 594, 595, 296, 35, 186, 187, 188, 86, 87, 267, 268, 269, 270, 521, 522, 523, 524, 15, 340, 341, 342, 343, 344] (by decide +kernel) (by decide +kernel)
set_option maxRecDepth 20000 in
theorem gk_chats_wsL_chats_r4 : GoodIn wsL_law wsL_chats_r4 := goodIn_r _ [345, 346, 347, 348, 349, 350, 351, 146, 147, 148, 19, 149, 150, 596, 597, 598, 4, 599, 600, 601, 602, 603, 604, 605] (by decide +kernel) (by decide +kernel)
set_option maxRecDepth 20000 in
theorem gk_chats_wsL_chats_r5 : GoodIn wsL_law wsL_chats_r5 := goodIn_r _ [606, 607, 608, 609, 9, 10, 299, 438, 439, 440, 441, 442, 443, 42, 444, 445, 446, 447, 448, 449, 450, 451, 452, 453] (by decide +kernel) (by decide +kernel)
set_option maxRecDepth 20000 in
theorem gk_chats_wsL_chats_r6 : GoodIn wsL_law wsL_chats_r6 := goodIn_r _ [454, 455, 41, 456, 457, 411, 458, 459, 460, 461, 462, 463, 464, 465, 466, 467, 468, 469, 470, 72, 471, 472, 473, 474] (by decide +kernel) (by decide +kernel)
set_option maxRecDepth 20000 in
theorem gk_chats_wsL_chats_r7 : GoodIn wsL_law wsL_chats_r7 := goodIn_r _ [475, 476, 477, 478, 479, 480, 409, 410, 412, 413, 414, 415, 416, 610, 611, 612, 613, 614, 615, 616, 23, 27, 32, 397] (by decide +kernel) (by decide +kernel)
set_option maxRecDepth 20000 in
theorem gk_chats_wsL_chats_r8 : GoodIn wsL_law wsL_chats_r8 := goodIn_r _ [26, 398, 399, 57, 56, 400, 401, 402, 403, 404, 405, 406, 407, 408, 208, 209, 210, 94, 95, 96, 97, 101, 102, 103] (by decide +kernel) (by decide +kernel)
set_option maxRecDepth 20000 in
theorem gk_chats_wsL_chats_r9 : GoodIn wsL_law wsL_chats_r9 := goodIn_r _ [173, 174, 175, 352, 353, 354, 283, 284, 285, 286, 287, 288, 289, 290, 291, 292, 293, 294, 151, 152, 153, 154, 155, 156] (by decide +kernel) (by decide +kernel)
set_option maxRecDepth 20000 in
theorem gk_chats_wsL_chats_r10 : GoodIn wsL_law wsL_chats_r10 := goodIn_r _ [157, 158, 159, 160, 161, 162, 163, 164, 165, 166, 295, 297, 298, 417, 418, 419, 420, 617, 618, 619, 620, 621, 622, 623] (by decide +kernel) (by decide +kernel)
set_option maxRecDepth 20000 in
theorem gk_chats_wsL_chats_r11 : GoodIn wsL_law wsL_chats_r11 := goodIn_r _ [260, 261, 262, 263, 264, 265, 266, 271, 272, 273] (by decide +kernel) (by decide +kernel)
set_option maxRecDepth 20000 in
theorem gk_chats_wsX60 : GoodIn wsL_law wsX60 := goodIn_r _ [624, 625, 626, 627, 628, 629, 630, 631, 632, 633, 634, 635, 636, 637] (by decide +kernel) (by decide +kernel)
set_option maxRecDepth 20000 in
theorem gk_chats_wsX10 : GoodIn wsL_law wsX10 := goodIn_r _ [643, 644] (by decide +kernel) (by decide +kernel)
set_option maxRecDepth 20000 in
theorem gk_chats_wsX30 : GoodIn wsL_law wsX30 := goodIn_r _ [658] (by decide +kernel) (by decide +kernel)
set_option maxRecDepth 20000 in
theorem gk_chats_wsJx4a65c0 : GoodIn wsL_law wsJx4a65c0 := goodIn_r _ [638, 639, 640] (by decide +kernel) (by decide +kernel)
set_option maxRecDepth 20000 in
theorem gk_chats_wsX20 : GoodIn wsL_law wsX20 := goodIn_r _ [641, 642] (by decide +kernel) (by decide +kernel)
set_option maxRecDepth 20000 in
theorem gk_chats : GoodIn wsL_law (.code yL_chats cL_chats 17 (some .boolean) :: ((wsL_chats_r1 ++ (wsL_chats_r2 ++ (wsL_chats_r3 ++ (wsL_chats_r4 ++ (wsL_chats_r5 ++ (wsL_chats_r6 ++ (wsL_chats_r7 ++ (wsL_chats_r8 ++ (wsL_chats_r9 ++ (wsL_chats_r10 ++ wsL_chats_r11)))))))))) ++ wsX60 ++ wsX10 ++ wsX30 ++ wsJx4a65c0 ++ wsX20)) := gk_cons gk0_chats (goodIn_app (goodIn_app (goodIn_app (goodIn_app (goodIn_app (goodIn_app gk_chats_wsL_chats_r1 (goodIn_app gk_chats_wsL_chats_r2 (goodIn_app gk_chats_wsL_chats_r3 (goodIn_app gk_chats_wsL_chats_r4 (goodIn_app gk_chats_wsL_chats_r5 (goodIn_app gk_chats_wsL_chats_r6 (goodIn_app gk_chats_wsL_chats_r7 (goodIn_app gk_chats_wsL_chats_r8 (goodIn_app gk_chats_wsL_chats_r9 (goodIn_app gk_chats_wsL_chats_r10 gk_chats_wsL_chats_r11)))))))))) gk_chats_wsX60) gk_chats_wsX10) gk_chats_wsX30) gk_chats_wsJx4a65c0) gk_chats_wsX20)
set_option maxRecDepth 20000 in
theorem ggL_law_L_chats : GoodIn wsL_law wsL_chats := goodIn_ca (goodIn_ca (goodIn_ca (gk_chats) (goodIn_sub (fun _ h => List.mem_append_left _ (List.mem_append_right _ h)) (by decide +kernel))) (goodIn_sub (fun _ h => List.mem_append_right _ h) (by decide +kernel))) (goodIn_sub (fun _ h => List.mem_append_left _ (List.mem_append_left _ (List.mem_append_right _ h))) (by decide +kernel))
set_option maxRecDepth 20000 in
theorem gL_law_L_chats : GoodIn wsL_law (va_wsS RL 266 yL_chats wsL_chats) := goodIn_app (goodIn_of _ (by decide +kernel)) ggL_law_L_chats
theorem dL_law_0 : decode cL_law 0 = .ok (.new 9, 3) := by decide +kernel
theorem dL_law_3 : decode cL_law 3 = .ok (.dup, 1) := by decide +kernel
theorem dL_law_4 : decode cL_law 4 = .ok (.invokespecial 250, 3) := by decide +kernel
theorem dL_law_7 : decode cL_law 7 = .ok (.astore_n 1, 1) := by decide +kernel
theorem dL_law_8 : decode cL_law 8 = .ok (.bipush 64, 2) := by decide +kernel
theorem dL_law_10 : decode cL_law 10 = .ok (.newarray .long, 2) := by decide +kernel
theorem dL_law_12 : decode cL_law 12 = .ok (.astore_n 2, 1) := by decide +kernel
theorem dL_law_13 : decode cL_law 13 = .ok (.bipush 8, 2) := by decide +kernel
theorem dL_law_15 : decode cL_law 15 = .ok (.newarray .int, 2) := by decide +kernel
theorem dL_law_17 : decode cL_law 17 = .ok (.astore_n 3, 1) := by decide +kernel
theorem dL_law_18 : decode cL_law 18 = .ok (.iconst 3, 1) := by decide +kernel
theorem dL_law_19 : decode cL_law 19 = .ok (.newarray .int, 2) := by decide +kernel
theorem dL_law_21 : decode cL_law 21 = .ok (.astore 4, 2) := by decide +kernel
theorem dL_law_23 : decode cL_law 23 = .ok (.iconst 3, 1) := by decide +kernel
theorem dL_law_24 : decode cL_law 24 = .ok (.newarray .int, 2) := by decide +kernel
theorem dL_law_26 : decode cL_law 26 = .ok (.astore 5, 2) := by decide +kernel
theorem dL_law_28 : decode cL_law 28 = .ok (.bipush 40, 2) := by decide +kernel
theorem dL_law_30 : decode cL_law 30 = .ok (.newarray .int, 2) := by decide +kernel
theorem dL_law_32 : decode cL_law 32 = .ok (.astore 6, 2) := by decide +kernel
theorem dL_law_34 : decode cL_law 34 = .ok (.bipush 40, 2) := by decide +kernel
theorem dL_law_36 : decode cL_law 36 = .ok (.newarray .int, 2) := by decide +kernel
theorem dL_law_38 : decode cL_law 38 = .ok (.astore 7, 2) := by decide +kernel
theorem dL_law_40 : decode cL_law 40 = .ok (.bipush 9, 2) := by decide +kernel
theorem dL_law_42 : decode cL_law 42 = .ok (.newarray .int, 2) := by decide +kernel
theorem dL_law_44 : decode cL_law 44 = .ok (.astore 8, 2) := by decide +kernel
theorem dL_law_46 : decode cL_law 46 = .ok (.bipush 12, 2) := by decide +kernel
theorem dL_law_48 : decode cL_law 48 = .ok (.newarray .int, 2) := by decide +kernel
theorem dL_law_50 : decode cL_law 50 = .ok (.astore 9, 2) := by decide +kernel
theorem dL_law_52 : decode cL_law 52 = .ok (.bipush 12, 2) := by decide +kernel
theorem dL_law_54 : decode cL_law 54 = .ok (.newarray .int, 2) := by decide +kernel
theorem dL_law_56 : decode cL_law 56 = .ok (.astore 10, 2) := by decide +kernel
theorem dL_law_58 : decode cL_law 58 = .ok (.bipush 10, 2) := by decide +kernel
theorem dL_law_60 : decode cL_law 60 = .ok (.newarray .int, 2) := by decide +kernel
theorem dL_law_62 : decode cL_law 62 = .ok (.astore 11, 2) := by decide +kernel
theorem dL_law_64 : decode cL_law 64 = .ok (.iconst 0, 1) := by decide +kernel
theorem dL_law_65 : decode cL_law 65 = .ok (.istore 12, 2) := by decide +kernel
theorem dL_law_67 : decode cL_law 67 = .ok (.iload 12, 2) := by decide +kernel
theorem dL_law_69 : decode cL_law 69 = .ok (.bipush 8, 2) := by decide +kernel
theorem dL_law_71 : decode cL_law 71 = .ok (.if_icmp .ge 14, 3) := by decide +kernel
theorem dL_law_74 : decode cL_law 74 = .ok (.aload_n 3, 1) := by decide +kernel
theorem dL_law_75 : decode cL_law 75 = .ok (.iload 12, 2) := by decide +kernel
theorem dL_law_77 : decode cL_law 77 = .ok (.iconst 4, 1) := by decide +kernel
theorem dL_law_78 : decode cL_law 78 = .ok (.iastore, 1) := by decide +kernel
theorem dL_law_79 : decode cL_law 79 = .ok (.iinc 12 1, 3) := by decide +kernel
theorem dL_law_82 : decode cL_law 82 = .ok (.goto (-15), 3) := by decide +kernel
theorem dL_law_85 : decode cL_law 85 = .ok (.aload_n 1, 1) := by decide +kernel
theorem dL_law_86 : decode cL_law 86 = .ok (.iconst 0, 1) := by decide +kernel
theorem dL_law_87 : decode cL_law 87 = .ok (.aload_n 2, 1) := by decide +kernel
theorem dL_law_88 : decode cL_law 88 = .ok (.aload 4, 2) := by decide +kernel
theorem dL_law_90 : decode cL_law 90 = .ok (.aload 5, 2) := by decide +kernel
theorem dL_law_92 : decode cL_law 92 = .ok (.aload 6, 2) := by decide +kernel
theorem dL_law_94 : decode cL_law 94 = .ok (.aload 8, 2) := by decide +kernel
theorem dL_law_96 : decode cL_law 96 = .ok (.aload 9, 2) := by decide +kernel
theorem dL_law_98 : decode cL_law 98 = .ok (.aload 11, 2) := by decide +kernel
theorem dL_law_100 : decode cL_law 100 = .ok (.invokestatic 251, 3) := by decide +kernel
theorem dL_law_103 : decode cL_law 103 = .ok (.ifCond .ne 5, 3) := by decide +kernel
theorem dL_law_106 : decode cL_law 106 = .ok (.iconst 0, 1) := by decide +kernel
theorem dL_law_107 : decode cL_law 107 = .ok (.ireturn, 1) := by decide +kernel
theorem dL_law_108 : decode cL_law 108 = .ok (.iconst 0, 1) := by decide +kernel
theorem dL_law_109 : decode cL_law 109 = .ok (.istore 12, 2) := by decide +kernel
theorem dL_law_111 : decode cL_law 111 = .ok (.iload 12, 2) := by decide +kernel
theorem dL_law_113 : decode cL_law 113 = .ok (.sipush 140, 3) := by decide +kernel
theorem dL_law_116 : decode cL_law 116 = .ok (.if_icmp .ge 196, 3) := by decide +kernel
theorem dL_law_119 : decode cL_law 119 = .ok (.aload 11, 2) := by decide +kernel
theorem dL_law_121 : decode cL_law 121 = .ok (.iconst 1, 1) := by decide +kernel
theorem dL_law_122 : decode cL_law 122 = .ok (.iaload, 1) := by decide +kernel
theorem dL_law_123 : decode cL_law 123 = .ok (.bipush 90, 2) := by decide +kernel
theorem dL_law_125 : decode cL_law 125 = .ok (.if_icmp .gt 13, 3) := by decide +kernel
theorem dL_law_128 : decode cL_law 128 = .ok (.aload 11, 2) := by decide +kernel
theorem dL_law_130 : decode cL_law 130 = .ok (.iconst 0, 1) := by decide +kernel
theorem dL_law_131 : decode cL_law 131 = .ok (.iaload, 1) := by decide +kernel
theorem dL_law_132 : decode cL_law 132 = .ok (.sipush 1900, 3) := by decide +kernel
theorem dL_law_135 : decode cL_law 135 = .ok (.if_icmp .le 5, 3) := by decide +kernel
theorem dL_law_138 : decode cL_law 138 = .ok (.iconst 1, 1) := by decide +kernel
theorem dL_law_139 : decode cL_law 139 = .ok (.ireturn, 1) := by decide +kernel
theorem dL_law_140 : decode cL_law 140 = .ok (.aload_n 0, 1) := by decide +kernel
theorem dL_law_141 : decode cL_law 141 = .ok (.iconst 3, 1) := by decide +kernel
theorem dL_law_142 : decode cL_law 142 = .ok (.iload 12, 2) := by decide +kernel
theorem dL_law_144 : decode cL_law 144 = .ok (.imul, 1) := by decide +kernel
theorem dL_law_145 : decode cL_law 145 = .ok (.invokestatic 255, 3) := by decide +kernel
theorem dL_law_148 : decode cL_law 148 = .ok (.istore 13, 2) := by decide +kernel
theorem dL_law_150 : decode cL_law 150 = .ok (.aload_n 0, 1) := by decide +kernel
theorem dL_law_151 : decode cL_law 151 = .ok (.iconst 3, 1) := by decide +kernel
theorem dL_law_152 : decode cL_law 152 = .ok (.iload 12, 2) := by decide +kernel
theorem dL_law_154 : decode cL_law 154 = .ok (.imul, 1) := by decide +kernel
theorem dL_law_155 : decode cL_law 155 = .ok (.iconst 1, 1) := by decide +kernel
theorem dL_law_156 : decode cL_law 156 = .ok (.iadd, 1) := by decide +kernel
theorem dL_law_157 : decode cL_law 157 = .ok (.invokestatic 255, 3) := by decide +kernel
theorem dL_law_160 : decode cL_law 160 = .ok (.istore 14, 2) := by decide +kernel
theorem dL_law_162 : decode cL_law 162 = .ok (.aload_n 0, 1) := by decide +kernel
theorem dL_law_163 : decode cL_law 163 = .ok (.iconst 3, 1) := by decide +kernel
theorem dL_law_164 : decode cL_law 164 = .ok (.iload 12, 2) := by decide +kernel
theorem dL_law_166 : decode cL_law 166 = .ok (.imul, 1) := by decide +kernel
theorem dL_law_167 : decode cL_law 167 = .ok (.iconst 2, 1) := by decide +kernel
theorem dL_law_168 : decode cL_law 168 = .ok (.iadd, 1) := by decide +kernel
theorem dL_law_169 : decode cL_law 169 = .ok (.invokestatic 255, 3) := by decide +kernel
theorem dL_law_172 : decode cL_law 172 = .ok (.istore 15, 2) := by decide +kernel
theorem dL_law_174 : decode cL_law 174 = .ok (.iload 13, 2) := by decide +kernel
theorem dL_law_176 : decode cL_law 176 = .ok (.bipush 34, 2) := by decide +kernel
theorem dL_law_178 : decode cL_law 178 = .ok (.invokestatic 128, 3) := by decide +kernel
theorem dL_law_181 : decode cL_law 181 = .ok (.istore 16, 2) := by decide +kernel
theorem dL_law_183 : decode cL_law 183 = .ok (.iload 16, 2) := by decide +kernel
theorem dL_law_185 : decode cL_law 185 = .ok (.bipush 13, 2) := by decide +kernel
theorem dL_law_187 : decode cL_law 187 = .ok (.if_icmp .ge 28, 3) := by decide +kernel
theorem dL_law_190 : decode cL_law 190 = .ok (.aload_n 1, 1) := by decide +kernel
theorem dL_law_191 : decode cL_law 191 = .ok (.iload 16, 2) := by decide +kernel
theorem dL_law_193 : decode cL_law 193 = .ok (.iload 14, 2) := by decide +kernel
theorem dL_law_195 : decode cL_law 195 = .ok (.iload 15, 2) := by decide +kernel
theorem dL_law_197 : decode cL_law 197 = .ok (.aload_n 2, 1) := by decide +kernel
theorem dL_law_198 : decode cL_law 198 = .ok (.aload_n 3, 1) := by decide +kernel
theorem dL_law_199 : decode cL_law 199 = .ok (.aload 5, 2) := by decide +kernel
theorem dL_law_201 : decode cL_law 201 = .ok (.aload 6, 2) := by decide +kernel
theorem dL_law_203 : decode cL_law 203 = .ok (.aload 7, 2) := by decide +kernel
theorem dL_law_205 : decode cL_law 205 = .ok (.aload 8, 2) := by decide +kernel
theorem dL_law_207 : decode cL_law 207 = .ok (.aload 11, 2) := by decide +kernel
theorem dL_law_209 : decode cL_law 209 = .ok (.invokestatic 259, 3) := by decide +kernel
theorem dL_law_212 : decode cL_law 212 = .ok (.goto 58, 3) := by decide +kernel
theorem dL_law_215 : decode cL_law 215 = .ok (.iload 16, 2) := by decide +kernel
theorem dL_law_217 : decode cL_law 217 = .ok (.bipush 24, 2) := by decide +kernel
theorem dL_law_219 : decode cL_law 219 = .ok (.if_icmp .ge 31, 3) := by decide +kernel
theorem dL_law_222 : decode cL_law 222 = .ok (.aload_n 1, 1) := by decide +kernel
theorem dL_law_223 : decode cL_law 223 = .ok (.iload 16, 2) := by decide +kernel
theorem dL_law_225 : decode cL_law 225 = .ok (.bipush 13, 2) := by decide +kernel
theorem dL_law_227 : decode cL_law 227 = .ok (.isub, 1) := by decide +kernel
theorem dL_law_228 : decode cL_law 228 = .ok (.iload 14, 2) := by decide +kernel
theorem dL_law_230 : decode cL_law 230 = .ok (.iload 15, 2) := by decide +kernel
theorem dL_law_232 : decode cL_law 232 = .ok (.aload_n 2, 1) := by decide +kernel
theorem dL_law_233 : decode cL_law 233 = .ok (.aload_n 3, 1) := by decide +kernel
theorem dL_law_234 : decode cL_law 234 = .ok (.aload 4, 2) := by decide +kernel
theorem dL_law_236 : decode cL_law 236 = .ok (.aload 5, 2) := by decide +kernel
theorem dL_law_238 : decode cL_law 238 = .ok (.aload 6, 2) := by decide +kernel
theorem dL_law_240 : decode cL_law 240 = .ok (.aload 8, 2) := by decide +kernel
theorem dL_law_242 : decode cL_law 242 = .ok (.aload 11, 2) := by decide +kernel
theorem dL_law_244 : decode cL_law 244 = .ok (.invokestatic 263, 3) := by decide +kernel
theorem dL_law_247 : decode cL_law 247 = .ok (.goto 23, 3) := by decide +kernel
theorem dL_law_250 : decode cL_law 250 = .ok (.aload_n 1, 1) := by decide +kernel
theorem dL_law_251 : decode cL_law 251 = .ok (.iload 16, 2) := by decide +kernel
theorem dL_law_253 : decode cL_law 253 = .ok (.bipush 24, 2) := by decide +kernel
theorem dL_law_255 : decode cL_law 255 = .ok (.isub, 1) := by decide +kernel
theorem dL_law_256 : decode cL_law 256 = .ok (.iload 14, 2) := by decide +kernel
theorem dL_law_258 : decode cL_law 258 = .ok (.iload 15, 2) := by decide +kernel
theorem dL_law_260 : decode cL_law 260 = .ok (.aload_n 2, 1) := by decide +kernel
theorem dL_law_261 : decode cL_law 261 = .ok (.aload 9, 2) := by decide +kernel
theorem dL_law_263 : decode cL_law 263 = .ok (.aload 10, 2) := by decide +kernel
theorem dL_law_265 : decode cL_law 265 = .ok (.aload 11, 2) := by decide +kernel
theorem dL_law_267 : decode cL_law 267 = .ok (.invokestatic 266, 3) := by decide +kernel
theorem dL_law_270 : decode cL_law 270 = .ok (.istore 17, 2) := by decide +kernel
theorem dL_law_272 : decode cL_law 272 = .ok (.iload 17, 2) := by decide +kernel
theorem dL_law_274 : decode cL_law 274 = .ok (.ifCond .eq 30, 3) := by decide +kernel
theorem dL_law_277 : decode cL_law 277 = .ok (.aload_n 1, 1) := by decide +kernel
theorem dL_law_278 : decode cL_law 278 = .ok (.iload 13, 2) := by decide +kernel
theorem dL_law_280 : decode cL_law 280 = .ok (.iconst 5, 1) := by decide +kernel
theorem dL_law_281 : decode cL_law 281 = .ok (.ishr, 1) := by decide +kernel
theorem dL_law_282 : decode cL_law 282 = .ok (.iload 15, 2) := by decide +kernel
theorem dL_law_284 : decode cL_law 284 = .ok (.ixor, 1) := by decide +kernel
theorem dL_law_285 : decode cL_law 285 = .ok (.aload_n 2, 1) := by decide +kernel
theorem dL_law_286 : decode cL_law 286 = .ok (.aload 4, 2) := by decide +kernel
theorem dL_law_288 : decode cL_law 288 = .ok (.aload 5, 2) := by decide +kernel
theorem dL_law_290 : decode cL_law 290 = .ok (.aload 6, 2) := by decide +kernel
theorem dL_law_292 : decode cL_law 292 = .ok (.aload 8, 2) := by decide +kernel
theorem dL_law_294 : decode cL_law 294 = .ok (.aload 9, 2) := by decide +kernel
theorem dL_law_296 : decode cL_law 296 = .ok (.aload 11, 2) := by decide +kernel
theorem dL_law_298 : decode cL_law 298 = .ok (.invokestatic 251, 3) := by decide +kernel
theorem dL_law_301 : decode cL_law 301 = .ok (.ifCond .ne 5, 3) := by decide +kernel
theorem dL_law_304 : decode cL_law 304 = .ok (.iconst 0, 1) := by decide +kernel
theorem dL_law_305 : decode cL_law 305 = .ok (.ireturn, 1) := by decide +kernel
theorem dL_law_306 : decode cL_law 306 = .ok (.iinc 12 1, 3) := by decide +kernel
theorem dL_law_309 : decode cL_law 309 = .ok (.goto (-198), 3) := by decide +kernel
theorem dL_law_312 : decode cL_law 312 = .ok (.iconst 1, 1) := by decide +kernel
theorem dL_law_313 : decode cL_law 313 = .ok (.ireturn, 1) := by decide +kernel
