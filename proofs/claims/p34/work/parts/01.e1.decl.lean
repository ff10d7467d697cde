set_option maxRecDepth 20000 in
theorem ggL_valves_L_alarm : GoodIn wsL_valves wsL_alarm := goodIn_ca (goodIn_ca (goodIn_ca (goodIn_r _ [243, 30, 31, 32, 244, 245, 246, 36, 247, 38, 39, 40, 41, 248, 249, 250, 251, 252, 253, 254, 46, 47, 51, 52, 53, 43, 44, 45, 60, 61, 62, 63, 64, 65, 255, 256, 257, 170, 171, 258, 259, 260, 261, 262, 263, 176, 177, 178, 179, 180, 181, 82, 182, 183, 184, 185, 186, 187, 188, 189, 190, 191, 192, 193, 194, 195, 196, 147, 197, 198, 199, 200, 201, 202, 203, 204, 205, 206, 207, 208, 209, 136, 210, 211, 212, 213, 214, 215, 216, 217, 218, 219, 145, 146, 148, 149, 150, 151, 152, 272, 273, 274, 275, 276, 277, 278, 279, 280, 281, 282, 283, 284, 285, 298, 299, 300, 301, 302, 303, 293, 294, 295] (by decide +kernel) (by decide +kernel)) (goodIn_sub (fun _ h => List.mem_cons_of_mem _ (List.mem_append_left _ (List.mem_append_left _ (List.mem_append_right _ h)))) (by decide +kernel))) (goodIn_sub (fun _ h => List.mem_cons_of_mem _ (List.mem_append_left _ (List.mem_append_right _ h))) (by decide +kernel))) (goodIn_sub (fun _ h => List.mem_cons_of_mem _ (List.mem_append_right _ h)) (by decide +kernel))
set_option maxRecDepth 20000 in
theorem gL_valves_L_alarm : GoodIn wsL_valves (va_wsS RL 160 yL_alarm wsL_alarm) := goodIn_app (goodIn_of _ (by decide +kernel)) ggL_valves_L_alarm
set_option maxRecDepth 20000 in
theorem ggL_valves_L_stateOf : GoodIn wsL_valves wsL_stateOf := goodIn_ca (goodIn_r _ [266, 30, 267, 268, 269, 36, 270, 46, 47, 248, 271, 60, 61, 62, 63, 64, 65, 66, 67, 68, 69, 70, 71, 72, 73, 74, 75, 76, 77, 78, 79, 80, 81, 82, 272, 273, 274, 275, 276, 277, 278, 279, 280, 281, 282, 283, 284, 285, 298, 299, 300, 301, 302, 303, 293, 294, 295] (by decide +kernel) (by decide +kernel)) (goodIn_sub (fun _ h => List.mem_cons_of_mem _ (List.mem_append_right _ h)) (by decide +kernel))
set_option maxRecDepth 20000 in
theorem gL_valves_L_stateOf : GoodIn wsL_valves (va_wsS RL 163 yL_stateOf wsL_stateOf) := goodIn_app (goodIn_of _ (by decide +kernel)) ggL_valves_L_stateOf
theorem dL_valves_0 : decode cL_valves 0 = .ok (.iload_n 2, 1) := by decide +kernel
theorem dL_valves_1 : decode cL_valves 1 = .ok (.bipush 9, 2) := by decide +kernel
theorem dL_valves_3 : decode cL_valves 3 = .ok (.invokestatic 128, 3) := by decide +kernel
theorem dL_valves_6 : decode cL_valves 6 = .ok (.istore 11, 2) := by decide +kernel
theorem dL_valves_8 : decode cL_valves 8 = .ok (.iconst 0, 1) := by decide +kernel
theorem dL_valves_9 : decode cL_valves 9 = .ok (.istore 12, 2) := by decide +kernel
theorem dL_valves_11 : decode cL_valves 11 = .ok (.iload 12, 2) := by decide +kernel
theorem dL_valves_13 : decode cL_valves 13 = .ok (.bipush 9, 2) := by decide +kernel
theorem dL_valves_15 : decode cL_valves 15 = .ok (.if_icmp .ge 41, 3) := by decide +kernel
theorem dL_valves_18 : decode cL_valves 18 = .ok (.iload_n 3, 1) := by decide +kernel
theorem dL_valves_19 : decode cL_valves 19 = .ok (.bipush 6, 2) := by decide +kernel
theorem dL_valves_21 : decode cL_valves 21 = .ok (.iand, 1) := by decide +kernel
theorem dL_valves_22 : decode cL_valves 22 = .ok (.ifCond .le 34, 3) := by decide +kernel
theorem dL_valves_25 : decode cL_valves 25 = .ok (.aload 4, 2) := by decide +kernel
theorem dL_valves_27 : decode cL_valves 27 = .ok (.aload 7, 2) := by decide +kernel
theorem dL_valves_29 : decode cL_valves 29 = .ok (.aload 9, 2) := by decide +kernel
theorem dL_valves_31 : decode cL_valves 31 = .ok (.aload 10, 2) := by decide +kernel
theorem dL_valves_33 : decode cL_valves 33 = .ok (.iload 11, 2) := by decide +kernel
theorem dL_valves_35 : decode cL_valves 35 = .ok (.invokestatic 131, 3) := by decide +kernel
theorem dL_valves_38 : decode cL_valves 38 = .ok (.ifCond .ne 18, 3) := by decide +kernel
theorem dL_valves_41 : decode cL_valves 41 = .ok (.iload 11, 2) := by decide +kernel
theorem dL_valves_43 : decode cL_valves 43 = .ok (.iconst 1, 1) := by decide +kernel
theorem dL_valves_44 : decode cL_valves 44 = .ok (.iadd, 1) := by decide +kernel
theorem dL_valves_45 : decode cL_valves 45 = .ok (.bipush 9, 2) := by decide +kernel
theorem dL_valves_47 : decode cL_valves 47 = .ok (.irem, 1) := by decide +kernel
theorem dL_valves_48 : decode cL_valves 48 = .ok (.istore 11, 2) := by decide +kernel
theorem dL_valves_50 : decode cL_valves 50 = .ok (.iinc 12 1, 3) := by decide +kernel
theorem dL_valves_53 : decode cL_valves 53 = .ok (.goto (-42), 3) := by decide +kernel
theorem dL_valves_56 : decode cL_valves 56 = .ok (.iload_n 3, 1) := by decide +kernel
theorem dL_valves_57 : decode cL_valves 57 = .ok (.iload_n 3, 1) := by decide +kernel
theorem dL_valves_58 : decode cL_valves 58 = .ok (.bipush 96, 2) := by decide +kernel
theorem dL_valves_60 : decode cL_valves 60 = .ok (.iand, 1) := by decide +kernel
theorem dL_valves_61 : decode cL_valves 61 = .ok (.ifCond .ne 8, 3) := by decide +kernel
theorem dL_valves_64 : decode cL_valves 64 = .ok (.bipush 8, 2) := by decide +kernel
theorem dL_valves_66 : decode cL_valves 66 = .ok (.goto 4, 3) := by decide +kernel
theorem dL_valves_69 : decode cL_valves 69 = .ok (.iconst 3, 1) := by decide +kernel
theorem dL_valves_70 : decode cL_valves 70 = .ok (.invokestatic 128, 3) := by decide +kernel
theorem dL_valves_73 : decode cL_valves 73 = .ok (.istore 12, 2) := by decide +kernel
theorem dL_valves_75 : decode cL_valves 75 = .ok (.iload_n 1, 1) := by decide +kernel
theorem dL_valves_76 : decode cL_valves 76 = .ok (.ifCond .ne 221, 3) := by decide +kernel
theorem dL_valves_79 : decode cL_valves 79 = .ok (.iload_n 2, 1) := by decide +kernel
theorem dL_valves_80 : decode cL_valves 80 = .ok (.iconst 4, 1) := by decide +kernel
theorem dL_valves_81 : decode cL_valves 81 = .ok (.ishr, 1) := by decide +kernel
theorem dL_valves_82 : decode cL_valves 82 = .ok (.iconst 4, 1) := by decide +kernel
theorem dL_valves_83 : decode cL_valves 83 = .ok (.invokestatic 128, 3) := by decide +kernel
theorem dL_valves_86 : decode cL_valves 86 = .ok (.iconst 1, 1) := by decide +kernel
theorem dL_valves_87 : decode cL_valves 87 = .ok (.isub, 1) := by decide +kernel
theorem dL_valves_88 : decode cL_valves 88 = .ok (.istore 13, 2) := by decide +kernel
theorem dL_valves_90 : decode cL_valves 90 = .ok (.iload_n 3, 1) := by decide +kernel
theorem dL_valves_91 : decode cL_valves 91 = .ok (.bipush 7, 2) := by decide +kernel
theorem dL_valves_93 : decode cL_valves 93 = .ok (.ishr, 1) := by decide +kernel
theorem dL_valves_94 : decode cL_valves 94 = .ok (.iconst 4, 1) := by decide +kernel
theorem dL_valves_95 : decode cL_valves 95 = .ok (.invokestatic 128, 3) := by decide +kernel
theorem dL_valves_98 : decode cL_valves 98 = .ok (.iconst 1, 1) := by decide +kernel
theorem dL_valves_99 : decode cL_valves 99 = .ok (.isub, 1) := by decide +kernel
theorem dL_valves_100 : decode cL_valves 100 = .ok (.istore 14, 2) := by decide +kernel
theorem dL_valves_102 : decode cL_valves 102 = .ok (.aload_n 0, 1) := by decide +kernel
theorem dL_valves_103 : decode cL_valves 103 = .ok (.bipush 8, 2) := by decide +kernel
theorem dL_valves_105 : decode cL_valves 105 = .ok (.iconst 3, 1) := by decide +kernel
theorem dL_valves_106 : decode cL_valves 106 = .ok (.iconst 3, 1) := by decide +kernel
theorem dL_valves_107 : decode cL_valves 107 = .ok (.invokestatic 135, 3) := by decide +kernel
theorem dL_valves_110 : decode cL_valves 110 = .ok (.sipush (-7100), 3) := by decide +kernel
theorem dL_valves_113 : decode cL_valves 113 = .ok (.if_icmp .ne 73, 3) := by decide +kernel
theorem dL_valves_116 : decode cL_valves 116 = .ok (.aload_n 0, 1) := by decide +kernel
theorem dL_valves_117 : decode cL_valves 117 = .ok (.iconst (-1), 1) := by decide +kernel
theorem dL_valves_118 : decode cL_valves 118 = .ok (.iconst 0, 1) := by decide +kernel
theorem dL_valves_119 : decode cL_valves 119 = .ok (.iconst 1, 1) := by decide +kernel
theorem dL_valves_120 : decode cL_valves 120 = .ok (.invokestatic 135, 3) := by decide +kernel
theorem dL_valves_123 : decode cL_valves 123 = .ok (.sipush (-7100), 3) := by decide +kernel
theorem dL_valves_126 : decode cL_valves 126 = .ok (.if_icmp .ne 60, 3) := by decide +kernel
theorem dL_valves_129 : decode cL_valves 129 = .ok (.aload_n 0, 1) := by decide +kernel
theorem dL_valves_130 : decode cL_valves 130 = .ok (.iload 12, 2) := by decide +kernel
theorem dL_valves_132 : decode cL_valves 132 = .ok (.iconst 1, 1) := by decide +kernel
theorem dL_valves_133 : decode cL_valves 133 = .ok (.iconst 1, 1) := by decide +kernel
theorem dL_valves_134 : decode cL_valves 134 = .ok (.invokestatic 135, 3) := by decide +kernel
theorem dL_valves_137 : decode cL_valves 137 = .ok (.sipush (-7200), 3) := by decide +kernel
theorem dL_valves_140 : decode cL_valves 140 = .ok (.if_icmp .ne 46, 3) := by decide +kernel
theorem dL_valves_143 : decode cL_valves 143 = .ok (.aload_n 0, 1) := by decide +kernel
theorem dL_valves_144 : decode cL_valves 144 = .ok (.iload 12, 2) := by decide +kernel
theorem dL_valves_146 : decode cL_valves 146 = .ok (.iconst (-1), 1) := by decide +kernel
theorem dL_valves_147 : decode cL_valves 147 = .ok (.iconst (-1), 1) := by decide +kernel
theorem dL_valves_148 : decode cL_valves 148 = .ok (.invokestatic 135, 3) := by decide +kernel
theorem dL_valves_151 : decode cL_valves 151 = .ok (.sipush (-7200), 3) := by decide +kernel
theorem dL_valves_154 : decode cL_valves 154 = .ok (.if_icmp .ne 32, 3) := by decide +kernel
theorem dL_valves_157 : decode cL_valves 157 = .ok (.aload_n 0, 1) := by decide +kernel
theorem dL_valves_158 : decode cL_valves 158 = .ok (.iload 12, 2) := by decide +kernel
theorem dL_valves_160 : decode cL_valves 160 = .ok (.iconst 3, 1) := by decide +kernel
theorem dL_valves_161 : decode cL_valves 161 = .ok (.iconst 0, 1) := by decide +kernel
theorem dL_valves_162 : decode cL_valves 162 = .ok (.invokestatic 135, 3) := by decide +kernel
theorem dL_valves_165 : decode cL_valves 165 = .ok (.sipush (-7200), 3) := by decide +kernel
theorem dL_valves_168 : decode cL_valves 168 = .ok (.if_icmp .ne 18, 3) := by decide +kernel
theorem dL_valves_171 : decode cL_valves 171 = .ok (.aload_n 0, 1) := by decide +kernel
theorem dL_valves_172 : decode cL_valves 172 = .ok (.iload 12, 2) := by decide +kernel
theorem dL_valves_174 : decode cL_valves 174 = .ok (.iconst 0, 1) := by decide +kernel
theorem dL_valves_175 : decode cL_valves 175 = .ok (.bipush (-2), 2) := by decide +kernel
theorem dL_valves_177 : decode cL_valves 177 = .ok (.invokestatic 135, 3) := by decide +kernel
theorem dL_valves_180 : decode cL_valves 180 = .ok (.sipush (-7200), 3) := by decide +kernel
theorem dL_valves_183 : decode cL_valves 183 = .ok (.if_icmp .eq 5, 3) := by decide +kernel
theorem dL_valves_186 : decode cL_valves 186 = .ok (.iconst 0, 1) := by decide +kernel
theorem dL_valves_187 : decode cL_valves 187 = .ok (.ireturn, 1) := by decide +kernel
theorem dL_valves_188 : decode cL_valves 188 = .ok (.iload 13, 2) := by decide +kernel
theorem dL_valves_190 : decode cL_valves 190 = .ok (.iload 14, 2) := by decide +kernel
theorem dL_valves_192 : decode cL_valves 192 = .ok (.if_icmp .ne 25, 3) := by decide +kernel
theorem dL_valves_195 : decode cL_valves 195 = .ok (.aload_n 0, 1) := by decide +kernel
theorem dL_valves_196 : decode cL_valves 196 = .ok (.iload 12, 2) := by decide +kernel
theorem dL_valves_198 : decode cL_valves 198 = .ok (.iload 13, 2) := by decide +kernel
theorem dL_valves_200 : decode cL_valves 200 = .ok (.iload 14, 2) := by decide +kernel
theorem dL_valves_202 : decode cL_valves 202 = .ok (.invokestatic 135, 3) := by decide +kernel
theorem dL_valves_205 : decode cL_valves 205 = .ok (.sipush (-7200), 3) := by decide +kernel
theorem dL_valves_208 : decode cL_valves 208 = .ok (.if_icmp .ne 7, 3) := by decide +kernel
theorem dL_valves_211 : decode cL_valves 211 = .ok (.iconst 1, 1) := by decide +kernel
theorem dL_valves_212 : decode cL_valves 212 = .ok (.goto 4, 3) := by decide +kernel
theorem dL_valves_215 : decode cL_valves 215 = .ok (.iconst 0, 1) := by decide +kernel
theorem dL_valves_216 : decode cL_valves 216 = .ok (.ireturn, 1) := by decide +kernel
theorem dL_valves_217 : decode cL_valves 217 = .ok (.aload 4, 2) := by decide +kernel
theorem dL_valves_219 : decode cL_valves 219 = .ok (.aload 10, 2) := by decide +kernel
theorem dL_valves_221 : decode cL_valves 221 = .ok (.iload 12, 2) := by decide +kernel
theorem dL_valves_223 : decode cL_valves 223 = .ok (.invokestatic 138, 3) := by decide +kernel
theorem dL_valves_226 : decode cL_valves 226 = .ok (.ifCond .eq 25, 3) := by decide +kernel
theorem dL_valves_229 : decode cL_valves 229 = .ok (.aload_n 0, 1) := by decide +kernel
theorem dL_valves_230 : decode cL_valves 230 = .ok (.iload 12, 2) := by decide +kernel
theorem dL_valves_232 : decode cL_valves 232 = .ok (.iload 13, 2) := by decide +kernel
theorem dL_valves_234 : decode cL_valves 234 = .ok (.iload 14, 2) := by decide +kernel
theorem dL_valves_236 : decode cL_valves 236 = .ok (.invokestatic 135, 3) := by decide +kernel
theorem dL_valves_239 : decode cL_valves 239 = .ok (.sipush (-7300), 3) := by decide +kernel
theorem dL_valves_242 : decode cL_valves 242 = .ok (.if_icmp .ne 7, 3) := by decide +kernel
theorem dL_valves_245 : decode cL_valves 245 = .ok (.iconst 1, 1) := by decide +kernel
theorem dL_valves_246 : decode cL_valves 246 = .ok (.goto 4, 3) := by decide +kernel
theorem dL_valves_249 : decode cL_valves 249 = .ok (.iconst 0, 1) := by decide +kernel
theorem dL_valves_250 : decode cL_valves 250 = .ok (.ireturn, 1) := by decide +kernel
theorem dL_valves_251 : decode cL_valves 251 = .ok (.aload 5, 2) := by decide +kernel
theorem dL_valves_253 : decode cL_valves 253 = .ok (.iload 12, 2) := by decide +kernel
theorem dL_valves_255 : decode cL_valves 255 = .ok (.iload 13, 2) := by decide +kernel
theorem dL_valves_257 : decode cL_valves 257 = .ok (.iconst 1, 1) := by decide +kernel
theorem dL_valves_258 : decode cL_valves 258 = .ok (.iadd, 1) := by decide +kernel
theorem dL_valves_259 : decode cL_valves 259 = .ok (.iconst 4, 1) := by decide +kernel
theorem dL_valves_260 : decode cL_valves 260 = .ok (.iload 14, 2) := by decide +kernel
theorem dL_valves_262 : decode cL_valves 262 = .ok (.iconst 1, 1) := by decide +kernel
theorem dL_valves_263 : decode cL_valves 263 = .ok (.iadd, 1) := by decide +kernel
theorem dL_valves_264 : decode cL_valves 264 = .ok (.imul, 1) := by decide +kernel
theorem dL_valves_265 : decode cL_valves 265 = .ok (.iadd, 1) := by decide +kernel
theorem dL_valves_266 : decode cL_valves 266 = .ok (.iastore, 1) := by decide +kernel
theorem dL_valves_267 : decode cL_valves 267 = .ok (.aload_n 0, 1) := by decide +kernel
theorem dL_valves_268 : decode cL_valves 268 = .ok (.iload 12, 2) := by decide +kernel
theorem dL_valves_270 : decode cL_valves 270 = .ok (.iload 13, 2) := by decide +kernel
theorem dL_valves_272 : decode cL_valves 272 = .ok (.iload 14, 2) := by decide +kernel
theorem dL_valves_274 : decode cL_valves 274 = .ok (.invokestatic 135, 3) := by decide +kernel
theorem dL_valves_277 : decode cL_valves 277 = .ok (.aload 4, 2) := by decide +kernel
theorem dL_valves_279 : decode cL_valves 279 = .ok (.aload 7, 2) := by decide +kernel
theorem dL_valves_281 : decode cL_valves 281 = .ok (.aload 10, 2) := by decide +kernel
theorem dL_valves_283 : decode cL_valves 283 = .ok (.iload 12, 2) := by decide +kernel
theorem dL_valves_285 : decode cL_valves 285 = .ok (.invokestatic 141, 3) := by decide +kernel
theorem dL_valves_288 : decode cL_valves 288 = .ok (.if_icmp .ne 7, 3) := by decide +kernel
theorem dL_valves_291 : decode cL_valves 291 = .ok (.iconst 1, 1) := by decide +kernel
theorem dL_valves_292 : decode cL_valves 292 = .ok (.goto 4, 3) := by decide +kernel
theorem dL_valves_295 : decode cL_valves 295 = .ok (.iconst 0, 1) := by decide +kernel
theorem dL_valves_296 : decode cL_valves 296 = .ok (.ireturn, 1) := by decide +kernel
theorem dL_valves_297 : decode cL_valves 297 = .ok (.iload_n 1, 1) := by decide +kernel
theorem dL_valves_298 : decode cL_valves 298 = .ok (.iconst 5, 1) := by decide +kernel
theorem dL_valves_299 : decode cL_valves 299 = .ok (.if_icmp .ge 185, 3) := by decide +kernel
theorem dL_valves_302 : decode cL_valves 302 = .ok (.iload_n 2, 1) := by decide +kernel
theorem dL_valves_303 : decode cL_valves 303 = .ok (.sipush 768, 3) := by decide +kernel
theorem dL_valves_306 : decode cL_valves 306 = .ok (.iand, 1) := by decide +kernel
theorem dL_valves_307 : decode cL_valves 307 = .ok (.ifCond .le 7, 3) := by decide +kernel
theorem dL_valves_310 : decode cL_valves 310 = .ok (.iconst 1, 1) := by decide +kernel
theorem dL_valves_311 : decode cL_valves 311 = .ok (.goto 4, 3) := by decide +kernel
theorem dL_valves_314 : decode cL_valves 314 = .ok (.iconst 0, 1) := by decide +kernel
theorem dL_valves_315 : decode cL_valves 315 = .ok (.istore 13, 2) := by decide +kernel
theorem dL_valves_317 : decode cL_valves 317 = .ok (.aload_n 0, 1) := by decide +kernel
theorem dL_valves_318 : decode cL_valves 318 = .ok (.bipush 9, 2) := by decide +kernel
theorem dL_valves_320 : decode cL_valves 320 = .ok (.iload 12, 2) := by decide +kernel
theorem dL_valves_322 : decode cL_valves 322 = .ok (.iload 13, 2) := by decide +kernel
theorem dL_valves_324 : decode cL_valves 324 = .ok (.invokestatic 145, 3) := by decide +kernel
theorem dL_valves_327 : decode cL_valves 327 = .ok (.sipush (-7100), 3) := by decide +kernel
theorem dL_valves_330 : decode cL_valves 330 = .ok (.if_icmp .ne 33, 3) := by decide +kernel
theorem dL_valves_333 : decode cL_valves 333 = .ok (.aload_n 0, 1) := by decide +kernel
theorem dL_valves_334 : decode cL_valves 334 = .ok (.iload 11, 2) := by decide +kernel
theorem dL_valves_336 : decode cL_valves 336 = .ok (.bipush 8, 2) := by decide +kernel
theorem dL_valves_338 : decode cL_valves 338 = .ok (.iload 13, 2) := by decide +kernel
theorem dL_valves_340 : decode cL_valves 340 = .ok (.invokestatic 145, 3) := by decide +kernel
theorem dL_valves_343 : decode cL_valves 343 = .ok (.sipush (-7100), 3) := by decide +kernel
theorem dL_valves_346 : decode cL_valves 346 = .ok (.if_icmp .ne 17, 3) := by decide +kernel
theorem dL_valves_349 : decode cL_valves 349 = .ok (.aload_n 0, 1) := by decide +kernel
theorem dL_valves_350 : decode cL_valves 350 = .ok (.iconst (-1), 1) := by decide +kernel
theorem dL_valves_351 : decode cL_valves 351 = .ok (.iconst (-1), 1) := by decide +kernel
theorem dL_valves_352 : decode cL_valves 352 = .ok (.iload 13, 2) := by decide +kernel
theorem dL_valves_354 : decode cL_valves 354 = .ok (.invokestatic 145, 3) := by decide +kernel
theorem dL_valves_357 : decode cL_valves 357 = .ok (.sipush (-7100), 3) := by decide +kernel
theorem dL_valves_360 : decode cL_valves 360 = .ok (.if_icmp .eq 5, 3) := by decide +kernel
theorem dL_valves_363 : decode cL_valves 363 = .ok (.iconst 0, 1) := by decide +kernel
theorem dL_valves_364 : decode cL_valves 364 = .ok (.ireturn, 1) := by decide +kernel
theorem dL_valves_365 : decode cL_valves 365 = .ok (.aload 4, 2) := by decide +kernel
theorem dL_valves_367 : decode cL_valves 367 = .ok (.aload 7, 2) := by decide +kernel
theorem dL_valves_369 : decode cL_valves 369 = .ok (.aload 9, 2) := by decide +kernel
theorem dL_valves_371 : decode cL_valves 371 = .ok (.aload 10, 2) := by decide +kernel
theorem dL_valves_373 : decode cL_valves 373 = .ok (.iload 11, 2) := by decide +kernel
theorem dL_valves_375 : decode cL_valves 375 = .ok (.iload 12, 2) := by decide +kernel
theorem dL_valves_377 : decode cL_valves 377 = .ok (.invokestatic 124, 3) := by decide +kernel
theorem dL_valves_380 : decode cL_valves 380 = .ok (.ifCond .le 25, 3) := by decide +kernel
theorem dL_valves_383 : decode cL_valves 383 = .ok (.aload_n 0, 1) := by decide +kernel
theorem dL_valves_384 : decode cL_valves 384 = .ok (.iload 11, 2) := by decide +kernel
theorem dL_valves_386 : decode cL_valves 386 = .ok (.iload 12, 2) := by decide +kernel
theorem dL_valves_388 : decode cL_valves 388 = .ok (.iload 13, 2) := by decide +kernel
theorem dL_valves_390 : decode cL_valves 390 = .ok (.invokestatic 145, 3) := by decide +kernel
theorem dL_valves_393 : decode cL_valves 393 = .ok (.sipush (-7300), 3) := by decide +kernel
theorem dL_valves_396 : decode cL_valves 396 = .ok (.if_icmp .ne 7, 3) := by decide +kernel
theorem dL_valves_399 : decode cL_valves 399 = .ok (.iconst 1, 1) := by decide +kernel
theorem dL_valves_400 : decode cL_valves 400 = .ok (.goto 4, 3) := by decide +kernel
theorem dL_valves_403 : decode cL_valves 403 = .ok (.iconst 0, 1) := by decide +kernel
theorem dL_valves_404 : decode cL_valves 404 = .ok (.ireturn, 1) := by decide +kernel
theorem dL_valves_405 : decode cL_valves 405 = .ok (.aload 4, 2) := by decide +kernel
theorem dL_valves_407 : decode cL_valves 407 = .ok (.aload 10, 2) := by decide +kernel
theorem dL_valves_409 : decode cL_valves 409 = .ok (.iload 12, 2) := by decide +kernel
theorem dL_valves_411 : decode cL_valves 411 = .ok (.invokestatic 138, 3) := by decide +kernel
theorem dL_valves_414 : decode cL_valves 414 = .ok (.iload 13, 2) := by decide +kernel
theorem dL_valves_416 : decode cL_valves 416 = .ok (.if_icmp .eq 7, 3) := by decide +kernel
theorem dL_valves_419 : decode cL_valves 419 = .ok (.iconst 1, 1) := by decide +kernel
theorem dL_valves_420 : decode cL_valves 420 = .ok (.goto 4, 3) := by decide +kernel
theorem dL_valves_423 : decode cL_valves 423 = .ok (.iconst 0, 1) := by decide +kernel
theorem dL_valves_424 : decode cL_valves 424 = .ok (.istore 14, 2) := by decide +kernel
theorem dL_valves_426 : decode cL_valves 426 = .ok (.iload 14, 2) := by decide +kernel
theorem dL_valves_428 : decode cL_valves 428 = .ok (.ifCond .eq 27, 3) := by decide +kernel
theorem dL_valves_431 : decode cL_valves 431 = .ok (.aload 4, 2) := by decide +kernel
theorem dL_valves_433 : decode cL_valves 433 = .ok (.aload 10, 2) := by decide +kernel
theorem dL_valves_435 : decode cL_valves 435 = .ok (.iconst 0, 1) := by decide +kernel
theorem dL_valves_436 : decode cL_valves 436 = .ok (.iload 11, 2) := by decide +kernel
theorem dL_valves_438 : decode cL_valves 438 = .ok (.iload 12, 2) := by decide +kernel
theorem dL_valves_440 : decode cL_valves 440 = .ok (.iload 13, 2) := by decide +kernel
theorem dL_valves_442 : decode cL_valves 442 = .ok (.ifCond .eq 8, 3) := by decide +kernel
theorem dL_valves_445 : decode cL_valves 445 = .ok (.bipush 10, 2) := by decide +kernel
theorem dL_valves_447 : decode cL_valves 447 = .ok (.goto 4, 3) := by decide +kernel
theorem dL_valves_450 : decode cL_valves 450 = .ok (.iconst 0, 1) := by decide +kernel
theorem dL_valves_451 : decode cL_valves 451 = .ok (.iadd, 1) := by decide +kernel
theorem dL_valves_452 : decode cL_valves 452 = .ok (.invokestatic 148, 3) := by decide +kernel
theorem dL_valves_455 : decode cL_valves 455 = .ok (.aload_n 0, 1) := by decide +kernel
theorem dL_valves_456 : decode cL_valves 456 = .ok (.iload 11, 2) := by decide +kernel
theorem dL_valves_458 : decode cL_valves 458 = .ok (.iload 12, 2) := by decide +kernel
theorem dL_valves_460 : decode cL_valves 460 = .ok (.iload 13, 2) := by decide +kernel
theorem dL_valves_462 : decode cL_valves 462 = .ok (.invokestatic 145, 3) := by decide +kernel
theorem dL_valves_465 : decode cL_valves 465 = .ok (.iload 14, 2) := by decide +kernel
theorem dL_valves_467 : decode cL_valves 467 = .ok (.ifCond .eq 7, 3) := by decide +kernel
theorem dL_valves_470 : decode cL_valves 470 = .ok (.iconst 1, 1) := by decide +kernel
theorem dL_valves_471 : decode cL_valves 471 = .ok (.goto 4, 3) := by decide +kernel
theorem dL_valves_474 : decode cL_valves 474 = .ok (.iconst 0, 1) := by decide +kernel
theorem dL_valves_475 : decode cL_valves 475 = .ok (.if_icmp .ne 7, 3) := by decide +kernel
theorem dL_valves_478 : decode cL_valves 478 = .ok (.iconst 1, 1) := by decide +kernel
theorem dL_valves_479 : decode cL_valves 479 = .ok (.goto 4, 3) := by decide +kernel
theorem dL_valves_482 : decode cL_valves 482 = .ok (.iconst 0, 1) := by decide +kernel
theorem dL_valves_483 : decode cL_valves 483 = .ok (.ireturn, 1) := by decide +kernel
theorem dL_valves_484 : decode cL_valves 484 = .ok (.iload_n 1, 1) := by decide +kernel
theorem dL_valves_485 : decode cL_valves 485 = .ok (.bipush 7, 2) := by decide +kernel
theorem dL_valves_487 : decode cL_valves 487 = .ok (.if_icmp .ge 130, 3) := by decide +kernel
theorem dL_valves_490 : decode cL_valves 490 = .ok (.aload_n 0, 1) := by decide +kernel
theorem dL_valves_491 : decode cL_valves 491 = .ok (.bipush 9, 2) := by decide +kernel
theorem dL_valves_493 : decode cL_valves 493 = .ok (.iconst 0, 1) := by decide +kernel
theorem dL_valves_494 : decode cL_valves 494 = .ok (.invokestatic 152, 3) := by decide +kernel
theorem dL_valves_497 : decode cL_valves 497 = .ok (.sipush (-7100), 3) := by decide +kernel
theorem dL_valves_500 : decode cL_valves 500 = .ok (.if_icmp .ne 16, 3) := by decide +kernel
theorem dL_valves_503 : decode cL_valves 503 = .ok (.aload_n 0, 1) := by decide +kernel
theorem dL_valves_504 : decode cL_valves 504 = .ok (.iconst 0, 1) := by decide +kernel
theorem dL_valves_505 : decode cL_valves 505 = .ok (.bipush 8, 2) := by decide +kernel
theorem dL_valves_507 : decode cL_valves 507 = .ok (.invokestatic 152, 3) := by decide +kernel
theorem dL_valves_510 : decode cL_valves 510 = .ok (.sipush (-7100), 3) := by decide +kernel
theorem dL_valves_513 : decode cL_valves 513 = .ok (.if_icmp .eq 5, 3) := by decide +kernel
theorem dL_valves_516 : decode cL_valves 516 = .ok (.iconst 0, 1) := by decide +kernel
theorem dL_valves_517 : decode cL_valves 517 = .ok (.ireturn, 1) := by decide +kernel
theorem dL_valves_518 : decode cL_valves 518 = .ok (.aload 4, 2) := by decide +kernel
theorem dL_valves_520 : decode cL_valves 520 = .ok (.aload 7, 2) := by decide +kernel
theorem dL_valves_522 : decode cL_valves 522 = .ok (.aload 9, 2) := by decide +kernel
theorem dL_valves_524 : decode cL_valves 524 = .ok (.aload 10, 2) := by decide +kernel
theorem dL_valves_526 : decode cL_valves 526 = .ok (.iload 11, 2) := by decide +kernel
theorem dL_valves_528 : decode cL_valves 528 = .ok (.invokestatic 131, 3) := by decide +kernel
theorem dL_valves_531 : decode cL_valves 531 = .ok (.ifCond .eq 12, 3) := by decide +kernel
theorem dL_valves_534 : decode cL_valves 534 = .ok (.aload 10, 2) := by decide +kernel
theorem dL_valves_536 : decode cL_valves 536 = .ok (.iconst 5, 1) := by decide +kernel
theorem dL_valves_537 : decode cL_valves 537 = .ok (.iaload, 1) := by decide +kernel
theorem dL_valves_538 : decode cL_valves 538 = .ok (.bipush 40, 2) := by decide +kernel
theorem dL_valves_540 : decode cL_valves 540 = .ok (.if_icmp .ne 23, 3) := by decide +kernel
theorem dL_valves_543 : decode cL_valves 543 = .ok (.aload_n 0, 1) := by decide +kernel
theorem dL_valves_544 : decode cL_valves 544 = .ok (.iload 11, 2) := by decide +kernel
theorem dL_valves_546 : decode cL_valves 546 = .ok (.iload 12, 2) := by decide +kernel
theorem dL_valves_548 : decode cL_valves 548 = .ok (.invokestatic 152, 3) := by decide +kernel
theorem dL_valves_551 : decode cL_valves 551 = .ok (.sipush (-7300), 3) := by decide +kernel
theorem dL_valves_554 : decode cL_valves 554 = .ok (.if_icmp .ne 7, 3) := by decide +kernel
theorem dL_valves_557 : decode cL_valves 557 = .ok (.iconst 1, 1) := by decide +kernel
theorem dL_valves_558 : decode cL_valves 558 = .ok (.goto 4, 3) := by decide +kernel
theorem dL_valves_561 : decode cL_valves 561 = .ok (.iconst 0, 1) := by decide +kernel
theorem dL_valves_562 : decode cL_valves 562 = .ok (.ireturn, 1) := by decide +kernel
theorem dL_valves_563 : decode cL_valves 563 = .ok (.aload 7, 2) := by decide +kernel
theorem dL_valves_565 : decode cL_valves 565 = .ok (.aload 10, 2) := by decide +kernel
theorem dL_valves_567 : decode cL_valves 567 = .ok (.iconst 5, 1) := by decide +kernel
theorem dL_valves_568 : decode cL_valves 568 = .ok (.iaload, 1) := by decide +kernel
theorem dL_valves_569 : decode cL_valves 569 = .ok (.iload 12, 2) := by decide +kernel
theorem dL_valves_571 : decode cL_valves 571 = .ok (.iastore, 1) := by decide +kernel
theorem dL_valves_572 : decode cL_valves 572 = .ok (.aload 4, 2) := by decide +kernel
theorem dL_valves_574 : decode cL_valves 574 = .ok (.aload 10, 2) := by decide +kernel
theorem dL_valves_576 : decode cL_valves 576 = .ok (.iconst 1, 1) := by decide +kernel
theorem dL_valves_577 : decode cL_valves 577 = .ok (.iload 11, 2) := by decide +kernel
theorem dL_valves_579 : decode cL_valves 579 = .ok (.aload 10, 2) := by decide +kernel
theorem dL_valves_581 : decode cL_valves 581 = .ok (.iconst 5, 1) := by decide +kernel
theorem dL_valves_582 : decode cL_valves 582 = .ok (.iaload, 1) := by decide +kernel
theorem dL_valves_583 : decode cL_valves 583 = .ok (.invokestatic 148, 3) := by decide +kernel
theorem dL_valves_586 : decode cL_valves 586 = .ok (.aload 10, 2) := by decide +kernel
theorem dL_valves_588 : decode cL_valves 588 = .ok (.iconst 5, 1) := by decide +kernel
theorem dL_valves_589 : decode cL_valves 589 = .ok (.dup2, 1) := by decide +kernel
theorem dL_valves_590 : decode cL_valves 590 = .ok (.iaload, 1) := by decide +kernel
theorem dL_valves_591 : decode cL_valves 591 = .ok (.iconst 1, 1) := by decide +kernel
theorem dL_valves_592 : decode cL_valves 592 = .ok (.iadd, 1) := by decide +kernel
theorem dL_valves_593 : decode cL_valves 593 = .ok (.iastore, 1) := by decide +kernel
theorem dL_valves_594 : decode cL_valves 594 = .ok (.aload_n 0, 1) := by decide +kernel
theorem dL_valves_595 : decode cL_valves 595 = .ok (.iload 11, 2) := by decide +kernel
theorem dL_valves_597 : decode cL_valves 597 = .ok (.iload 12, 2) := by decide +kernel
theorem dL_valves_599 : decode cL_valves 599 = .ok (.invokestatic 152, 3) := by decide +kernel
theorem dL_valves_602 : decode cL_valves 602 = .ok (.aload 10, 2) := by decide +kernel
theorem dL_valves_604 : decode cL_valves 604 = .ok (.iconst 5, 1) := by decide +kernel
theorem dL_valves_605 : decode cL_valves 605 = .ok (.iaload, 1) := by decide +kernel
theorem dL_valves_606 : decode cL_valves 606 = .ok (.iconst 1, 1) := by decide +kernel
theorem dL_valves_607 : decode cL_valves 607 = .ok (.isub, 1) := by decide +kernel
theorem dL_valves_608 : decode cL_valves 608 = .ok (.if_icmp .ne 7, 3) := by decide +kernel
theorem dL_valves_611 : decode cL_valves 611 = .ok (.iconst 1, 1) := by decide +kernel
theorem dL_valves_612 : decode cL_valves 612 = .ok (.goto 4, 3) := by decide +kernel
theorem dL_valves_615 : decode cL_valves 615 = .ok (.iconst 0, 1) := by decide +kernel
theorem dL_valves_616 : decode cL_valves 616 = .ok (.ireturn, 1) := by decide +kernel
theorem dL_valves_617 : decode cL_valves 617 = .ok (.iload_n 1, 1) := by decide +kernel
theorem dL_valves_618 : decode cL_valves 618 = .ok (.bipush 11, 2) := by decide +kernel
theorem dL_valves_620 : decode cL_valves 620 = .ok (.if_icmp .ge 321, 3) := by decide +kernel
theorem dL_valves_623 : decode cL_valves 623 = .ok (.iload_n 2, 1) := by decide +kernel
theorem dL_valves_624 : decode cL_valves 624 = .ok (.iconst 3, 1) := by decide +kernel
theorem dL_valves_625 : decode cL_valves 625 = .ok (.ishr, 1) := by decide +kernel
theorem dL_valves_626 : decode cL_valves 626 = .ok (.aload 10, 2) := by decide +kernel
theorem dL_valves_628 : decode cL_valves 628 = .ok (.iconst 5, 1) := by decide +kernel
theorem dL_valves_629 : decode cL_valves 629 = .ok (.iaload, 1) := by decide +kernel
theorem dL_valves_630 : decode cL_valves 630 = .ok (.iconst 1, 1) := by decide +kernel
theorem dL_valves_631 : decode cL_valves 631 = .ok (.iadd, 1) := by decide +kernel
theorem dL_valves_632 : decode cL_valves 632 = .ok (.invokestatic 128, 3) := by decide +kernel
theorem dL_valves_635 : decode cL_valves 635 = .ok (.istore 13, 2) := by decide +kernel
theorem dL_valves_637 : decode cL_valves 637 = .ok (.iconst 0, 1) := by decide +kernel
theorem dL_valves_638 : decode cL_valves 638 = .ok (.istore 14, 2) := by decide +kernel
theorem dL_valves_640 : decode cL_valves 640 = .ok (.iload 14, 2) := by decide +kernel
theorem dL_valves_642 : decode cL_valves 642 = .ok (.aload 10, 2) := by decide +kernel
theorem dL_valves_644 : decode cL_valves 644 = .ok (.iconst 5, 1) := by decide +kernel
theorem dL_valves_645 : decode cL_valves 645 = .ok (.iaload, 1) := by decide +kernel
theorem dL_valves_646 : decode cL_valves 646 = .ok (.if_icmp .ge 49, 3) := by decide +kernel
theorem dL_valves_649 : decode cL_valves 649 = .ok (.iload_n 2, 1) := by decide +kernel
theorem dL_valves_650 : decode cL_valves 650 = .ok (.sipush 24576, 3) := by decide +kernel
theorem dL_valves_653 : decode cL_valves 653 = .ok (.iand, 1) := by decide +kernel
theorem dL_valves_654 : decode cL_valves 654 = .ok (.ifCond .le 41, 3) := by decide +kernel
theorem dL_valves_657 : decode cL_valves 657 = .ok (.iload 13, 2) := by decide +kernel
theorem dL_valves_659 : decode cL_valves 659 = .ok (.aload 10, 2) := by decide +kernel
theorem dL_valves_661 : decode cL_valves 661 = .ok (.iconst 5, 1) := by decide +kernel
theorem dL_valves_662 : decode cL_valves 662 = .ok (.iaload, 1) := by decide +kernel
theorem dL_valves_663 : decode cL_valves 663 = .ok (.if_icmp .eq 15, 3) := by decide +kernel
theorem dL_valves_666 : decode cL_valves 666 = .ok (.aload 4, 2) := by decide +kernel
theorem dL_valves_668 : decode cL_valves 668 = .ok (.aload 10, 2) := by decide +kernel
theorem dL_valves_670 : decode cL_valves 670 = .ok (.iload 13, 2) := by decide +kernel
theorem dL_valves_672 : decode cL_valves 672 = .ok (.invokestatic 120, 3) := by decide +kernel
theorem dL_valves_675 : decode cL_valves 675 = .ok (.ifCond .ge 20, 3) := by decide +kernel
theorem dL_valves_678 : decode cL_valves 678 = .ok (.iload 13, 2) := by decide +kernel
theorem dL_valves_680 : decode cL_valves 680 = .ok (.iconst 1, 1) := by decide +kernel
theorem dL_valves_681 : decode cL_valves 681 = .ok (.iadd, 1) := by decide +kernel
theorem dL_valves_682 : decode cL_valves 682 = .ok (.aload 10, 2) := by decide +kernel
theorem dL_valves_684 : decode cL_valves 684 = .ok (.iconst 5, 1) := by decide +kernel
theorem dL_valves_685 : decode cL_valves 685 = .ok (.iaload, 1) := by decide +kernel
theorem dL_valves_686 : decode cL_valves 686 = .ok (.irem, 1) := by decide +kernel
theorem dL_valves_687 : decode cL_valves 687 = .ok (.istore 13, 2) := by decide +kernel
theorem dL_valves_689 : decode cL_valves 689 = .ok (.iinc 14 1, 3) := by decide +kernel
theorem dL_valves_692 : decode cL_valves 692 = .ok (.goto (-52), 3) := by decide +kernel
theorem dL_valves_695 : decode cL_valves 695 = .ok (.iload 13, 2) := by decide +kernel
theorem dL_valves_697 : decode cL_valves 697 = .ok (.aload 10, 2) := by decide +kernel
theorem dL_valves_699 : decode cL_valves 699 = .ok (.iconst 5, 1) := by decide +kernel
theorem dL_valves_700 : decode cL_valves 700 = .ok (.iaload, 1) := by decide +kernel
theorem dL_valves_701 : decode cL_valves 701 = .ok (.if_icmp .ne 47, 3) := by decide +kernel
theorem dL_valves_704 : decode cL_valves 704 = .ok (.aload_n 0, 1) := by decide +kernel
theorem dL_valves_705 : decode cL_valves 705 = .ok (.iload 11, 2) := by decide +kernel
theorem dL_valves_707 : decode cL_valves 707 = .ok (.iload 13, 2) := by decide +kernel
theorem dL_valves_709 : decode cL_valves 709 = .ok (.invokestatic 155, 3) := by decide +kernel
theorem dL_valves_712 : decode cL_valves 712 = .ok (.sipush (-7100), 3) := by decide +kernel
theorem dL_valves_715 : decode cL_valves 715 = .ok (.if_icmp .ne 31, 3) := by decide +kernel
theorem dL_valves_718 : decode cL_valves 718 = .ok (.aload_n 0, 1) := by decide +kernel
theorem dL_valves_719 : decode cL_valves 719 = .ok (.iload 13, 2) := by decide +kernel
theorem dL_valves_721 : decode cL_valves 721 = .ok (.invokestatic 157, 3) := by decide +kernel
theorem dL_valves_724 : decode cL_valves 724 = .ok (.sipush (-7100), 3) := by decide +kernel
theorem dL_valves_727 : decode cL_valves 727 = .ok (.if_icmp .ne 19, 3) := by decide +kernel
theorem dL_valves_730 : decode cL_valves 730 = .ok (.aload_n 0, 1) := by decide +kernel
theorem dL_valves_731 : decode cL_valves 731 = .ok (.iconst 0, 1) := by decide +kernel
theorem dL_valves_732 : decode cL_valves 732 = .ok (.iconst (-1), 1) := by decide +kernel
theorem dL_valves_733 : decode cL_valves 733 = .ok (.invokestatic 155, 3) := by decide +kernel
theorem dL_valves_736 : decode cL_valves 736 = .ok (.sipush (-7100), 3) := by decide +kernel
theorem dL_valves_739 : decode cL_valves 739 = .ok (.if_icmp .ne 7, 3) := by decide +kernel
theorem dL_valves_742 : decode cL_valves 742 = .ok (.iconst 1, 1) := by decide +kernel
theorem dL_valves_743 : decode cL_valves 743 = .ok (.goto 4, 3) := by decide +kernel
theorem dL_valves_746 : decode cL_valves 746 = .ok (.iconst 0, 1) := by decide +kernel
theorem dL_valves_747 : decode cL_valves 747 = .ok (.ireturn, 1) := by decide +kernel
theorem dL_valves_748 : decode cL_valves 748 = .ok (.aload 4, 2) := by decide +kernel
theorem dL_valves_750 : decode cL_valves 750 = .ok (.aload 10, 2) := by decide +kernel
theorem dL_valves_752 : decode cL_valves 752 = .ok (.iload 13, 2) := by decide +kernel
theorem dL_valves_754 : decode cL_valves 754 = .ok (.invokestatic 120, 3) := by decide +kernel
theorem dL_valves_757 : decode cL_valves 757 = .ok (.istore 14, 2) := by decide +kernel
theorem dL_valves_759 : decode cL_valves 759 = .ok (.aload_n 0, 1) := by decide +kernel
theorem dL_valves_760 : decode cL_valves 760 = .ok (.bipush 9, 2) := by decide +kernel
theorem dL_valves_762 : decode cL_valves 762 = .ok (.iload 13, 2) := by decide +kernel
theorem dL_valves_764 : decode cL_valves 764 = .ok (.invokestatic 155, 3) := by decide +kernel
theorem dL_valves_767 : decode cL_valves 767 = .ok (.sipush (-7100), 3) := by decide +kernel
theorem dL_valves_770 : decode cL_valves 770 = .ok (.if_icmp .eq 5, 3) := by decide +kernel
theorem dL_valves_773 : decode cL_valves 773 = .ok (.iconst 0, 1) := by decide +kernel
theorem dL_valves_774 : decode cL_valves 774 = .ok (.ireturn, 1) := by decide +kernel
theorem dL_valves_775 : decode cL_valves 775 = .ok (.iload 14, 2) := by decide +kernel
theorem dL_valves_777 : decode cL_valves 777 = .ok (.ifCond .lt 38, 3) := by decide +kernel
theorem dL_valves_780 : decode cL_valves 780 = .ok (.aload 4, 2) := by decide +kernel
theorem dL_valves_782 : decode cL_valves 782 = .ok (.aload 7, 2) := by decide +kernel
theorem dL_valves_784 : decode cL_valves 784 = .ok (.aload 9, 2) := by decide +kernel
theorem dL_valves_786 : decode cL_valves 786 = .ok (.aload 10, 2) := by decide +kernel
theorem dL_valves_788 : decode cL_valves 788 = .ok (.iload 11, 2) := by decide +kernel
theorem dL_valves_790 : decode cL_valves 790 = .ok (.invokestatic 131, 3) := by decide +kernel
theorem dL_valves_793 : decode cL_valves 793 = .ok (.ifCond .eq 22, 3) := by decide +kernel
theorem dL_valves_796 : decode cL_valves 796 = .ok (.iload 14, 2) := by decide +kernel
theorem dL_valves_798 : decode cL_valves 798 = .ok (.iload 11, 2) := by decide +kernel
theorem dL_valves_800 : decode cL_valves 800 = .ok (.if_icmp .eq 35, 3) := by decide +kernel
theorem dL_valves_803 : decode cL_valves 803 = .ok (.aload 4, 2) := by decide +kernel
theorem dL_valves_805 : decode cL_valves 805 = .ok (.aload 10, 2) := by decide +kernel
theorem dL_valves_807 : decode cL_valves 807 = .ok (.iload 14, 2) := by decide +kernel
theorem dL_valves_809 : decode cL_valves 809 = .ok (.invokestatic 116, 3) := by decide +kernel
theorem dL_valves_812 : decode cL_valves 812 = .ok (.ifCond .ne 23, 3) := by decide +kernel
theorem dL_valves_815 : decode cL_valves 815 = .ok (.aload_n 0, 1) := by decide +kernel
theorem dL_valves_816 : decode cL_valves 816 = .ok (.iload 11, 2) := by decide +kernel
theorem dL_valves_818 : decode cL_valves 818 = .ok (.iload 13, 2) := by decide +kernel
theorem dL_valves_820 : decode cL_valves 820 = .ok (.invokestatic 155, 3) := by decide +kernel
theorem dL_valves_823 : decode cL_valves 823 = .ok (.sipush (-7300), 3) := by decide +kernel
theorem dL_valves_826 : decode cL_valves 826 = .ok (.if_icmp .ne 7, 3) := by decide +kernel
theorem dL_valves_829 : decode cL_valves 829 = .ok (.iconst 1, 1) := by decide +kernel
theorem dL_valves_830 : decode cL_valves 830 = .ok (.goto 4, 3) := by decide +kernel
theorem dL_valves_833 : decode cL_valves 833 = .ok (.iconst 0, 1) := by decide +kernel
theorem dL_valves_834 : decode cL_valves 834 = .ok (.ireturn, 1) := by decide +kernel
theorem dL_valves_835 : decode cL_valves 835 = .ok (.iconst 0, 1) := by decide +kernel
theorem dL_valves_836 : decode cL_valves 836 = .ok (.istore 15, 2) := by decide +kernel
theorem dL_valves_838 : decode cL_valves 838 = .ok (.aload 8, 2) := by decide +kernel
theorem dL_valves_840 : decode cL_valves 840 = .ok (.iload 13, 2) := by decide +kernel
theorem dL_valves_842 : decode cL_valves 842 = .ok (.dup2, 1) := by decide +kernel
theorem dL_valves_843 : decode cL_valves 843 = .ok (.iaload, 1) := by decide +kernel
theorem dL_valves_844 : decode cL_valves 844 = .ok (.iconst 1, 1) := by decide +kernel
theorem dL_valves_845 : decode cL_valves 845 = .ok (.iload 11, 2) := by decide +kernel
theorem dL_valves_847 : decode cL_valves 847 = .ok (.ishl, 1) := by decide +kernel
theorem dL_valves_848 : decode cL_valves 848 = .ok (.ior, 1) := by decide +kernel
theorem dL_valves_849 : decode cL_valves 849 = .ok (.iastore, 1) := by decide +kernel
theorem dL_valves_850 : decode cL_valves 850 = .ok (.iconst 0, 1) := by decide +kernel
theorem dL_valves_851 : decode cL_valves 851 = .ok (.istore 16, 2) := by decide +kernel
theorem dL_valves_853 : decode cL_valves 853 = .ok (.iload 16, 2) := by decide +kernel
theorem dL_valves_855 : decode cL_valves 855 = .ok (.bipush 9, 2) := by decide +kernel
theorem dL_valves_857 : decode cL_valves 857 = .ok (.if_icmp .ge 24, 3) := by decide +kernel
theorem dL_valves_860 : decode cL_valves 860 = .ok (.iload 15, 2) := by decide +kernel
theorem dL_valves_862 : decode cL_valves 862 = .ok (.aload 8, 2) := by decide +kernel
theorem dL_valves_864 : decode cL_valves 864 = .ok (.iload 13, 2) := by decide +kernel
theorem dL_valves_866 : decode cL_valves 866 = .ok (.iaload, 1) := by decide +kernel
theorem dL_valves_867 : decode cL_valves 867 = .ok (.iload 16, 2) := by decide +kernel
theorem dL_valves_869 : decode cL_valves 869 = .ok (.ishr, 1) := by decide +kernel
theorem dL_valves_870 : decode cL_valves 870 = .ok (.iconst 1, 1) := by decide +kernel
theorem dL_valves_871 : decode cL_valves 871 = .ok (.iand, 1) := by decide +kernel
theorem dL_valves_872 : decode cL_valves 872 = .ok (.iadd, 1) := by decide +kernel
theorem dL_valves_873 : decode cL_valves 873 = .ok (.istore 15, 2) := by decide +kernel
theorem dL_valves_875 : decode cL_valves 875 = .ok (.iinc 16 1, 3) := by decide +kernel
theorem dL_valves_878 : decode cL_valves 878 = .ok (.goto (-25), 3) := by decide +kernel
theorem dL_valves_881 : decode cL_valves 881 = .ok (.iload 14, 2) := by decide +kernel
theorem dL_valves_883 : decode cL_valves 883 = .ok (.iload 11, 2) := by decide +kernel
theorem dL_valves_885 : decode cL_valves 885 = .ok (.if_icmp .eq 26, 3) := by decide +kernel
theorem dL_valves_888 : decode cL_valves 888 = .ok (.iload 15, 2) := by decide +kernel
theorem dL_valves_890 : decode cL_valves 890 = .ok (.iconst 2, 1) := by decide +kernel
theorem dL_valves_891 : decode cL_valves 891 = .ok (.if_icmp .ge 20, 3) := by decide +kernel
theorem dL_valves_894 : decode cL_valves 894 = .ok (.aload_n 0, 1) := by decide +kernel
theorem dL_valves_895 : decode cL_valves 895 = .ok (.iload 11, 2) := by decide +kernel
theorem dL_valves_897 : decode cL_valves 897 = .ok (.iload 13, 2) := by decide +kernel
theorem dL_valves_899 : decode cL_valves 899 = .ok (.invokestatic 155, 3) := by decide +kernel
theorem dL_valves_902 : decode cL_valves 902 = .ok (.ifCond .ne 7, 3) := by decide +kernel
theorem dL_valves_905 : decode cL_valves 905 = .ok (.iconst 1, 1) := by decide +kernel
theorem dL_valves_906 : decode cL_valves 906 = .ok (.goto 4, 3) := by decide +kernel
theorem dL_valves_909 : decode cL_valves 909 = .ok (.iconst 0, 1) := by decide +kernel
theorem dL_valves_910 : decode cL_valves 910 = .ok (.ireturn, 1) := by decide +kernel
theorem dL_valves_911 : decode cL_valves 911 = .ok (.aload 4, 2) := by decide +kernel
theorem dL_valves_913 : decode cL_valves 913 = .ok (.aload 10, 2) := by decide +kernel
theorem dL_valves_915 : decode cL_valves 915 = .ok (.iconst 2, 1) := by decide +kernel
theorem dL_valves_916 : decode cL_valves 916 = .ok (.iload 11, 2) := by decide +kernel
theorem dL_valves_918 : decode cL_valves 918 = .ok (.iload 13, 2) := by decide +kernel
theorem dL_valves_920 : decode cL_valves 920 = .ok (.invokestatic 148, 3) := by decide +kernel
theorem dL_valves_923 : decode cL_valves 923 = .ok (.aload_n 0, 1) := by decide +kernel
theorem dL_valves_924 : decode cL_valves 924 = .ok (.iload 11, 2) := by decide +kernel
theorem dL_valves_926 : decode cL_valves 926 = .ok (.iload 13, 2) := by decide +kernel
theorem dL_valves_928 : decode cL_valves 928 = .ok (.invokestatic 155, 3) := by decide +kernel
theorem dL_valves_931 : decode cL_valves 931 = .ok (.iconst 1, 1) := by decide +kernel
theorem dL_valves_932 : decode cL_valves 932 = .ok (.if_icmp .ne 7, 3) := by decide +kernel
theorem dL_valves_935 : decode cL_valves 935 = .ok (.iconst 1, 1) := by decide +kernel
theorem dL_valves_936 : decode cL_valves 936 = .ok (.goto 4, 3) := by decide +kernel
theorem dL_valves_939 : decode cL_valves 939 = .ok (.iconst 0, 1) := by decide +kernel
theorem dL_valves_940 : decode cL_valves 940 = .ok (.ireturn, 1) := by decide +kernel
theorem dL_valves_941 : decode cL_valves 941 = .ok (.iload_n 2, 1) := by decide +kernel
theorem dL_valves_942 : decode cL_valves 942 = .ok (.iconst 3, 1) := by decide +kernel
theorem dL_valves_943 : decode cL_valves 943 = .ok (.invokestatic 128, 3) := by decide +kernel
theorem dL_valves_946 : decode cL_valves 946 = .ok (.istore 13, 2) := by decide +kernel
theorem dL_valves_948 : decode cL_valves 948 = .ok (.iload_n 3, 1) := by decide +kernel
theorem dL_valves_949 : decode cL_valves 949 = .ok (.iconst 3, 1) := by decide +kernel
theorem dL_valves_950 : decode cL_valves 950 = .ok (.ishr, 1) := by decide +kernel
theorem dL_valves_951 : decode cL_valves 951 = .ok (.iload_n 3, 1) := by decide +kernel
theorem dL_valves_952 : decode cL_valves 952 = .ok (.bipush 6, 2) := by decide +kernel
theorem dL_valves_954 : decode cL_valves 954 = .ok (.iand, 1) := by decide +kernel
theorem dL_valves_955 : decode cL_valves 955 = .ok (.ifCond .ne 9, 3) := by decide +kernel
theorem dL_valves_958 : decode cL_valves 958 = .ok (.sipush 1001, 3) := by decide +kernel
theorem dL_valves_961 : decode cL_valves 961 = .ok (.goto 5, 3) := by decide +kernel
theorem dL_valves_964 : decode cL_valves 964 = .ok (.bipush 60, 2) := by decide +kernel
theorem dL_valves_966 : decode cL_valves 966 = .ok (.invokestatic 128, 3) := by decide +kernel
theorem dL_valves_969 : decode cL_valves 969 = .ok (.istore 14, 2) := by decide +kernel
theorem dL_valves_971 : decode cL_valves 971 = .ok (.iload_n 2, 1) := by decide +kernel
theorem dL_valves_972 : decode cL_valves 972 = .ok (.sipush 1536, 3) := by decide +kernel
theorem dL_valves_975 : decode cL_valves 975 = .ok (.iand, 1) := by decide +kernel
theorem dL_valves_976 : decode cL_valves 976 = .ok (.sipush 512, 3) := by decide +kernel
theorem dL_valves_979 : decode cL_valves 979 = .ok (.if_icmp .le 7, 3) := by decide +kernel
theorem dL_valves_982 : decode cL_valves 982 = .ok (.iconst 1, 1) := by decide +kernel
theorem dL_valves_983 : decode cL_valves 983 = .ok (.goto 4, 3) := by decide +kernel
theorem dL_valves_986 : decode cL_valves 986 = .ok (.iconst 0, 1) := by decide +kernel
theorem dL_valves_987 : decode cL_valves 987 = .ok (.istore 15, 2) := by decide +kernel
theorem dL_valves_989 : decode cL_valves 989 = .ok (.iload_n 3, 1) := by decide +kernel
theorem dL_valves_990 : decode cL_valves 990 = .ok (.sipush 16384, 3) := by decide +kernel
theorem dL_valves_993 : decode cL_valves 993 = .ok (.iand, 1) := by decide +kernel
theorem dL_valves_994 : decode cL_valves 994 = .ok (.ifCond .le 7, 3) := by decide +kernel
theorem dL_valves_997 : decode cL_valves 997 = .ok (.iconst 1, 1) := by decide +kernel
theorem dL_valves_998 : decode cL_valves 998 = .ok (.goto 4, 3) := by decide +kernel
theorem dL_valves_1001 : decode cL_valves 1001 = .ok (.iconst 0, 1) := by decide +kernel
theorem dL_valves_1002 : decode cL_valves 1002 = .ok (.istore 16, 2) := by decide +kernel
theorem dL_valves_1004 : decode cL_valves 1004 = .ok (.aload_n 0, 1) := by decide +kernel
theorem dL_valves_1005 : decode cL_valves 1005 = .ok (.iconst 3, 1) := by decide +kernel
theorem dL_valves_1006 : decode cL_valves 1006 = .ok (.iconst 0, 1) := by decide +kernel
theorem dL_valves_1007 : decode cL_valves 1007 = .ok (.iload 15, 2) := by decide +kernel
theorem dL_valves_1009 : decode cL_valves 1009 = .ok (.iconst 0, 1) := by decide +kernel
theorem dL_valves_1010 : decode cL_valves 1010 = .ok (.iload 16, 2) := by decide +kernel
theorem dL_valves_1012 : decode cL_valves 1012 = .ok (.invokestatic 160, 3) := by decide +kernel
theorem dL_valves_1015 : decode cL_valves 1015 = .ok (.sipush (-7100), 3) := by decide +kernel
theorem dL_valves_1018 : decode cL_valves 1018 = .ok (.if_icmp .ne 61, 3) := by decide +kernel
theorem dL_valves_1021 : decode cL_valves 1021 = .ok (.aload_n 0, 1) := by decide +kernel
theorem dL_valves_1022 : decode cL_valves 1022 = .ok (.iconst 0, 1) := by decide +kernel
theorem dL_valves_1023 : decode cL_valves 1023 = .ok (.iconst (-1), 1) := by decide +kernel
theorem dL_valves_1024 : decode cL_valves 1024 = .ok (.iload 15, 2) := by decide +kernel
theorem dL_valves_1026 : decode cL_valves 1026 = .ok (.bipush 8, 2) := by decide +kernel
theorem dL_valves_1028 : decode cL_valves 1028 = .ok (.iload 16, 2) := by decide +kernel
theorem dL_valves_1030 : decode cL_valves 1030 = .ok (.invokestatic 160, 3) := by decide +kernel
theorem dL_valves_1033 : decode cL_valves 1033 = .ok (.sipush (-7100), 3) := by decide +kernel
theorem dL_valves_1036 : decode cL_valves 1036 = .ok (.if_icmp .ne 43, 3) := by decide +kernel
theorem dL_valves_1039 : decode cL_valves 1039 = .ok (.aload_n 0, 1) := by decide +kernel
theorem dL_valves_1040 : decode cL_valves 1040 = .ok (.iload 13, 2) := by decide +kernel
theorem dL_valves_1042 : decode cL_valves 1042 = .ok (.iconst (-1), 1) := by decide +kernel
theorem dL_valves_1043 : decode cL_valves 1043 = .ok (.iload 15, 2) := by decide +kernel
theorem dL_valves_1045 : decode cL_valves 1045 = .ok (.iload 12, 2) := by decide +kernel
theorem dL_valves_1047 : decode cL_valves 1047 = .ok (.iload 16, 2) := by decide +kernel
theorem dL_valves_1049 : decode cL_valves 1049 = .ok (.invokestatic 160, 3) := by decide +kernel
theorem dL_valves_1052 : decode cL_valves 1052 = .ok (.sipush (-7200), 3) := by decide +kernel
theorem dL_valves_1055 : decode cL_valves 1055 = .ok (.if_icmp .ne 24, 3) := by decide +kernel
theorem dL_valves_1058 : decode cL_valves 1058 = .ok (.aload_n 0, 1) := by decide +kernel
theorem dL_valves_1059 : decode cL_valves 1059 = .ok (.iload 13, 2) := by decide +kernel
theorem dL_valves_1061 : decode cL_valves 1061 = .ok (.sipush 1001, 3) := by decide +kernel
theorem dL_valves_1064 : decode cL_valves 1064 = .ok (.iload 15, 2) := by decide +kernel
theorem dL_valves_1066 : decode cL_valves 1066 = .ok (.iload 12, 2) := by decide +kernel
theorem dL_valves_1068 : decode cL_valves 1068 = .ok (.iload 16, 2) := by decide +kernel
theorem dL_valves_1070 : decode cL_valves 1070 = .ok (.invokestatic 160, 3) := by decide +kernel
theorem dL_valves_1073 : decode cL_valves 1073 = .ok (.sipush (-7200), 3) := by decide +kernel
theorem dL_valves_1076 : decode cL_valves 1076 = .ok (.if_icmp .eq 5, 3) := by decide +kernel
theorem dL_valves_1079 : decode cL_valves 1079 = .ok (.iconst 0, 1) := by decide +kernel
theorem dL_valves_1080 : decode cL_valves 1080 = .ok (.ireturn, 1) := by decide +kernel
theorem dL_valves_1081 : decode cL_valves 1081 = .ok (.aload 10, 2) := by decide +kernel
theorem dL_valves_1083 : decode cL_valves 1083 = .ok (.iconst 4, 1) := by decide +kernel
theorem dL_valves_1084 : decode cL_valves 1084 = .ok (.iaload, 1) := by decide +kernel
theorem dL_valves_1085 : decode cL_valves 1085 = .ok (.iconst 3, 1) := by decide +kernel
theorem dL_valves_1086 : decode cL_valves 1086 = .ok (.if_icmp .ne 20, 3) := by decide +kernel
theorem dL_valves_1089 : decode cL_valves 1089 = .ok (.aload_n 0, 1) := by decide +kernel
theorem dL_valves_1090 : decode cL_valves 1090 = .ok (.iconst 3, 1) := by decide +kernel
theorem dL_valves_1091 : decode cL_valves 1091 = .ok (.invokestatic 163, 3) := by decide +kernel
theorem dL_valves_1094 : decode cL_valves 1094 = .ok (.sipush (-7100), 3) := by decide +kernel
theorem dL_valves_1097 : decode cL_valves 1097 = .ok (.if_icmp .ne 7, 3) := by decide +kernel
theorem dL_valves_1100 : decode cL_valves 1100 = .ok (.iconst 1, 1) := by decide +kernel
theorem dL_valves_1101 : decode cL_valves 1101 = .ok (.goto 4, 3) := by decide +kernel
theorem dL_valves_1104 : decode cL_valves 1104 = .ok (.iconst 0, 1) := by decide +kernel
theorem dL_valves_1105 : decode cL_valves 1105 = .ok (.ireturn, 1) := by decide +kernel
theorem dL_valves_1106 : decode cL_valves 1106 = .ok (.aload 6, 2) := by decide +kernel
theorem dL_valves_1108 : decode cL_valves 1108 = .ok (.aload 10, 2) := by decide +kernel
theorem dL_valves_1110 : decode cL_valves 1110 = .ok (.iconst 4, 1) := by decide +kernel
theorem dL_valves_1111 : decode cL_valves 1111 = .ok (.iaload, 1) := by decide +kernel
theorem dL_valves_1112 : decode cL_valves 1112 = .ok (.iload 13, 2) := by decide +kernel
theorem dL_valves_1114 : decode cL_valves 1114 = .ok (.iload 15, 2) := by decide +kernel
theorem dL_valves_1116 : decode cL_valves 1116 = .ok (.ifCond .eq 7, 3) := by decide +kernel
theorem dL_valves_1119 : decode cL_valves 1119 = .ok (.iconst 4, 1) := by decide +kernel
theorem dL_valves_1120 : decode cL_valves 1120 = .ok (.goto 4, 3) := by decide +kernel
theorem dL_valves_1123 : decode cL_valves 1123 = .ok (.iconst 0, 1) := by decide +kernel
theorem dL_valves_1124 : decode cL_valves 1124 = .ok (.iadd, 1) := by decide +kernel
theorem dL_valves_1125 : decode cL_valves 1125 = .ok (.bipush 8, 2) := by decide +kernel
theorem dL_valves_1127 : decode cL_valves 1127 = .ok (.iload 12, 2) := by decide +kernel
theorem dL_valves_1129 : decode cL_valves 1129 = .ok (.imul, 1) := by decide +kernel
theorem dL_valves_1130 : decode cL_valves 1130 = .ok (.iadd, 1) := by decide +kernel
theorem dL_valves_1131 : decode cL_valves 1131 = .ok (.iload 16, 2) := by decide +kernel
theorem dL_valves_1133 : decode cL_valves 1133 = .ok (.ifCond .eq 8, 3) := by decide +kernel
theorem dL_valves_1136 : decode cL_valves 1136 = .ok (.bipush 64, 2) := by decide +kernel
theorem dL_valves_1138 : decode cL_valves 1138 = .ok (.goto 4, 3) := by decide +kernel
theorem dL_valves_1141 : decode cL_valves 1141 = .ok (.iconst 0, 1) := by decide +kernel
theorem dL_valves_1142 : decode cL_valves 1142 = .ok (.iadd, 1) := by decide +kernel
theorem dL_valves_1143 : decode cL_valves 1143 = .ok (.sipush 128, 3) := by decide +kernel
theorem dL_valves_1146 : decode cL_valves 1146 = .ok (.iload 14, 2) := by decide +kernel
theorem dL_valves_1148 : decode cL_valves 1148 = .ok (.imul, 1) := by decide +kernel
theorem dL_valves_1149 : decode cL_valves 1149 = .ok (.iadd, 1) := by decide +kernel
theorem dL_valves_1150 : decode cL_valves 1150 = .ok (.iastore, 1) := by decide +kernel
theorem dL_valves_1151 : decode cL_valves 1151 = .ok (.aload 10, 2) := by decide +kernel
theorem dL_valves_1153 : decode cL_valves 1153 = .ok (.iconst 4, 1) := by decide +kernel
theorem dL_valves_1154 : decode cL_valves 1154 = .ok (.dup2, 1) := by decide +kernel
theorem dL_valves_1155 : decode cL_valves 1155 = .ok (.iaload, 1) := by decide +kernel
theorem dL_valves_1156 : decode cL_valves 1156 = .ok (.iconst 1, 1) := by decide +kernel
theorem dL_valves_1157 : decode cL_valves 1157 = .ok (.iadd, 1) := by decide +kernel
theorem dL_valves_1158 : decode cL_valves 1158 = .ok (.iastore, 1) := by decide +kernel
theorem dL_valves_1159 : decode cL_valves 1159 = .ok (.aload_n 0, 1) := by decide +kernel
theorem dL_valves_1160 : decode cL_valves 1160 = .ok (.iload 13, 2) := by decide +kernel
theorem dL_valves_1162 : decode cL_valves 1162 = .ok (.iload 14, 2) := by decide +kernel
theorem dL_valves_1164 : decode cL_valves 1164 = .ok (.iload 15, 2) := by decide +kernel
theorem dL_valves_1166 : decode cL_valves 1166 = .ok (.iload 12, 2) := by decide +kernel
theorem dL_valves_1168 : decode cL_valves 1168 = .ok (.iload 16, 2) := by decide +kernel
theorem dL_valves_1170 : decode cL_valves 1170 = .ok (.invokestatic 160, 3) := by decide +kernel
theorem dL_valves_1173 : decode cL_valves 1173 = .ok (.aload 10, 2) := by decide +kernel
theorem dL_valves_1175 : decode cL_valves 1175 = .ok (.iconst 4, 1) := by decide +kernel
theorem dL_valves_1176 : decode cL_valves 1176 = .ok (.iaload, 1) := by decide +kernel
theorem dL_valves_1177 : decode cL_valves 1177 = .ok (.iconst 1, 1) := by decide +kernel
theorem dL_valves_1178 : decode cL_valves 1178 = .ok (.isub, 1) := by decide +kernel
theorem dL_valves_1179 : decode cL_valves 1179 = .ok (.if_icmp .ne 7, 3) := by decide +kernel
theorem dL_valves_1182 : decode cL_valves 1182 = .ok (.iconst 1, 1) := by decide +kernel
theorem dL_valves_1183 : decode cL_valves 1183 = .ok (.goto 4, 3) := by decide +kernel
theorem dL_valves_1186 : decode cL_valves 1186 = .ok (.iconst 0, 1) := by decide +kernel
theorem dL_valves_1187 : decode cL_valves 1187 = .ok (.ireturn, 1) := by decide +kernel
set_option maxRecDepth 20000 in
theorem ggL_flow_L_opened : GoodIn wsL_flow wsL_opened := goodIn_r _ [4, 5, 6, 3, 7, 8, 9, 10, 11] (by decide +kernel) (by decide +kernel)
set_option maxRecDepth 20000 in
theorem gL_flow_L_opened : GoodIn wsL_flow (va_wsS RL 138 yL_opened wsL_opened) := goodIn_app (goodIn_of _ (by decide +kernel)) ggL_flow_L_opened
theorem dL_flow_0 : decode cL_flow 0 = .ok (.iconst 0, 1) := by decide +kernel
theorem dL_flow_1 : decode cL_flow 1 = .ok (.istore 4, 2) := by decide +kernel
theorem dL_flow_3 : decode cL_flow 3 = .ok (.iload 4, 2) := by decide +kernel
theorem dL_flow_5 : decode cL_flow 5 = .ok (.bipush 8, 2) := by decide +kernel
theorem dL_flow_7 : decode cL_flow 7 = .ok (.if_icmp .ge 119, 3) := by decide +kernel
theorem dL_flow_10 : decode cL_flow 10 = .ok (.aload_n 0, 1) := by decide +kernel
theorem dL_flow_11 : decode cL_flow 11 = .ok (.aload_n 3, 1) := by decide +kernel
theorem dL_flow_12 : decode cL_flow 12 = .ok (.iload 4, 2) := by decide +kernel
theorem dL_flow_14 : decode cL_flow 14 = .ok (.invokestatic 138, 3) := by decide +kernel
theorem dL_flow_17 : decode cL_flow 17 = .ok (.ifCond .ne 6, 3) := by decide +kernel
theorem dL_flow_20 : decode cL_flow 20 = .ok (.goto 100, 3) := by decide +kernel
theorem dL_flow_23 : decode cL_flow 23 = .ok (.aload_n 1, 1) := by decide +kernel
theorem dL_flow_24 : decode cL_flow 24 = .ok (.iload 4, 2) := by decide +kernel
theorem dL_flow_26 : decode cL_flow 26 = .ok (.iaload, 1) := by decide +kernel
theorem dL_flow_27 : decode cL_flow 27 = .ok (.iconst 4, 1) := by decide +kernel
theorem dL_flow_28 : decode cL_flow 28 = .ok (.irem, 1) := by decide +kernel
theorem dL_flow_29 : decode cL_flow 29 = .ok (.iconst 1, 1) := by decide +kernel
theorem dL_flow_30 : decode cL_flow 30 = .ok (.isub, 1) := by decide +kernel
theorem dL_flow_31 : decode cL_flow 31 = .ok (.istore 5, 2) := by decide +kernel
theorem dL_flow_33 : decode cL_flow 33 = .ok (.aload_n 1, 1) := by decide +kernel
theorem dL_flow_34 : decode cL_flow 34 = .ok (.iload 4, 2) := by decide +kernel
theorem dL_flow_36 : decode cL_flow 36 = .ok (.iaload, 1) := by decide +kernel
theorem dL_flow_37 : decode cL_flow 37 = .ok (.iconst 4, 1) := by decide +kernel
theorem dL_flow_38 : decode cL_flow 38 = .ok (.idiv, 1) := by decide +kernel
theorem dL_flow_39 : decode cL_flow 39 = .ok (.iconst 1, 1) := by decide +kernel
theorem dL_flow_40 : decode cL_flow 40 = .ok (.isub, 1) := by decide +kernel
theorem dL_flow_41 : decode cL_flow 41 = .ok (.istore 6, 2) := by decide +kernel
theorem dL_flow_43 : decode cL_flow 43 = .ok (.iconst 0, 1) := by decide +kernel
theorem dL_flow_44 : decode cL_flow 44 = .ok (.istore 7, 2) := by decide +kernel
theorem dL_flow_46 : decode cL_flow 46 = .ok (.iload 7, 2) := by decide +kernel
theorem dL_flow_48 : decode cL_flow 48 = .ok (.bipush 10, 2) := by decide +kernel
theorem dL_flow_50 : decode cL_flow 50 = .ok (.if_icmp .ge 70, 3) := by decide +kernel
theorem dL_flow_53 : decode cL_flow 53 = .ok (.iload 5, 2) := by decide +kernel
theorem dL_flow_55 : decode cL_flow 55 = .ok (.ifCond .lt 10, 3) := by decide +kernel
theorem dL_flow_58 : decode cL_flow 58 = .ok (.aload_n 2, 1) := by decide +kernel
theorem dL_flow_59 : decode cL_flow 59 = .ok (.iload 5, 2) := by decide +kernel
theorem dL_flow_61 : decode cL_flow 61 = .ok (.iaload, 1) := by decide +kernel
theorem dL_flow_62 : decode cL_flow 62 = .ok (.ifCond .le 58, 3) := by decide +kernel
theorem dL_flow_65 : decode cL_flow 65 = .ok (.iload 5, 2) := by decide +kernel
theorem dL_flow_67 : decode cL_flow 67 = .ok (.ifCond .lt 11, 3) := by decide +kernel
theorem dL_flow_70 : decode cL_flow 70 = .ok (.aload_n 2, 1) := by decide +kernel
theorem dL_flow_71 : decode cL_flow 71 = .ok (.iload 5, 2) := by decide +kernel
theorem dL_flow_73 : decode cL_flow 73 = .ok (.dup2, 1) := by decide +kernel
theorem dL_flow_74 : decode cL_flow 74 = .ok (.iaload, 1) := by decide +kernel
theorem dL_flow_75 : decode cL_flow 75 = .ok (.iconst 1, 1) := by decide +kernel
theorem dL_flow_76 : decode cL_flow 76 = .ok (.isub, 1) := by decide +kernel
theorem dL_flow_77 : decode cL_flow 77 = .ok (.iastore, 1) := by decide +kernel
theorem dL_flow_78 : decode cL_flow 78 = .ok (.iload 6, 2) := by decide +kernel
theorem dL_flow_80 : decode cL_flow 80 = .ok (.ifCond .ge 6, 3) := by decide +kernel
theorem dL_flow_83 : decode cL_flow 83 = .ok (.goto 31, 3) := by decide +kernel
theorem dL_flow_86 : decode cL_flow 86 = .ok (.aload_n 2, 1) := by decide +kernel
theorem dL_flow_87 : decode cL_flow 87 = .ok (.iload 6, 2) := by decide +kernel
theorem dL_flow_89 : decode cL_flow 89 = .ok (.iaload, 1) := by decide +kernel
theorem dL_flow_90 : decode cL_flow 90 = .ok (.sipush 1000, 3) := by decide +kernel
theorem dL_flow_93 : decode cL_flow 93 = .ok (.if_icmp .ne 13, 3) := by decide +kernel
theorem dL_flow_96 : decode cL_flow 96 = .ok (.aload_n 3, 1) := by decide +kernel
theorem dL_flow_97 : decode cL_flow 97 = .ok (.iconst 3, 1) := by decide +kernel
theorem dL_flow_98 : decode cL_flow 98 = .ok (.dup2, 1) := by decide +kernel
theorem dL_flow_99 : decode cL_flow 99 = .ok (.iaload, 1) := by decide +kernel
theorem dL_flow_100 : decode cL_flow 100 = .ok (.iconst 1, 1) := by decide +kernel
theorem dL_flow_101 : decode cL_flow 101 = .ok (.iadd, 1) := by decide +kernel
theorem dL_flow_102 : decode cL_flow 102 = .ok (.iastore, 1) := by decide +kernel
theorem dL_flow_103 : decode cL_flow 103 = .ok (.goto 11, 3) := by decide +kernel
theorem dL_flow_106 : decode cL_flow 106 = .ok (.aload_n 2, 1) := by decide +kernel
theorem dL_flow_107 : decode cL_flow 107 = .ok (.iload 6, 2) := by decide +kernel
theorem dL_flow_109 : decode cL_flow 109 = .ok (.dup2, 1) := by decide +kernel
theorem dL_flow_110 : decode cL_flow 110 = .ok (.iaload, 1) := by decide +kernel
theorem dL_flow_111 : decode cL_flow 111 = .ok (.iconst 1, 1) := by decide +kernel
theorem dL_flow_112 : decode cL_flow 112 = .ok (.iadd, 1) := by decide +kernel
theorem dL_flow_113 : decode cL_flow 113 = .ok (.iastore, 1) := by decide +kernel
theorem dL_flow_114 : decode cL_flow 114 = .ok (.iinc 7 1, 3) := by decide +kernel
theorem dL_flow_117 : decode cL_flow 117 = .ok (.goto (-71), 3) := by decide +kernel
theorem dL_flow_120 : decode cL_flow 120 = .ok (.iinc 4 1, 3) := by decide +kernel
theorem dL_flow_123 : decode cL_flow 123 = .ok (.goto (-120), 3) := by decide +kernel
theorem dL_flow_126 : decode cL_flow 126 = .ok (.return_, 1) := by decide +kernel
set_option maxRecDepth 20000 in
theorem ggL_look_L_note : GoodIn wsL_look wsL_note := goodIn_r _ [7, 8] (by decide +kernel) (by decide +kernel)
set_option maxRecDepth 20000 in
theorem gL_look_L_note : GoodIn wsL_look (va_wsS RL 148 yL_note wsL_note) := goodIn_app (goodIn_of _ (by decide +kernel)) ggL_look_L_note
set_option maxRecDepth 20000 in
theorem ggL_look_L_hanging : GoodIn wsL_look wsL_hanging := goodIn_r _ [11, 12, 13, 6, 14, 15, 16, 17, 18, 19, 20, 21, 22, 23, 24] (by decide +kernel) (by decide +kernel)
set_option maxRecDepth 20000 in
theorem gL_look_L_hanging : GoodIn wsL_look (va_wsS RL 141 yL_hanging wsL_hanging) := goodIn_app (goodIn_of _ (by decide +kernel)) ggL_look_L_hanging
set_option maxRecDepth 20000 in
theorem ggL_look_L_opened : GoodIn wsL_look wsL_opened := goodIn_r _ [27, 15, 16, 6, 17, 18, 19, 20, 21] (by decide +kernel) (by decide +kernel)
set_option maxRecDepth 20000 in
theorem gL_look_L_opened : GoodIn wsL_look (va_wsS RL 138 yL_opened wsL_opened) := goodIn_app (goodIn_of _ (by decide +kernel)) ggL_look_L_opened
theorem dL_look_0 : decode cL_look 0 = .ok (.iconst 0, 1) := by decide +kernel
theorem dL_look_1 : decode cL_look 1 = .ok (.istore 5, 2) := by decide +kernel
theorem dL_look_3 : decode cL_look 3 = .ok (.iload 5, 2) := by decide +kernel
theorem dL_look_5 : decode cL_look 5 = .ok (.aload 4, 2) := by decide +kernel
theorem dL_look_7 : decode cL_look 7 = .ok (.iconst 4, 1) := by decide +kernel
theorem dL_look_8 : decode cL_look 8 = .ok (.iaload, 1) := by decide +kernel
theorem dL_look_9 : decode cL_look 9 = .ok (.if_icmp .ge 201, 3) := by decide +kernel
theorem dL_look_12 : decode cL_look 12 = .ok (.aload_n 2, 1) := by decide +kernel
theorem dL_look_13 : decode cL_look 13 = .ok (.iload 5, 2) := by decide +kernel
theorem dL_look_15 : decode cL_look 15 = .ok (.iaload, 1) := by decide +kernel
theorem dL_look_16 : decode cL_look 16 = .ok (.bipush 18, 2) := by decide +kernel
theorem dL_look_18 : decode cL_look 18 = .ok (.ishr, 1) := by decide +kernel
theorem dL_look_19 : decode cL_look 19 = .ok (.istore 6, 2) := by decide +kernel
theorem dL_look_21 : decode cL_look 21 = .ok (.aload_n 1, 1) := by decide +kernel
theorem dL_look_22 : decode cL_look 22 = .ok (.aload_n 2, 1) := by decide +kernel
theorem dL_look_23 : decode cL_look 23 = .ok (.iload 5, 2) := by decide +kernel
theorem dL_look_25 : decode cL_look 25 = .ok (.iaload, 1) := by decide +kernel
theorem dL_look_26 : decode cL_look 26 = .ok (.iconst 3, 1) := by decide +kernel
theorem dL_look_27 : decode cL_look 27 = .ok (.iand, 1) := by decide +kernel
theorem dL_look_28 : decode cL_look 28 = .ok (.iaload, 1) := by decide +kernel
theorem dL_look_29 : decode cL_look 29 = .ok (.istore 7, 2) := by decide +kernel
theorem dL_look_31 : decode cL_look 31 = .ok (.aload_n 2, 1) := by decide +kernel
theorem dL_look_32 : decode cL_look 32 = .ok (.iload 5, 2) := by decide +kernel
theorem dL_look_34 : decode cL_look 34 = .ok (.iaload, 1) := by decide +kernel
theorem dL_look_35 : decode cL_look 35 = .ok (.bipush 7, 2) := by decide +kernel
theorem dL_look_37 : decode cL_look 37 = .ok (.ishr, 1) := by decide +kernel
theorem dL_look_38 : decode cL_look 38 = .ok (.sipush 2047, 3) := by decide +kernel
theorem dL_look_41 : decode cL_look 41 = .ok (.iand, 1) := by decide +kernel
theorem dL_look_42 : decode cL_look 42 = .ok (.istore 8, 2) := by decide +kernel
theorem dL_look_44 : decode cL_look 44 = .ok (.aload_n 2, 1) := by decide +kernel
theorem dL_look_45 : decode cL_look 45 = .ok (.iload 5, 2) := by decide +kernel
theorem dL_look_47 : decode cL_look 47 = .ok (.iaload, 1) := by decide +kernel
theorem dL_look_48 : decode cL_look 48 = .ok (.iconst 3, 1) := by decide +kernel
theorem dL_look_49 : decode cL_look 49 = .ok (.ishr, 1) := by decide +kernel
theorem dL_look_50 : decode cL_look 50 = .ok (.bipush 7, 2) := by decide +kernel
theorem dL_look_52 : decode cL_look 52 = .ok (.iand, 1) := by decide +kernel
theorem dL_look_53 : decode cL_look 53 = .ok (.istore 9, 2) := by decide +kernel
theorem dL_look_55 : decode cL_look 55 = .ok (.aload_n 2, 1) := by decide +kernel
theorem dL_look_56 : decode cL_look 56 = .ok (.iload 5, 2) := by decide +kernel
theorem dL_look_58 : decode cL_look 58 = .ok (.iaload, 1) := by decide +kernel
theorem dL_look_59 : decode cL_look 59 = .ok (.bipush 6, 2) := by decide +kernel
theorem dL_look_61 : decode cL_look 61 = .ok (.ishr, 1) := by decide +kernel
theorem dL_look_62 : decode cL_look 62 = .ok (.iconst 1, 1) := by decide +kernel
theorem dL_look_63 : decode cL_look 63 = .ok (.iand, 1) := by decide +kernel
theorem dL_look_64 : decode cL_look 64 = .ok (.iconst 1, 1) := by decide +kernel
theorem dL_look_65 : decode cL_look 65 = .ok (.if_icmp .ne 7, 3) := by decide +kernel
theorem dL_look_68 : decode cL_look 68 = .ok (.iconst 1, 1) := by decide +kernel
theorem dL_look_69 : decode cL_look 69 = .ok (.goto 4, 3) := by decide +kernel
theorem dL_look_72 : decode cL_look 72 = .ok (.iconst 0, 1) := by decide +kernel
theorem dL_look_73 : decode cL_look 73 = .ok (.istore 10, 2) := by decide +kernel
theorem dL_look_75 : decode cL_look 75 = .ok (.aload_n 2, 1) := by decide +kernel
theorem dL_look_76 : decode cL_look 76 = .ok (.iload 5, 2) := by decide +kernel
theorem dL_look_78 : decode cL_look 78 = .ok (.dup2, 1) := by decide +kernel
theorem dL_look_79 : decode cL_look 79 = .ok (.iaload, 1) := by decide +kernel
theorem dL_look_80 : decode cL_look 80 = .ok (.ldc 165, 2) := by decide +kernel
theorem dL_look_82 : decode cL_look 82 = .ok (.iand, 1) := by decide +kernel
theorem dL_look_83 : decode cL_look 83 = .ok (.iastore, 1) := by decide +kernel
theorem dL_look_84 : decode cL_look 84 = .ok (.aload_n 2, 1) := by decide +kernel
theorem dL_look_85 : decode cL_look 85 = .ok (.iload 5, 2) := by decide +kernel
theorem dL_look_87 : decode cL_look 87 = .ok (.iaload, 1) := by decide +kernel
theorem dL_look_88 : decode cL_look 88 = .ok (.iconst 4, 1) := by decide +kernel
theorem dL_look_89 : decode cL_look 89 = .ok (.iand, 1) := by decide +kernel
theorem dL_look_90 : decode cL_look 90 = .ok (.ifCond .le 13, 3) := by decide +kernel
theorem dL_look_93 : decode cL_look 93 = .ok (.iload 7, 2) := by decide +kernel
theorem dL_look_95 : decode cL_look 95 = .ok (.iload 8, 2) := by decide +kernel
theorem dL_look_97 : decode cL_look 97 = .ok (.if_icmp .ge 16, 3) := by decide +kernel
theorem dL_look_100 : decode cL_look 100 = .ok (.goto 104, 3) := by decide +kernel
theorem dL_look_103 : decode cL_look 103 = .ok (.iload 7, 2) := by decide +kernel
theorem dL_look_105 : decode cL_look 105 = .ok (.iload 8, 2) := by decide +kernel
theorem dL_look_107 : decode cL_look 107 = .ok (.if_icmp .le 6, 3) := by decide +kernel
theorem dL_look_110 : decode cL_look 110 = .ok (.goto 94, 3) := by decide +kernel
theorem dL_look_113 : decode cL_look 113 = .ok (.iload 6, 2) := by decide +kernel
theorem dL_look_115 : decode cL_look 115 = .ok (.ifCond .ne 13, 3) := by decide +kernel
theorem dL_look_118 : decode cL_look 118 = .ok (.aload_n 0, 1) := by decide +kernel
theorem dL_look_119 : decode cL_look 119 = .ok (.aload 4, 2) := by decide +kernel
theorem dL_look_121 : decode cL_look 121 = .ok (.iconst 3, 1) := by decide +kernel
theorem dL_look_122 : decode cL_look 122 = .ok (.iconst (-1), 1) := by decide +kernel
theorem dL_look_123 : decode cL_look 123 = .ok (.iload 5, 2) := by decide +kernel
theorem dL_look_125 : decode cL_look 125 = .ok (.invokestatic 148, 3) := by decide +kernel
theorem dL_look_128 : decode cL_look 128 = .ok (.iload 6, 2) := by decide +kernel
theorem dL_look_130 : decode cL_look 130 = .ok (.iconst 1, 1) := by decide +kernel
theorem dL_look_131 : decode cL_look 131 = .ok (.if_icmp .eq 53, 3) := by decide +kernel
theorem dL_look_134 : decode cL_look 134 = .ok (.aload_n 0, 1) := by decide +kernel
theorem dL_look_135 : decode cL_look 135 = .ok (.aload_n 3, 1) := by decide +kernel
theorem dL_look_136 : decode cL_look 136 = .ok (.aload 4, 2) := by decide +kernel
theorem dL_look_138 : decode cL_look 138 = .ok (.iload 9, 2) := by decide +kernel
theorem dL_look_140 : decode cL_look 140 = .ok (.invokestatic 141, 3) := by decide +kernel
theorem dL_look_143 : decode cL_look 143 = .ok (.ifCond .ne 41, 3) := by decide +kernel
theorem dL_look_146 : decode cL_look 146 = .ok (.aload_n 0, 1) := by decide +kernel
theorem dL_look_147 : decode cL_look 147 = .ok (.aload 4, 2) := by decide +kernel
theorem dL_look_149 : decode cL_look 149 = .ok (.iload 9, 2) := by decide +kernel
theorem dL_look_151 : decode cL_look 151 = .ok (.invokestatic 138, 3) := by decide +kernel
theorem dL_look_154 : decode cL_look 154 = .ok (.iload 10, 2) := by decide +kernel
theorem dL_look_156 : decode cL_look 156 = .ok (.if_icmp .eq 25, 3) := by decide +kernel
theorem dL_look_159 : decode cL_look 159 = .ok (.aload_n 0, 1) := by decide +kernel
theorem dL_look_160 : decode cL_look 160 = .ok (.aload 4, 2) := by decide +kernel
theorem dL_look_162 : decode cL_look 162 = .ok (.iconst 0, 1) := by decide +kernel
theorem dL_look_163 : decode cL_look 163 = .ok (.iconst (-1), 1) := by decide +kernel
theorem dL_look_164 : decode cL_look 164 = .ok (.iload 9, 2) := by decide +kernel
theorem dL_look_166 : decode cL_look 166 = .ok (.iload 10, 2) := by decide +kernel
theorem dL_look_168 : decode cL_look 168 = .ok (.ifCond .eq 8, 3) := by decide +kernel
theorem dL_look_171 : decode cL_look 171 = .ok (.bipush 10, 2) := by decide +kernel
theorem dL_look_173 : decode cL_look 173 = .ok (.goto 4, 3) := by decide +kernel
theorem dL_look_176 : decode cL_look 176 = .ok (.iconst 0, 1) := by decide +kernel
theorem dL_look_177 : decode cL_look 177 = .ok (.iadd, 1) := by decide +kernel
theorem dL_look_178 : decode cL_look 178 = .ok (.invokestatic 148, 3) := by decide +kernel
theorem dL_look_181 : decode cL_look 181 = .ok (.iconst 1, 1) := by decide +kernel
theorem dL_look_182 : decode cL_look 182 = .ok (.istore 6, 2) := by decide +kernel
theorem dL_look_184 : decode cL_look 184 = .ok (.aload_n 2, 1) := by decide +kernel
theorem dL_look_185 : decode cL_look 185 = .ok (.iload 5, 2) := by decide +kernel
theorem dL_look_187 : decode cL_look 187 = .ok (.dup2, 1) := by decide +kernel
theorem dL_look_188 : decode cL_look 188 = .ok (.iaload, 1) := by decide +kernel
theorem dL_look_189 : decode cL_look 189 = .ok (.iload 6, 2) := by decide +kernel
theorem dL_look_191 : decode cL_look 191 = .ok (.iconst 1, 1) := by decide +kernel
theorem dL_look_192 : decode cL_look 192 = .ok (.if_icmp .ne 8, 3) := by decide +kernel
theorem dL_look_195 : decode cL_look 195 = .ok (.ldc 166, 2) := by decide +kernel
theorem dL_look_197 : decode cL_look 197 = .ok (.goto 5, 3) := by decide +kernel
theorem dL_look_200 : decode cL_look 200 = .ok (.ldc 167, 2) := by decide +kernel
theorem dL_look_202 : decode cL_look 202 = .ok (.iadd, 1) := by decide +kernel
theorem dL_look_203 : decode cL_look 203 = .ok (.iastore, 1) := by decide +kernel
theorem dL_look_204 : decode cL_look 204 = .ok (.iinc 5 1, 3) := by decide +kernel
theorem dL_look_207 : decode cL_look 207 = .ok (.goto (-204), 3) := by decide +kernel
theorem dL_look_210 : decode cL_look 210 = .ok (.return_, 1) := by decide +kernel
set_option maxRecDepth 20000 in
theorem ggL_people_L_low : GoodIn wsL_people wsL_low := goodIn_r _ [5] (by decide +kernel) (by decide +kernel)
set_option maxRecDepth 20000 in
theorem gL_people_L_low : GoodIn wsL_people (va_wsS RL 128 yL_low wsL_low) := goodIn_app (goodIn_of _ (by decide +kernel)) ggL_people_L_low
set_option maxRecDepth 20000 in
theorem ggL_people_L_read : GoodIn wsL_people wsL_read := goodIn_ca (goodIn_ca (goodIn_r _ [8, 9, 10, 11, 12, 13, 14, 15, 16, 17, 18, 19, 20, 21, 22, 23, 24, 25, 26, 27, 28, 29, 30, 31, 32, 33, 34, 176, 177, 178, 179, 180, 181, 182, 183, 184, 185, 186, 187, 188, 189, 190, 191] (by decide +kernel) (by decide +kernel)) (goodIn_sub (fun _ h => List.mem_cons_of_mem _ (List.mem_append_left _ (List.mem_append_left _ (List.mem_append_right _ h)))) (by decide +kernel))) (goodIn_sub (fun _ h => List.mem_cons_of_mem _ (List.mem_append_left _ (List.mem_append_right _ h))) (by decide +kernel))
set_option maxRecDepth 20000 in
theorem gL_people_L_read : GoodIn wsL_people (va_wsS RL 168 yL_read wsL_read) := goodIn_app (goodIn_of _ (by decide +kernel)) ggL_people_L_read
set_option maxRecDepth 20000 in
theorem ggL_people_L_hasLeft : GoodIn wsL_people wsL_hasLeft := goodIn_r _ [37, 38, 39, 4, 40, 41, 42, 43, 44, 45, 46, 47] (by decide +kernel) (by decide +kernel)
set_option maxRecDepth 20000 in
theorem gL_people_L_hasLeft : GoodIn wsL_people (va_wsS RL 116 yL_hasLeft wsL_hasLeft) := goodIn_app (goodIn_of _ (by decide +kernel)) ggL_people_L_hasLeft
set_option maxRecDepth 20000 in
theorem ggL_people_L_leave : GoodIn wsL_people wsL_leave := goodIn_ca (goodIn_ca (goodIn_r _ [50, 9, 10, 51, 52, 53, 14, 54, 29, 16, 55, 56, 57, 18, 19, 20, 21, 22, 23, 24, 25, 26, 27, 28, 58, 31, 59, 60, 34, 61, 62, 63, 64, 65, 66, 67, 68, 69, 70, 71, 72, 73, 74, 75, 76, 77, 78, 79, 80, 81, 82, 83, 84, 85, 86, 87, 88, 89, 90, 91, 92, 93, 94, 95, 96, 97, 98, 99, 100, 101, 102, 103, 176, 177, 178, 179, 180, 181, 182, 183, 184, 185, 186, 187, 188, 189, 192, 193, 194, 195, 190, 191, 196, 197, 198] (by decide +kernel) (by decide +kernel)) (goodIn_sub (fun _ h => List.mem_cons_of_mem _ (List.mem_append_left _ (List.mem_append_left _ (List.mem_append_right _ h)))) (by decide +kernel))) (goodIn_sub (fun _ h => List.mem_cons_of_mem _ (List.mem_append_left _ (List.mem_append_right _ h))) (by decide +kernel))
set_option maxRecDepth 20000 in
theorem gL_people_L_leave : GoodIn wsL_people (va_wsS RL 170 yL_leave wsL_leave) := goodIn_app (goodIn_of _ (by decide +kernel)) ggL_people_L_leave
set_option maxRecDepth 20000 in
theorem ggL_people_L_hanger : GoodIn wsL_people wsL_hanger := goodIn_r _ [106, 38, 39, 4, 40, 41, 42, 43, 44, 45, 46, 47] (by decide +kernel) (by decide +kernel)
set_option maxRecDepth 20000 in
theorem gL_people_L_hanger : GoodIn wsL_people (va_wsS RL 120 yL_hanger wsL_hanger) := goodIn_app (goodIn_of _ (by decide +kernel)) ggL_people_L_hanger
set_option maxRecDepth 20000 in
theorem ggL_people_L_note : GoodIn wsL_people wsL_note := goodIn_r _ [109, 110] (by decide +kernel) (by decide +kernel)
set_option maxRecDepth 20000 in
theorem gL_people_L_note : GoodIn wsL_people (va_wsS RL 148 yL_note wsL_note) := goodIn_app (goodIn_of _ (by decide +kernel)) ggL_people_L_note
set_option maxRecDepth 20000 in
theorem ggL_people_L_advance : GoodIn wsL_people wsL_advance := goodIn_ca (goodIn_ca (goodIn_r _ [113, 114, 10, 115, 116, 117, 14, 118, 119, 120, 27, 28, 55, 121, 122, 123, 124, 125, 126, 16, 127, 128, 129, 130, 131, 132, 133, 74, 75, 76, 134, 135, 136, 137, 81, 82, 83, 84, 85, 86, 138, 139, 140, 141, 142, 87, 88, 89, 90, 91, 92, 93, 94, 95, 96, 97, 98, 99, 100, 101, 102, 103, 143, 144, 145, 146, 147, 148, 58, 31, 59, 60, 34, 61, 62, 63, 64, 65, 66, 67, 68, 69, 70, 71, 72, 73, 77, 78, 79, 80, 149, 150, 151, 152, 56, 57, 153, 154, 155, 156, 157, 158, 159, 160, 30, 32, 33, 176, 177, 178, 179, 180, 181, 182, 183, 184, 185, 186, 187, 188, 189, 199, 200, 201, 196, 197, 198, 202, 203, 204, 205, 206, 207, 190, 191, 192, 193, 194, 195] (by decide +kernel) (by decide +kernel)) (goodIn_sub (fun _ h => List.mem_cons_of_mem _ (List.mem_append_right _ h)) (by decide +kernel))) (goodIn_sub (fun _ h => List.mem_cons_of_mem _ (List.mem_append_left _ (List.mem_append_right _ h))) (by decide +kernel))
set_option maxRecDepth 20000 in
theorem gL_people_L_advance : GoodIn wsL_people (va_wsS RL 172 yL_advance wsL_advance) := goodIn_app (goodIn_of _ (by decide +kernel)) ggL_people_L_advance
set_option maxRecDepth 20000 in
theorem ggL_people_L_flow : GoodIn wsL_people wsL_flow := goodIn_r _ [163, 164, 165, 4, 166, 38, 39, 40, 41, 42, 43, 44] (by decide +kernel) (by decide +kernel)
set_option maxRecDepth 20000 in
theorem gL_people_L_flow : GoodIn wsL_people (va_wsS RL 175 yL_flow wsL_flow) := goodIn_app (goodIn_of _ (by decide +kernel)) ggL_people_L_flow
set_option maxRecDepth 20000 in
theorem ggL_people_L_look : GoodIn wsL_people wsL_look := goodIn_r _ [169, 170, 171, 172, 107, 108, 4, 109, 110, 173, 174, 175, 104, 105, 106, 38, 39, 40, 41, 42, 43, 44, 45, 46, 47, 164, 165, 166] (by decide +kernel) (by decide +kernel)
set_option maxRecDepth 20000 in
theorem gL_people_L_look : GoodIn wsL_people (va_wsS RL 179 yL_look wsL_look) := goodIn_app (goodIn_of _ (by decide +kernel)) ggL_people_L_look
theorem dL_people_0 : decode cL_people 0 = .ok (.iload_n 2, 1) := by decide +kernel
theorem dL_people_1 : decode cL_people 1 = .ok (.bipush 9, 2) := by decide +kernel
theorem dL_people_3 : decode cL_people 3 = .ok (.invokestatic 128, 3) := by decide +kernel
theorem dL_people_6 : decode cL_people 6 = .ok (.istore 11, 2) := by decide +kernel
theorem dL_people_8 : decode cL_people 8 = .ok (.iload_n 1, 1) := by decide +kernel
theorem dL_people_9 : decode cL_people 9 = .ok (.iconst 3, 1) := by decide +kernel
theorem dL_people_10 : decode cL_people 10 = .ok (.if_icmp .ge 143, 3) := by decide +kernel
theorem dL_people_13 : decode cL_people 13 = .ok (.iconst 0, 1) := by decide +kernel
theorem dL_people_14 : decode cL_people 14 = .ok (.istore 12, 2) := by decide +kernel
theorem dL_people_16 : decode cL_people 16 = .ok (.iload 12, 2) := by decide +kernel
theorem dL_people_18 : decode cL_people 18 = .ok (.bipush 9, 2) := by decide +kernel
theorem dL_people_20 : decode cL_people 20 = .ok (.if_icmp .ge 40, 3) := by decide +kernel
theorem dL_people_23 : decode cL_people 23 = .ok (.iload_n 3, 1) := by decide +kernel
theorem dL_people_24 : decode cL_people 24 = .ok (.bipush 6, 2) := by decide +kernel
theorem dL_people_26 : decode cL_people 26 = .ok (.iand, 1) := by decide +kernel
theorem dL_people_27 : decode cL_people 27 = .ok (.ifCond .le 33, 3) := by decide +kernel
theorem dL_people_30 : decode cL_people 30 = .ok (.aload 10, 2) := by decide +kernel
theorem dL_people_32 : decode cL_people 32 = .ok (.iconst 0, 1) := by decide +kernel
theorem dL_people_33 : decode cL_people 33 = .ok (.iaload, 1) := by decide +kernel
theorem dL_people_34 : decode cL_people 34 = .ok (.bipush 8, 2) := by decide +kernel
theorem dL_people_36 : decode cL_people 36 = .ok (.idiv, 1) := by decide +kernel
theorem dL_people_37 : decode cL_people 37 = .ok (.iload 11, 2) := by decide +kernel
theorem dL_people_39 : decode cL_people 39 = .ok (.isub, 1) := by decide +kernel
theorem dL_people_40 : decode cL_people 40 = .ok (.iconst 3, 1) := by decide +kernel
theorem dL_people_41 : decode cL_people 41 = .ok (.irem, 1) := by decide +kernel
theorem dL_people_42 : decode cL_people 42 = .ok (.ifCond .eq 18, 3) := by decide +kernel
theorem dL_people_45 : decode cL_people 45 = .ok (.iload 11, 2) := by decide +kernel
theorem dL_people_47 : decode cL_people 47 = .ok (.iconst 1, 1) := by decide +kernel
theorem dL_people_48 : decode cL_people 48 = .ok (.iadd, 1) := by decide +kernel
theorem dL_people_49 : decode cL_people 49 = .ok (.bipush 9, 2) := by decide +kernel
theorem dL_people_51 : decode cL_people 51 = .ok (.irem, 1) := by decide +kernel
theorem dL_people_52 : decode cL_people 52 = .ok (.istore 11, 2) := by decide +kernel
theorem dL_people_54 : decode cL_people 54 = .ok (.iinc 12 1, 3) := by decide +kernel
theorem dL_people_57 : decode cL_people 57 = .ok (.goto (-41), 3) := by decide +kernel
theorem dL_people_60 : decode cL_people 60 = .ok (.aload_n 0, 1) := by decide +kernel
theorem dL_people_61 : decode cL_people 61 = .ok (.bipush 9, 2) := by decide +kernel
theorem dL_people_63 : decode cL_people 63 = .ok (.invokestatic 168, 3) := by decide +kernel
theorem dL_people_66 : decode cL_people 66 = .ok (.sipush (-7100), 3) := by decide +kernel
theorem dL_people_69 : decode cL_people 69 = .ok (.if_icmp .ne 14, 3) := by decide +kernel
theorem dL_people_72 : decode cL_people 72 = .ok (.aload_n 0, 1) := by decide +kernel
theorem dL_people_73 : decode cL_people 73 = .ok (.iconst (-1), 1) := by decide +kernel
theorem dL_people_74 : decode cL_people 74 = .ok (.invokestatic 168, 3) := by decide +kernel
theorem dL_people_77 : decode cL_people 77 = .ok (.sipush (-7100), 3) := by decide +kernel
theorem dL_people_80 : decode cL_people 80 = .ok (.if_icmp .eq 5, 3) := by decide +kernel
theorem dL_people_83 : decode cL_people 83 = .ok (.iconst 0, 1) := by decide +kernel
theorem dL_people_84 : decode cL_people 84 = .ok (.ireturn, 1) := by decide +kernel
theorem dL_people_85 : decode cL_people 85 = .ok (.aload 4, 2) := by decide +kernel
theorem dL_people_87 : decode cL_people 87 = .ok (.aload 10, 2) := by decide +kernel
theorem dL_people_89 : decode cL_people 89 = .ok (.iload 11, 2) := by decide +kernel
theorem dL_people_91 : decode cL_people 91 = .ok (.invokestatic 116, 3) := by decide +kernel
theorem dL_people_94 : decode cL_people 94 = .ok (.ifCond .eq 21, 3) := by decide +kernel
theorem dL_people_97 : decode cL_people 97 = .ok (.aload_n 0, 1) := by decide +kernel
theorem dL_people_98 : decode cL_people 98 = .ok (.iload 11, 2) := by decide +kernel
theorem dL_people_100 : decode cL_people 100 = .ok (.invokestatic 168, 3) := by decide +kernel
theorem dL_people_103 : decode cL_people 103 = .ok (.sipush (-7300), 3) := by decide +kernel
theorem dL_people_106 : decode cL_people 106 = .ok (.if_icmp .ne 7, 3) := by decide +kernel
theorem dL_people_109 : decode cL_people 109 = .ok (.iconst 1, 1) := by decide +kernel
theorem dL_people_110 : decode cL_people 110 = .ok (.goto 4, 3) := by decide +kernel
theorem dL_people_113 : decode cL_people 113 = .ok (.iconst 0, 1) := by decide +kernel
theorem dL_people_114 : decode cL_people 114 = .ok (.ireturn, 1) := by decide +kernel
theorem dL_people_115 : decode cL_people 115 = .ok (.aload 9, 2) := by decide +kernel
theorem dL_people_117 : decode cL_people 117 = .ok (.iload 11, 2) := by decide +kernel
theorem dL_people_119 : decode cL_people 119 = .ok (.iaload, 1) := by decide +kernel
theorem dL_people_120 : decode cL_people 120 = .ok (.istore 12, 2) := by decide +kernel
theorem dL_people_122 : decode cL_people 122 = .ok (.aload 9, 2) := by decide +kernel
theorem dL_people_124 : decode cL_people 124 = .ok (.iload 11, 2) := by decide +kernel
theorem dL_people_126 : decode cL_people 126 = .ok (.aload 10, 2) := by decide +kernel
theorem dL_people_128 : decode cL_people 128 = .ok (.iconst 1, 1) := by decide +kernel
theorem dL_people_129 : decode cL_people 129 = .ok (.iaload, 1) := by decide +kernel
theorem dL_people_130 : decode cL_people 130 = .ok (.iastore, 1) := by decide +kernel
theorem dL_people_131 : decode cL_people 131 = .ok (.aload_n 0, 1) := by decide +kernel
theorem dL_people_132 : decode cL_people 132 = .ok (.iload 11, 2) := by decide +kernel
theorem dL_people_134 : decode cL_people 134 = .ok (.invokestatic 168, 3) := by decide +kernel
theorem dL_people_137 : decode cL_people 137 = .ok (.aload 10, 2) := by decide +kernel
theorem dL_people_139 : decode cL_people 139 = .ok (.iconst 1, 1) := by decide +kernel
theorem dL_people_140 : decode cL_people 140 = .ok (.iaload, 1) := by decide +kernel
theorem dL_people_141 : decode cL_people 141 = .ok (.iload 12, 2) := by decide +kernel
theorem dL_people_143 : decode cL_people 143 = .ok (.isub, 1) := by decide +kernel
theorem dL_people_144 : decode cL_people 144 = .ok (.if_icmp .ne 7, 3) := by decide +kernel
theorem dL_people_147 : decode cL_people 147 = .ok (.iconst 1, 1) := by decide +kernel
theorem dL_people_148 : decode cL_people 148 = .ok (.goto 4, 3) := by decide +kernel
theorem dL_people_151 : decode cL_people 151 = .ok (.iconst 0, 1) := by decide +kernel
theorem dL_people_152 : decode cL_people 152 = .ok (.ireturn, 1) := by decide +kernel
theorem dL_people_153 : decode cL_people 153 = .ok (.iload_n 1, 1) := by decide +kernel
theorem dL_people_154 : decode cL_people 154 = .ok (.iconst 3, 1) := by decide +kernel
theorem dL_people_155 : decode cL_people 155 = .ok (.if_icmp .ne 120, 3) := by decide +kernel
theorem dL_people_158 : decode cL_people 158 = .ok (.aload_n 0, 1) := by decide +kernel
theorem dL_people_159 : decode cL_people 159 = .ok (.bipush 9, 2) := by decide +kernel
theorem dL_people_161 : decode cL_people 161 = .ok (.invokestatic 170, 3) := by decide +kernel
theorem dL_people_164 : decode cL_people 164 = .ok (.sipush (-7100), 3) := by decide +kernel
theorem dL_people_167 : decode cL_people 167 = .ok (.if_icmp .eq 5, 3) := by decide +kernel
theorem dL_people_170 : decode cL_people 170 = .ok (.iconst 0, 1) := by decide +kernel
theorem dL_people_171 : decode cL_people 171 = .ok (.ireturn, 1) := by decide +kernel
theorem dL_people_172 : decode cL_people 172 = .ok (.aload 4, 2) := by decide +kernel
theorem dL_people_174 : decode cL_people 174 = .ok (.aload 10, 2) := by decide +kernel
theorem dL_people_176 : decode cL_people 176 = .ok (.iload 11, 2) := by decide +kernel
theorem dL_people_178 : decode cL_people 178 = .ok (.invokestatic 116, 3) := by decide +kernel
theorem dL_people_181 : decode cL_people 181 = .ok (.ifCond .eq 21, 3) := by decide +kernel
theorem dL_people_184 : decode cL_people 184 = .ok (.aload_n 0, 1) := by decide +kernel
theorem dL_people_185 : decode cL_people 185 = .ok (.iload 11, 2) := by decide +kernel
theorem dL_people_187 : decode cL_people 187 = .ok (.invokestatic 170, 3) := by decide +kernel
theorem dL_people_190 : decode cL_people 190 = .ok (.sipush (-7300), 3) := by decide +kernel
theorem dL_people_193 : decode cL_people 193 = .ok (.if_icmp .ne 7, 3) := by decide +kernel
theorem dL_people_196 : decode cL_people 196 = .ok (.iconst 1, 1) := by decide +kernel
theorem dL_people_197 : decode cL_people 197 = .ok (.goto 4, 3) := by decide +kernel
theorem dL_people_200 : decode cL_people 200 = .ok (.iconst 0, 1) := by decide +kernel
theorem dL_people_201 : decode cL_people 201 = .ok (.ireturn, 1) := by decide +kernel
theorem dL_people_202 : decode cL_people 202 = .ok (.iconst 0, 1) := by decide +kernel
theorem dL_people_203 : decode cL_people 203 = .ok (.istore 12, 2) := by decide +kernel
theorem dL_people_205 : decode cL_people 205 = .ok (.iconst 0, 1) := by decide +kernel
theorem dL_people_206 : decode cL_people 206 = .ok (.istore 13, 2) := by decide +kernel
theorem dL_people_208 : decode cL_people 208 = .ok (.iload 13, 2) := by decide +kernel
