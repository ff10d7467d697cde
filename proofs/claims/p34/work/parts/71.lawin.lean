set_option maxRecDepth 20000 in
theorem lin_r1 : ∀ w ∈ wsL_law0_r1, w ∈ lw_tbl := fun w h => (goodIn_p wsL_law0_r1 [64, 67] (by decide +kernel) (by decide +kernel) w h).1
set_option maxRecDepth 20000 in
theorem lin_r2 : ∀ w ∈ wsL_law0_r2, w ∈ lw_tbl := fun w h => (goodIn_p wsL_law0_r2 [74, 77] (by decide +kernel) (by decide +kernel) w h).1
set_option maxRecDepth 20000 in
theorem lin_r3 : ∀ w ∈ wsL_law0_r3, w ∈ lw_tbl := fun w h => (goodIn_p wsL_law0_r3 [80, 102, 115, 128] (by decide +kernel) (by decide +kernel) w h).1
set_option maxHeartbeats 4000000 in
set_option maxRecDepth 1000000 in
theorem lcd_r4 : (Cond.code yL_isTold cL_isTold 14 (some .boolean)) ∈ lw_tbl := List.mem_of_getElem? (i := 775) rfl
set_option maxRecDepth 20000 in
theorem lina_r4 : ∀ w ∈ ([Cond.initialized RJ7, Cond.code yJ7_fill_53178 cJ7_fill_53178 4 none, Cond.methodLink RL 251 yL_isTold, Cond.static yL_isTold, Cond.initialized RL] : List Cond), w ∈ lw_tbl := fun w h => (goodIn_p _ [145] (by decide +kernel) (by decide +kernel) w h).1
set_option maxRecDepth 20000 in
theorem linb_r4 : ∀ w ∈ ([Cond.methodLink RL 212 yL_entryAt, Cond.static yL_entryAt, Cond.codeWith yL_entryAt cL_entryAt 4 (some .int) [(0, 6, 9, 14)], Cond.classLink RL 14 "java/lang/IndexOutOfBoundsException", Cond.methodLink RL 67 yX6_entryAt, Cond.instanceMethod yX6_entryAt, Cond.selects RX6 yX6_entryAt yX6_entryAt, Cond.code yX6_entryAt cX6_entryAt 2 (some .int), Cond.classLink RX6 200 "java/lang/IndexOutOfBoundsException", Cond.initialized "java/lang/IndexOutOfBoundsException", Cond.instanceMethod yX2_size, Cond.selects RX2 yX2_size yX2_size, Cond.code yX2_size cX2_size 1 (some .int), Cond.instanceMethod yX2_codeAt, Cond.selects RX2 yX2_codeAt yX2_codeAt, Cond.code yX2_codeAt cX2_codeAt 2 (some .int), Cond.methodLink RL 104 yL_entry, Cond.static yL_entry] : List Cond), w ∈ lw_tbl := fun w h => (goodIn_p _ [782, 603, 787] (by decide +kernel) (by decide +kernel) w h).1
theorem lin_r4 : ∀ w ∈ wsL_law0_r4, w ∈ lw_tbl := fun w h => (List.mem_append.mp (show w ∈ ([Cond.initialized RJ7, Cond.code yJ7_fill_53178 cJ7_fill_53178 4 none, Cond.methodLink RL 251 yL_isTold, Cond.static yL_isTold, Cond.initialized RL] : List Cond) ++ ((Cond.code yL_isTold cL_isTold 14 (some .boolean)) :: ([Cond.methodLink RL 212 yL_entryAt, Cond.static yL_entryAt, Cond.codeWith yL_entryAt cL_entryAt 4 (some .int) [(0, 6, 9, 14)], Cond.classLink RL 14 "java/lang/IndexOutOfBoundsException", Cond.methodLink RL 67 yX6_entryAt, Cond.instanceMethod yX6_entryAt, Cond.selects RX6 yX6_entryAt yX6_entryAt, Cond.code yX6_entryAt cX6_entryAt 2 (some .int), Cond.classLink RX6 200 "java/lang/IndexOutOfBoundsException", Cond.initialized "java/lang/IndexOutOfBoundsException", Cond.instanceMethod yX2_size, Cond.selects RX2 yX2_size yX2_size, Cond.code yX2_size cX2_size 1 (some .int), Cond.instanceMethod yX2_codeAt, Cond.selects RX2 yX2_codeAt yX2_codeAt, Cond.code yX2_codeAt cX2_codeAt 2 (some .int), Cond.methodLink RL 104 yL_entry, Cond.static yL_entry] : List Cond)) from h)).elim (lina_r4 w) (fun h => (List.mem_cons.mp h).elim (fun e => e ▸ lcd_r4) (linb_r4 w))
set_option maxRecDepth 20000 in
theorem lin_r5 : ∀ w ∈ wsL_law0_r5, w ∈ lw_tbl := fun w h => (goodIn_p wsL_law0_r5 [210, 365, 214, 794, 233] (by decide +kernel) (by decide +kernel) w h).1
set_option maxRecDepth 20000 in
theorem lin_r6 : ∀ w ∈ wsL_law0_r6, w ∈ lw_tbl := fun w h => (goodIn_p wsL_law0_r6 [801, 805, 809, 813, 817, 824] (by decide +kernel) (by decide +kernel) w h).1
set_option maxRecDepth 20000 in
theorem lin_r7 : ∀ w ∈ wsL_law0_r7, w ∈ lw_tbl := fun w h => (goodIn_p wsL_law0_r7 [829, 347, 351, 354, 357, 361] (by decide +kernel) (by decide +kernel) w h).1
set_option maxRecDepth 20000 in
theorem lin_r8 : ∀ w ∈ wsL_law0_r8, w ∈ lw_tbl := fun w h => (goodIn_p wsL_law0_r8 [368, 220, 217, 195, 836, 378] (by decide +kernel) (by decide +kernel) w h).1
set_option maxRecDepth 20000 in
theorem lin_r9 : ∀ w ∈ wsL_law0_r9, w ∈ lw_tbl := fun w h => (goodIn_p wsL_law0_r9 [383, 387, 391, 395, 204, 207] (by decide +kernel) (by decide +kernel) w h).1
set_option maxRecDepth 20000 in
theorem lin_r10 : ∀ w ∈ wsL_law0_r10, w ∈ lw_tbl := fun w h => (goodIn_p wsL_law0_r10 [843, 201, 850, 544, 307] (by decide +kernel) (by decide +kernel) w h).1
set_option maxRecDepth 20000 in
theorem lin_r11 : ∀ w ∈ wsL_law0_r11, w ∈ lw_tbl := fun w h => (goodIn_p wsL_law0_r11 [583, 857, 522, 534] (by decide +kernel) (by decide +kernel) w h).1
set_option maxRecDepth 20000 in
theorem lin_r12 : ∀ w ∈ wsL_law0_r12, w ∈ lw_tbl := fun w h => (goodIn_p wsL_law0_r12 [769, 690, 772, 860, 677] (by decide +kernel) (by decide +kernel) w h).1
set_option maxRecDepth 20000 in
theorem lin_r13 : ∀ w ∈ wsL_law0_r13, w ∈ lw_tbl := fun w h => (goodIn_p wsL_law0_r13 [745, 749, 754, 868, 871] (by decide +kernel) (by decide +kernel) w h).1
set_option maxRecDepth 20000 in
theorem lin_r14 : ∀ w ∈ wsL_law0_r14, w ∈ lw_tbl := fun w h => (goodIn_p wsL_law0_r14 [876, 883, 887, 891, 895, 899] (by decide +kernel) (by decide +kernel) w h).1
set_option maxRecDepth 20000 in
theorem lin_r15 : ∀ w ∈ wsL_law0_r15, w ∈ lw_tbl := fun w h => (goodIn_p wsL_law0_r15 [903, 695, 698, 703, 738, 191] (by decide +kernel) (by decide +kernel) w h).1
set_option maxHeartbeats 4000000 in
set_option maxRecDepth 1000000 in
theorem lcd_r16 : (Cond.code yL_valves cL_valves 17 (some .boolean)) ∈ lw_tbl := List.mem_of_getElem? (i := 198) rfl
set_option maxRecDepth 20000 in
theorem lina_r16 : ∀ w ∈ ([Cond.static yL_valves] : List Cond), w ∈ lw_tbl := fun w h => (goodIn_p _ [] (by decide +kernel) (by decide +kernel) w h).1
set_option maxRecDepth 20000 in
theorem linb_r16 : ∀ w ∈ ([Cond.methodLink RL 135 yL_pipe, Cond.static yL_pipe, Cond.codeWith yL_pipe cL_pipe 6 (some .int) [(0, 9, 12, 14), (0, 9, 18, 16), (0, 9, 24, 18)], Cond.classLink RL 16 "java/lang/IllegalArgumentException", Cond.classLink RL 18 "java/lang/IllegalStateException", Cond.methodLink RL 8 yX6_pipe, Cond.instanceMethod yX6_pipe, Cond.selects RX6 yX6_pipe yX6_pipe, Cond.code yX6_pipe cX6_pipe 5 (some .int), Cond.classLink RX6 84 "java/lang/IllegalArgumentException", Cond.initialized "java/lang/IllegalArgumentException", Cond.classLink RX6 95 "java/lang/IllegalStateException", Cond.initialized "java/lang/IllegalStateException", Cond.methodLink RX6 80 yX6_isEnd, Cond.static yX6_isEnd, Cond.code yX6_isEnd cX6_isEnd 1 (some .boolean), Cond.methodLink RX6 106 yX6_countTagsOn, Cond.instanceMethod yX6_countTagsOn, Cond.selects RX6 yX6_countTagsOn yX6_countTagsOn, Cond.code yX6_countTagsOn cX6_countTagsOn 5 (some .int), Cond.methodLink RL 145 yL_turn, Cond.static yL_turn] : List Cond), w ∈ lw_tbl := fun w h => (goodIn_p _ [230, 304, 343] (by decide +kernel) (by decide +kernel) w h).1
theorem lin_r16 : ∀ w ∈ wsL_law0_r16, w ∈ lw_tbl := fun w h => (List.mem_append.mp (show w ∈ ([Cond.static yL_valves] : List Cond) ++ ((Cond.code yL_valves cL_valves 17 (some .boolean)) :: ([Cond.methodLink RL 135 yL_pipe, Cond.static yL_pipe, Cond.codeWith yL_pipe cL_pipe 6 (some .int) [(0, 9, 12, 14), (0, 9, 18, 16), (0, 9, 24, 18)], Cond.classLink RL 16 "java/lang/IllegalArgumentException", Cond.classLink RL 18 "java/lang/IllegalStateException", Cond.methodLink RL 8 yX6_pipe, Cond.instanceMethod yX6_pipe, Cond.selects RX6 yX6_pipe yX6_pipe, Cond.code yX6_pipe cX6_pipe 5 (some .int), Cond.classLink RX6 84 "java/lang/IllegalArgumentException", Cond.initialized "java/lang/IllegalArgumentException", Cond.classLink RX6 95 "java/lang/IllegalStateException", Cond.initialized "java/lang/IllegalStateException", Cond.methodLink RX6 80 yX6_isEnd, Cond.static yX6_isEnd, Cond.code yX6_isEnd cX6_isEnd 1 (some .boolean), Cond.methodLink RX6 106 yX6_countTagsOn, Cond.instanceMethod yX6_countTagsOn, Cond.selects RX6 yX6_countTagsOn yX6_countTagsOn, Cond.code yX6_countTagsOn cX6_countTagsOn 5 (some .int), Cond.methodLink RL 145 yL_turn, Cond.static yL_turn] : List Cond)) from h)).elim (lina_r16 w) (fun h => (List.mem_cons.mp h).elim (fun e => e ▸ lcd_r16) (linb_r16 w))
set_option maxRecDepth 20000 in
theorem lin_r17 : ∀ w ∈ wsL_law0_r17, w ∈ lw_tbl := fun w h => (goodIn_p wsL_law0_r17 [375, 400, 404, 408, 411] (by decide +kernel) (by decide +kernel) w h).1
set_option maxRecDepth 20000 in
theorem lin_r18 : ∀ w ∈ wsL_law0_r18, w ∈ lw_tbl := fun w h => (goodIn_p wsL_law0_r18 [421, 427, 435] (by decide +kernel) (by decide +kernel) w h).1
set_option maxRecDepth 20000 in
theorem lin_r19 : ∀ w ∈ wsL_law0_r19, w ∈ lw_tbl := fun w h => (goodIn_p wsL_law0_r19 [440, 462, 466, 470, 474] (by decide +kernel) (by decide +kernel) w h).1
set_option maxRecDepth 20000 in
theorem lin_r20 : ∀ w ∈ wsL_law0_r20, w ∈ lw_tbl := fun w h => (goodIn_p wsL_law0_r20 [480, 477, 484, 487, 505] (by decide +kernel) (by decide +kernel) w h).1
set_option maxRecDepth 20000 in
theorem lin_r21 : ∀ w ∈ wsL_law0_r21, w ∈ lw_tbl := fun w h => (goodIn_p wsL_law0_r21 [518, 527, 541, 552] (by decide +kernel) (by decide +kernel) w h).1
set_option maxRecDepth 20000 in
theorem lin_r22 : ∀ w ∈ wsL_law0_r22, w ∈ lw_tbl := fun w h => (goodIn_p wsL_law0_r22 [587, 594, 598] (by decide +kernel) (by decide +kernel) w h).1
set_option maxRecDepth 20000 in
theorem lin_r23 : ∀ w ∈ wsL_law0_r23, w ∈ lw_tbl := fun w h => (goodIn_p wsL_law0_r23 [610, 617, 623, 627, 632] (by decide +kernel) (by decide +kernel) w h).1
set_option maxHeartbeats 4000000 in
set_option maxRecDepth 1000000 in
theorem lcd_r24 : (Cond.code yL_chats cL_chats 17 (some .boolean)) ∈ lw_tbl := List.mem_of_getElem? (i := 649) rfl
set_option maxRecDepth 20000 in
theorem lina_r24 : ∀ w ∈ ([Cond.instanceMethod yX0_isMetBy, Cond.selects RX0 yX0_isMetBy yX0_isMetBy, Cond.code yX0_isMetBy cX0_isMetBy 2 (some .boolean), Cond.methodLink RL 175 yL_flow, Cond.static yL_flow, Cond.code yL_flow cL_flow 8 none, Cond.methodLink RL 179 yL_look, Cond.static yL_look, Cond.code yL_look cL_look 11 none, Cond.constant RL 165 (262143), Cond.constant RL 166 (262144), Cond.constant RL 167 (524288), Cond.methodLink RL 266 yL_chats, Cond.static yL_chats] : List Cond), w ∈ lw_tbl := fun w h => (goodIn_p _ [636, 640, 643] (by decide +kernel) (by decide +kernel) w h).1
set_option maxRecDepth 20000 in
theorem linb_r24 : ∀ w ∈ ([Cond.methodLink RL 185 yL_insert, Cond.static yL_insert, Cond.codeWith yL_insert cL_insert 5 (some .int) [(0, 7, 10, 16), (0, 7, 16, 18)], Cond.methodLink RL 77 yX6_insert, Cond.instanceMethod yX6_insert, Cond.selects RX6 yX6_insert yX6_insert, Cond.code yX6_insert cX6_insert 3 (some .int), Cond.instanceMethod yX1_length, Cond.selects RX1 yX1_length yX1_length] : List Cond), w ∈ lw_tbl := fun w h => (goodIn_p _ [656] (by decide +kernel) (by decide +kernel) w h).1
theorem lin_r24 : ∀ w ∈ wsL_law0_r24, w ∈ lw_tbl := fun w h => (List.mem_append.mp (show w ∈ ([Cond.instanceMethod yX0_isMetBy, Cond.selects RX0 yX0_isMetBy yX0_isMetBy, Cond.code yX0_isMetBy cX0_isMetBy 2 (some .boolean), Cond.methodLink RL 175 yL_flow, Cond.static yL_flow, Cond.code yL_flow cL_flow 8 none, Cond.methodLink RL 179 yL_look, Cond.static yL_look, Cond.code yL_look cL_look 11 none, Cond.constant RL 165 (262143), Cond.constant RL 166 (262144), Cond.constant RL 167 (524288), Cond.methodLink RL 266 yL_chats, Cond.static yL_chats] : List Cond) ++ ((Cond.code yL_chats cL_chats 17 (some .boolean)) :: ([Cond.methodLink RL 185 yL_insert, Cond.static yL_insert, Cond.codeWith yL_insert cL_insert 5 (some .int) [(0, 7, 10, 16), (0, 7, 16, 18)], Cond.methodLink RL 77 yX6_insert, Cond.instanceMethod yX6_insert, Cond.selects RX6 yX6_insert yX6_insert, Cond.code yX6_insert cX6_insert 3 (some .int), Cond.instanceMethod yX1_length, Cond.selects RX1 yX1_length yX1_length] : List Cond)) from h)).elim (lina_r24 w) (fun h => (List.mem_cons.mp h).elim (fun e => e ▸ lcd_r24) (linb_r24 w))
set_option maxRecDepth 20000 in
theorem lin_r25 : ∀ w ∈ wsL_law0_r25, w ∈ lw_tbl := fun w h => (goodIn_p wsL_law0_r25 [660, 666, 670, 674, 686, 711] (by decide +kernel) (by decide +kernel) w h).1
set_option maxRecDepth 20000 in
theorem lin_r26 : ∀ w ∈ wsL_law0_r26, w ∈ lw_tbl := fun w h => (goodIn_p wsL_law0_r26 [715, 718, 722, 731, 735, 761] (by decide +kernel) (by decide +kernel) w h).1
theorem lin_X6 : ∀ w ∈ wsX60, w ∈ lw_tbl := by decide +kernel
theorem lin_Jx4a65c : ∀ w ∈ wsJx4a65c0, w ∈ lw_tbl := by decide +kernel
theorem lin_X2 : ∀ w ∈ wsX20, w ∈ lw_tbl := by decide +kernel
theorem lin_X1 : ∀ w ∈ wsX10, w ∈ lw_tbl := by decide +kernel
theorem lin_X5 : ∀ w ∈ wsX50, w ∈ lw_tbl := by decide +kernel
theorem lin_X4 : ∀ w ∈ wsX40, w ∈ lw_tbl := by decide +kernel
theorem lin_X0 : ∀ w ∈ wsX00, w ∈ lw_tbl := by decide +kernel
theorem lin_X3 : ∀ w ∈ wsX30, w ∈ lw_tbl := by decide +kernel
theorem wsL_law_in0 : ∀ w ∈ wsL_law0, w ∈ lw_tbl := List.forall_mem_append.mpr ⟨List.forall_mem_append.mpr ⟨List.forall_mem_append.mpr ⟨List.forall_mem_append.mpr ⟨List.forall_mem_append.mpr ⟨List.forall_mem_append.mpr ⟨List.forall_mem_append.mpr ⟨List.forall_mem_append.mpr ⟨List.forall_mem_append.mpr ⟨List.forall_mem_append.mpr ⟨lin_r1, List.forall_mem_append.mpr ⟨lin_r2, List.forall_mem_append.mpr ⟨lin_r3, List.forall_mem_append.mpr ⟨lin_r4, List.forall_mem_append.mpr ⟨lin_r5, List.forall_mem_append.mpr ⟨lin_r6, List.forall_mem_append.mpr ⟨lin_r7, List.forall_mem_append.mpr ⟨lin_r8, List.forall_mem_append.mpr ⟨lin_r9, List.forall_mem_append.mpr ⟨lin_r10, List.forall_mem_append.mpr ⟨lin_r11, List.forall_mem_append.mpr ⟨lin_r12, List.forall_mem_append.mpr ⟨lin_r13, List.forall_mem_append.mpr ⟨lin_r14, List.forall_mem_append.mpr ⟨lin_r15, List.forall_mem_append.mpr ⟨lin_r16, List.forall_mem_append.mpr ⟨lin_r17, List.forall_mem_append.mpr ⟨lin_r18, List.forall_mem_append.mpr ⟨lin_r19, List.forall_mem_append.mpr ⟨lin_r20, List.forall_mem_append.mpr ⟨lin_r21, List.forall_mem_append.mpr ⟨lin_r22, List.forall_mem_append.mpr ⟨lin_r23, List.forall_mem_append.mpr ⟨lin_r24, List.forall_mem_append.mpr ⟨lin_r25, lin_r26⟩⟩⟩⟩⟩⟩⟩⟩⟩⟩⟩⟩⟩⟩⟩⟩⟩⟩⟩⟩⟩⟩⟩⟩⟩, lin_X6⟩, lin_Jx4a65c⟩, lin_X2⟩, lin_X1⟩, lin_X5⟩, lin_X4⟩, lin_X0⟩, lin_X3⟩, fun _ h => absurd h List.not_mem_nil⟩
theorem wsL_law_x0 : ∀ w ∈ (vx_atS RX6 204 "java/lang/IndexOutOfBoundsException" ["java/lang/RuntimeException", "java/lang/Exception"]).filter goodWord, w ∈ lw_tbl := by decide +kernel
theorem wsL_law_x1 : ∀ w ∈ (vx_atS RX6 88 "java/lang/IllegalArgumentException" ["java/lang/RuntimeException", "java/lang/Exception"]).filter goodWord, w ∈ lw_tbl := by decide +kernel
theorem wsL_law_x2 : ∀ w ∈ (vx_atS RX6 99 "java/lang/IllegalStateException" ["java/lang/RuntimeException", "java/lang/Exception"]).filter goodWord, w ∈ lw_tbl := by decide +kernel
theorem wsL_law_in : ∀ w ∈ wsL_law, w ∈ lw_tbl := fun w h => (List.mem_append.mp h).elim (fun h => (List.mem_append.mp h).elim (fun h => (List.mem_append.mp h).elim (fun h => wsL_law_in0 w h) (fun h => wsL_law_x0 w h)) (fun h => wsL_law_x1 w h)) (fun h => wsL_law_x2 w h)
theorem inlX0 : ∀ w ∈ wsX00, w ∈ wsL_law := fun _ h => List.mem_append_left _ (List.mem_append_left _ (List.mem_append_left _ (List.mem_append_left _ (List.mem_append_left _ (List.mem_append_right _ h)))))
theorem inlX1 : ∀ w ∈ wsX10, w ∈ wsL_law := fun _ h => List.mem_append_left _ (List.mem_append_left _ (List.mem_append_left _ (List.mem_append_left _ (List.mem_append_left _ (List.mem_append_left _ (List.mem_append_left _ (List.mem_append_left _ (List.mem_append_right _ h))))))))
theorem inlX2 : ∀ w ∈ wsX20, w ∈ wsL_law := fun _ h => List.mem_append_left _ (List.mem_append_left _ (List.mem_append_left _ (List.mem_append_left _ (List.mem_append_left _ (List.mem_append_left _ (List.mem_append_left _ (List.mem_append_left _ (List.mem_append_left _ (List.mem_append_right _ h)))))))))
theorem inlX3 : ∀ w ∈ wsX30, w ∈ wsL_law := fun _ h => List.mem_append_left _ (List.mem_append_left _ (List.mem_append_left _ (List.mem_append_left _ (List.mem_append_right _ h))))
theorem inlX4 : ∀ w ∈ wsX40, w ∈ wsL_law := fun _ h => List.mem_append_left _ (List.mem_append_left _ (List.mem_append_left _ (List.mem_append_left _ (List.mem_append_left _ (List.mem_append_left _ (List.mem_append_right _ h))))))
theorem inlX5 : ∀ w ∈ wsX50, w ∈ wsL_law := fun _ h => List.mem_append_left _ (List.mem_append_left _ (List.mem_append_left _ (List.mem_append_left _ (List.mem_append_left _ (List.mem_append_left _ (List.mem_append_left _ (List.mem_append_right _ h)))))))
theorem inlX6 : ∀ w ∈ wsX60, w ∈ wsL_law := fun _ h => List.mem_append_left _ (List.mem_append_left _ (List.mem_append_left _ (List.mem_append_left _ (List.mem_append_left _ (List.mem_append_left _ (List.mem_append_left _ (List.mem_append_left _ (List.mem_append_left _ (List.mem_append_left _ (List.mem_append_left _ (List.mem_append_right _ h)))))))))))
theorem inlJx4a65c : ∀ w ∈ wsJx4a65c0, w ∈ wsL_law := fun _ h => List.mem_append_left _ (List.mem_append_left _ (List.mem_append_left _ (List.mem_append_left _ (List.mem_append_left _ (List.mem_append_left _ (List.mem_append_left _ (List.mem_append_left _ (List.mem_append_left _ (List.mem_append_left _ (List.mem_append_right _ h))))))))))
theorem lw_zW : ∀ w ∈ zWords, w ∈ lw_tbl := List.forall_mem_append.mpr ⟨(by decide +kernel : ∀ w ∈ zNest, w ∈ lw_tbl), List.forall_mem_append.mpr ⟨List.forall_mem_append.mpr ⟨(by decide +kernel : ∀ w ∈ zBad 204 "java/lang/IndexOutOfBoundsException", w ∈ lw_tbl), (by decide +kernel : ∀ w ∈ zBad 99 "java/lang/IllegalStateException", w ∈ lw_tbl)⟩, (by decide +kernel : ∀ w ∈ zBad 88 "java/lang/IllegalArgumentException", w ∈ lw_tbl)⟩⟩
theorem lw_zT : ∀ q ∈ zTexts, Cond.stringRef q.1 q.2.1 q.2.2 ∈ lw_tbl := by decide +kernel
theorem lw_zTo : ∀ q ∈ zTexts, q.1 = RX6 := by decide +kernel
