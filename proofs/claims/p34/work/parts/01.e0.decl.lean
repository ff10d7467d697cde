theorem dL_cell_0 : decode cL_cell 0 = .ok (.iload_n 1, 1) := by decide +kernel
theorem dL_cell_1 : decode cL_cell 1 = .ok (.aload_n 0, 1) := by decide +kernel
theorem dL_cell_2 : decode cL_cell 2 = .ok (.arraylength, 1) := by decide +kernel
theorem dL_cell_3 : decode cL_cell 3 = .ok (.if_icmp .ge 9, 3) := by decide +kernel
theorem dL_cell_6 : decode cL_cell 6 = .ok (.aload_n 0, 1) := by decide +kernel
theorem dL_cell_7 : decode cL_cell 7 = .ok (.iload_n 1, 1) := by decide +kernel
theorem dL_cell_8 : decode cL_cell 8 = .ok (.iaload, 1) := by decide +kernel
theorem dL_cell_9 : decode cL_cell 9 = .ok (.goto 10, 3) := by decide +kernel
theorem dL_cell_12 : decode cL_cell 12 = .ok (.ldc 7, 2) := by decide +kernel
theorem dL_cell_14 : decode cL_cell 14 = .ok (.iload_n 1, 1) := by decide +kernel
theorem dL_cell_15 : decode cL_cell 15 = .ok (.bipush 7, 2) := by decide +kernel
theorem dL_cell_17 : decode cL_cell 17 = .ok (.iadd, 1) := by decide +kernel
theorem dL_cell_18 : decode cL_cell 18 = .ok (.imul, 1) := by decide +kernel
theorem dL_cell_19 : decode cL_cell 19 = .ok (.ireturn, 1) := by decide +kernel
theorem dL_low_0 : decode cL_low 0 = .ok (.iload_n 0, 1) := by decide +kernel
theorem dL_low_1 : decode cL_low 1 = .ok (.iconst 1, 1) := by decide +kernel
theorem dL_low_2 : decode cL_low 2 = .ok (.iushr, 1) := by decide +kernel
theorem dL_low_3 : decode cL_low 3 = .ok (.iload_n 1, 1) := by decide +kernel
theorem dL_low_4 : decode cL_low 4 = .ok (.irem, 1) := by decide +kernel
theorem dL_low_5 : decode cL_low 5 = .ok (.ireturn, 1) := by decide +kernel
set_option maxRecDepth 20000 in
theorem ggL_pipe_X6_pipe : GoodIn wsL_pipe wsX6_pipe := goodIn_ca (goodIn_ca (goodIn_ca (goodIn_r _ [8, 9, 10, 11, 12, 13, 14, 15, 7, 16, 17, 18, 19, 20, 21, 22, 23, 24, 25, 26, 27, 28, 29, 30, 31, 32, 33, 34, 35, 36, 37, 38, 39, 40, 41, 42, 43, 44, 45, 46, 47, 48, 49, 50, 51, 52, 53, 54, 55, 56, 57, 58, 59, 60, 61, 62, 63, 64, 65, 66, 67, 68, 69, 70, 71, 72, 73, 74, 75, 76, 77] (by decide +kernel) (by decide +kernel)) (goodIn_sub (fun _ h => List.mem_cons_of_mem _ (List.mem_append_left _ (List.mem_append_left _ (List.mem_append_right _ h)))) (by decide +kernel))) (goodIn_sub (fun _ h => List.mem_cons_of_mem _ (List.mem_append_left _ (List.mem_append_right _ h))) (by decide +kernel))) (goodIn_sub (fun _ h => List.mem_cons_of_mem _ (List.mem_append_right _ h)) (by decide +kernel))
set_option maxRecDepth 20000 in
theorem gL_pipe_X6_pipe : GoodIn wsL_pipe (wsV RL 8 RX6 yX6_pipe wsX6_pipe) := goodIn_app (goodIn_of _ (by decide +kernel)) ggL_pipe_X6_pipe
theorem dL_pipe_0 : decode cL_pipe 0 = .ok (.aload_n 0, 1) := by decide +kernel
theorem dL_pipe_1 : decode cL_pipe 1 = .ok (.iload_n 1, 1) := by decide +kernel
theorem dL_pipe_2 : decode cL_pipe 2 = .ok (.iload_n 2, 1) := by decide +kernel
theorem dL_pipe_3 : decode cL_pipe 3 = .ok (.iload_n 3, 1) := by decide +kernel
theorem dL_pipe_4 : decode cL_pipe 4 = .ok (.invokevirtual 8, 3) := by decide +kernel
theorem dL_pipe_7 : decode cL_pipe 7 = .ok (.istore 4, 2) := by decide +kernel
theorem dL_pipe_9 : decode cL_pipe 9 = .ok (.goto 21, 3) := by decide +kernel
theorem dL_pipe_12 : decode cL_pipe 12 = .ok (.astore 5, 2) := by decide +kernel
theorem dL_pipe_14 : decode cL_pipe 14 = .ok (.sipush (-7100), 3) := by decide +kernel
theorem dL_pipe_17 : decode cL_pipe 17 = .ok (.ireturn, 1) := by decide +kernel
theorem dL_pipe_18 : decode cL_pipe 18 = .ok (.astore 5, 2) := by decide +kernel
theorem dL_pipe_20 : decode cL_pipe 20 = .ok (.sipush (-7200), 3) := by decide +kernel
theorem dL_pipe_23 : decode cL_pipe 23 = .ok (.ireturn, 1) := by decide +kernel
theorem dL_pipe_24 : decode cL_pipe 24 = .ok (.astore 5, 2) := by decide +kernel
theorem dL_pipe_26 : decode cL_pipe 26 = .ok (.sipush (-7300), 3) := by decide +kernel
theorem dL_pipe_29 : decode cL_pipe 29 = .ok (.ireturn, 1) := by decide +kernel
theorem dL_pipe_30 : decode cL_pipe 30 = .ok (.iload 4, 2) := by decide +kernel
theorem dL_pipe_32 : decode cL_pipe 32 = .ok (.ireturn, 1) := by decide +kernel
set_option maxRecDepth 20000 in
theorem ggL_turn_X6_turn : GoodIn wsL_turn wsX6_turn := goodIn_ca (goodIn_ca (goodIn_r _ [7, 8, 9, 10, 11, 6, 12, 13, 14, 15, 16, 17, 18, 19, 20, 21, 22, 23, 24, 25, 26, 27, 28, 29, 30, 31, 32, 33, 34, 35, 36, 37, 38, 39, 40, 41, 42, 43, 44, 45, 46, 47, 48, 49, 50, 51, 52, 53, 54, 55, 56, 57, 58, 59, 60, 61, 62, 63, 64, 65, 66, 67, 68, 69, 70, 71, 72, 73, 74, 75, 76, 77, 78, 79, 80, 81, 82, 83, 84, 85, 86, 87, 88, 89, 90, 91, 92, 93, 94, 95, 96, 97, 98, 99, 100, 101, 102, 103, 104, 105, 106, 107, 108, 109, 110, 111, 112, 113, 114, 115, 116, 117, 118, 119, 120, 121, 122, 123] (by decide +kernel) (by decide +kernel)) (goodIn_sub (fun _ h => List.mem_cons_of_mem _ (List.mem_append_left _ (List.mem_append_right _ h))) (by decide +kernel))) (goodIn_sub (fun _ h => List.mem_cons_of_mem _ (List.mem_append_right _ h)) (by decide +kernel))
set_option maxRecDepth 20000 in
theorem gL_turn_X6_turn : GoodIn wsL_turn (wsV RL 20 RX6 yX6_turn wsX6_turn) := goodIn_app (goodIn_of _ (by decide +kernel)) ggL_turn_X6_turn
theorem dL_turn_0 : decode cL_turn 0 = .ok (.aload_n 0, 1) := by decide +kernel
theorem dL_turn_1 : decode cL_turn 1 = .ok (.iload_n 1, 1) := by decide +kernel
theorem dL_turn_2 : decode cL_turn 2 = .ok (.iload_n 2, 1) := by decide +kernel
theorem dL_turn_3 : decode cL_turn 3 = .ok (.iload_n 3, 1) := by decide +kernel
theorem dL_turn_4 : decode cL_turn 4 = .ok (.invokevirtual 20, 3) := by decide +kernel
theorem dL_turn_7 : decode cL_turn 7 = .ok (.istore 4, 2) := by decide +kernel
theorem dL_turn_9 : decode cL_turn 9 = .ok (.goto 15, 3) := by decide +kernel
theorem dL_turn_12 : decode cL_turn 12 = .ok (.astore 5, 2) := by decide +kernel
theorem dL_turn_14 : decode cL_turn 14 = .ok (.sipush (-7100), 3) := by decide +kernel
theorem dL_turn_17 : decode cL_turn 17 = .ok (.ireturn, 1) := by decide +kernel
theorem dL_turn_18 : decode cL_turn 18 = .ok (.astore 5, 2) := by decide +kernel
theorem dL_turn_20 : decode cL_turn 20 = .ok (.sipush (-7300), 3) := by decide +kernel
theorem dL_turn_23 : decode cL_turn 23 = .ok (.ireturn, 1) := by decide +kernel
theorem dL_turn_24 : decode cL_turn 24 = .ok (.iload 4, 2) := by decide +kernel
theorem dL_turn_26 : decode cL_turn 26 = .ok (.ifCond .eq 7, 3) := by decide +kernel
theorem dL_turn_29 : decode cL_turn 29 = .ok (.iconst 1, 1) := by decide +kernel
theorem dL_turn_30 : decode cL_turn 30 = .ok (.goto 4, 3) := by decide +kernel
theorem dL_turn_33 : decode cL_turn 33 = .ok (.iconst 0, 1) := by decide +kernel
theorem dL_turn_34 : decode cL_turn 34 = .ok (.ireturn, 1) := by decide +kernel
set_option maxRecDepth 20000 in
theorem ggL_obstacle_X6_obstacle : GoodIn wsL_obstacle wsX6_obstacle := goodIn_ca (goodIn_r _ [6, 7, 8, 5, 9, 10, 11, 12, 13, 14, 15, 16, 17, 18, 19, 20, 21, 22, 23, 24, 25, 26, 27, 28, 29, 30, 31, 32, 33, 34, 35, 36, 37, 38, 39, 40, 41, 42, 43, 44, 45, 46, 47, 48, 49, 50, 51, 52, 53, 54, 55, 56, 57, 58, 59, 60, 61, 62, 63, 64, 65, 66, 67, 68, 69, 70, 71, 72, 73, 74, 75, 76, 77, 78, 79, 80] (by decide +kernel) (by decide +kernel)) (goodIn_sub (fun _ h => List.mem_cons_of_mem _ (List.mem_append_right _ h)) (by decide +kernel))
set_option maxRecDepth 20000 in
theorem gL_obstacle_X6_obstacle : GoodIn wsL_obstacle (wsV RL 24 RX6 yX6_obstacle wsX6_obstacle) := goodIn_app (goodIn_of _ (by decide +kernel)) ggL_obstacle_X6_obstacle
theorem dL_obstacle_0 : decode cL_obstacle 0 = .ok (.aload_n 0, 1) := by decide +kernel
theorem dL_obstacle_1 : decode cL_obstacle 1 = .ok (.iload_n 1, 1) := by decide +kernel
theorem dL_obstacle_2 : decode cL_obstacle 2 = .ok (.iload_n 2, 1) := by decide +kernel
theorem dL_obstacle_3 : decode cL_obstacle 3 = .ok (.invokevirtual 24, 3) := by decide +kernel
theorem dL_obstacle_6 : decode cL_obstacle 6 = .ok (.istore_n 3, 1) := by decide +kernel
theorem dL_obstacle_7 : decode cL_obstacle 7 = .ok (.goto 9, 3) := by decide +kernel
theorem dL_obstacle_10 : decode cL_obstacle 10 = .ok (.astore 4, 2) := by decide +kernel
theorem dL_obstacle_12 : decode cL_obstacle 12 = .ok (.sipush (-7100), 3) := by decide +kernel
theorem dL_obstacle_15 : decode cL_obstacle 15 = .ok (.ireturn, 1) := by decide +kernel
theorem dL_obstacle_16 : decode cL_obstacle 16 = .ok (.iload_n 3, 1) := by decide +kernel
theorem dL_obstacle_17 : decode cL_obstacle 17 = .ok (.ireturn, 1) := by decide +kernel
set_option maxRecDepth 20000 in
theorem ggL_isOpen_X6_isOpen : GoodIn wsL_isOpen wsX6_isOpen := goodIn_ca (goodIn_r _ [6, 7, 8, 9, 5, 10, 11, 12, 13, 14, 15, 16, 17, 18, 19, 20, 21, 22, 23, 24, 25, 26, 27, 28, 29] (by decide +kernel) (by decide +kernel)) (goodIn_sub (fun _ h => List.mem_cons_of_mem _ (List.mem_append_right _ h)) (by decide +kernel))
set_option maxRecDepth 20000 in
theorem gL_isOpen_X6_isOpen : GoodIn wsL_isOpen (wsV RL 28 RX6 yX6_isOpen wsX6_isOpen) := goodIn_app (goodIn_of _ (by decide +kernel)) ggL_isOpen_X6_isOpen
theorem dL_isOpen_0 : decode cL_isOpen 0 = .ok (.aload_n 0, 1) := by decide +kernel
theorem dL_isOpen_1 : decode cL_isOpen 1 = .ok (.iload_n 1, 1) := by decide +kernel
theorem dL_isOpen_2 : decode cL_isOpen 2 = .ok (.invokevirtual 28, 3) := by decide +kernel
theorem dL_isOpen_5 : decode cL_isOpen 5 = .ok (.istore_n 2, 1) := by decide +kernel
theorem dL_isOpen_6 : decode cL_isOpen 6 = .ok (.goto 8, 3) := by decide +kernel
theorem dL_isOpen_9 : decode cL_isOpen 9 = .ok (.astore_n 3, 1) := by decide +kernel
theorem dL_isOpen_10 : decode cL_isOpen 10 = .ok (.sipush (-7100), 3) := by decide +kernel
theorem dL_isOpen_13 : decode cL_isOpen 13 = .ok (.ireturn, 1) := by decide +kernel
theorem dL_isOpen_14 : decode cL_isOpen 14 = .ok (.iload_n 2, 1) := by decide +kernel
theorem dL_isOpen_15 : decode cL_isOpen 15 = .ok (.ifCond .eq 7, 3) := by decide +kernel
theorem dL_isOpen_18 : decode cL_isOpen 18 = .ok (.iconst 1, 1) := by decide +kernel
theorem dL_isOpen_19 : decode cL_isOpen 19 = .ok (.goto 4, 3) := by decide +kernel
theorem dL_isOpen_22 : decode cL_isOpen 22 = .ok (.iconst 0, 1) := by decide +kernel
theorem dL_isOpen_23 : decode cL_isOpen 23 = .ok (.ireturn, 1) := by decide +kernel
set_option maxRecDepth 20000 in
theorem ggL_isOpenByLog_X6_isOpenByLog : GoodIn wsL_isOpenByLog wsX6_isOpenByLog := goodIn_ca (goodIn_r _ [6, 7, 8, 9, 5, 10, 11, 12, 13, 14, 15, 16, 17, 18, 19, 20, 21, 22, 23, 24, 25, 26, 27, 28, 29, 30, 31, 32, 33, 34, 35, 36, 37, 38, 39, 40, 41, 42, 43, 44, 45, 46, 47] (by decide +kernel) (by decide +kernel)) (goodIn_sub (fun _ h => List.mem_cons_of_mem _ (List.mem_append_right _ h)) (by decide +kernel))
set_option maxRecDepth 20000 in
theorem gL_isOpenByLog_X6_isOpenByLog : GoodIn wsL_isOpenByLog (wsV RL 32 RX6 yX6_isOpenByLog wsX6_isOpenByLog) := goodIn_app (goodIn_of _ (by decide +kernel)) ggL_isOpenByLog_X6_isOpenByLog
theorem dL_isOpenByLog_0 : decode cL_isOpenByLog 0 = .ok (.aload_n 0, 1) := by decide +kernel
theorem dL_isOpenByLog_1 : decode cL_isOpenByLog 1 = .ok (.iload_n 1, 1) := by decide +kernel
theorem dL_isOpenByLog_2 : decode cL_isOpenByLog 2 = .ok (.invokevirtual 32, 3) := by decide +kernel
theorem dL_isOpenByLog_5 : decode cL_isOpenByLog 5 = .ok (.istore_n 2, 1) := by decide +kernel
theorem dL_isOpenByLog_6 : decode cL_isOpenByLog 6 = .ok (.goto 8, 3) := by decide +kernel
theorem dL_isOpenByLog_9 : decode cL_isOpenByLog 9 = .ok (.astore_n 3, 1) := by decide +kernel
theorem dL_isOpenByLog_10 : decode cL_isOpenByLog 10 = .ok (.sipush (-7100), 3) := by decide +kernel
theorem dL_isOpenByLog_13 : decode cL_isOpenByLog 13 = .ok (.ireturn, 1) := by decide +kernel
theorem dL_isOpenByLog_14 : decode cL_isOpenByLog 14 = .ok (.iload_n 2, 1) := by decide +kernel
theorem dL_isOpenByLog_15 : decode cL_isOpenByLog 15 = .ok (.ifCond .eq 7, 3) := by decide +kernel
theorem dL_isOpenByLog_18 : decode cL_isOpenByLog 18 = .ok (.iconst 1, 1) := by decide +kernel
theorem dL_isOpenByLog_19 : decode cL_isOpenByLog 19 = .ok (.goto 4, 3) := by decide +kernel
theorem dL_isOpenByLog_22 : decode cL_isOpenByLog 22 = .ok (.iconst 0, 1) := by decide +kernel
theorem dL_isOpenByLog_23 : decode cL_isOpenByLog 23 = .ok (.ireturn, 1) := by decide +kernel
set_option maxRecDepth 20000 in
theorem ggL_level_X6_level : GoodIn wsL_level wsX6_level := goodIn_ca (goodIn_r _ [6, 7, 8, 9, 5, 10, 11, 12, 13, 14, 15, 16, 17, 18, 19, 20, 21, 22, 23, 24, 25, 26, 27, 28, 29] (by decide +kernel) (by decide +kernel)) (goodIn_sub (fun _ h => List.mem_cons_of_mem _ (List.mem_append_right _ h)) (by decide +kernel))
set_option maxRecDepth 20000 in
theorem gL_level_X6_level : GoodIn wsL_level (wsV RL 35 RX6 yX6_level wsX6_level) := goodIn_app (goodIn_of _ (by decide +kernel)) ggL_level_X6_level
theorem dL_level_0 : decode cL_level 0 = .ok (.aload_n 0, 1) := by decide +kernel
theorem dL_level_1 : decode cL_level 1 = .ok (.iload_n 1, 1) := by decide +kernel
theorem dL_level_2 : decode cL_level 2 = .ok (.invokevirtual 35, 3) := by decide +kernel
theorem dL_level_5 : decode cL_level 5 = .ok (.istore_n 2, 1) := by decide +kernel
theorem dL_level_6 : decode cL_level 6 = .ok (.goto 8, 3) := by decide +kernel
theorem dL_level_9 : decode cL_level 9 = .ok (.astore_n 3, 1) := by decide +kernel
theorem dL_level_10 : decode cL_level 10 = .ok (.sipush (-7100), 3) := by decide +kernel
theorem dL_level_13 : decode cL_level 13 = .ok (.ireturn, 1) := by decide +kernel
theorem dL_level_14 : decode cL_level 14 = .ok (.iload_n 2, 1) := by decide +kernel
theorem dL_level_15 : decode cL_level 15 = .ok (.ireturn, 1) := by decide +kernel
set_option maxRecDepth 20000 in
theorem ggL_hang_X6_hang : GoodIn wsL_hang wsX6_hang := goodIn_ca (goodIn_ca (goodIn_r _ [7, 8, 9, 10, 11, 12, 13, 14, 15, 16, 17, 6, 18, 19, 20, 21, 22, 23, 24, 25, 26, 27, 28, 29, 30, 31, 32, 33, 34, 35, 36, 37, 38, 39, 40, 41, 42, 43, 44, 45, 46, 47, 48, 49, 50, 51, 52, 53, 54, 55, 56, 57, 58, 59, 60, 61, 62, 63, 64, 65, 66, 67, 68, 69, 70, 71, 72, 73, 74, 75, 76, 77, 78, 79, 80, 81, 82, 83, 84, 85, 86, 87, 88, 89, 90, 91, 92, 93, 94, 95, 96, 97, 98, 99, 100, 101, 102, 103, 104, 105, 106, 107, 108, 109, 110, 111, 112, 113, 114, 115, 116, 117, 118, 119, 120, 121, 122, 123, 124, 125, 126, 127, 128, 129, 130, 131, 132, 133, 134, 135, 136, 137, 138, 139, 140, 141, 142] (by decide +kernel) (by decide +kernel)) (goodIn_sub (fun _ h => List.mem_cons_of_mem _ (List.mem_append_left _ (List.mem_append_right _ h))) (by decide +kernel))) (goodIn_sub (fun _ h => List.mem_cons_of_mem _ (List.mem_append_right _ h)) (by decide +kernel))
set_option maxRecDepth 20000 in
theorem gL_hang_X6_hang : GoodIn wsL_hang (wsV RL 39 RX6 yX6_hang wsX6_hang) := goodIn_app (goodIn_of _ (by decide +kernel)) ggL_hang_X6_hang
theorem dL_hang_0 : decode cL_hang 0 = .ok (.aload_n 0, 1) := by decide +kernel
theorem dL_hang_1 : decode cL_hang 1 = .ok (.iload_n 1, 1) := by decide +kernel
theorem dL_hang_2 : decode cL_hang 2 = .ok (.iload_n 2, 1) := by decide +kernel
theorem dL_hang_3 : decode cL_hang 3 = .ok (.invokevirtual 39, 3) := by decide +kernel
theorem dL_hang_6 : decode cL_hang 6 = .ok (.istore_n 3, 1) := by decide +kernel
theorem dL_hang_7 : decode cL_hang 7 = .ok (.goto 15, 3) := by decide +kernel
theorem dL_hang_10 : decode cL_hang 10 = .ok (.astore 4, 2) := by decide +kernel
theorem dL_hang_12 : decode cL_hang 12 = .ok (.sipush (-7100), 3) := by decide +kernel
theorem dL_hang_15 : decode cL_hang 15 = .ok (.ireturn, 1) := by decide +kernel
theorem dL_hang_16 : decode cL_hang 16 = .ok (.astore 4, 2) := by decide +kernel
theorem dL_hang_18 : decode cL_hang 18 = .ok (.sipush (-7300), 3) := by decide +kernel
theorem dL_hang_21 : decode cL_hang 21 = .ok (.ireturn, 1) := by decide +kernel
theorem dL_hang_22 : decode cL_hang 22 = .ok (.iload_n 3, 1) := by decide +kernel
theorem dL_hang_23 : decode cL_hang 23 = .ok (.ireturn, 1) := by decide +kernel
set_option maxRecDepth 20000 in
theorem ggL_takeOff_X6_takeOff : GoodIn wsL_takeOff wsX6_takeOff := goodIn_ca (goodIn_ca (goodIn_r _ [7, 8, 9, 10, 11, 12, 13, 14, 15, 16, 6, 17, 18, 19, 20, 21, 22, 23, 24, 25, 26, 27, 28, 29, 30, 31, 32, 33, 34, 35, 36, 37, 38, 39, 40, 41, 42, 43, 44, 45, 46, 47, 48, 49, 50, 51, 52, 53, 54, 55, 56, 57, 58, 59, 60, 61, 62, 63, 64, 65, 66, 67, 68, 69, 70, 71, 72, 73, 74, 75, 76, 77, 78, 79, 80, 81, 82, 83, 84, 85, 86, 87, 88, 89, 90, 91, 92, 93, 94, 95, 96, 97, 98, 99, 100, 101, 102, 103, 104, 105, 106, 107] (by decide +kernel) (by decide +kernel)) (goodIn_sub (fun _ h => List.mem_cons_of_mem _ (List.mem_append_left _ (List.mem_append_right _ h))) (by decide +kernel))) (goodIn_sub (fun _ h => List.mem_cons_of_mem _ (List.mem_append_right _ h)) (by decide +kernel))
set_option maxRecDepth 20000 in
theorem gL_takeOff_X6_takeOff : GoodIn wsL_takeOff (wsV RL 42 RX6 yX6_takeOff wsX6_takeOff) := goodIn_app (goodIn_of _ (by decide +kernel)) ggL_takeOff_X6_takeOff
theorem dL_takeOff_0 : decode cL_takeOff 0 = .ok (.aload_n 0, 1) := by decide +kernel
theorem dL_takeOff_1 : decode cL_takeOff 1 = .ok (.iload_n 1, 1) := by decide +kernel
theorem dL_takeOff_2 : decode cL_takeOff 2 = .ok (.iload_n 2, 1) := by decide +kernel
theorem dL_takeOff_3 : decode cL_takeOff 3 = .ok (.invokevirtual 42, 3) := by decide +kernel
theorem dL_takeOff_6 : decode cL_takeOff 6 = .ok (.istore_n 3, 1) := by decide +kernel
theorem dL_takeOff_7 : decode cL_takeOff 7 = .ok (.goto 15, 3) := by decide +kernel
theorem dL_takeOff_10 : decode cL_takeOff 10 = .ok (.astore 4, 2) := by decide +kernel
theorem dL_takeOff_12 : decode cL_takeOff 12 = .ok (.sipush (-7100), 3) := by decide +kernel
theorem dL_takeOff_15 : decode cL_takeOff 15 = .ok (.ireturn, 1) := by decide +kernel
theorem dL_takeOff_16 : decode cL_takeOff 16 = .ok (.astore 4, 2) := by decide +kernel
theorem dL_takeOff_18 : decode cL_takeOff 18 = .ok (.sipush (-7300), 3) := by decide +kernel
theorem dL_takeOff_21 : decode cL_takeOff 21 = .ok (.ireturn, 1) := by decide +kernel
theorem dL_takeOff_22 : decode cL_takeOff 22 = .ok (.iload_n 3, 1) := by decide +kernel
theorem dL_takeOff_23 : decode cL_takeOff 23 = .ok (.ifCond .eq 7, 3) := by decide +kernel
theorem dL_takeOff_26 : decode cL_takeOff 26 = .ok (.iconst 1, 1) := by decide +kernel
theorem dL_takeOff_27 : decode cL_takeOff 27 = .ok (.goto 4, 3) := by decide +kernel
theorem dL_takeOff_30 : decode cL_takeOff 30 = .ok (.iconst 0, 1) := by decide +kernel
theorem dL_takeOff_31 : decode cL_takeOff 31 = .ok (.ireturn, 1) := by decide +kernel
set_option maxRecDepth 20000 in
theorem ggL_valveOf_X6_valveOf : GoodIn wsL_valveOf wsX6_valveOf := goodIn_ca (goodIn_r _ [6, 7, 8, 9, 10, 11, 5, 12, 13, 14, 15, 16, 17, 18, 19, 20, 21, 22, 23, 24, 25, 26, 27, 28, 29, 30, 31, 32, 33, 34, 35, 36, 37, 38, 39, 40, 41, 42, 43, 44, 45, 46, 47, 48, 49, 50, 51, 52, 53, 54, 55, 56, 57, 58] (by decide +kernel) (by decide +kernel)) (goodIn_sub (fun _ h => List.mem_cons_of_mem _ (List.mem_append_right _ h)) (by decide +kernel))
set_option maxRecDepth 20000 in
theorem gL_valveOf_X6_valveOf : GoodIn wsL_valveOf (wsV RL 46 RX6 yX6_valveOf wsX6_valveOf) := goodIn_app (goodIn_of _ (by decide +kernel)) ggL_valveOf_X6_valveOf
theorem dL_valveOf_0 : decode cL_valveOf 0 = .ok (.aload_n 0, 1) := by decide +kernel
theorem dL_valveOf_1 : decode cL_valveOf 1 = .ok (.iload_n 1, 1) := by decide +kernel
theorem dL_valveOf_2 : decode cL_valveOf 2 = .ok (.invokevirtual 46, 3) := by decide +kernel
theorem dL_valveOf_5 : decode cL_valveOf 5 = .ok (.istore_n 2, 1) := by decide +kernel
theorem dL_valveOf_6 : decode cL_valveOf 6 = .ok (.goto 8, 3) := by decide +kernel
theorem dL_valveOf_9 : decode cL_valveOf 9 = .ok (.astore_n 3, 1) := by decide +kernel
theorem dL_valveOf_10 : decode cL_valveOf 10 = .ok (.sipush (-7100), 3) := by decide +kernel
theorem dL_valveOf_13 : decode cL_valveOf 13 = .ok (.ireturn, 1) := by decide +kernel
theorem dL_valveOf_14 : decode cL_valveOf 14 = .ok (.iload_n 2, 1) := by decide +kernel
theorem dL_valveOf_15 : decode cL_valveOf 15 = .ok (.ireturn, 1) := by decide +kernel
set_option maxRecDepth 20000 in
theorem ggL_ownerOf_X6_ownerOf : GoodIn wsL_ownerOf wsX6_ownerOf := goodIn_ca (goodIn_r _ [6, 7, 8, 9, 10, 11, 5, 12, 13, 14, 15, 16, 17, 18, 19, 20, 21, 22, 23, 24, 25, 26, 27, 28, 29, 30, 31, 32, 33, 34, 35, 36, 37, 38, 39, 40, 41, 42, 43, 44, 45, 46, 47, 48, 49, 50, 51, 52, 53, 54, 55, 56, 57, 58] (by decide +kernel) (by decide +kernel)) (goodIn_sub (fun _ h => List.mem_cons_of_mem _ (List.mem_append_right _ h)) (by decide +kernel))
set_option maxRecDepth 20000 in
theorem gL_ownerOf_X6_ownerOf : GoodIn wsL_ownerOf (wsV RL 49 RX6 yX6_ownerOf wsX6_ownerOf) := goodIn_app (goodIn_of _ (by decide +kernel)) ggL_ownerOf_X6_ownerOf
theorem dL_ownerOf_0 : decode cL_ownerOf 0 = .ok (.aload_n 0, 1) := by decide +kernel
theorem dL_ownerOf_1 : decode cL_ownerOf 1 = .ok (.iload_n 1, 1) := by decide +kernel
theorem dL_ownerOf_2 : decode cL_ownerOf 2 = .ok (.invokevirtual 49, 3) := by decide +kernel
theorem dL_ownerOf_5 : decode cL_ownerOf 5 = .ok (.istore_n 2, 1) := by decide +kernel
theorem dL_ownerOf_6 : decode cL_ownerOf 6 = .ok (.goto 8, 3) := by decide +kernel
theorem dL_ownerOf_9 : decode cL_ownerOf 9 = .ok (.astore_n 3, 1) := by decide +kernel
theorem dL_ownerOf_10 : decode cL_ownerOf 10 = .ok (.sipush (-7100), 3) := by decide +kernel
theorem dL_ownerOf_13 : decode cL_ownerOf 13 = .ok (.ireturn, 1) := by decide +kernel
theorem dL_ownerOf_14 : decode cL_ownerOf 14 = .ok (.iload_n 2, 1) := by decide +kernel
theorem dL_ownerOf_15 : decode cL_ownerOf 15 = .ok (.ireturn, 1) := by decide +kernel
set_option maxRecDepth 20000 in
theorem ggL_tagsByLog_X6_tagsByLog : GoodIn wsL_tagsByLog wsX6_tagsByLog := goodIn_ca (goodIn_r _ [6, 7, 8, 9, 5, 10, 11, 12, 13, 14, 15, 16, 17, 18, 19, 20, 21, 22, 23, 24, 25, 26, 27, 28, 29, 30, 31, 32, 33, 34, 35, 36, 37, 38, 39, 40, 41, 42, 43, 44, 45, 46, 47, 48, 49, 50, 51, 52, 53, 54, 55, 56, 57, 58, 59, 60, 61, 62, 63, 64, 65, 66, 67, 68, 69, 70, 71, 72, 73, 74, 75, 76] (by decide +kernel) (by decide +kernel)) (goodIn_sub (fun _ h => List.mem_cons_of_mem _ (List.mem_append_right _ h)) (by decide +kernel))
set_option maxRecDepth 20000 in
theorem gL_tagsByLog_X6_tagsByLog : GoodIn wsL_tagsByLog (wsV RL 52 RX6 yX6_tagsByLog wsX6_tagsByLog) := goodIn_app (goodIn_of _ (by decide +kernel)) ggL_tagsByLog_X6_tagsByLog
theorem dL_tagsByLog_0 : decode cL_tagsByLog 0 = .ok (.aload_n 0, 1) := by decide +kernel
theorem dL_tagsByLog_1 : decode cL_tagsByLog 1 = .ok (.iload_n 1, 1) := by decide +kernel
theorem dL_tagsByLog_2 : decode cL_tagsByLog 2 = .ok (.invokevirtual 52, 3) := by decide +kernel
theorem dL_tagsByLog_5 : decode cL_tagsByLog 5 = .ok (.istore_n 2, 1) := by decide +kernel
theorem dL_tagsByLog_6 : decode cL_tagsByLog 6 = .ok (.goto 8, 3) := by decide +kernel
theorem dL_tagsByLog_9 : decode cL_tagsByLog 9 = .ok (.astore_n 3, 1) := by decide +kernel
theorem dL_tagsByLog_10 : decode cL_tagsByLog 10 = .ok (.sipush (-7100), 3) := by decide +kernel
theorem dL_tagsByLog_13 : decode cL_tagsByLog 13 = .ok (.ireturn, 1) := by decide +kernel
theorem dL_tagsByLog_14 : decode cL_tagsByLog 14 = .ok (.iload_n 2, 1) := by decide +kernel
theorem dL_tagsByLog_15 : decode cL_tagsByLog 15 = .ok (.ireturn, 1) := by decide +kernel
set_option maxRecDepth 20000 in
theorem ggL_read_X6_read : GoodIn wsL_read wsX6_read := goodIn_ca (goodIn_ca (goodIn_r _ [7, 8, 9, 10, 11, 6, 12, 13, 14, 15, 16, 17, 18, 19, 20, 21, 22, 23, 24, 25, 26, 27, 28, 29, 30, 31, 32, 33, 34, 35, 36, 37, 38, 39, 40, 41, 42] (by decide +kernel) (by decide +kernel)) (goodIn_sub (fun _ h => List.mem_cons_of_mem _ (List.mem_append_left _ (List.mem_append_right _ h))) (by decide +kernel))) (goodIn_sub (fun _ h => List.mem_cons_of_mem _ (List.mem_append_right _ h)) (by decide +kernel))
set_option maxRecDepth 20000 in
theorem gL_read_X6_read : GoodIn wsL_read (wsV RL 55 RX6 yX6_read wsX6_read) := goodIn_app (goodIn_of _ (by decide +kernel)) ggL_read_X6_read
theorem dL_read_0 : decode cL_read 0 = .ok (.aload_n 0, 1) := by decide +kernel
theorem dL_read_1 : decode cL_read 1 = .ok (.iload_n 1, 1) := by decide +kernel
theorem dL_read_2 : decode cL_read 2 = .ok (.invokevirtual 55, 3) := by decide +kernel
theorem dL_read_5 : decode cL_read 5 = .ok (.istore_n 2, 1) := by decide +kernel
theorem dL_read_6 : decode cL_read 6 = .ok (.goto 13, 3) := by decide +kernel
theorem dL_read_9 : decode cL_read 9 = .ok (.astore_n 3, 1) := by decide +kernel
theorem dL_read_10 : decode cL_read 10 = .ok (.sipush (-7100), 3) := by decide +kernel
theorem dL_read_13 : decode cL_read 13 = .ok (.ireturn, 1) := by decide +kernel
theorem dL_read_14 : decode cL_read 14 = .ok (.astore_n 3, 1) := by decide +kernel
theorem dL_read_15 : decode cL_read 15 = .ok (.sipush (-7300), 3) := by decide +kernel
theorem dL_read_18 : decode cL_read 18 = .ok (.ireturn, 1) := by decide +kernel
theorem dL_read_19 : decode cL_read 19 = .ok (.iload_n 2, 1) := by decide +kernel
theorem dL_read_20 : decode cL_read 20 = .ok (.ireturn, 1) := by decide +kernel
set_option maxRecDepth 20000 in
theorem ggL_leave_X6_leave : GoodIn wsL_leave wsX6_leave := goodIn_ca (goodIn_ca (goodIn_r _ [7, 8, 9, 10, 11, 12, 13, 14, 6, 15, 16, 17, 18, 19, 20, 21, 22, 23, 24, 25, 26, 27, 28, 29, 30, 31, 32, 33, 34, 35, 36, 37, 38, 39, 40, 41, 42, 43, 44, 45, 46, 47, 48, 49, 50, 51, 52, 53, 54, 55, 56, 57, 58, 59, 60, 61, 62, 63, 64, 65, 66, 67, 68, 69, 70, 71, 72, 73, 74, 75, 76, 77, 78, 79, 80, 81, 82, 83, 84, 85, 86, 87, 88, 89, 90, 91, 92, 93, 94] (by decide +kernel) (by decide +kernel)) (goodIn_sub (fun _ h => List.mem_cons_of_mem _ (List.mem_append_left _ (List.mem_append_right _ h))) (by decide +kernel))) (goodIn_sub (fun _ h => List.mem_cons_of_mem _ (List.mem_append_right _ h)) (by decide +kernel))
set_option maxRecDepth 20000 in
theorem gL_leave_X6_leave : GoodIn wsL_leave (wsV RL 58 RX6 yX6_leave wsX6_leave) := goodIn_app (goodIn_of _ (by decide +kernel)) ggL_leave_X6_leave
theorem dL_leave_0 : decode cL_leave 0 = .ok (.aload_n 0, 1) := by decide +kernel
theorem dL_leave_1 : decode cL_leave 1 = .ok (.iload_n 1, 1) := by decide +kernel
theorem dL_leave_2 : decode cL_leave 2 = .ok (.invokevirtual 58, 3) := by decide +kernel
theorem dL_leave_5 : decode cL_leave 5 = .ok (.istore_n 2, 1) := by decide +kernel
theorem dL_leave_6 : decode cL_leave 6 = .ok (.goto 13, 3) := by decide +kernel
theorem dL_leave_9 : decode cL_leave 9 = .ok (.astore_n 3, 1) := by decide +kernel
theorem dL_leave_10 : decode cL_leave 10 = .ok (.sipush (-7100), 3) := by decide +kernel
theorem dL_leave_13 : decode cL_leave 13 = .ok (.ireturn, 1) := by decide +kernel
theorem dL_leave_14 : decode cL_leave 14 = .ok (.astore_n 3, 1) := by decide +kernel
theorem dL_leave_15 : decode cL_leave 15 = .ok (.sipush (-7300), 3) := by decide +kernel
theorem dL_leave_18 : decode cL_leave 18 = .ok (.ireturn, 1) := by decide +kernel
theorem dL_leave_19 : decode cL_leave 19 = .ok (.iload_n 2, 1) := by decide +kernel
theorem dL_leave_20 : decode cL_leave 20 = .ok (.ireturn, 1) := by decide +kernel
set_option maxRecDepth 20000 in
theorem ggL_canAct_X6_canAct : GoodIn wsL_canAct wsX6_canAct := goodIn_ca (goodIn_r _ [6, 7, 8, 5, 9, 10, 11, 12, 13, 14, 15, 16, 17, 18, 19, 20, 21, 22, 23, 24, 25, 26, 27, 28, 29, 30, 31, 32, 33, 34, 35, 36, 37] (by decide +kernel) (by decide +kernel)) (goodIn_sub (fun _ h => List.mem_cons_of_mem _ (List.mem_append_right _ h)) (by decide +kernel))
set_option maxRecDepth 20000 in
theorem gL_canAct_X6_canAct : GoodIn wsL_canAct (wsV RL 61 RX6 yX6_canAct wsX6_canAct) := goodIn_app (goodIn_of _ (by decide +kernel)) ggL_canAct_X6_canAct
theorem dL_canAct_0 : decode cL_canAct 0 = .ok (.aload_n 0, 1) := by decide +kernel
theorem dL_canAct_1 : decode cL_canAct 1 = .ok (.iload_n 1, 1) := by decide +kernel
theorem dL_canAct_2 : decode cL_canAct 2 = .ok (.invokevirtual 61, 3) := by decide +kernel
theorem dL_canAct_5 : decode cL_canAct 5 = .ok (.istore_n 2, 1) := by decide +kernel
theorem dL_canAct_6 : decode cL_canAct 6 = .ok (.goto 8, 3) := by decide +kernel
theorem dL_canAct_9 : decode cL_canAct 9 = .ok (.astore_n 3, 1) := by decide +kernel
theorem dL_canAct_10 : decode cL_canAct 10 = .ok (.sipush (-7100), 3) := by decide +kernel
theorem dL_canAct_13 : decode cL_canAct 13 = .ok (.ireturn, 1) := by decide +kernel
theorem dL_canAct_14 : decode cL_canAct 14 = .ok (.iload_n 2, 1) := by decide +kernel
theorem dL_canAct_15 : decode cL_canAct 15 = .ok (.ifCond .eq 7, 3) := by decide +kernel
theorem dL_canAct_18 : decode cL_canAct 18 = .ok (.iconst 1, 1) := by decide +kernel
theorem dL_canAct_19 : decode cL_canAct 19 = .ok (.goto 4, 3) := by decide +kernel
theorem dL_canAct_22 : decode cL_canAct 22 = .ok (.iconst 0, 1) := by decide +kernel
theorem dL_canAct_23 : decode cL_canAct 23 = .ok (.ireturn, 1) := by decide +kernel
set_option maxRecDepth 20000 in
theorem ggL_advance_X6_advance : GoodIn wsL_advance wsX6_advance := goodIn_ca (goodIn_ca (goodIn_r _ [7, 8, 9, 10, 11, 12, 13, 14, 15, 6, 16, 17, 18, 19, 20, 21, 22, 23, 24, 25, 26, 27, 28, 29, 30, 31, 32, 33, 34, 35, 36, 37, 38, 39, 40, 41, 42, 43, 44, 45, 46, 47, 48, 49, 50, 51, 52, 53, 54, 55, 56, 57, 58, 59, 60, 61, 62, 63, 64, 65, 66, 67, 68, 69, 70, 71, 72, 73, 74, 75, 76, 77, 78, 79, 80, 81, 82, 83, 84, 85, 86, 87, 88, 89, 90, 91, 92, 93, 94, 95, 96, 97, 98, 99, 100, 101, 102, 103, 104, 105, 106, 107, 108, 109, 110, 111, 112, 113, 114, 115, 116, 117, 118, 119, 120, 121, 122, 123, 124, 125, 126, 127, 128, 129, 130, 131, 132, 133, 134, 135, 136, 137, 138] (by decide +kernel) (by decide +kernel)) (goodIn_sub (fun _ h => List.mem_cons_of_mem _ (List.mem_append_left _ (List.mem_append_right _ h))) (by decide +kernel))) (goodIn_sub (fun _ h => List.mem_cons_of_mem _ (List.mem_append_right _ h)) (by decide +kernel))
set_option maxRecDepth 20000 in
theorem gL_advance_X6_advance : GoodIn wsL_advance (wsV RL 64 RX6 yX6_advance wsX6_advance) := goodIn_app (goodIn_of _ (by decide +kernel)) ggL_advance_X6_advance
theorem dL_advance_0 : decode cL_advance 0 = .ok (.aload_n 0, 1) := by decide +kernel
theorem dL_advance_1 : decode cL_advance 1 = .ok (.iload_n 1, 1) := by decide +kernel
theorem dL_advance_2 : decode cL_advance 2 = .ok (.invokevirtual 64, 3) := by decide +kernel
theorem dL_advance_5 : decode cL_advance 5 = .ok (.istore_n 2, 1) := by decide +kernel
theorem dL_advance_6 : decode cL_advance 6 = .ok (.goto 13, 3) := by decide +kernel
theorem dL_advance_9 : decode cL_advance 9 = .ok (.astore_n 3, 1) := by decide +kernel
theorem dL_advance_10 : decode cL_advance 10 = .ok (.sipush (-7200), 3) := by decide +kernel
theorem dL_advance_13 : decode cL_advance 13 = .ok (.ireturn, 1) := by decide +kernel
theorem dL_advance_14 : decode cL_advance 14 = .ok (.astore_n 3, 1) := by decide +kernel
theorem dL_advance_15 : decode cL_advance 15 = .ok (.sipush (-7300), 3) := by decide +kernel
theorem dL_advance_18 : decode cL_advance 18 = .ok (.ireturn, 1) := by decide +kernel
theorem dL_advance_19 : decode cL_advance 19 = .ok (.iload_n 2, 1) := by decide +kernel
theorem dL_advance_20 : decode cL_advance 20 = .ok (.ireturn, 1) := by decide +kernel
set_option maxRecDepth 20000 in
theorem ggL_entryAt_X6_entryAt : GoodIn wsL_entryAt wsX6_entryAt := goodIn_ca (goodIn_r _ [6, 7, 8, 9, 10, 11, 12, 13, 14, 15, 16, 17, 18, 19, 20, 21, 22, 23, 24, 25, 26, 27, 28, 29, 30, 31, 32, 33, 34] (by decide +kernel) (by decide +kernel)) (goodIn_sub (fun _ h => List.mem_cons_of_mem _ (List.mem_append_right _ h)) (by decide +kernel))
set_option maxRecDepth 20000 in
theorem gL_entryAt_X6_entryAt : GoodIn wsL_entryAt (wsV RL 67 RX6 yX6_entryAt wsX6_entryAt) := goodIn_app (goodIn_of _ (by decide +kernel)) ggL_entryAt_X6_entryAt
theorem dL_entryAt_0 : decode cL_entryAt 0 = .ok (.aload_n 0, 1) := by decide +kernel
theorem dL_entryAt_1 : decode cL_entryAt 1 = .ok (.iload_n 1, 1) := by decide +kernel
theorem dL_entryAt_2 : decode cL_entryAt 2 = .ok (.invokevirtual 67, 3) := by decide +kernel
theorem dL_entryAt_5 : decode cL_entryAt 5 = .ok (.istore_n 2, 1) := by decide +kernel
theorem dL_entryAt_6 : decode cL_entryAt 6 = .ok (.goto 8, 3) := by decide +kernel
theorem dL_entryAt_9 : decode cL_entryAt 9 = .ok (.astore_n 3, 1) := by decide +kernel
theorem dL_entryAt_10 : decode cL_entryAt 10 = .ok (.sipush (-7100), 3) := by decide +kernel
theorem dL_entryAt_13 : decode cL_entryAt 13 = .ok (.ireturn, 1) := by decide +kernel
theorem dL_entryAt_14 : decode cL_entryAt 14 = .ok (.iload_n 2, 1) := by decide +kernel
theorem dL_entryAt_15 : decode cL_entryAt 15 = .ok (.ireturn, 1) := by decide +kernel
set_option maxRecDepth 20000 in
theorem ggL_alarm_X6_alarm : GoodIn wsL_alarm wsX6_alarm := goodIn_ca (goodIn_ca (goodIn_ca (goodIn_r _ [8, 9, 10, 11, 12, 13, 14, 15, 16, 17, 18, 7, 19, 20, 21, 22, 23, 24, 25, 26, 27, 28, 29, 30, 31, 32, 33, 34, 35, 36, 37, 38, 39, 40, 41, 42, 43, 44, 45, 46, 47, 48, 49, 50, 51, 52, 53, 54, 55, 56, 57, 58, 59, 60, 61, 62, 63, 64, 65, 66, 67, 68, 69, 70, 71, 72, 73, 74, 75, 76, 77, 78, 79, 80, 81, 82, 83, 84, 85, 86, 87, 88, 89, 90, 91, 92, 93, 94, 95, 96, 97, 98, 99, 100, 101, 102, 103, 104, 105, 106, 107, 108, 109, 110, 111, 112, 113, 114, 115, 116, 117, 118, 119, 120, 121] (by decide +kernel) (by decide +kernel)) (goodIn_sub (fun _ h => List.mem_cons_of_mem _ (List.mem_append_left _ (List.mem_append_left _ (List.mem_append_right _ h)))) (by decide +kernel))) (goodIn_sub (fun _ h => List.mem_cons_of_mem _ (List.mem_append_left _ (List.mem_append_right _ h))) (by decide +kernel))) (goodIn_sub (fun _ h => List.mem_cons_of_mem _ (List.mem_append_right _ h)) (by decide +kernel))
set_option maxRecDepth 20000 in
theorem gL_alarm_X6_alarm : GoodIn wsL_alarm (wsV RL 70 RX6 yX6_alarm wsX6_alarm) := goodIn_app (goodIn_of _ (by decide +kernel)) ggL_alarm_X6_alarm
theorem dL_alarm_0 : decode cL_alarm 0 = .ok (.aload_n 0, 1) := by decide +kernel
theorem dL_alarm_1 : decode cL_alarm 1 = .ok (.iload_n 1, 1) := by decide +kernel
theorem dL_alarm_2 : decode cL_alarm 2 = .ok (.iload_n 2, 1) := by decide +kernel
theorem dL_alarm_3 : decode cL_alarm 3 = .ok (.iload_n 3, 1) := by decide +kernel
theorem dL_alarm_4 : decode cL_alarm 4 = .ok (.iload 4, 2) := by decide +kernel
theorem dL_alarm_6 : decode cL_alarm 6 = .ok (.iload 5, 2) := by decide +kernel
theorem dL_alarm_8 : decode cL_alarm 8 = .ok (.invokevirtual 70, 3) := by decide +kernel
theorem dL_alarm_11 : decode cL_alarm 11 = .ok (.istore 6, 2) := by decide +kernel
theorem dL_alarm_13 : decode cL_alarm 13 = .ok (.goto 21, 3) := by decide +kernel
theorem dL_alarm_16 : decode cL_alarm 16 = .ok (.astore 7, 2) := by decide +kernel
theorem dL_alarm_18 : decode cL_alarm 18 = .ok (.sipush (-7100), 3) := by decide +kernel
theorem dL_alarm_21 : decode cL_alarm 21 = .ok (.ireturn, 1) := by decide +kernel
theorem dL_alarm_22 : decode cL_alarm 22 = .ok (.astore 7, 2) := by decide +kernel
theorem dL_alarm_24 : decode cL_alarm 24 = .ok (.sipush (-7200), 3) := by decide +kernel
theorem dL_alarm_27 : decode cL_alarm 27 = .ok (.ireturn, 1) := by decide +kernel
theorem dL_alarm_28 : decode cL_alarm 28 = .ok (.astore 7, 2) := by decide +kernel
theorem dL_alarm_30 : decode cL_alarm 30 = .ok (.sipush (-7300), 3) := by decide +kernel
theorem dL_alarm_33 : decode cL_alarm 33 = .ok (.ireturn, 1) := by decide +kernel
theorem dL_alarm_34 : decode cL_alarm 34 = .ok (.iload 6, 2) := by decide +kernel
theorem dL_alarm_36 : decode cL_alarm 36 = .ok (.ireturn, 1) := by decide +kernel
set_option maxRecDepth 20000 in
theorem ggL_stateOf_X6_stateOf : GoodIn wsL_stateOf wsX6_stateOf := goodIn_ca (goodIn_r _ [6, 7, 8, 9, 10, 11, 12, 13, 14, 15, 16, 17, 18, 19, 20, 21, 22, 23, 24, 25, 26, 27, 28, 29, 30, 31, 32, 33, 34, 35, 36, 37, 38, 39, 40, 41, 42, 43, 44, 45, 46, 47, 48, 49, 50, 51, 52, 53, 54, 55, 56] (by decide +kernel) (by decide +kernel)) (goodIn_sub (fun _ h => List.mem_cons_of_mem _ (List.mem_append_right _ h)) (by decide +kernel))
set_option maxRecDepth 20000 in
theorem gL_stateOf_X6_stateOf : GoodIn wsL_stateOf (wsV RL 74 RX6 yX6_stateOf wsX6_stateOf) := goodIn_app (goodIn_of _ (by decide +kernel)) ggL_stateOf_X6_stateOf
theorem dL_stateOf_0 : decode cL_stateOf 0 = .ok (.aload_n 0, 1) := by decide +kernel
theorem dL_stateOf_1 : decode cL_stateOf 1 = .ok (.iload_n 1, 1) := by decide +kernel
theorem dL_stateOf_2 : decode cL_stateOf 2 = .ok (.invokevirtual 74, 3) := by decide +kernel
theorem dL_stateOf_5 : decode cL_stateOf 5 = .ok (.istore_n 2, 1) := by decide +kernel
theorem dL_stateOf_6 : decode cL_stateOf 6 = .ok (.goto 8, 3) := by decide +kernel
theorem dL_stateOf_9 : decode cL_stateOf 9 = .ok (.astore_n 3, 1) := by decide +kernel
theorem dL_stateOf_10 : decode cL_stateOf 10 = .ok (.sipush (-7100), 3) := by decide +kernel
theorem dL_stateOf_13 : decode cL_stateOf 13 = .ok (.ireturn, 1) := by decide +kernel
theorem dL_stateOf_14 : decode cL_stateOf 14 = .ok (.iload_n 2, 1) := by decide +kernel
theorem dL_stateOf_15 : decode cL_stateOf 15 = .ok (.ireturn, 1) := by decide +kernel
set_option maxRecDepth 20000 in
theorem ggL_insert_X6_insert : GoodIn wsL_insert wsX6_insert := goodIn_ca (goodIn_ca (goodIn_r _ [7, 8, 9, 10, 11, 12, 13, 14, 15, 16, 17, 18, 19, 20, 21, 22, 23, 24, 25, 26, 27, 28, 29, 30, 31, 32, 33, 34, 35, 36, 37] (by decide +kernel) (by decide +kernel)) (goodIn_sub (fun _ h => List.mem_cons_of_mem _ (List.mem_append_left _ (List.mem_append_right _ h))) (by decide +kernel))) (goodIn_sub (fun _ h => List.mem_cons_of_mem _ (List.mem_append_right _ h)) (by decide +kernel))
set_option maxRecDepth 20000 in
theorem gL_insert_X6_insert : GoodIn wsL_insert (wsV RL 77 RX6 yX6_insert wsX6_insert) := goodIn_app (goodIn_of _ (by decide +kernel)) ggL_insert_X6_insert
theorem dL_insert_0 : decode cL_insert 0 = .ok (.aload_n 0, 1) := by decide +kernel
theorem dL_insert_1 : decode cL_insert 1 = .ok (.iload_n 1, 1) := by decide +kernel
theorem dL_insert_2 : decode cL_insert 2 = .ok (.iload_n 2, 1) := by decide +kernel
theorem dL_insert_3 : decode cL_insert 3 = .ok (.invokevirtual 77, 3) := by decide +kernel
theorem dL_insert_6 : decode cL_insert 6 = .ok (.istore_n 3, 1) := by decide +kernel
theorem dL_insert_7 : decode cL_insert 7 = .ok (.goto 15, 3) := by decide +kernel
theorem dL_insert_10 : decode cL_insert 10 = .ok (.astore 4, 2) := by decide +kernel
theorem dL_insert_12 : decode cL_insert 12 = .ok (.sipush (-7200), 3) := by decide +kernel
theorem dL_insert_15 : decode cL_insert 15 = .ok (.ireturn, 1) := by decide +kernel
theorem dL_insert_16 : decode cL_insert 16 = .ok (.astore 4, 2) := by decide +kernel
theorem dL_insert_18 : decode cL_insert 18 = .ok (.sipush (-7300), 3) := by decide +kernel
theorem dL_insert_21 : decode cL_insert 21 = .ok (.ireturn, 1) := by decide +kernel
theorem dL_insert_22 : decode cL_insert 22 = .ok (.iload_n 3, 1) := by decide +kernel
theorem dL_insert_23 : decode cL_insert 23 = .ok (.ireturn, 1) := by decide +kernel
set_option maxRecDepth 20000 in
theorem ggL_post_X6_post : GoodIn wsL_post wsX6_post := goodIn_ca (goodIn_ca (goodIn_r _ [7, 8, 9, 10, 11, 12, 13, 14, 15, 16, 17, 6, 18, 19, 20, 21, 22, 23, 24, 25, 26, 27, 28, 29, 30, 31, 32, 33, 34, 35, 36, 37, 38, 39, 40, 41, 42, 43, 44, 45, 46, 47, 48, 49, 50, 51, 52, 53, 54, 55, 56, 57, 58, 59, 60, 61, 62, 63, 64, 65, 66, 67, 68, 69, 70, 71, 72, 73, 74, 75, 76, 77, 78, 79, 80, 81, 82, 83, 84, 85, 86, 87, 88, 89, 90, 91, 92, 93, 94, 95, 96, 97, 98, 99, 100, 101, 102, 103, 104, 105, 106, 107, 108, 109, 110, 111, 112, 113, 114, 115, 116, 117, 118, 119, 120, 121, 122, 123, 124, 125, 126, 127, 128, 129, 130, 131, 132, 133, 134, 135, 136, 137, 138, 139, 140, 141, 142, 143, 144, 145, 146, 147, 148, 149, 150, 151, 152, 153, 154, 155, 156, 157, 158, 159, 160, 161, 162, 163, 164, 165, 166, 167, 168, 169, 170, 171, 172] (by decide +kernel) (by decide +kernel)) (goodIn_sub (fun _ h => List.mem_cons_of_mem _ (List.mem_append_left _ (List.mem_append_right _ h))) (by decide +kernel))) (goodIn_sub (fun _ h => List.mem_cons_of_mem _ (List.mem_append_right _ h)) (by decide +kernel))
set_option maxRecDepth 20000 in
theorem gL_post_X6_post : GoodIn wsL_post (wsV RL 81 RX6 yX6_post wsX6_post) := goodIn_app (goodIn_of _ (by decide +kernel)) ggL_post_X6_post
theorem dL_post_0 : decode cL_post 0 = .ok (.aload_n 0, 1) := by decide +kernel
theorem dL_post_1 : decode cL_post 1 = .ok (.iload_n 1, 1) := by decide +kernel
theorem dL_post_2 : decode cL_post 2 = .ok (.iload_n 2, 1) := by decide +kernel
theorem dL_post_3 : decode cL_post 3 = .ok (.invokevirtual 81, 3) := by decide +kernel
theorem dL_post_6 : decode cL_post 6 = .ok (.istore_n 3, 1) := by decide +kernel
theorem dL_post_7 : decode cL_post 7 = .ok (.goto 15, 3) := by decide +kernel
theorem dL_post_10 : decode cL_post 10 = .ok (.astore 4, 2) := by decide +kernel
theorem dL_post_12 : decode cL_post 12 = .ok (.sipush (-7100), 3) := by decide +kernel
theorem dL_post_15 : decode cL_post 15 = .ok (.ireturn, 1) := by decide +kernel
theorem dL_post_16 : decode cL_post 16 = .ok (.astore 4, 2) := by decide +kernel
theorem dL_post_18 : decode cL_post 18 = .ok (.sipush (-7300), 3) := by decide +kernel
theorem dL_post_21 : decode cL_post 21 = .ok (.ireturn, 1) := by decide +kernel
theorem dL_post_22 : decode cL_post 22 = .ok (.iload_n 3, 1) := by decide +kernel
theorem dL_post_23 : decode cL_post 23 = .ok (.ireturn, 1) := by decide +kernel
set_option maxRecDepth 20000 in
theorem ggL_finish_X6_finish : GoodIn wsL_finish wsX6_finish := goodIn_ca (goodIn_ca (goodIn_r _ [7, 8, 9, 10, 11, 12, 13, 14, 6, 15, 16, 17, 18, 19, 20, 21, 22, 23, 24, 25, 26, 27, 28, 29, 30, 31, 32, 33, 34, 35, 36, 37, 38, 39, 40, 41, 42, 43, 44, 45, 46, 47, 48, 49, 50, 51, 52, 53, 54, 55, 56, 57, 58, 59, 60, 61, 62, 63, 64, 65, 66, 67, 68] (by decide +kernel) (by decide +kernel)) (goodIn_sub (fun _ h => List.mem_cons_of_mem _ (List.mem_append_left _ (List.mem_append_right _ h))) (by decide +kernel))) (goodIn_sub (fun _ h => List.mem_cons_of_mem _ (List.mem_append_right _ h)) (by decide +kernel))
set_option maxRecDepth 20000 in
theorem gL_finish_X6_finish : GoodIn wsL_finish (wsV RL 84 RX6 yX6_finish wsX6_finish) := goodIn_app (goodIn_of _ (by decide +kernel)) ggL_finish_X6_finish
theorem dL_finish_0 : decode cL_finish 0 = .ok (.aload_n 0, 1) := by decide +kernel
theorem dL_finish_1 : decode cL_finish 1 = .ok (.iload_n 1, 1) := by decide +kernel
theorem dL_finish_2 : decode cL_finish 2 = .ok (.iload_n 2, 1) := by decide +kernel
theorem dL_finish_3 : decode cL_finish 3 = .ok (.invokevirtual 84, 3) := by decide +kernel
theorem dL_finish_6 : decode cL_finish 6 = .ok (.goto 13, 3) := by decide +kernel
theorem dL_finish_9 : decode cL_finish 9 = .ok (.astore_n 3, 1) := by decide +kernel
theorem dL_finish_10 : decode cL_finish 10 = .ok (.sipush (-7100), 3) := by decide +kernel
theorem dL_finish_13 : decode cL_finish 13 = .ok (.ireturn, 1) := by decide +kernel
theorem dL_finish_14 : decode cL_finish 14 = .ok (.astore_n 3, 1) := by decide +kernel
theorem dL_finish_15 : decode cL_finish 15 = .ok (.sipush (-7300), 3) := by decide +kernel
theorem dL_finish_18 : decode cL_finish 18 = .ok (.ireturn, 1) := by decide +kernel
theorem dL_finish_19 : decode cL_finish 19 = .ok (.iconst 0, 1) := by decide +kernel
theorem dL_finish_20 : decode cL_finish 20 = .ok (.ireturn, 1) := by decide +kernel
set_option maxRecDepth 20000 in
theorem ggL_taskOf_X6_taskOf : GoodIn wsL_taskOf wsX6_taskOf := goodIn_ca (goodIn_r _ [6, 7, 8, 9, 10, 5, 11, 12, 13, 14, 15, 16, 17, 18, 19, 20, 21, 22, 23, 24, 25, 26, 27, 28] (by decide +kernel) (by decide +kernel)) (goodIn_sub (fun _ h => List.mem_cons_of_mem _ (List.mem_append_right _ h)) (by decide +kernel))
set_option maxRecDepth 20000 in
theorem gL_taskOf_X6_taskOf : GoodIn wsL_taskOf (wsV RL 88 RX6 yX6_taskOf wsX6_taskOf) := goodIn_app (goodIn_of _ (by decide +kernel)) ggL_taskOf_X6_taskOf
theorem dL_taskOf_0 : decode cL_taskOf 0 = .ok (.aload_n 0, 1) := by decide +kernel
theorem dL_taskOf_1 : decode cL_taskOf 1 = .ok (.iload_n 1, 1) := by decide +kernel
theorem dL_taskOf_2 : decode cL_taskOf 2 = .ok (.invokevirtual 88, 3) := by decide +kernel
theorem dL_taskOf_5 : decode cL_taskOf 5 = .ok (.istore_n 2, 1) := by decide +kernel
theorem dL_taskOf_6 : decode cL_taskOf 6 = .ok (.goto 8, 3) := by decide +kernel
theorem dL_taskOf_9 : decode cL_taskOf 9 = .ok (.astore_n 3, 1) := by decide +kernel
theorem dL_taskOf_10 : decode cL_taskOf 10 = .ok (.sipush (-7100), 3) := by decide +kernel
theorem dL_taskOf_13 : decode cL_taskOf 13 = .ok (.ireturn, 1) := by decide +kernel
theorem dL_taskOf_14 : decode cL_taskOf 14 = .ok (.iload_n 2, 1) := by decide +kernel
theorem dL_taskOf_15 : decode cL_taskOf 15 = .ok (.ireturn, 1) := by decide +kernel
set_option maxRecDepth 20000 in
theorem ggL_signs_X6_signs : GoodIn wsL_signs wsX6_signs := goodIn_ca (goodIn_r _ [6, 7, 8, 9, 10, 11, 5, 12, 13, 14, 15, 16, 17, 18, 19, 20, 21, 22, 23, 24, 25, 26, 27, 28, 29, 30, 31, 32, 33, 34, 35, 36, 37, 38, 39, 40, 41, 42, 43, 44, 45, 46, 47, 48, 49, 50, 51, 52, 53, 54, 55, 56, 57, 58, 59, 60] (by decide +kernel) (by decide +kernel)) (goodIn_sub (fun _ h => List.mem_cons_of_mem _ (List.mem_append_right _ h)) (by decide +kernel))
set_option maxRecDepth 20000 in
theorem gL_signs_X6_signs : GoodIn wsL_signs (wsV RL 91 RX6 yX6_signs wsX6_signs) := goodIn_app (goodIn_of _ (by decide +kernel)) ggL_signs_X6_signs
theorem dL_signs_0 : decode cL_signs 0 = .ok (.aload_n 0, 1) := by decide +kernel
theorem dL_signs_1 : decode cL_signs 1 = .ok (.iload_n 1, 1) := by decide +kernel
theorem dL_signs_2 : decode cL_signs 2 = .ok (.invokevirtual 91, 3) := by decide +kernel
theorem dL_signs_5 : decode cL_signs 5 = .ok (.istore_n 2, 1) := by decide +kernel
theorem dL_signs_6 : decode cL_signs 6 = .ok (.goto 8, 3) := by decide +kernel
theorem dL_signs_9 : decode cL_signs 9 = .ok (.astore_n 3, 1) := by decide +kernel
theorem dL_signs_10 : decode cL_signs 10 = .ok (.sipush (-7100), 3) := by decide +kernel
theorem dL_signs_13 : decode cL_signs 13 = .ok (.ireturn, 1) := by decide +kernel
theorem dL_signs_14 : decode cL_signs 14 = .ok (.iload_n 2, 1) := by decide +kernel
theorem dL_signs_15 : decode cL_signs 15 = .ok (.ireturn, 1) := by decide +kernel
set_option maxRecDepth 20000 in
theorem ggL_signAt_X6_signAt : GoodIn wsL_signAt wsX6_signAt := goodIn_ca (goodIn_r _ [6, 7, 8, 9, 10, 11, 5, 12, 13, 14, 15, 16, 17, 18, 19, 20, 21, 22, 23, 24, 25, 26, 27, 28, 29, 30, 31, 32, 33, 34, 35, 36, 37, 38, 39, 40, 41, 42, 43, 44, 45, 46, 47, 48, 49, 50, 51, 52, 53, 54, 55, 56, 57, 58, 59, 60, 61, 62, 63] (by decide +kernel) (by decide +kernel)) (goodIn_sub (fun _ h => List.mem_cons_of_mem _ (List.mem_append_right _ h)) (by decide +kernel))
set_option maxRecDepth 20000 in
theorem gL_signAt_X6_signAt : GoodIn wsL_signAt (wsV RL 94 RX6 yX6_signAt wsX6_signAt) := goodIn_app (goodIn_of _ (by decide +kernel)) ggL_signAt_X6_signAt
theorem dL_signAt_0 : decode cL_signAt 0 = .ok (.aload_n 0, 1) := by decide +kernel
theorem dL_signAt_1 : decode cL_signAt 1 = .ok (.iload_n 1, 1) := by decide +kernel
theorem dL_signAt_2 : decode cL_signAt 2 = .ok (.iload_n 2, 1) := by decide +kernel
theorem dL_signAt_3 : decode cL_signAt 3 = .ok (.invokevirtual 94, 3) := by decide +kernel
theorem dL_signAt_6 : decode cL_signAt 6 = .ok (.istore_n 3, 1) := by decide +kernel
theorem dL_signAt_7 : decode cL_signAt 7 = .ok (.goto 9, 3) := by decide +kernel
theorem dL_signAt_10 : decode cL_signAt 10 = .ok (.astore 4, 2) := by decide +kernel
theorem dL_signAt_12 : decode cL_signAt 12 = .ok (.sipush (-7100), 3) := by decide +kernel
theorem dL_signAt_15 : decode cL_signAt 15 = .ok (.ireturn, 1) := by decide +kernel
theorem dL_signAt_16 : decode cL_signAt 16 = .ok (.iload_n 3, 1) := by decide +kernel
theorem dL_signAt_17 : decode cL_signAt 17 = .ok (.ireturn, 1) := by decide +kernel
set_option maxRecDepth 20000 in
theorem ggL_signBack_X6_signBack : GoodIn wsL_signBack wsX6_signBack := goodIn_ca (goodIn_r _ [6, 7, 8, 9, 10, 11, 5, 12, 13, 14, 15, 16, 17, 18, 19, 20, 21, 22, 23, 24, 25, 26, 27, 28, 29, 30, 31, 32, 33, 34, 35, 36, 37, 38, 39, 40, 41, 42, 43, 44, 45, 46, 47, 48, 49, 50, 51, 52, 53, 54, 55, 56, 57, 58, 59, 60, 61, 62, 63, 64, 65, 66] (by decide +kernel) (by decide +kernel)) (goodIn_sub (fun _ h => List.mem_cons_of_mem _ (List.mem_append_right _ h)) (by decide +kernel))
set_option maxRecDepth 20000 in
theorem gL_signBack_X6_signBack : GoodIn wsL_signBack (wsV RL 97 RX6 yX6_signBack wsX6_signBack) := goodIn_app (goodIn_of _ (by decide +kernel)) ggL_signBack_X6_signBack
theorem dL_signBack_0 : decode cL_signBack 0 = .ok (.aload_n 0, 1) := by decide +kernel
theorem dL_signBack_1 : decode cL_signBack 1 = .ok (.iload_n 1, 1) := by decide +kernel
theorem dL_signBack_2 : decode cL_signBack 2 = .ok (.iload_n 2, 1) := by decide +kernel
theorem dL_signBack_3 : decode cL_signBack 3 = .ok (.invokevirtual 97, 3) := by decide +kernel
theorem dL_signBack_6 : decode cL_signBack 6 = .ok (.istore_n 3, 1) := by decide +kernel
theorem dL_signBack_7 : decode cL_signBack 7 = .ok (.goto 9, 3) := by decide +kernel
theorem dL_signBack_10 : decode cL_signBack 10 = .ok (.astore 4, 2) := by decide +kernel
theorem dL_signBack_12 : decode cL_signBack 12 = .ok (.sipush (-7100), 3) := by decide +kernel
theorem dL_signBack_15 : decode cL_signBack 15 = .ok (.ireturn, 1) := by decide +kernel
theorem dL_signBack_16 : decode cL_signBack 16 = .ok (.iload_n 3, 1) := by decide +kernel
theorem dL_signBack_17 : decode cL_signBack 17 = .ok (.ireturn, 1) := by decide +kernel
theorem dL_entry_0 : decode cL_entry 0 = .ok (.aload_n 0, 1) := by decide +kernel
theorem dL_entry_1 : decode cL_entry 1 = .ok (.iload_n 1, 1) := by decide +kernel
theorem dL_entry_2 : decode cL_entry 2 = .ok (.iconst 2, 1) := by decide +kernel
theorem dL_entry_3 : decode cL_entry 3 = .ok (.idiv, 1) := by decide +kernel
theorem dL_entry_4 : decode cL_entry 4 = .ok (.laload, 1) := by decide +kernel
theorem dL_entry_5 : decode cL_entry 5 = .ok (.bipush 32, 2) := by decide +kernel
theorem dL_entry_7 : decode cL_entry 7 = .ok (.iload_n 1, 1) := by decide +kernel
theorem dL_entry_8 : decode cL_entry 8 = .ok (.iconst 2, 1) := by decide +kernel
theorem dL_entry_9 : decode cL_entry 9 = .ok (.irem, 1) := by decide +kernel
theorem dL_entry_10 : decode cL_entry 10 = .ok (.imul, 1) := by decide +kernel
theorem dL_entry_11 : decode cL_entry 11 = .ok (.lshr, 1) := by decide +kernel
theorem dL_entry_12 : decode cL_entry 12 = .ok (.ldc2_w 100, 3) := by decide +kernel
theorem dL_entry_15 : decode cL_entry 15 = .ok (.land, 1) := by decide +kernel
theorem dL_entry_16 : decode cL_entry 16 = .ok (.l2i, 1) := by decide +kernel
theorem dL_entry_17 : decode cL_entry 17 = .ok (.ireturn, 1) := by decide +kernel
theorem dL_note_0 : decode cL_note 0 = .ok (.ldc2_w 102, 3) := by decide +kernel
theorem dL_note_3 : decode cL_note 3 = .ok (.aload_n 1, 1) := by decide +kernel
theorem dL_note_4 : decode cL_note 4 = .ok (.iconst 0, 1) := by decide +kernel
theorem dL_note_5 : decode cL_note 5 = .ok (.iaload, 1) := by decide +kernel
theorem dL_note_6 : decode cL_note 6 = .ok (.i2l, 1) := by decide +kernel
theorem dL_note_7 : decode cL_note 7 = .ok (.lmul, 1) := by decide +kernel
theorem dL_note_8 : decode cL_note 8 = .ok (.sipush 1000, 3) := by decide +kernel
theorem dL_note_11 : decode cL_note 11 = .ok (.iload_n 2, 1) := by decide +kernel
theorem dL_note_12 : decode cL_note 12 = .ok (.imul, 1) := by decide +kernel
theorem dL_note_13 : decode cL_note 13 = .ok (.i2l, 1) := by decide +kernel
theorem dL_note_14 : decode cL_note 14 = .ok (.ladd, 1) := by decide +kernel
theorem dL_note_15 : decode cL_note 15 = .ok (.bipush 100, 2) := by decide +kernel
theorem dL_note_17 : decode cL_note 17 = .ok (.iload_n 3, 1) := by decide +kernel
theorem dL_note_18 : decode cL_note 18 = .ok (.iconst 1, 1) := by decide +kernel
theorem dL_note_19 : decode cL_note 19 = .ok (.iadd, 1) := by decide +kernel
theorem dL_note_20 : decode cL_note 20 = .ok (.imul, 1) := by decide +kernel
theorem dL_note_21 : decode cL_note 21 = .ok (.i2l, 1) := by decide +kernel
theorem dL_note_22 : decode cL_note 22 = .ok (.ladd, 1) := by decide +kernel
theorem dL_note_23 : decode cL_note 23 = .ok (.iload 4, 2) := by decide +kernel
theorem dL_note_25 : decode cL_note 25 = .ok (.i2l, 1) := by decide +kernel
theorem dL_note_26 : decode cL_note 26 = .ok (.ladd, 1) := by decide +kernel
theorem dL_note_27 : decode cL_note 27 = .ok (.lstore 5, 2) := by decide +kernel
theorem dL_note_29 : decode cL_note 29 = .ok (.aload_n 0, 1) := by decide +kernel
theorem dL_note_30 : decode cL_note 30 = .ok (.aload_n 1, 1) := by decide +kernel
theorem dL_note_31 : decode cL_note 31 = .ok (.iconst 1, 1) := by decide +kernel
theorem dL_note_32 : decode cL_note 32 = .ok (.iaload, 1) := by decide +kernel
theorem dL_note_33 : decode cL_note 33 = .ok (.iconst 2, 1) := by decide +kernel
theorem dL_note_34 : decode cL_note 34 = .ok (.idiv, 1) := by decide +kernel
theorem dL_note_35 : decode cL_note 35 = .ok (.aload_n 1, 1) := by decide +kernel
theorem dL_note_36 : decode cL_note 36 = .ok (.iconst 1, 1) := by decide +kernel
theorem dL_note_37 : decode cL_note 37 = .ok (.iaload, 1) := by decide +kernel
theorem dL_note_38 : decode cL_note 38 = .ok (.iconst 2, 1) := by decide +kernel
theorem dL_note_39 : decode cL_note 39 = .ok (.irem, 1) := by decide +kernel
theorem dL_note_40 : decode cL_note 40 = .ok (.ifCond .ne 8, 3) := by decide +kernel
theorem dL_note_43 : decode cL_note 43 = .ok (.lload 5, 2) := by decide +kernel
theorem dL_note_45 : decode cL_note 45 = .ok (.goto 16, 3) := by decide +kernel
theorem dL_note_48 : decode cL_note 48 = .ok (.aload_n 0, 1) := by decide +kernel
theorem dL_note_49 : decode cL_note 49 = .ok (.aload_n 1, 1) := by decide +kernel
theorem dL_note_50 : decode cL_note 50 = .ok (.iconst 1, 1) := by decide +kernel
theorem dL_note_51 : decode cL_note 51 = .ok (.iaload, 1) := by decide +kernel
theorem dL_note_52 : decode cL_note 52 = .ok (.iconst 2, 1) := by decide +kernel
theorem dL_note_53 : decode cL_note 53 = .ok (.idiv, 1) := by decide +kernel
theorem dL_note_54 : decode cL_note 54 = .ok (.laload, 1) := by decide +kernel
theorem dL_note_55 : decode cL_note 55 = .ok (.lload 5, 2) := by decide +kernel
theorem dL_note_57 : decode cL_note 57 = .ok (.bipush 32, 2) := by decide +kernel
theorem dL_note_59 : decode cL_note 59 = .ok (.lshl, 1) := by decide +kernel
theorem dL_note_60 : decode cL_note 60 = .ok (.lor, 1) := by decide +kernel
theorem dL_note_61 : decode cL_note 61 = .ok (.lastore, 1) := by decide +kernel
theorem dL_note_62 : decode cL_note 62 = .ok (.aload_n 1, 1) := by decide +kernel
theorem dL_note_63 : decode cL_note 63 = .ok (.iconst 1, 1) := by decide +kernel
theorem dL_note_64 : decode cL_note 64 = .ok (.dup2, 1) := by decide +kernel
theorem dL_note_65 : decode cL_note 65 = .ok (.iaload, 1) := by decide +kernel
theorem dL_note_66 : decode cL_note 66 = .ok (.iconst 1, 1) := by decide +kernel
theorem dL_note_67 : decode cL_note 67 = .ok (.iadd, 1) := by decide +kernel
theorem dL_note_68 : decode cL_note 68 = .ok (.iastore, 1) := by decide +kernel
theorem dL_note_69 : decode cL_note 69 = .ok (.return_, 1) := by decide +kernel
theorem dL_kind_0 : decode cL_kind 0 = .ok (.iload_n 0, 1) := by decide +kernel
theorem dL_kind_1 : decode cL_kind 1 = .ok (.sipush 1000, 3) := by decide +kernel
theorem dL_kind_4 : decode cL_kind 4 = .ok (.idiv, 1) := by decide +kernel
theorem dL_kind_5 : decode cL_kind 5 = .ok (.bipush 10, 2) := by decide +kernel
theorem dL_kind_7 : decode cL_kind 7 = .ok (.irem, 1) := by decide +kernel
theorem dL_kind_8 : decode cL_kind 8 = .ok (.ireturn, 1) := by decide +kernel
theorem dL_who_0 : decode cL_who 0 = .ok (.iload_n 0, 1) := by decide +kernel
theorem dL_who_1 : decode cL_who 1 = .ok (.bipush 100, 2) := by decide +kernel
theorem dL_who_3 : decode cL_who 3 = .ok (.idiv, 1) := by decide +kernel
theorem dL_who_4 : decode cL_who 4 = .ok (.bipush 10, 2) := by decide +kernel
theorem dL_who_6 : decode cL_who 6 = .ok (.irem, 1) := by decide +kernel
theorem dL_who_7 : decode cL_who 7 = .ok (.iconst 1, 1) := by decide +kernel
theorem dL_who_8 : decode cL_who 8 = .ok (.isub, 1) := by decide +kernel
theorem dL_who_9 : decode cL_who 9 = .ok (.ireturn, 1) := by decide +kernel
set_option maxRecDepth 20000 in
theorem ggL_opened_L_entry : GoodIn wsL_opened wsL_entry := goodIn_r _ [4, 5] (by decide +kernel) (by decide +kernel)
set_option maxRecDepth 20000 in
theorem gL_opened_L_entry : GoodIn wsL_opened (va_wsS RL 104 yL_entry wsL_entry) := goodIn_app (goodIn_of _ (by decide +kernel)) ggL_opened_L_entry
set_option maxRecDepth 20000 in
theorem ggL_opened_L_kind : GoodIn wsL_opened wsL_kind := goodIn_r _ [8] (by decide +kernel) (by decide +kernel)
set_option maxRecDepth 20000 in
theorem gL_opened_L_kind : GoodIn wsL_opened (va_wsS RL 110 yL_kind wsL_kind) := goodIn_app (goodIn_of _ (by decide +kernel)) ggL_opened_L_kind
theorem dL_opened_0 : decode cL_opened 0 = .ok (.aload_n 1, 1) := by decide +kernel
theorem dL_opened_1 : decode cL_opened 1 = .ok (.iconst 1, 1) := by decide +kernel
theorem dL_opened_2 : decode cL_opened 2 = .ok (.iaload, 1) := by decide +kernel
theorem dL_opened_3 : decode cL_opened 3 = .ok (.iconst 1, 1) := by decide +kernel
theorem dL_opened_4 : decode cL_opened 4 = .ok (.isub, 1) := by decide +kernel
theorem dL_opened_5 : decode cL_opened 5 = .ok (.istore_n 3, 1) := by decide +kernel
theorem dL_opened_6 : decode cL_opened 6 = .ok (.iload_n 3, 1) := by decide +kernel
theorem dL_opened_7 : decode cL_opened 7 = .ok (.ifCond .lt 51, 3) := by decide +kernel
theorem dL_opened_10 : decode cL_opened 10 = .ok (.aload_n 0, 1) := by decide +kernel
theorem dL_opened_11 : decode cL_opened 11 = .ok (.iload_n 3, 1) := by decide +kernel
theorem dL_opened_12 : decode cL_opened 12 = .ok (.invokestatic 104, 3) := by decide +kernel
theorem dL_opened_15 : decode cL_opened 15 = .ok (.invokestatic 110, 3) := by decide +kernel
theorem dL_opened_18 : decode cL_opened 18 = .ok (.ifCond .ne 34, 3) := by decide +kernel
theorem dL_opened_21 : decode cL_opened 21 = .ok (.aload_n 0, 1) := by decide +kernel
theorem dL_opened_22 : decode cL_opened 22 = .ok (.iload_n 3, 1) := by decide +kernel
theorem dL_opened_23 : decode cL_opened 23 = .ok (.invokestatic 104, 3) := by decide +kernel
theorem dL_opened_26 : decode cL_opened 26 = .ok (.bipush 10, 2) := by decide +kernel
theorem dL_opened_28 : decode cL_opened 28 = .ok (.irem, 1) := by decide +kernel
theorem dL_opened_29 : decode cL_opened 29 = .ok (.iload_n 2, 1) := by decide +kernel
theorem dL_opened_30 : decode cL_opened 30 = .ok (.if_icmp .ne 22, 3) := by decide +kernel
theorem dL_opened_33 : decode cL_opened 33 = .ok (.aload_n 0, 1) := by decide +kernel
theorem dL_opened_34 : decode cL_opened 34 = .ok (.iload_n 3, 1) := by decide +kernel
theorem dL_opened_35 : decode cL_opened 35 = .ok (.invokestatic 104, 3) := by decide +kernel
theorem dL_opened_38 : decode cL_opened 38 = .ok (.bipush 100, 2) := by decide +kernel
theorem dL_opened_40 : decode cL_opened 40 = .ok (.irem, 1) := by decide +kernel
theorem dL_opened_41 : decode cL_opened 41 = .ok (.bipush 9, 2) := by decide +kernel
theorem dL_opened_43 : decode cL_opened 43 = .ok (.if_icmp .le 7, 3) := by decide +kernel
theorem dL_opened_46 : decode cL_opened 46 = .ok (.iconst 1, 1) := by decide +kernel
theorem dL_opened_47 : decode cL_opened 47 = .ok (.goto 4, 3) := by decide +kernel
theorem dL_opened_50 : decode cL_opened 50 = .ok (.iconst 0, 1) := by decide +kernel
theorem dL_opened_51 : decode cL_opened 51 = .ok (.ireturn, 1) := by decide +kernel
theorem dL_opened_52 : decode cL_opened 52 = .ok (.iinc 3 (-1), 3) := by decide +kernel
theorem dL_opened_55 : decode cL_opened 55 = .ok (.goto (-49), 3) := by decide +kernel
theorem dL_opened_58 : decode cL_opened 58 = .ok (.iconst 0, 1) := by decide +kernel
theorem dL_opened_59 : decode cL_opened 59 = .ok (.ireturn, 1) := by decide +kernel
set_option maxRecDepth 20000 in
theorem ggL_hasLeft_L_entry : GoodIn wsL_hasLeft wsL_entry := goodIn_r _ [4, 5] (by decide +kernel) (by decide +kernel)
set_option maxRecDepth 20000 in
theorem gL_hasLeft_L_entry : GoodIn wsL_hasLeft (va_wsS RL 104 yL_entry wsL_entry) := goodIn_app (goodIn_of _ (by decide +kernel)) ggL_hasLeft_L_entry
set_option maxRecDepth 20000 in
theorem ggL_hasLeft_L_kind : GoodIn wsL_hasLeft wsL_kind := goodIn_r _ [8] (by decide +kernel) (by decide +kernel)
set_option maxRecDepth 20000 in
theorem gL_hasLeft_L_kind : GoodIn wsL_hasLeft (va_wsS RL 110 yL_kind wsL_kind) := goodIn_app (goodIn_of _ (by decide +kernel)) ggL_hasLeft_L_kind
set_option maxRecDepth 20000 in
theorem ggL_hasLeft_L_who : GoodIn wsL_hasLeft wsL_who := goodIn_r _ [11] (by decide +kernel) (by decide +kernel)
set_option maxRecDepth 20000 in
theorem gL_hasLeft_L_who : GoodIn wsL_hasLeft (va_wsS RL 113 yL_who wsL_who) := goodIn_app (goodIn_of _ (by decide +kernel)) ggL_hasLeft_L_who
theorem dL_hasLeft_0 : decode cL_hasLeft 0 = .ok (.iconst 0, 1) := by decide +kernel
theorem dL_hasLeft_1 : decode cL_hasLeft 1 = .ok (.istore_n 3, 1) := by decide +kernel
theorem dL_hasLeft_2 : decode cL_hasLeft 2 = .ok (.iload_n 3, 1) := by decide +kernel
theorem dL_hasLeft_3 : decode cL_hasLeft 3 = .ok (.aload_n 1, 1) := by decide +kernel
theorem dL_hasLeft_4 : decode cL_hasLeft 4 = .ok (.iconst 1, 1) := by decide +kernel
theorem dL_hasLeft_5 : decode cL_hasLeft 5 = .ok (.iaload, 1) := by decide +kernel
theorem dL_hasLeft_6 : decode cL_hasLeft 6 = .ok (.if_icmp .ge 35, 3) := by decide +kernel
theorem dL_hasLeft_9 : decode cL_hasLeft 9 = .ok (.aload_n 0, 1) := by decide +kernel
theorem dL_hasLeft_10 : decode cL_hasLeft 10 = .ok (.iload_n 3, 1) := by decide +kernel
theorem dL_hasLeft_11 : decode cL_hasLeft 11 = .ok (.invokestatic 104, 3) := by decide +kernel
theorem dL_hasLeft_14 : decode cL_hasLeft 14 = .ok (.invokestatic 110, 3) := by decide +kernel
theorem dL_hasLeft_17 : decode cL_hasLeft 17 = .ok (.iconst 4, 1) := by decide +kernel
theorem dL_hasLeft_18 : decode cL_hasLeft 18 = .ok (.if_icmp .ne 17, 3) := by decide +kernel
theorem dL_hasLeft_21 : decode cL_hasLeft 21 = .ok (.aload_n 0, 1) := by decide +kernel
theorem dL_hasLeft_22 : decode cL_hasLeft 22 = .ok (.iload_n 3, 1) := by decide +kernel
theorem dL_hasLeft_23 : decode cL_hasLeft 23 = .ok (.invokestatic 104, 3) := by decide +kernel
theorem dL_hasLeft_26 : decode cL_hasLeft 26 = .ok (.invokestatic 113, 3) := by decide +kernel
theorem dL_hasLeft_29 : decode cL_hasLeft 29 = .ok (.iload_n 2, 1) := by decide +kernel
theorem dL_hasLeft_30 : decode cL_hasLeft 30 = .ok (.if_icmp .ne 5, 3) := by decide +kernel
theorem dL_hasLeft_33 : decode cL_hasLeft 33 = .ok (.iconst 1, 1) := by decide +kernel
theorem dL_hasLeft_34 : decode cL_hasLeft 34 = .ok (.ireturn, 1) := by decide +kernel
theorem dL_hasLeft_35 : decode cL_hasLeft 35 = .ok (.iinc 3 1, 3) := by decide +kernel
theorem dL_hasLeft_38 : decode cL_hasLeft 38 = .ok (.goto (-36), 3) := by decide +kernel
theorem dL_hasLeft_41 : decode cL_hasLeft 41 = .ok (.iconst 0, 1) := by decide +kernel
theorem dL_hasLeft_42 : decode cL_hasLeft 42 = .ok (.ireturn, 1) := by decide +kernel
set_option maxRecDepth 20000 in
theorem ggL_hanger_L_entry : GoodIn wsL_hanger wsL_entry := goodIn_r _ [4, 5] (by decide +kernel) (by decide +kernel)
set_option maxRecDepth 20000 in
theorem gL_hanger_L_entry : GoodIn wsL_hanger (va_wsS RL 104 yL_entry wsL_entry) := goodIn_app (goodIn_of _ (by decide +kernel)) ggL_hanger_L_entry
set_option maxRecDepth 20000 in
theorem ggL_hanger_L_kind : GoodIn wsL_hanger wsL_kind := goodIn_r _ [8] (by decide +kernel) (by decide +kernel)
set_option maxRecDepth 20000 in
theorem gL_hanger_L_kind : GoodIn wsL_hanger (va_wsS RL 110 yL_kind wsL_kind) := goodIn_app (goodIn_of _ (by decide +kernel)) ggL_hanger_L_kind
set_option maxRecDepth 20000 in
theorem ggL_hanger_L_who : GoodIn wsL_hanger wsL_who := goodIn_r _ [11] (by decide +kernel) (by decide +kernel)
set_option maxRecDepth 20000 in
theorem gL_hanger_L_who : GoodIn wsL_hanger (va_wsS RL 113 yL_who wsL_who) := goodIn_app (goodIn_of _ (by decide +kernel)) ggL_hanger_L_who
theorem dL_hanger_0 : decode cL_hanger 0 = .ok (.iconst (-1), 1) := by decide +kernel
theorem dL_hanger_1 : decode cL_hanger 1 = .ok (.istore_n 3, 1) := by decide +kernel
theorem dL_hanger_2 : decode cL_hanger 2 = .ok (.iconst 0, 1) := by decide +kernel
theorem dL_hanger_3 : decode cL_hanger 3 = .ok (.istore 4, 2) := by decide +kernel
theorem dL_hanger_5 : decode cL_hanger 5 = .ok (.iload 4, 2) := by decide +kernel
theorem dL_hanger_7 : decode cL_hanger 7 = .ok (.aload_n 1, 1) := by decide +kernel
theorem dL_hanger_8 : decode cL_hanger 8 = .ok (.iconst 1, 1) := by decide +kernel
theorem dL_hanger_9 : decode cL_hanger 9 = .ok (.iaload, 1) := by decide +kernel
theorem dL_hanger_10 : decode cL_hanger 10 = .ok (.if_icmp .ge 66, 3) := by decide +kernel
theorem dL_hanger_13 : decode cL_hanger 13 = .ok (.aload_n 0, 1) := by decide +kernel
theorem dL_hanger_14 : decode cL_hanger 14 = .ok (.iload 4, 2) := by decide +kernel
theorem dL_hanger_16 : decode cL_hanger 16 = .ok (.invokestatic 104, 3) := by decide +kernel
theorem dL_hanger_19 : decode cL_hanger 19 = .ok (.istore 5, 2) := by decide +kernel
theorem dL_hanger_21 : decode cL_hanger 21 = .ok (.iload 5, 2) := by decide +kernel
theorem dL_hanger_23 : decode cL_hanger 23 = .ok (.bipush 100, 2) := by decide +kernel
theorem dL_hanger_25 : decode cL_hanger 25 = .ok (.irem, 1) := by decide +kernel
theorem dL_hanger_26 : decode cL_hanger 26 = .ok (.iload_n 2, 1) := by decide +kernel
theorem dL_hanger_27 : decode cL_hanger 27 = .ok (.if_icmp .ne 43, 3) := by decide +kernel
theorem dL_hanger_30 : decode cL_hanger 30 = .ok (.iload 5, 2) := by decide +kernel
theorem dL_hanger_32 : decode cL_hanger 32 = .ok (.invokestatic 110, 3) := by decide +kernel
theorem dL_hanger_35 : decode cL_hanger 35 = .ok (.iconst 1, 1) := by decide +kernel
theorem dL_hanger_36 : decode cL_hanger 36 = .ok (.if_icmp .eq 15, 3) := by decide +kernel
theorem dL_hanger_39 : decode cL_hanger 39 = .ok (.iload 5, 2) := by decide +kernel
theorem dL_hanger_41 : decode cL_hanger 41 = .ok (.invokestatic 110, 3) := by decide +kernel
theorem dL_hanger_44 : decode cL_hanger 44 = .ok (.iconst 2, 1) := by decide +kernel
theorem dL_hanger_45 : decode cL_hanger 45 = .ok (.if_icmp .eq 6, 3) := by decide +kernel
theorem dL_hanger_48 : decode cL_hanger 48 = .ok (.goto 22, 3) := by decide +kernel
theorem dL_hanger_51 : decode cL_hanger 51 = .ok (.iload 5, 2) := by decide +kernel
theorem dL_hanger_53 : decode cL_hanger 53 = .ok (.invokestatic 110, 3) := by decide +kernel
theorem dL_hanger_56 : decode cL_hanger 56 = .ok (.iconst 1, 1) := by decide +kernel
theorem dL_hanger_57 : decode cL_hanger 57 = .ok (.if_icmp .ne 11, 3) := by decide +kernel
theorem dL_hanger_60 : decode cL_hanger 60 = .ok (.iload 5, 2) := by decide +kernel
theorem dL_hanger_62 : decode cL_hanger 62 = .ok (.invokestatic 113, 3) := by decide +kernel
theorem dL_hanger_65 : decode cL_hanger 65 = .ok (.goto 4, 3) := by decide +kernel
theorem dL_hanger_68 : decode cL_hanger 68 = .ok (.iconst (-1), 1) := by decide +kernel
theorem dL_hanger_69 : decode cL_hanger 69 = .ok (.istore_n 3, 1) := by decide +kernel
theorem dL_hanger_70 : decode cL_hanger 70 = .ok (.iinc 4 1, 3) := by decide +kernel
theorem dL_hanger_73 : decode cL_hanger 73 = .ok (.goto (-68), 3) := by decide +kernel
theorem dL_hanger_76 : decode cL_hanger 76 = .ok (.iload_n 3, 1) := by decide +kernel
theorem dL_hanger_77 : decode cL_hanger 77 = .ok (.ireturn, 1) := by decide +kernel
set_option maxRecDepth 20000 in
theorem ggL_task_L_entry : GoodIn wsL_task wsL_entry := goodIn_r _ [4, 5] (by decide +kernel) (by decide +kernel)
set_option maxRecDepth 20000 in
theorem gL_task_L_entry : GoodIn wsL_task (va_wsS RL 104 yL_entry wsL_entry) := goodIn_app (goodIn_of _ (by decide +kernel)) ggL_task_L_entry
set_option maxRecDepth 20000 in
theorem ggL_task_L_kind : GoodIn wsL_task wsL_kind := goodIn_r _ [8] (by decide +kernel) (by decide +kernel)
set_option maxRecDepth 20000 in
theorem gL_task_L_kind : GoodIn wsL_task (va_wsS RL 110 yL_kind wsL_kind) := goodIn_app (goodIn_of _ (by decide +kernel)) ggL_task_L_kind
set_option maxRecDepth 20000 in
theorem ggL_task_L_who : GoodIn wsL_task wsL_who := goodIn_r _ [11] (by decide +kernel) (by decide +kernel)
set_option maxRecDepth 20000 in
theorem gL_task_L_who : GoodIn wsL_task (va_wsS RL 113 yL_who wsL_who) := goodIn_app (goodIn_of _ (by decide +kernel)) ggL_task_L_who
theorem dL_task_0 : decode cL_task 0 = .ok (.aload_n 1, 1) := by decide +kernel
theorem dL_task_1 : decode cL_task 1 = .ok (.iconst 1, 1) := by decide +kernel
theorem dL_task_2 : decode cL_task 2 = .ok (.iaload, 1) := by decide +kernel
theorem dL_task_3 : decode cL_task 3 = .ok (.iconst 1, 1) := by decide +kernel
theorem dL_task_4 : decode cL_task 4 = .ok (.isub, 1) := by decide +kernel
theorem dL_task_5 : decode cL_task 5 = .ok (.istore_n 3, 1) := by decide +kernel
theorem dL_task_6 : decode cL_task 6 = .ok (.iload_n 3, 1) := by decide +kernel
theorem dL_task_7 : decode cL_task 7 = .ok (.ifCond .lt 58, 3) := by decide +kernel
theorem dL_task_10 : decode cL_task 10 = .ok (.aload_n 0, 1) := by decide +kernel
theorem dL_task_11 : decode cL_task 11 = .ok (.iload_n 3, 1) := by decide +kernel
theorem dL_task_12 : decode cL_task 12 = .ok (.invokestatic 104, 3) := by decide +kernel
theorem dL_task_15 : decode cL_task 15 = .ok (.invokestatic 110, 3) := by decide +kernel
theorem dL_task_18 : decode cL_task 18 = .ok (.iconst 4, 1) := by decide +kernel
theorem dL_task_19 : decode cL_task 19 = .ok (.if_icmp .le 40, 3) := by decide +kernel
theorem dL_task_22 : decode cL_task 22 = .ok (.aload_n 0, 1) := by decide +kernel
theorem dL_task_23 : decode cL_task 23 = .ok (.iload_n 3, 1) := by decide +kernel
theorem dL_task_24 : decode cL_task 24 = .ok (.invokestatic 104, 3) := by decide +kernel
theorem dL_task_27 : decode cL_task 27 = .ok (.bipush 100, 2) := by decide +kernel
theorem dL_task_29 : decode cL_task 29 = .ok (.irem, 1) := by decide +kernel
theorem dL_task_30 : decode cL_task 30 = .ok (.iload_n 2, 1) := by decide +kernel
theorem dL_task_31 : decode cL_task 31 = .ok (.if_icmp .ne 28, 3) := by decide +kernel
theorem dL_task_34 : decode cL_task 34 = .ok (.aload_n 0, 1) := by decide +kernel
theorem dL_task_35 : decode cL_task 35 = .ok (.iload_n 3, 1) := by decide +kernel
theorem dL_task_36 : decode cL_task 36 = .ok (.invokestatic 104, 3) := by decide +kernel
theorem dL_task_39 : decode cL_task 39 = .ok (.invokestatic 110, 3) := by decide +kernel
theorem dL_task_42 : decode cL_task 42 = .ok (.iconst 5, 1) := by decide +kernel
theorem dL_task_43 : decode cL_task 43 = .ok (.if_icmp .ne 14, 3) := by decide +kernel
theorem dL_task_46 : decode cL_task 46 = .ok (.aload_n 0, 1) := by decide +kernel
theorem dL_task_47 : decode cL_task 47 = .ok (.iload_n 3, 1) := by decide +kernel
theorem dL_task_48 : decode cL_task 48 = .ok (.invokestatic 104, 3) := by decide +kernel
theorem dL_task_51 : decode cL_task 51 = .ok (.invokestatic 113, 3) := by decide +kernel
theorem dL_task_54 : decode cL_task 54 = .ok (.goto 4, 3) := by decide +kernel
theorem dL_task_57 : decode cL_task 57 = .ok (.iconst (-1), 1) := by decide +kernel
theorem dL_task_58 : decode cL_task 58 = .ok (.ireturn, 1) := by decide +kernel
theorem dL_task_59 : decode cL_task 59 = .ok (.iinc 3 (-1), 3) := by decide +kernel
theorem dL_task_62 : decode cL_task 62 = .ok (.goto (-56), 3) := by decide +kernel
theorem dL_task_65 : decode cL_task 65 = .ok (.iconst (-1), 1) := by decide +kernel
theorem dL_task_66 : decode cL_task 66 = .ok (.ireturn, 1) := by decide +kernel
set_option maxRecDepth 20000 in
theorem ggL_why_L_hasLeft : GoodIn wsL_why wsL_hasLeft := goodIn_r _ [4, 5, 6, 3, 7, 8, 9, 10, 11, 12, 13, 14] (by decide +kernel) (by decide +kernel)
set_option maxRecDepth 20000 in
theorem gL_why_L_hasLeft : GoodIn wsL_why (va_wsS RL 116 yL_hasLeft wsL_hasLeft) := goodIn_app (goodIn_of _ (by decide +kernel)) ggL_why_L_hasLeft
set_option maxRecDepth 20000 in
theorem ggL_why_L_hanger : GoodIn wsL_why wsL_hanger := goodIn_r _ [17, 5, 6, 3, 7, 8, 9, 10, 11, 12, 13, 14] (by decide +kernel) (by decide +kernel)
set_option maxRecDepth 20000 in
theorem gL_why_L_hanger : GoodIn wsL_why (va_wsS RL 120 yL_hanger wsL_hanger) := goodIn_app (goodIn_of _ (by decide +kernel)) ggL_why_L_hanger
theorem dL_why_0 : decode cL_why 0 = .ok (.aload_n 3, 1) := by decide +kernel
theorem dL_why_1 : decode cL_why 1 = .ok (.iconst 0, 1) := by decide +kernel
theorem dL_why_2 : decode cL_why 2 = .ok (.iaload, 1) := by decide +kernel
theorem dL_why_3 : decode cL_why 3 = .ok (.bipush 8, 2) := by decide +kernel
theorem dL_why_5 : decode cL_why 5 = .ok (.idiv, 1) := by decide +kernel
theorem dL_why_6 : decode cL_why 6 = .ok (.iload 4, 2) := by decide +kernel
theorem dL_why_8 : decode cL_why 8 = .ok (.isub, 1) := by decide +kernel
theorem dL_why_9 : decode cL_why 9 = .ok (.iconst 3, 1) := by decide +kernel
theorem dL_why_10 : decode cL_why 10 = .ok (.irem, 1) := by decide +kernel
theorem dL_why_11 : decode cL_why 11 = .ok (.ifCond .ne 13, 3) := by decide +kernel
theorem dL_why_14 : decode cL_why 14 = .ok (.aload_n 0, 1) := by decide +kernel
theorem dL_why_15 : decode cL_why 15 = .ok (.aload_n 3, 1) := by decide +kernel
theorem dL_why_16 : decode cL_why 16 = .ok (.iload 4, 2) := by decide +kernel
theorem dL_why_18 : decode cL_why 18 = .ok (.invokestatic 116, 3) := by decide +kernel
theorem dL_why_21 : decode cL_why 21 = .ok (.ifCond .eq 5, 3) := by decide +kernel
theorem dL_why_24 : decode cL_why 24 = .ok (.iconst 1, 1) := by decide +kernel
theorem dL_why_25 : decode cL_why 25 = .ok (.ireturn, 1) := by decide +kernel
theorem dL_why_26 : decode cL_why 26 = .ok (.aload_n 2, 1) := by decide +kernel
theorem dL_why_27 : decode cL_why 27 = .ok (.iload 4, 2) := by decide +kernel
theorem dL_why_29 : decode cL_why 29 = .ok (.iaload, 1) := by decide +kernel
theorem dL_why_30 : decode cL_why 30 = .ok (.aload_n 3, 1) := by decide +kernel
theorem dL_why_31 : decode cL_why 31 = .ok (.iconst 2, 1) := by decide +kernel
theorem dL_why_32 : decode cL_why 32 = .ok (.iaload, 1) := by decide +kernel
theorem dL_why_33 : decode cL_why 33 = .ok (.if_icmp .ge 5, 3) := by decide +kernel
theorem dL_why_36 : decode cL_why 36 = .ok (.iconst 2, 1) := by decide +kernel
theorem dL_why_37 : decode cL_why 37 = .ok (.ireturn, 1) := by decide +kernel
theorem dL_why_38 : decode cL_why 38 = .ok (.iconst 0, 1) := by decide +kernel
theorem dL_why_39 : decode cL_why 39 = .ok (.istore 6, 2) := by decide +kernel
theorem dL_why_41 : decode cL_why 41 = .ok (.iload 6, 2) := by decide +kernel
theorem dL_why_43 : decode cL_why 43 = .ok (.aload_n 3, 1) := by decide +kernel
theorem dL_why_44 : decode cL_why 44 = .ok (.iconst 5, 1) := by decide +kernel
theorem dL_why_45 : decode cL_why 45 = .ok (.iaload, 1) := by decide +kernel
theorem dL_why_46 : decode cL_why 46 = .ok (.if_icmp .ge 42, 3) := by decide +kernel
theorem dL_why_49 : decode cL_why 49 = .ok (.aload_n 1, 1) := by decide +kernel
theorem dL_why_50 : decode cL_why 50 = .ok (.iload 6, 2) := by decide +kernel
theorem dL_why_52 : decode cL_why 52 = .ok (.iaload, 1) := by decide +kernel
theorem dL_why_53 : decode cL_why 53 = .ok (.iload 5, 2) := by decide +kernel
theorem dL_why_55 : decode cL_why 55 = .ok (.if_icmp .ne 27, 3) := by decide +kernel
theorem dL_why_58 : decode cL_why 58 = .ok (.aload_n 0, 1) := by decide +kernel
theorem dL_why_59 : decode cL_why 59 = .ok (.aload_n 3, 1) := by decide +kernel
theorem dL_why_60 : decode cL_why 60 = .ok (.iload 6, 2) := by decide +kernel
theorem dL_why_62 : decode cL_why 62 = .ok (.invokestatic 120, 3) := by decide +kernel
theorem dL_why_65 : decode cL_why 65 = .ok (.ifCond .lt 17, 3) := by decide +kernel
theorem dL_why_68 : decode cL_why 68 = .ok (.aload_n 0, 1) := by decide +kernel
theorem dL_why_69 : decode cL_why 69 = .ok (.aload_n 3, 1) := by decide +kernel
theorem dL_why_70 : decode cL_why 70 = .ok (.iload 6, 2) := by decide +kernel
theorem dL_why_72 : decode cL_why 72 = .ok (.invokestatic 120, 3) := by decide +kernel
theorem dL_why_75 : decode cL_why 75 = .ok (.iload 4, 2) := by decide +kernel
theorem dL_why_77 : decode cL_why 77 = .ok (.if_icmp .eq 5, 3) := by decide +kernel
theorem dL_why_80 : decode cL_why 80 = .ok (.iconst 3, 1) := by decide +kernel
theorem dL_why_81 : decode cL_why 81 = .ok (.ireturn, 1) := by decide +kernel
theorem dL_why_82 : decode cL_why 82 = .ok (.iinc 6 1, 3) := by decide +kernel
theorem dL_why_85 : decode cL_why 85 = .ok (.goto (-44), 3) := by decide +kernel
theorem dL_why_88 : decode cL_why 88 = .ok (.iconst 0, 1) := by decide +kernel
theorem dL_why_89 : decode cL_why 89 = .ok (.ireturn, 1) := by decide +kernel
set_option maxRecDepth 20000 in
theorem ggL_mayAct_L_why : GoodIn wsL_mayAct wsL_why := goodIn_r _ [4, 5, 6, 3, 7, 8, 9, 10, 11, 12, 13, 14, 15, 16, 17, 18, 19, 20] (by decide +kernel) (by decide +kernel)
set_option maxRecDepth 20000 in
theorem gL_mayAct_L_why : GoodIn wsL_mayAct (va_wsS RL 124 yL_why wsL_why) := goodIn_app (goodIn_of _ (by decide +kernel)) ggL_mayAct_L_why
theorem dL_mayAct_0 : decode cL_mayAct 0 = .ok (.aload_n 0, 1) := by decide +kernel
theorem dL_mayAct_1 : decode cL_mayAct 1 = .ok (.aload_n 1, 1) := by decide +kernel
theorem dL_mayAct_2 : decode cL_mayAct 2 = .ok (.aload_n 2, 1) := by decide +kernel
theorem dL_mayAct_3 : decode cL_mayAct 3 = .ok (.aload_n 3, 1) := by decide +kernel
theorem dL_mayAct_4 : decode cL_mayAct 4 = .ok (.iload 4, 2) := by decide +kernel
theorem dL_mayAct_6 : decode cL_mayAct 6 = .ok (.bipush 9, 2) := by decide +kernel
theorem dL_mayAct_8 : decode cL_mayAct 8 = .ok (.invokestatic 124, 3) := by decide +kernel
theorem dL_mayAct_11 : decode cL_mayAct 11 = .ok (.ifCond .ne 7, 3) := by decide +kernel
theorem dL_mayAct_14 : decode cL_mayAct 14 = .ok (.iconst 1, 1) := by decide +kernel
theorem dL_mayAct_15 : decode cL_mayAct 15 = .ok (.goto 4, 3) := by decide +kernel
theorem dL_mayAct_18 : decode cL_mayAct 18 = .ok (.iconst 0, 1) := by decide +kernel
theorem dL_mayAct_19 : decode cL_mayAct 19 = .ok (.ireturn, 1) := by decide +kernel
set_option maxRecDepth 20000 in
theorem ggL_hanging_L_hanger : GoodIn wsL_hanging wsL_hanger := goodIn_r _ [4, 5, 6, 3, 7, 8, 9, 10, 11, 12, 13, 14] (by decide +kernel) (by decide +kernel)
set_option maxRecDepth 20000 in
theorem gL_hanging_L_hanger : GoodIn wsL_hanging (va_wsS RL 120 yL_hanger wsL_hanger) := goodIn_app (goodIn_of _ (by decide +kernel)) ggL_hanging_L_hanger
theorem dL_hanging_0 : decode cL_hanging 0 = .ok (.iconst 0, 1) := by decide +kernel
theorem dL_hanging_1 : decode cL_hanging 1 = .ok (.istore 4, 2) := by decide +kernel
theorem dL_hanging_3 : decode cL_hanging 3 = .ok (.iconst 0, 1) := by decide +kernel
theorem dL_hanging_4 : decode cL_hanging 4 = .ok (.istore 5, 2) := by decide +kernel
theorem dL_hanging_6 : decode cL_hanging 6 = .ok (.iload 5, 2) := by decide +kernel
theorem dL_hanging_8 : decode cL_hanging 8 = .ok (.aload_n 2, 1) := by decide +kernel
theorem dL_hanging_9 : decode cL_hanging 9 = .ok (.iconst 5, 1) := by decide +kernel
theorem dL_hanging_10 : decode cL_hanging 10 = .ok (.iaload, 1) := by decide +kernel
theorem dL_hanging_11 : decode cL_hanging 11 = .ok (.if_icmp .ge 37, 3) := by decide +kernel
theorem dL_hanging_14 : decode cL_hanging 14 = .ok (.iload 4, 2) := by decide +kernel
theorem dL_hanging_16 : decode cL_hanging 16 = .ok (.aload_n 1, 1) := by decide +kernel
theorem dL_hanging_17 : decode cL_hanging 17 = .ok (.iload 5, 2) := by decide +kernel
theorem dL_hanging_19 : decode cL_hanging 19 = .ok (.iaload, 1) := by decide +kernel
theorem dL_hanging_20 : decode cL_hanging 20 = .ok (.iload_n 3, 1) := by decide +kernel
theorem dL_hanging_21 : decode cL_hanging 21 = .ok (.if_icmp .ne 17, 3) := by decide +kernel
theorem dL_hanging_24 : decode cL_hanging 24 = .ok (.aload_n 0, 1) := by decide +kernel
theorem dL_hanging_25 : decode cL_hanging 25 = .ok (.aload_n 2, 1) := by decide +kernel
theorem dL_hanging_26 : decode cL_hanging 26 = .ok (.iload 5, 2) := by decide +kernel
theorem dL_hanging_28 : decode cL_hanging 28 = .ok (.invokestatic 120, 3) := by decide +kernel
theorem dL_hanging_31 : decode cL_hanging 31 = .ok (.ifCond .lt 7, 3) := by decide +kernel
theorem dL_hanging_34 : decode cL_hanging 34 = .ok (.iconst 1, 1) := by decide +kernel
theorem dL_hanging_35 : decode cL_hanging 35 = .ok (.goto 4, 3) := by decide +kernel
theorem dL_hanging_38 : decode cL_hanging 38 = .ok (.iconst 0, 1) := by decide +kernel
theorem dL_hanging_39 : decode cL_hanging 39 = .ok (.iadd, 1) := by decide +kernel
theorem dL_hanging_40 : decode cL_hanging 40 = .ok (.istore 4, 2) := by decide +kernel
theorem dL_hanging_42 : decode cL_hanging 42 = .ok (.iinc 5 1, 3) := by decide +kernel
theorem dL_hanging_45 : decode cL_hanging 45 = .ok (.goto (-39), 3) := by decide +kernel
theorem dL_hanging_48 : decode cL_hanging 48 = .ok (.iload 4, 2) := by decide +kernel
theorem dL_hanging_50 : decode cL_hanging 50 = .ok (.ireturn, 1) := by decide +kernel
set_option maxRecDepth 20000 in
theorem ggL_valves_L_low : GoodIn wsL_valves wsL_low := goodIn_r _ [4] (by decide +kernel) (by decide +kernel)
set_option maxRecDepth 20000 in
theorem gL_valves_L_low : GoodIn wsL_valves (va_wsS RL 128 yL_low wsL_low) := goodIn_app (goodIn_of _ (by decide +kernel)) ggL_valves_L_low
set_option maxRecDepth 20000 in
theorem ggL_valves_L_mayAct : GoodIn wsL_valves wsL_mayAct := goodIn_r _ [7, 8, 9, 3, 10, 11, 12, 13, 14, 15, 16, 17, 18, 19, 20, 21, 22, 23, 24, 25, 26] (by decide +kernel) (by decide +kernel)
set_option maxRecDepth 20000 in
theorem gL_valves_L_mayAct : GoodIn wsL_valves (va_wsS RL 131 yL_mayAct wsL_mayAct) := goodIn_app (goodIn_of _ (by decide +kernel)) ggL_valves_L_mayAct
set_option maxRecDepth 20000 in
theorem ggL_valves_L_pipe : GoodIn wsL_valves wsL_pipe := goodIn_ca (goodIn_ca (goodIn_ca (goodIn_r _ [29, 30, 31, 32, 33, 34, 35, 36, 37, 38, 39, 40, 41, 42, 43, 44, 45, 46, 47, 48, 49, 50, 51, 52, 53, 54, 55, 56, 57, 58, 59, 60, 61, 62, 63, 64, 65, 66, 67, 68, 69, 70, 71, 72, 73, 74, 75, 76, 77, 78, 79, 80, 81, 82, 272, 273, 274, 275, 276, 277, 278, 279, 280, 281, 282, 283, 284, 285, 286, 287, 288, 289, 290, 291, 292, 293, 294, 295] (by decide +kernel) (by decide +kernel)) (goodIn_sub (fun _ h => List.mem_cons_of_mem _ (List.mem_append_left _ (List.mem_append_left _ (List.mem_append_right _ h)))) (by decide +kernel))) (goodIn_sub (fun _ h => List.mem_cons_of_mem _ (List.mem_append_left _ (List.mem_append_right _ h))) (by decide +kernel))) (goodIn_sub (fun _ h => List.mem_cons_of_mem _ (List.mem_append_right _ h)) (by decide +kernel))
set_option maxRecDepth 20000 in
theorem gL_valves_L_pipe : GoodIn wsL_valves (va_wsS RL 135 yL_pipe wsL_pipe) := goodIn_app (goodIn_of _ (by decide +kernel)) ggL_valves_L_pipe
set_option maxRecDepth 20000 in
theorem ggL_valves_L_opened : GoodIn wsL_valves wsL_opened := goodIn_r _ [85, 14, 15, 3, 16, 17, 18, 19, 20] (by decide +kernel) (by decide +kernel)
set_option maxRecDepth 20000 in
theorem gL_valves_L_opened : GoodIn wsL_valves (va_wsS RL 138 yL_opened wsL_opened) := goodIn_app (goodIn_of _ (by decide +kernel)) ggL_valves_L_opened
set_option maxRecDepth 20000 in
theorem ggL_valves_L_hanging : GoodIn wsL_valves wsL_hanging := goodIn_r _ [88, 24, 25, 3, 26, 14, 15, 16, 17, 18, 19, 20, 21, 22, 23] (by decide +kernel) (by decide +kernel)
set_option maxRecDepth 20000 in
theorem gL_valves_L_hanging : GoodIn wsL_valves (va_wsS RL 141 yL_hanging wsL_hanging) := goodIn_app (goodIn_of _ (by decide +kernel)) ggL_valves_L_hanging
set_option maxRecDepth 20000 in
theorem ggL_valves_L_turn : GoodIn wsL_valves wsL_turn := goodIn_ca (goodIn_ca (goodIn_r _ [91, 30, 32, 92, 93, 94, 36, 95, 40, 41, 96, 97, 98, 46, 47, 43, 44, 45, 99, 100, 101, 102, 103, 104, 105, 106, 107, 108, 109, 110, 111, 112, 113, 114, 115, 116, 117, 118, 58, 59, 60, 61, 62, 63, 64, 65, 66, 67, 68, 69, 70, 71, 72, 73, 74, 75, 76, 77, 78, 79, 80, 81, 82, 119, 120, 121, 122, 42, 123, 124, 125, 126, 127, 128, 129, 130, 131, 132, 133, 134, 135, 136, 137, 138, 139, 140, 141, 142, 143, 144, 145, 146, 147, 148, 149, 150, 151, 152, 272, 273, 274, 275, 276, 277, 278, 279, 280, 281, 282, 283, 284, 285, 289, 290, 291, 292, 293, 294, 295, 286, 287, 288, 296, 297] (by decide +kernel) (by decide +kernel)) (goodIn_sub (fun _ h => List.mem_cons_of_mem _ (List.mem_append_left _ (List.mem_append_right _ h))) (by decide +kernel))) (goodIn_sub (fun _ h => List.mem_cons_of_mem _ (List.mem_append_right _ h)) (by decide +kernel))
set_option maxRecDepth 20000 in
theorem gL_valves_L_turn : GoodIn wsL_valves (va_wsS RL 145 yL_turn wsL_turn) := goodIn_app (goodIn_of _ (by decide +kernel)) ggL_valves_L_turn
set_option maxRecDepth 20000 in
theorem ggL_valves_L_why : GoodIn wsL_valves wsL_why := goodIn_r _ [10, 11, 12, 3, 13, 14, 15, 16, 17, 18, 19, 20, 21, 22, 23, 24, 25, 26] (by decide +kernel) (by decide +kernel)
set_option maxRecDepth 20000 in
theorem gL_valves_L_why : GoodIn wsL_valves (va_wsS RL 124 yL_why wsL_why) := goodIn_app (goodIn_of _ (by decide +kernel)) ggL_valves_L_why
set_option maxRecDepth 20000 in
theorem ggL_valves_L_note : GoodIn wsL_valves wsL_note := goodIn_r _ [155, 156] (by decide +kernel) (by decide +kernel)
set_option maxRecDepth 20000 in
theorem gL_valves_L_note : GoodIn wsL_valves (va_wsS RL 148 yL_note wsL_note) := goodIn_app (goodIn_of _ (by decide +kernel)) ggL_valves_L_note
set_option maxRecDepth 20000 in
theorem ggL_valves_L_hang : GoodIn wsL_valves wsL_hang := goodIn_ca (goodIn_ca (goodIn_r _ [159, 30, 32, 160, 161, 162, 36, 163, 40, 41, 58, 164, 165, 166, 123, 108, 96, 97, 98, 46, 47, 43, 44, 45, 109, 110, 111, 112, 113, 114, 103, 104, 105, 106, 107, 60, 61, 62, 63, 64, 65, 167, 168, 169, 170, 171, 172, 173, 174, 175, 176, 177, 178, 179, 180, 181, 82, 182, 183, 184, 185, 186, 187, 188, 189, 190, 191, 192, 193, 194, 195, 196, 147, 197, 198, 199, 200, 201, 202, 203, 204, 205, 206, 207, 208, 209, 136, 210, 211, 212, 213, 214, 215, 216, 217, 218, 219, 145, 146, 148, 149, 150, 151, 152, 129, 125, 130, 131, 132, 133, 134, 135, 137, 138, 139, 140, 141, 142, 143, 144, 272, 273, 274, 275, 276, 277, 278, 279, 280, 281, 282, 283, 284, 285, 289, 290, 291, 292, 293, 294, 295, 296, 297] (by decide +kernel) (by decide +kernel)) (goodIn_sub (fun _ h => List.mem_cons_of_mem _ (List.mem_append_left _ (List.mem_append_right _ h))) (by decide +kernel))) (goodIn_sub (fun _ h => List.mem_cons_of_mem _ (List.mem_append_right _ h)) (by decide +kernel))
set_option maxRecDepth 20000 in
theorem gL_valves_L_hang : GoodIn wsL_valves (va_wsS RL 152 yL_hang wsL_hang) := goodIn_app (goodIn_of _ (by decide +kernel)) ggL_valves_L_hang
set_option maxRecDepth 20000 in
theorem ggL_valves_L_hanger : GoodIn wsL_valves wsL_hanger := goodIn_r _ [26, 14, 15, 3, 16, 17, 18, 19, 20, 21, 22, 23] (by decide +kernel) (by decide +kernel)
set_option maxRecDepth 20000 in
theorem gL_valves_L_hanger : GoodIn wsL_valves (va_wsS RL 120 yL_hanger wsL_hanger) := goodIn_app (goodIn_of _ (by decide +kernel)) ggL_valves_L_hanger
set_option maxRecDepth 20000 in
theorem ggL_valves_L_takeOff : GoodIn wsL_valves wsL_takeOff := goodIn_ca (goodIn_ca (goodIn_r _ [222, 30, 32, 223, 224, 225, 36, 226, 40, 41, 58, 59, 107, 123, 108, 96, 97, 98, 46, 47, 227, 228, 229, 230, 60, 61, 62, 63, 64, 65, 66, 67, 68, 69, 70, 71, 72, 73, 74, 75, 76, 77, 78, 79, 80, 81, 82, 109, 110, 111, 112, 113, 114, 103, 104, 105, 106, 231, 232, 233, 129, 125, 130, 131, 132, 133, 134, 135, 136, 137, 138, 139, 140, 141, 142, 143, 144, 145, 146, 147, 148, 149, 150, 151, 152, 272, 273, 274, 275, 276, 277, 278, 279, 280, 281, 282, 283, 284, 285, 289, 290, 291, 292, 293, 294, 295, 296, 297] (by decide +kernel) (by decide +kernel)) (goodIn_sub (fun _ h => List.mem_cons_of_mem _ (List.mem_append_left _ (List.mem_append_right _ h))) (by decide +kernel))) (goodIn_sub (fun _ h => List.mem_cons_of_mem _ (List.mem_append_right _ h)) (by decide +kernel))
set_option maxRecDepth 20000 in
theorem gL_valves_L_takeOff : GoodIn wsL_valves (va_wsS RL 155 yL_takeOff wsL_takeOff) := goodIn_app (goodIn_of _ (by decide +kernel)) ggL_valves_L_takeOff
set_option maxRecDepth 20000 in
theorem ggL_valves_L_valveOf : GoodIn wsL_valves wsL_valveOf := goodIn_ca (goodIn_r _ [236, 30, 237, 238, 239, 36, 240, 58, 59, 227, 228, 229, 230, 46, 47, 60, 61, 62, 63, 64, 65, 66, 67, 68, 69, 70, 71, 72, 73, 74, 75, 76, 77, 78, 79, 80, 81, 82, 272, 273, 274, 275, 276, 277, 278, 279, 280, 281, 282, 283, 284, 285, 289, 290, 291, 292, 293, 294, 295] (by decide +kernel) (by decide +kernel)) (goodIn_sub (fun _ h => List.mem_cons_of_mem _ (List.mem_append_right _ h)) (by decide +kernel))
set_option maxRecDepth 20000 in
theorem gL_valves_L_valveOf : GoodIn wsL_valves (va_wsS RL 157 yL_valveOf wsL_valveOf) := goodIn_app (goodIn_of _ (by decide +kernel)) ggL_valves_L_valveOf
set_option maxRecDepth 20000 in
theorem ggL_valves_L_hasLeft : GoodIn wsL_valves wsL_hasLeft := goodIn_r _ [13, 14, 15, 3, 16, 17, 18, 19, 20, 21, 22, 23] (by decide +kernel) (by decide +kernel)
set_option maxRecDepth 20000 in
theorem gL_valves_L_hasLeft : GoodIn wsL_valves (va_wsS RL 116 yL_hasLeft wsL_hasLeft) := goodIn_app (goodIn_of _ (by decide +kernel)) ggL_valves_L_hasLeft
