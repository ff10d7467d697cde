theorem dX0_init_0 : decode cX0_init 0 = .ok (.aload_n 0, 1) := by decide +kernel
theorem dX0_init_1 : decode cX0_init 1 = .ok (.invokespecial 3, 3) := by decide +kernel
theorem dX0_init_4 : decode cX0_init 4 = .ok (.aload_n 0, 1) := by decide +kernel
theorem dX0_init_5 : decode cX0_init 5 = .ok (.iconst 0, 1) := by decide +kernel
theorem dX0_init_6 : decode cX0_init 6 = .ok (.putfield 9, 3) := by decide +kernel
theorem dX0_init_9 : decode cX0_init 9 = .ok (.aload_n 0, 1) := by decide +kernel
theorem dX0_init_10 : decode cX0_init 10 = .ok (.iload_n 1, 1) := by decide +kernel
theorem dX0_init_11 : decode cX0_init 11 = .ok (.putfield 15, 3) := by decide +kernel
theorem dX0_init_14 : decode cX0_init 14 = .ok (.aload_n 0, 1) := by decide +kernel
theorem dX0_init_15 : decode cX0_init 15 = .ok (.iload_n 2, 1) := by decide +kernel
theorem dX0_init_16 : decode cX0_init 16 = .ok (.putfield 18, 3) := by decide +kernel
theorem dX0_init_19 : decode cX0_init 19 = .ok (.aload_n 0, 1) := by decide +kernel
theorem dX0_init_20 : decode cX0_init 20 = .ok (.iload_n 3, 1) := by decide +kernel
theorem dX0_init_21 : decode cX0_init 21 = .ok (.putfield 21, 3) := by decide +kernel
theorem dX0_init_24 : decode cX0_init 24 = .ok (.aload_n 0, 1) := by decide +kernel
theorem dX0_init_25 : decode cX0_init 25 = .ok (.iload 4, 2) := by decide +kernel
theorem dX0_init_27 : decode cX0_init 27 = .ok (.putfield 25, 3) := by decide +kernel
theorem dX0_init_30 : decode cX0_init 30 = .ok (.aload_n 0, 1) := by decide +kernel
theorem dX0_init_31 : decode cX0_init 31 = .ok (.iload 5, 2) := by decide +kernel
theorem dX0_init_33 : decode cX0_init 33 = .ok (.putfield 28, 3) := by decide +kernel
theorem dX0_init_36 : decode cX0_init 36 = .ok (.return_, 1) := by decide +kernel
theorem dX0_isMetBy_0 : decode cX0_isMetBy 0 = .ok (.aload_n 0, 1) := by decide +kernel
theorem dX0_isMetBy_1 : decode cX0_isMetBy 1 = .ok (.getfield 21, 3) := by decide +kernel
theorem dX0_isMetBy_4 : decode cX0_isMetBy 4 = .ok (.ifCond .eq 19, 3) := by decide +kernel
theorem dX0_isMetBy_7 : decode cX0_isMetBy 7 = .ok (.iload_n 1, 1) := by decide +kernel
theorem dX0_isMetBy_8 : decode cX0_isMetBy 8 = .ok (.aload_n 0, 1) := by decide +kernel
theorem dX0_isMetBy_9 : decode cX0_isMetBy 9 = .ok (.getfield 18, 3) := by decide +kernel
theorem dX0_isMetBy_12 : decode cX0_isMetBy 12 = .ok (.if_icmp .lt 7, 3) := by decide +kernel
theorem dX0_isMetBy_15 : decode cX0_isMetBy 15 = .ok (.iconst 1, 1) := by decide +kernel
theorem dX0_isMetBy_16 : decode cX0_isMetBy 16 = .ok (.goto 20, 3) := by decide +kernel
theorem dX0_isMetBy_19 : decode cX0_isMetBy 19 = .ok (.iconst 0, 1) := by decide +kernel
theorem dX0_isMetBy_20 : decode cX0_isMetBy 20 = .ok (.goto 16, 3) := by decide +kernel
theorem dX0_isMetBy_23 : decode cX0_isMetBy 23 = .ok (.iload_n 1, 1) := by decide +kernel
theorem dX0_isMetBy_24 : decode cX0_isMetBy 24 = .ok (.aload_n 0, 1) := by decide +kernel
theorem dX0_isMetBy_25 : decode cX0_isMetBy 25 = .ok (.getfield 18, 3) := by decide +kernel
theorem dX0_isMetBy_28 : decode cX0_isMetBy 28 = .ok (.if_icmp .gt 7, 3) := by decide +kernel
theorem dX0_isMetBy_31 : decode cX0_isMetBy 31 = .ok (.iconst 1, 1) := by decide +kernel
theorem dX0_isMetBy_32 : decode cX0_isMetBy 32 = .ok (.goto 4, 3) := by decide +kernel
theorem dX0_isMetBy_35 : decode cX0_isMetBy 35 = .ok (.iconst 0, 1) := by decide +kernel
theorem dX0_isMetBy_36 : decode cX0_isMetBy 36 = .ok (.ireturn, 1) := by decide +kernel
theorem dX1_init_0 : decode cX1_init 0 = .ok (.aload_n 0, 1) := by decide +kernel
theorem dX1_init_1 : decode cX1_init 1 = .ok (.invokespecial 3, 3) := by decide +kernel
theorem dX1_init_4 : decode cX1_init 4 = .ok (.aload_n 0, 1) := by decide +kernel
theorem dX1_init_5 : decode cX1_init 5 = .ok (.bipush 40, 2) := by decide +kernel
theorem dX1_init_7 : decode cX1_init 7 = .ok (.newarray .char, 2) := by decide +kernel
theorem dX1_init_9 : decode cX1_init 9 = .ok (.putfield 9, 3) := by decide +kernel
theorem dX1_init_12 : decode cX1_init 12 = .ok (.aload_n 0, 1) := by decide +kernel
theorem dX1_init_13 : decode cX1_init 13 = .ok (.iconst 0, 1) := by decide +kernel
theorem dX1_init_14 : decode cX1_init 14 = .ok (.putfield 15, 3) := by decide +kernel
theorem dX1_init_17 : decode cX1_init 17 = .ok (.return_, 1) := by decide +kernel
theorem dX1_length_0 : decode cX1_length 0 = .ok (.aload_n 0, 1) := by decide +kernel
theorem dX1_length_1 : decode cX1_length 1 = .ok (.getfield 15, 3) := by decide +kernel
theorem dX1_length_4 : decode cX1_length 4 = .ok (.ireturn, 1) := by decide +kernel
theorem dX1_put_0 : decode cX1_put 0 = .ok (.aload_n 0, 1) := by decide +kernel
theorem dX1_put_1 : decode cX1_put 1 = .ok (.getfield 15, 3) := by decide +kernel
theorem dX1_put_4 : decode cX1_put 4 = .ok (.istore_n 3, 1) := by decide +kernel
theorem dX1_put_5 : decode cX1_put 5 = .ok (.iload_n 3, 1) := by decide +kernel
theorem dX1_put_6 : decode cX1_put 6 = .ok (.iload_n 1, 1) := by decide +kernel
theorem dX1_put_7 : decode cX1_put 7 = .ok (.if_icmp .le 23, 3) := by decide +kernel
theorem dX1_put_10 : decode cX1_put 10 = .ok (.aload_n 0, 1) := by decide +kernel
theorem dX1_put_11 : decode cX1_put 11 = .ok (.getfield 9, 3) := by decide +kernel
theorem dX1_put_14 : decode cX1_put 14 = .ok (.iload_n 3, 1) := by decide +kernel
theorem dX1_put_15 : decode cX1_put 15 = .ok (.aload_n 0, 1) := by decide +kernel
theorem dX1_put_16 : decode cX1_put 16 = .ok (.getfield 9, 3) := by decide +kernel
theorem dX1_put_19 : decode cX1_put 19 = .ok (.iload_n 3, 1) := by decide +kernel
theorem dX1_put_20 : decode cX1_put 20 = .ok (.iconst 1, 1) := by decide +kernel
theorem dX1_put_21 : decode cX1_put 21 = .ok (.isub, 1) := by decide +kernel
theorem dX1_put_22 : decode cX1_put 22 = .ok (.caload, 1) := by decide +kernel
theorem dX1_put_23 : decode cX1_put 23 = .ok (.castore, 1) := by decide +kernel
theorem dX1_put_24 : decode cX1_put 24 = .ok (.iinc 3 (-1), 3) := by decide +kernel
theorem dX1_put_27 : decode cX1_put 27 = .ok (.goto (-22), 3) := by decide +kernel
theorem dX1_put_30 : decode cX1_put 30 = .ok (.aload_n 0, 1) := by decide +kernel
theorem dX1_put_31 : decode cX1_put 31 = .ok (.getfield 9, 3) := by decide +kernel
theorem dX1_put_34 : decode cX1_put 34 = .ok (.iload_n 1, 1) := by decide +kernel
theorem dX1_put_35 : decode cX1_put 35 = .ok (.iload_n 2, 1) := by decide +kernel
theorem dX1_put_36 : decode cX1_put 36 = .ok (.castore, 1) := by decide +kernel
theorem dX1_put_37 : decode cX1_put 37 = .ok (.aload_n 0, 1) := by decide +kernel
theorem dX1_put_38 : decode cX1_put 38 = .ok (.dup, 1) := by decide +kernel
theorem dX1_put_39 : decode cX1_put 39 = .ok (.getfield 15, 3) := by decide +kernel
theorem dX1_put_42 : decode cX1_put 42 = .ok (.iconst 1, 1) := by decide +kernel
theorem dX1_put_43 : decode cX1_put 43 = .ok (.iadd, 1) := by decide +kernel
theorem dX1_put_44 : decode cX1_put 44 = .ok (.putfield 15, 3) := by decide +kernel
theorem dX1_put_47 : decode cX1_put 47 = .ok (.return_, 1) := by decide +kernel
theorem dX1_wipe_0 : decode cX1_wipe 0 = .ok (.aload_n 0, 1) := by decide +kernel
theorem dX1_wipe_1 : decode cX1_wipe 1 = .ok (.iconst 0, 1) := by decide +kernel
theorem dX1_wipe_2 : decode cX1_wipe 2 = .ok (.putfield 15, 3) := by decide +kernel
theorem dX1_wipe_5 : decode cX1_wipe 5 = .ok (.return_, 1) := by decide +kernel
set_option maxRecDepth 20000 in
theorem ggX1_isComplete_X1_isLow : GoodIn wsX1_isComplete wsX1_isLow := goodIn_r _ [6, 7, 8] (by decide +kernel) (by decide +kernel)
set_option maxRecDepth 20000 in
theorem gX1_isComplete_X1_isLow : GoodIn wsX1_isComplete (va_wsS RX1 19 yX1_isLow wsX1_isLow) := goodIn_app (goodIn_of _ (by decide +kernel)) ggX1_isComplete_X1_isLow
set_option maxRecDepth 20000 in
theorem ggX1_isComplete_X1_isHigh : GoodIn wsX1_isComplete wsX1_isHigh := goodIn_r _ [11, 12, 7] (by decide +kernel) (by decide +kernel)
set_option maxRecDepth 20000 in
theorem gX1_isComplete_X1_isHigh : GoodIn wsX1_isComplete (va_wsS RX1 23 yX1_isHigh wsX1_isHigh) := goodIn_app (goodIn_of _ (by decide +kernel)) ggX1_isComplete_X1_isHigh
theorem dX1_isComplete_0 : decode cX1_isComplete 0 = .ok (.iconst 0, 1) := by decide +kernel
theorem dX1_isComplete_1 : decode cX1_isComplete 1 = .ok (.istore_n 1, 1) := by decide +kernel
theorem dX1_isComplete_2 : decode cX1_isComplete 2 = .ok (.iconst 0, 1) := by decide +kernel
theorem dX1_isComplete_3 : decode cX1_isComplete 3 = .ok (.istore_n 2, 1) := by decide +kernel
theorem dX1_isComplete_4 : decode cX1_isComplete 4 = .ok (.iload_n 2, 1) := by decide +kernel
theorem dX1_isComplete_5 : decode cX1_isComplete 5 = .ok (.aload_n 0, 1) := by decide +kernel
theorem dX1_isComplete_6 : decode cX1_isComplete 6 = .ok (.getfield 15, 3) := by decide +kernel
theorem dX1_isComplete_9 : decode cX1_isComplete 9 = .ok (.if_icmp .ge 34, 3) := by decide +kernel
theorem dX1_isComplete_12 : decode cX1_isComplete 12 = .ok (.aload_n 0, 1) := by decide +kernel
theorem dX1_isComplete_13 : decode cX1_isComplete 13 = .ok (.getfield 9, 3) := by decide +kernel
theorem dX1_isComplete_16 : decode cX1_isComplete 16 = .ok (.iload_n 2, 1) := by decide +kernel
theorem dX1_isComplete_17 : decode cX1_isComplete 17 = .ok (.caload, 1) := by decide +kernel
theorem dX1_isComplete_18 : decode cX1_isComplete 18 = .ok (.invokestatic 19, 3) := by decide +kernel
theorem dX1_isComplete_21 : decode cX1_isComplete 21 = .ok (.iload_n 1, 1) := by decide +kernel
theorem dX1_isComplete_22 : decode cX1_isComplete 22 = .ok (.if_icmp .eq 5, 3) := by decide +kernel
theorem dX1_isComplete_25 : decode cX1_isComplete 25 = .ok (.iconst 0, 1) := by decide +kernel
theorem dX1_isComplete_26 : decode cX1_isComplete 26 = .ok (.ireturn, 1) := by decide +kernel
theorem dX1_isComplete_27 : decode cX1_isComplete 27 = .ok (.aload_n 0, 1) := by decide +kernel
theorem dX1_isComplete_28 : decode cX1_isComplete 28 = .ok (.getfield 9, 3) := by decide +kernel
theorem dX1_isComplete_31 : decode cX1_isComplete 31 = .ok (.iload_n 2, 1) := by decide +kernel
theorem dX1_isComplete_32 : decode cX1_isComplete 32 = .ok (.caload, 1) := by decide +kernel
theorem dX1_isComplete_33 : decode cX1_isComplete 33 = .ok (.invokestatic 23, 3) := by decide +kernel
theorem dX1_isComplete_36 : decode cX1_isComplete 36 = .ok (.istore_n 1, 1) := by decide +kernel
theorem dX1_isComplete_37 : decode cX1_isComplete 37 = .ok (.iinc 2 1, 3) := by decide +kernel
theorem dX1_isComplete_40 : decode cX1_isComplete 40 = .ok (.goto (-36), 3) := by decide +kernel
theorem dX1_isComplete_43 : decode cX1_isComplete 43 = .ok (.aload_n 0, 1) := by decide +kernel
theorem dX1_isComplete_44 : decode cX1_isComplete 44 = .ok (.getfield 15, 3) := by decide +kernel
theorem dX1_isComplete_47 : decode cX1_isComplete 47 = .ok (.ifCond .le 11, 3) := by decide +kernel
theorem dX1_isComplete_50 : decode cX1_isComplete 50 = .ok (.iload_n 1, 1) := by decide +kernel
theorem dX1_isComplete_51 : decode cX1_isComplete 51 = .ok (.ifCond .ne 7, 3) := by decide +kernel
theorem dX1_isComplete_54 : decode cX1_isComplete 54 = .ok (.iconst 1, 1) := by decide +kernel
theorem dX1_isComplete_55 : decode cX1_isComplete 55 = .ok (.goto 4, 3) := by decide +kernel
theorem dX1_isComplete_58 : decode cX1_isComplete 58 = .ok (.iconst 0, 1) := by decide +kernel
theorem dX1_isComplete_59 : decode cX1_isComplete 59 = .ok (.ireturn, 1) := by decide +kernel
set_option maxRecDepth 20000 in
theorem ggX1_toSigns_X1_countHigh : GoodIn wsX1_toSigns wsX1_countHigh := goodIn_r _ [8, 1, 3, 9, 10, 7, 11, 12, 13, 18, 19] (by decide +kernel) (by decide +kernel)
set_option maxRecDepth 20000 in
theorem gX1_toSigns_X1_countHigh : GoodIn wsX1_toSigns (wsV RX1 26 RX1 yX1_countHigh wsX1_countHigh) := goodIn_app (goodIn_of _ (by decide +kernel)) ggX1_toSigns_X1_countHigh
set_option maxRecDepth 20000 in
theorem ggX1_toSigns_X1_isHigh : GoodIn wsX1_toSigns wsX1_isHigh := goodIn_r _ [11, 12, 13] (by decide +kernel) (by decide +kernel)
set_option maxRecDepth 20000 in
theorem gX1_toSigns_X1_isHigh : GoodIn wsX1_toSigns (va_wsS RX1 23 yX1_isHigh wsX1_isHigh) := goodIn_app (goodIn_of _ (by decide +kernel)) ggX1_toSigns_X1_isHigh
set_option maxRecDepth 20000 in
theorem ggX1_toSigns_X1_join : GoodIn wsX1_toSigns wsX1_join := goodIn_r _ [16, 17, 12, 13] (by decide +kernel) (by decide +kernel)
set_option maxRecDepth 20000 in
theorem gX1_toSigns_X1_join : GoodIn wsX1_toSigns (va_wsS RX1 30 yX1_join wsX1_join) := goodIn_app (goodIn_of _ (by decide +kernel)) ggX1_toSigns_X1_join
theorem dX1_toSigns_0 : decode cX1_toSigns 0 = .ok (.aload_n 0, 1) := by decide +kernel
theorem dX1_toSigns_1 : decode cX1_toSigns 1 = .ok (.getfield 15, 3) := by decide +kernel
theorem dX1_toSigns_4 : decode cX1_toSigns 4 = .ok (.aload_n 0, 1) := by decide +kernel
theorem dX1_toSigns_5 : decode cX1_toSigns 5 = .ok (.invokevirtual 26, 3) := by decide +kernel
theorem dX1_toSigns_8 : decode cX1_toSigns 8 = .ok (.isub, 1) := by decide +kernel
theorem dX1_toSigns_9 : decode cX1_toSigns 9 = .ok (.newarray .int, 2) := by decide +kernel
theorem dX1_toSigns_11 : decode cX1_toSigns 11 = .ok (.astore_n 1, 1) := by decide +kernel
theorem dX1_toSigns_12 : decode cX1_toSigns 12 = .ok (.iconst 0, 1) := by decide +kernel
theorem dX1_toSigns_13 : decode cX1_toSigns 13 = .ok (.istore_n 2, 1) := by decide +kernel
theorem dX1_toSigns_14 : decode cX1_toSigns 14 = .ok (.iconst 0, 1) := by decide +kernel
theorem dX1_toSigns_15 : decode cX1_toSigns 15 = .ok (.istore_n 3, 1) := by decide +kernel
theorem dX1_toSigns_16 : decode cX1_toSigns 16 = .ok (.iload_n 3, 1) := by decide +kernel
theorem dX1_toSigns_17 : decode cX1_toSigns 17 = .ok (.aload_n 1, 1) := by decide +kernel
theorem dX1_toSigns_18 : decode cX1_toSigns 18 = .ok (.arraylength, 1) := by decide +kernel
theorem dX1_toSigns_19 : decode cX1_toSigns 19 = .ok (.if_icmp .ge 73, 3) := by decide +kernel
theorem dX1_toSigns_22 : decode cX1_toSigns 22 = .ok (.iload_n 2, 1) := by decide +kernel
theorem dX1_toSigns_23 : decode cX1_toSigns 23 = .ok (.aload_n 0, 1) := by decide +kernel
theorem dX1_toSigns_24 : decode cX1_toSigns 24 = .ok (.getfield 15, 3) := by decide +kernel
theorem dX1_toSigns_27 : decode cX1_toSigns 27 = .ok (.if_icmp .ge 65, 3) := by decide +kernel
theorem dX1_toSigns_30 : decode cX1_toSigns 30 = .ok (.aload_n 0, 1) := by decide +kernel
theorem dX1_toSigns_31 : decode cX1_toSigns 31 = .ok (.getfield 9, 3) := by decide +kernel
theorem dX1_toSigns_34 : decode cX1_toSigns 34 = .ok (.iload_n 2, 1) := by decide +kernel
theorem dX1_toSigns_35 : decode cX1_toSigns 35 = .ok (.caload, 1) := by decide +kernel
theorem dX1_toSigns_36 : decode cX1_toSigns 36 = .ok (.istore 4, 2) := by decide +kernel
theorem dX1_toSigns_38 : decode cX1_toSigns 38 = .ok (.iload 4, 2) := by decide +kernel
theorem dX1_toSigns_40 : decode cX1_toSigns 40 = .ok (.invokestatic 23, 3) := by decide +kernel
theorem dX1_toSigns_43 : decode cX1_toSigns 43 = .ok (.ifCond .eq 35, 3) := by decide +kernel
theorem dX1_toSigns_46 : decode cX1_toSigns 46 = .ok (.iload_n 2, 1) := by decide +kernel
theorem dX1_toSigns_47 : decode cX1_toSigns 47 = .ok (.iconst 1, 1) := by decide +kernel
theorem dX1_toSigns_48 : decode cX1_toSigns 48 = .ok (.iadd, 1) := by decide +kernel
theorem dX1_toSigns_49 : decode cX1_toSigns 49 = .ok (.aload_n 0, 1) := by decide +kernel
theorem dX1_toSigns_50 : decode cX1_toSigns 50 = .ok (.getfield 15, 3) := by decide +kernel
theorem dX1_toSigns_53 : decode cX1_toSigns 53 = .ok (.if_icmp .ge 25, 3) := by decide +kernel
theorem dX1_toSigns_56 : decode cX1_toSigns 56 = .ok (.aload_n 1, 1) := by decide +kernel
theorem dX1_toSigns_57 : decode cX1_toSigns 57 = .ok (.iload_n 3, 1) := by decide +kernel
theorem dX1_toSigns_58 : decode cX1_toSigns 58 = .ok (.iload 4, 2) := by decide +kernel
theorem dX1_toSigns_60 : decode cX1_toSigns 60 = .ok (.aload_n 0, 1) := by decide +kernel
theorem dX1_toSigns_61 : decode cX1_toSigns 61 = .ok (.getfield 9, 3) := by decide +kernel
theorem dX1_toSigns_64 : decode cX1_toSigns 64 = .ok (.iload_n 2, 1) := by decide +kernel
theorem dX1_toSigns_65 : decode cX1_toSigns 65 = .ok (.iconst 1, 1) := by decide +kernel
theorem dX1_toSigns_66 : decode cX1_toSigns 66 = .ok (.iadd, 1) := by decide +kernel
theorem dX1_toSigns_67 : decode cX1_toSigns 67 = .ok (.caload, 1) := by decide +kernel
theorem dX1_toSigns_68 : decode cX1_toSigns 68 = .ok (.invokestatic 30, 3) := by decide +kernel
theorem dX1_toSigns_71 : decode cX1_toSigns 71 = .ok (.iastore, 1) := by decide +kernel
theorem dX1_toSigns_72 : decode cX1_toSigns 72 = .ok (.iinc 2 2, 3) := by decide +kernel
theorem dX1_toSigns_75 : decode cX1_toSigns 75 = .ok (.goto 11, 3) := by decide +kernel
theorem dX1_toSigns_78 : decode cX1_toSigns 78 = .ok (.aload_n 1, 1) := by decide +kernel
theorem dX1_toSigns_79 : decode cX1_toSigns 79 = .ok (.iload_n 3, 1) := by decide +kernel
theorem dX1_toSigns_80 : decode cX1_toSigns 80 = .ok (.iload 4, 2) := by decide +kernel
theorem dX1_toSigns_82 : decode cX1_toSigns 82 = .ok (.iastore, 1) := by decide +kernel
theorem dX1_toSigns_83 : decode cX1_toSigns 83 = .ok (.iinc 2 1, 3) := by decide +kernel
theorem dX1_toSigns_86 : decode cX1_toSigns 86 = .ok (.iinc 3 1, 3) := by decide +kernel
theorem dX1_toSigns_89 : decode cX1_toSigns 89 = .ok (.goto (-73), 3) := by decide +kernel
theorem dX1_toSigns_92 : decode cX1_toSigns 92 = .ok (.aload_n 1, 1) := by decide +kernel
theorem dX1_toSigns_93 : decode cX1_toSigns 93 = .ok (.areturn, 1) := by decide +kernel
set_option maxRecDepth 20000 in
theorem ggX1_countHigh_X1_isHigh : GoodIn wsX1_countHigh wsX1_isHigh := goodIn_r _ [6, 7, 8] (by decide +kernel) (by decide +kernel)
set_option maxRecDepth 20000 in
theorem gX1_countHigh_X1_isHigh : GoodIn wsX1_countHigh (va_wsS RX1 23 yX1_isHigh wsX1_isHigh) := goodIn_app (goodIn_of _ (by decide +kernel)) ggX1_countHigh_X1_isHigh
theorem dX1_countHigh_0 : decode cX1_countHigh 0 = .ok (.iconst 0, 1) := by decide +kernel
theorem dX1_countHigh_1 : decode cX1_countHigh 1 = .ok (.istore_n 1, 1) := by decide +kernel
theorem dX1_countHigh_2 : decode cX1_countHigh 2 = .ok (.iconst 0, 1) := by decide +kernel
theorem dX1_countHigh_3 : decode cX1_countHigh 3 = .ok (.istore_n 2, 1) := by decide +kernel
theorem dX1_countHigh_4 : decode cX1_countHigh 4 = .ok (.iload_n 2, 1) := by decide +kernel
theorem dX1_countHigh_5 : decode cX1_countHigh 5 = .ok (.aload_n 0, 1) := by decide +kernel
theorem dX1_countHigh_6 : decode cX1_countHigh 6 = .ok (.getfield 15, 3) := by decide +kernel
theorem dX1_countHigh_9 : decode cX1_countHigh 9 = .ok (.if_icmp .ge 24, 3) := by decide +kernel
theorem dX1_countHigh_12 : decode cX1_countHigh 12 = .ok (.aload_n 0, 1) := by decide +kernel
theorem dX1_countHigh_13 : decode cX1_countHigh 13 = .ok (.getfield 9, 3) := by decide +kernel
theorem dX1_countHigh_16 : decode cX1_countHigh 16 = .ok (.iload_n 2, 1) := by decide +kernel
theorem dX1_countHigh_17 : decode cX1_countHigh 17 = .ok (.caload, 1) := by decide +kernel
theorem dX1_countHigh_18 : decode cX1_countHigh 18 = .ok (.invokestatic 23, 3) := by decide +kernel
theorem dX1_countHigh_21 : decode cX1_countHigh 21 = .ok (.ifCond .eq 6, 3) := by decide +kernel
theorem dX1_countHigh_24 : decode cX1_countHigh 24 = .ok (.iinc 1 1, 3) := by decide +kernel
theorem dX1_countHigh_27 : decode cX1_countHigh 27 = .ok (.iinc 2 1, 3) := by decide +kernel
theorem dX1_countHigh_30 : decode cX1_countHigh 30 = .ok (.goto (-26), 3) := by decide +kernel
theorem dX1_countHigh_33 : decode cX1_countHigh 33 = .ok (.iload_n 1, 1) := by decide +kernel
theorem dX1_countHigh_34 : decode cX1_countHigh 34 = .ok (.ireturn, 1) := by decide +kernel
theorem dX1_isHigh_0 : decode cX1_isHigh 0 = .ok (.iload_n 0, 1) := by decide +kernel
theorem dX1_isHigh_1 : decode cX1_isHigh 1 = .ok (.ldc 34, 2) := by decide +kernel
theorem dX1_isHigh_3 : decode cX1_isHigh 3 = .ok (.if_icmp .lt 13, 3) := by decide +kernel
theorem dX1_isHigh_6 : decode cX1_isHigh 6 = .ok (.iload_n 0, 1) := by decide +kernel
theorem dX1_isHigh_7 : decode cX1_isHigh 7 = .ok (.ldc 35, 2) := by decide +kernel
theorem dX1_isHigh_9 : decode cX1_isHigh 9 = .ok (.if_icmp .ge 7, 3) := by decide +kernel
theorem dX1_isHigh_12 : decode cX1_isHigh 12 = .ok (.iconst 1, 1) := by decide +kernel
theorem dX1_isHigh_13 : decode cX1_isHigh 13 = .ok (.goto 4, 3) := by decide +kernel
theorem dX1_isHigh_16 : decode cX1_isHigh 16 = .ok (.iconst 0, 1) := by decide +kernel
theorem dX1_isHigh_17 : decode cX1_isHigh 17 = .ok (.ireturn, 1) := by decide +kernel
theorem dX1_isLow_0 : decode cX1_isLow 0 = .ok (.iload_n 0, 1) := by decide +kernel
theorem dX1_isLow_1 : decode cX1_isLow 1 = .ok (.ldc 35, 2) := by decide +kernel
theorem dX1_isLow_3 : decode cX1_isLow 3 = .ok (.if_icmp .lt 13, 3) := by decide +kernel
theorem dX1_isLow_6 : decode cX1_isLow 6 = .ok (.iload_n 0, 1) := by decide +kernel
theorem dX1_isLow_7 : decode cX1_isLow 7 = .ok (.ldc 36, 2) := by decide +kernel
theorem dX1_isLow_9 : decode cX1_isLow 9 = .ok (.if_icmp .ge 7, 3) := by decide +kernel
theorem dX1_isLow_12 : decode cX1_isLow 12 = .ok (.iconst 1, 1) := by decide +kernel
theorem dX1_isLow_13 : decode cX1_isLow 13 = .ok (.goto 4, 3) := by decide +kernel
theorem dX1_isLow_16 : decode cX1_isLow 16 = .ok (.iconst 0, 1) := by decide +kernel
theorem dX1_isLow_17 : decode cX1_isLow 17 = .ok (.ireturn, 1) := by decide +kernel
theorem dX1_join_0 : decode cX1_join 0 = .ok (.ldc 37, 2) := by decide +kernel
theorem dX1_join_2 : decode cX1_join 2 = .ok (.iload_n 0, 1) := by decide +kernel
theorem dX1_join_3 : decode cX1_join 3 = .ok (.ldc 34, 2) := by decide +kernel
theorem dX1_join_5 : decode cX1_join 5 = .ok (.isub, 1) := by decide +kernel
theorem dX1_join_6 : decode cX1_join 6 = .ok (.bipush 10, 2) := by decide +kernel
theorem dX1_join_8 : decode cX1_join 8 = .ok (.ishl, 1) := by decide +kernel
theorem dX1_join_9 : decode cX1_join 9 = .ok (.iadd, 1) := by decide +kernel
theorem dX1_join_10 : decode cX1_join 10 = .ok (.iload_n 1, 1) := by decide +kernel
theorem dX1_join_11 : decode cX1_join 11 = .ok (.ldc 35, 2) := by decide +kernel
theorem dX1_join_13 : decode cX1_join 13 = .ok (.isub, 1) := by decide +kernel
theorem dX1_join_14 : decode cX1_join 14 = .ok (.iadd, 1) := by decide +kernel
theorem dX1_join_15 : decode cX1_join 15 = .ok (.ireturn, 1) := by decide +kernel
theorem dX2_init_0 : decode cX2_init 0 = .ok (.aload_n 0, 1) := by decide +kernel
theorem dX2_init_1 : decode cX2_init 1 = .ok (.invokespecial 3, 3) := by decide +kernel
theorem dX2_init_4 : decode cX2_init 4 = .ok (.aload_n 0, 1) := by decide +kernel
theorem dX2_init_5 : decode cX2_init 5 = .ok (.bipush 16, 2) := by decide +kernel
theorem dX2_init_7 : decode cX2_init 7 = .ok (.newarray .int, 2) := by decide +kernel
theorem dX2_init_9 : decode cX2_init 9 = .ok (.putfield 11, 3) := by decide +kernel
theorem dX2_init_12 : decode cX2_init 12 = .ok (.aload_n 0, 1) := by decide +kernel
theorem dX2_init_13 : decode cX2_init 13 = .ok (.iconst 0, 1) := by decide +kernel
theorem dX2_init_14 : decode cX2_init 14 = .ok (.putfield 15, 3) := by decide +kernel
theorem dX2_init_17 : decode cX2_init 17 = .ok (.return_, 1) := by decide +kernel
theorem dX2_size_0 : decode cX2_size 0 = .ok (.aload_n 0, 1) := by decide +kernel
theorem dX2_size_1 : decode cX2_size 1 = .ok (.getfield 15, 3) := by decide +kernel
theorem dX2_size_4 : decode cX2_size 4 = .ok (.ireturn, 1) := by decide +kernel
set_option maxRecDepth 20000 in
theorem ggX2_note_J7_copyOf_59c91 : GoodIn wsX2_note wsJ7_copyOf_59c91 := goodIn_r _ [6, 7, 8, 9, 10, 11, 12, 13, 14, 15, 16, 17, 18, 19, 20, 21] (by decide +kernel) (by decide +kernel)
set_option maxRecDepth 20000 in
theorem gX2_note_J7_copyOf_59c91 : GoodIn wsX2_note (va_wsS RX2 19 yJ7_copyOf_59c91 wsJ7_copyOf_59c91) := goodIn_app (goodIn_of _ (by decide +kernel)) ggX2_note_J7_copyOf_59c91
theorem dX2_note_0 : decode cX2_note 0 = .ok (.aload_n 0, 1) := by decide +kernel
theorem dX2_note_1 : decode cX2_note 1 = .ok (.getfield 15, 3) := by decide +kernel
theorem dX2_note_4 : decode cX2_note 4 = .ok (.sipush 20512, 3) := by decide +kernel
theorem dX2_note_7 : decode cX2_note 7 = .ok (.if_icmp .lt 4, 3) := by decide +kernel
theorem dX2_note_10 : decode cX2_note 10 = .ok (.return_, 1) := by decide +kernel
theorem dX2_note_11 : decode cX2_note 11 = .ok (.aload_n 0, 1) := by decide +kernel
theorem dX2_note_12 : decode cX2_note 12 = .ok (.getfield 15, 3) := by decide +kernel
theorem dX2_note_15 : decode cX2_note 15 = .ok (.aload_n 0, 1) := by decide +kernel
theorem dX2_note_16 : decode cX2_note 16 = .ok (.getfield 11, 3) := by decide +kernel
theorem dX2_note_19 : decode cX2_note 19 = .ok (.arraylength, 1) := by decide +kernel
theorem dX2_note_20 : decode cX2_note 20 = .ok (.if_icmp .lt 21, 3) := by decide +kernel
theorem dX2_note_23 : decode cX2_note 23 = .ok (.aload_n 0, 1) := by decide +kernel
theorem dX2_note_24 : decode cX2_note 24 = .ok (.aload_n 0, 1) := by decide +kernel
theorem dX2_note_25 : decode cX2_note 25 = .ok (.getfield 11, 3) := by decide +kernel
theorem dX2_note_28 : decode cX2_note 28 = .ok (.iconst 2, 1) := by decide +kernel
theorem dX2_note_29 : decode cX2_note 29 = .ok (.aload_n 0, 1) := by decide +kernel
theorem dX2_note_30 : decode cX2_note 30 = .ok (.getfield 11, 3) := by decide +kernel
theorem dX2_note_33 : decode cX2_note 33 = .ok (.arraylength, 1) := by decide +kernel
theorem dX2_note_34 : decode cX2_note 34 = .ok (.imul, 1) := by decide +kernel
theorem dX2_note_35 : decode cX2_note 35 = .ok (.invokestatic 19, 3) := by decide +kernel
theorem dX2_note_38 : decode cX2_note 38 = .ok (.putfield 11, 3) := by decide +kernel
theorem dX2_note_41 : decode cX2_note 41 = .ok (.aload_n 0, 1) := by decide +kernel
theorem dX2_note_42 : decode cX2_note 42 = .ok (.getfield 11, 3) := by decide +kernel
theorem dX2_note_45 : decode cX2_note 45 = .ok (.aload_n 0, 1) := by decide +kernel
theorem dX2_note_46 : decode cX2_note 46 = .ok (.getfield 15, 3) := by decide +kernel
theorem dX2_note_49 : decode cX2_note 49 = .ok (.sipush 10000, 3) := by decide +kernel
theorem dX2_note_52 : decode cX2_note 52 = .ok (.iload_n 1, 1) := by decide +kernel
theorem dX2_note_53 : decode cX2_note 53 = .ok (.imul, 1) := by decide +kernel
theorem dX2_note_54 : decode cX2_note 54 = .ok (.sipush 1000, 3) := by decide +kernel
theorem dX2_note_57 : decode cX2_note 57 = .ok (.iload_n 2, 1) := by decide +kernel
theorem dX2_note_58 : decode cX2_note 58 = .ok (.imul, 1) := by decide +kernel
theorem dX2_note_59 : decode cX2_note 59 = .ok (.iadd, 1) := by decide +kernel
theorem dX2_note_60 : decode cX2_note 60 = .ok (.bipush 100, 2) := by decide +kernel
theorem dX2_note_62 : decode cX2_note 62 = .ok (.iload_n 3, 1) := by decide +kernel
theorem dX2_note_63 : decode cX2_note 63 = .ok (.iconst 1, 1) := by decide +kernel
theorem dX2_note_64 : decode cX2_note 64 = .ok (.iadd, 1) := by decide +kernel
theorem dX2_note_65 : decode cX2_note 65 = .ok (.imul, 1) := by decide +kernel
theorem dX2_note_66 : decode cX2_note 66 = .ok (.iadd, 1) := by decide +kernel
theorem dX2_note_67 : decode cX2_note 67 = .ok (.iload 4, 2) := by decide +kernel
theorem dX2_note_69 : decode cX2_note 69 = .ok (.iadd, 1) := by decide +kernel
theorem dX2_note_70 : decode cX2_note 70 = .ok (.iastore, 1) := by decide +kernel
theorem dX2_note_71 : decode cX2_note 71 = .ok (.aload_n 0, 1) := by decide +kernel
theorem dX2_note_72 : decode cX2_note 72 = .ok (.dup, 1) := by decide +kernel
theorem dX2_note_73 : decode cX2_note 73 = .ok (.getfield 15, 3) := by decide +kernel
theorem dX2_note_76 : decode cX2_note 76 = .ok (.iconst 1, 1) := by decide +kernel
theorem dX2_note_77 : decode cX2_note 77 = .ok (.iadd, 1) := by decide +kernel
theorem dX2_note_78 : decode cX2_note 78 = .ok (.putfield 15, 3) := by decide +kernel
theorem dX2_note_81 : decode cX2_note 81 = .ok (.return_, 1) := by decide +kernel
set_option maxRecDepth 20000 in
theorem ggX2_noteTurn_X2_note : GoodIn wsX2_noteTurn wsX2_note := goodIn_r _ [5, 6, 7, 8, 9, 10, 11, 12, 13, 14, 15, 16, 17, 18, 19, 20, 21, 22, 23, 24, 25, 26, 27, 28] (by decide +kernel) (by decide +kernel)
set_option maxRecDepth 20000 in
theorem gX2_noteTurn_X2_note : GoodIn wsX2_noteTurn (wsV RX2 25 RX2 yX2_note wsX2_note) := goodIn_app (goodIn_of _ (by decide +kernel)) ggX2_noteTurn_X2_note
theorem dX2_noteTurn_0 : decode cX2_noteTurn 0 = .ok (.aload_n 0, 1) := by decide +kernel
theorem dX2_noteTurn_1 : decode cX2_noteTurn 1 = .ok (.iload_n 1, 1) := by decide +kernel
theorem dX2_noteTurn_2 : decode cX2_noteTurn 2 = .ok (.iconst 0, 1) := by decide +kernel
theorem dX2_noteTurn_3 : decode cX2_noteTurn 3 = .ok (.iload_n 2, 1) := by decide +kernel
theorem dX2_noteTurn_4 : decode cX2_noteTurn 4 = .ok (.iload 4, 2) := by decide +kernel
theorem dX2_noteTurn_6 : decode cX2_noteTurn 6 = .ok (.ifCond .eq 10, 3) := by decide +kernel
theorem dX2_noteTurn_9 : decode cX2_noteTurn 9 = .ok (.iload_n 3, 1) := by decide +kernel
theorem dX2_noteTurn_10 : decode cX2_noteTurn 10 = .ok (.bipush 10, 2) := by decide +kernel
theorem dX2_noteTurn_12 : decode cX2_noteTurn 12 = .ok (.iadd, 1) := by decide +kernel
theorem dX2_noteTurn_13 : decode cX2_noteTurn 13 = .ok (.goto 4, 3) := by decide +kernel
theorem dX2_noteTurn_16 : decode cX2_noteTurn 16 = .ok (.iload_n 3, 1) := by decide +kernel
theorem dX2_noteTurn_17 : decode cX2_noteTurn 17 = .ok (.invokevirtual 25, 3) := by decide +kernel
theorem dX2_noteTurn_20 : decode cX2_noteTurn 20 = .ok (.return_, 1) := by decide +kernel
theorem dX2_codeAt_0 : decode cX2_codeAt 0 = .ok (.aload_n 0, 1) := by decide +kernel
theorem dX2_codeAt_1 : decode cX2_codeAt 1 = .ok (.getfield 11, 3) := by decide +kernel
theorem dX2_codeAt_4 : decode cX2_codeAt 4 = .ok (.iload_n 1, 1) := by decide +kernel
theorem dX2_codeAt_5 : decode cX2_codeAt 5 = .ok (.iaload, 1) := by decide +kernel
theorem dX2_codeAt_6 : decode cX2_codeAt 6 = .ok (.ireturn, 1) := by decide +kernel
theorem dX2_kindAt_0 : decode cX2_kindAt 0 = .ok (.aload_n 0, 1) := by decide +kernel
theorem dX2_kindAt_1 : decode cX2_kindAt 1 = .ok (.getfield 11, 3) := by decide +kernel
theorem dX2_kindAt_4 : decode cX2_kindAt 4 = .ok (.iload_n 1, 1) := by decide +kernel
theorem dX2_kindAt_5 : decode cX2_kindAt 5 = .ok (.iaload, 1) := by decide +kernel
theorem dX2_kindAt_6 : decode cX2_kindAt 6 = .ok (.sipush 10000, 3) := by decide +kernel
theorem dX2_kindAt_9 : decode cX2_kindAt 9 = .ok (.irem, 1) := by decide +kernel
theorem dX2_kindAt_10 : decode cX2_kindAt 10 = .ok (.sipush 1000, 3) := by decide +kernel
theorem dX2_kindAt_13 : decode cX2_kindAt 13 = .ok (.idiv, 1) := by decide +kernel
theorem dX2_kindAt_14 : decode cX2_kindAt 14 = .ok (.ireturn, 1) := by decide +kernel
theorem dX2_whatAt_0 : decode cX2_whatAt 0 = .ok (.aload_n 0, 1) := by decide +kernel
theorem dX2_whatAt_1 : decode cX2_whatAt 1 = .ok (.getfield 11, 3) := by decide +kernel
theorem dX2_whatAt_4 : decode cX2_whatAt 4 = .ok (.iload_n 1, 1) := by decide +kernel
theorem dX2_whatAt_5 : decode cX2_whatAt 5 = .ok (.iaload, 1) := by decide +kernel
theorem dX2_whatAt_6 : decode cX2_whatAt 6 = .ok (.bipush 100, 2) := by decide +kernel
theorem dX2_whatAt_8 : decode cX2_whatAt 8 = .ok (.irem, 1) := by decide +kernel
theorem dX2_whatAt_9 : decode cX2_whatAt 9 = .ok (.ireturn, 1) := by decide +kernel
set_option maxRecDepth 20000 in
theorem ggX2_valveTurnedAt_X2_whatAt : GoodIn wsX2_valveTurnedAt wsX2_whatAt := goodIn_r _ [5, 6, 7, 8] (by decide +kernel) (by decide +kernel)
set_option maxRecDepth 20000 in
theorem gX2_valveTurnedAt_X2_whatAt : GoodIn wsX2_valveTurnedAt (wsV RX2 29 RX2 yX2_whatAt wsX2_whatAt) := goodIn_app (goodIn_of _ (by decide +kernel)) ggX2_valveTurnedAt_X2_whatAt
theorem dX2_valveTurnedAt_0 : decode cX2_valveTurnedAt 0 = .ok (.aload_n 0, 1) := by decide +kernel
theorem dX2_valveTurnedAt_1 : decode cX2_valveTurnedAt 1 = .ok (.iload_n 1, 1) := by decide +kernel
theorem dX2_valveTurnedAt_2 : decode cX2_valveTurnedAt 2 = .ok (.invokevirtual 29, 3) := by decide +kernel
theorem dX2_valveTurnedAt_5 : decode cX2_valveTurnedAt 5 = .ok (.bipush 10, 2) := by decide +kernel
theorem dX2_valveTurnedAt_7 : decode cX2_valveTurnedAt 7 = .ok (.irem, 1) := by decide +kernel
theorem dX2_valveTurnedAt_8 : decode cX2_valveTurnedAt 8 = .ok (.ireturn, 1) := by decide +kernel
set_option maxRecDepth 20000 in
theorem ggX2_opensAt_X2_whatAt : GoodIn wsX2_opensAt wsX2_whatAt := goodIn_r _ [5, 6, 7, 8] (by decide +kernel) (by decide +kernel)
set_option maxRecDepth 20000 in
theorem gX2_opensAt_X2_whatAt : GoodIn wsX2_opensAt (wsV RX2 29 RX2 yX2_whatAt wsX2_whatAt) := goodIn_app (goodIn_of _ (by decide +kernel)) ggX2_opensAt_X2_whatAt
theorem dX2_opensAt_0 : decode cX2_opensAt 0 = .ok (.aload_n 0, 1) := by decide +kernel
theorem dX2_opensAt_1 : decode cX2_opensAt 1 = .ok (.iload_n 1, 1) := by decide +kernel
theorem dX2_opensAt_2 : decode cX2_opensAt 2 = .ok (.invokevirtual 29, 3) := by decide +kernel
theorem dX2_opensAt_5 : decode cX2_opensAt 5 = .ok (.bipush 10, 2) := by decide +kernel
theorem dX2_opensAt_7 : decode cX2_opensAt 7 = .ok (.if_icmp .lt 7, 3) := by decide +kernel
theorem dX2_opensAt_10 : decode cX2_opensAt 10 = .ok (.iconst 1, 1) := by decide +kernel
theorem dX2_opensAt_11 : decode cX2_opensAt 11 = .ok (.goto 4, 3) := by decide +kernel
theorem dX2_opensAt_14 : decode cX2_opensAt 14 = .ok (.iconst 0, 1) := by decide +kernel
theorem dX2_opensAt_15 : decode cX2_opensAt 15 = .ok (.ireturn, 1) := by decide +kernel
theorem dX3_init_0 : decode cX3_init 0 = .ok (.aload_n 0, 1) := by decide +kernel
theorem dX3_init_1 : decode cX3_init 1 = .ok (.invokespecial 3, 3) := by decide +kernel
theorem dX3_init_4 : decode cX3_init 4 = .ok (.aload_n 0, 1) := by decide +kernel
theorem dX3_init_5 : decode cX3_init 5 = .ok (.aload_n 1, 1) := by decide +kernel
theorem dX3_init_6 : decode cX3_init 6 = .ok (.putfield 9, 3) := by decide +kernel
theorem dX3_init_9 : decode cX3_init 9 = .ok (.return_, 1) := by decide +kernel
theorem dX3_length_0 : decode cX3_length 0 = .ok (.aload_n 0, 1) := by decide +kernel
theorem dX3_length_1 : decode cX3_length 1 = .ok (.getfield 9, 3) := by decide +kernel
theorem dX3_length_4 : decode cX3_length 4 = .ok (.arraylength, 1) := by decide +kernel
theorem dX3_length_5 : decode cX3_length 5 = .ok (.ireturn, 1) := by decide +kernel
theorem dX3_get_0 : decode cX3_get 0 = .ok (.iload_n 1, 1) := by decide +kernel
theorem dX3_get_1 : decode cX3_get 1 = .ok (.ifCond .lt 21, 3) := by decide +kernel
theorem dX3_get_4 : decode cX3_get 4 = .ok (.iload_n 1, 1) := by decide +kernel
theorem dX3_get_5 : decode cX3_get 5 = .ok (.aload_n 0, 1) := by decide +kernel
theorem dX3_get_6 : decode cX3_get 6 = .ok (.getfield 9, 3) := by decide +kernel
theorem dX3_get_9 : decode cX3_get 9 = .ok (.arraylength, 1) := by decide +kernel
theorem dX3_get_10 : decode cX3_get 10 = .ok (.if_icmp .ge 12, 3) := by decide +kernel
theorem dX3_get_13 : decode cX3_get 13 = .ok (.aload_n 0, 1) := by decide +kernel
theorem dX3_get_14 : decode cX3_get 14 = .ok (.getfield 9, 3) := by decide +kernel
theorem dX3_get_17 : decode cX3_get 17 = .ok (.iload_n 1, 1) := by decide +kernel
theorem dX3_get_18 : decode cX3_get 18 = .ok (.iaload, 1) := by decide +kernel
theorem dX3_get_19 : decode cX3_get 19 = .ok (.goto 4, 3) := by decide +kernel
theorem dX3_get_22 : decode cX3_get 22 = .ok (.iconst (-1), 1) := by decide +kernel
theorem dX3_get_23 : decode cX3_get 23 = .ok (.ireturn, 1) := by decide +kernel
theorem dX3_personCalled_0 : decode cX3_personCalled 0 = .ok (.aload_n 0, 1) := by decide +kernel
theorem dX3_personCalled_1 : decode cX3_personCalled 1 = .ok (.getfield 9, 3) := by decide +kernel
theorem dX3_personCalled_4 : decode cX3_personCalled 4 = .ok (.arraylength, 1) := by decide +kernel
theorem dX3_personCalled_5 : decode cX3_personCalled 5 = .ok (.iconst 2, 1) := by decide +kernel
theorem dX3_personCalled_6 : decode cX3_personCalled 6 = .ok (.isub, 1) := by decide +kernel
theorem dX3_personCalled_7 : decode cX3_personCalled 7 = .ok (.istore_n 1, 1) := by decide +kernel
theorem dX3_personCalled_8 : decode cX3_personCalled 8 = .ok (.iload_n 1, 1) := by decide +kernel
theorem dX3_personCalled_9 : decode cX3_personCalled 9 = .ok (.ifCond .lt 44, 3) := by decide +kernel
theorem dX3_personCalled_12 : decode cX3_personCalled 12 = .ok (.aload_n 0, 1) := by decide +kernel
theorem dX3_personCalled_13 : decode cX3_personCalled 13 = .ok (.getfield 9, 3) := by decide +kernel
theorem dX3_personCalled_16 : decode cX3_personCalled 16 = .ok (.iload_n 1, 1) := by decide +kernel
theorem dX3_personCalled_17 : decode cX3_personCalled 17 = .ok (.iconst 1, 1) := by decide +kernel
theorem dX3_personCalled_18 : decode cX3_personCalled 18 = .ok (.iadd, 1) := by decide +kernel
theorem dX3_personCalled_19 : decode cX3_personCalled 19 = .ok (.iaload, 1) := by decide +kernel
theorem dX3_personCalled_20 : decode cX3_personCalled 20 = .ok (.bipush 48, 2) := by decide +kernel
theorem dX3_personCalled_22 : decode cX3_personCalled 22 = .ok (.isub, 1) := by decide +kernel
theorem dX3_personCalled_23 : decode cX3_personCalled 23 = .ok (.istore_n 2, 1) := by decide +kernel
theorem dX3_personCalled_24 : decode cX3_personCalled 24 = .ok (.aload_n 0, 1) := by decide +kernel
theorem dX3_personCalled_25 : decode cX3_personCalled 25 = .ok (.getfield 9, 3) := by decide +kernel
theorem dX3_personCalled_28 : decode cX3_personCalled 28 = .ok (.iload_n 1, 1) := by decide +kernel
theorem dX3_personCalled_29 : decode cX3_personCalled 29 = .ok (.iaload, 1) := by decide +kernel
theorem dX3_personCalled_30 : decode cX3_personCalled 30 = .ok (.bipush 64, 2) := by decide +kernel
theorem dX3_personCalled_32 : decode cX3_personCalled 32 = .ok (.if_icmp .ne 15, 3) := by decide +kernel
theorem dX3_personCalled_35 : decode cX3_personCalled 35 = .ok (.iload_n 2, 1) := by decide +kernel
theorem dX3_personCalled_36 : decode cX3_personCalled 36 = .ok (.ifCond .lt 11, 3) := by decide +kernel
theorem dX3_personCalled_39 : decode cX3_personCalled 39 = .ok (.iload_n 2, 1) := by decide +kernel
theorem dX3_personCalled_40 : decode cX3_personCalled 40 = .ok (.bipush 9, 2) := by decide +kernel
theorem dX3_personCalled_42 : decode cX3_personCalled 42 = .ok (.if_icmp .ge 5, 3) := by decide +kernel
theorem dX3_personCalled_45 : decode cX3_personCalled 45 = .ok (.iload_n 2, 1) := by decide +kernel
theorem dX3_personCalled_46 : decode cX3_personCalled 46 = .ok (.ireturn, 1) := by decide +kernel
theorem dX3_personCalled_47 : decode cX3_personCalled 47 = .ok (.iinc 1 (-1), 3) := by decide +kernel
theorem dX3_personCalled_50 : decode cX3_personCalled 50 = .ok (.goto (-42), 3) := by decide +kernel
theorem dX3_personCalled_53 : decode cX3_personCalled 53 = .ok (.iconst (-1), 1) := by decide +kernel
theorem dX3_personCalled_54 : decode cX3_personCalled 54 = .ok (.ireturn, 1) := by decide +kernel
theorem dX4_init_0 : decode cX4_init 0 = .ok (.aload_n 0, 1) := by decide +kernel
theorem dX4_init_1 : decode cX4_init 1 = .ok (.invokespecial 3, 3) := by decide +kernel
theorem dX4_init_4 : decode cX4_init 4 = .ok (.aload_n 0, 1) := by decide +kernel
theorem dX4_init_5 : decode cX4_init 5 = .ok (.iconst (-1), 1) := by decide +kernel
theorem dX4_init_6 : decode cX4_init 6 = .ok (.putfield 9, 3) := by decide +kernel
theorem dX4_init_9 : decode cX4_init 9 = .ok (.aload_n 0, 1) := by decide +kernel
theorem dX4_init_10 : decode cX4_init 10 = .ok (.iconst 0, 1) := by decide +kernel
theorem dX4_init_11 : decode cX4_init 11 = .ok (.putfield 15, 3) := by decide +kernel
theorem dX4_init_14 : decode cX4_init 14 = .ok (.aload_n 0, 1) := by decide +kernel
theorem dX4_init_15 : decode cX4_init 15 = .ok (.iload_n 1, 1) := by decide +kernel
theorem dX4_init_16 : decode cX4_init 16 = .ok (.putfield 19, 3) := by decide +kernel
theorem dX4_init_19 : decode cX4_init 19 = .ok (.aload_n 0, 1) := by decide +kernel
theorem dX4_init_20 : decode cX4_init 20 = .ok (.iload_n 2, 1) := by decide +kernel
theorem dX4_init_21 : decode cX4_init 21 = .ok (.putfield 22, 3) := by decide +kernel
theorem dX4_init_24 : decode cX4_init 24 = .ok (.return_, 1) := by decide +kernel
theorem dX5_init_0 : decode cX5_init 0 = .ok (.aload_n 0, 1) := by decide +kernel
theorem dX5_init_1 : decode cX5_init 1 = .ok (.invokespecial 3, 3) := by decide +kernel
theorem dX5_init_4 : decode cX5_init 4 = .ok (.aload_n 0, 1) := by decide +kernel
theorem dX5_init_5 : decode cX5_init 5 = .ok (.iconst 0, 1) := by decide +kernel
theorem dX5_init_6 : decode cX5_init 6 = .ok (.putfield 9, 3) := by decide +kernel
theorem dX5_init_9 : decode cX5_init 9 = .ok (.aload_n 0, 1) := by decide +kernel
theorem dX5_init_10 : decode cX5_init 10 = .ok (.iconst (-1), 1) := by decide +kernel
theorem dX5_init_11 : decode cX5_init 11 = .ok (.putfield 15, 3) := by decide +kernel
theorem dX5_init_14 : decode cX5_init 14 = .ok (.aload_n 0, 1) := by decide +kernel
theorem dX5_init_15 : decode cX5_init 15 = .ok (.iconst 0, 1) := by decide +kernel
theorem dX5_init_16 : decode cX5_init 16 = .ok (.putfield 19, 3) := by decide +kernel
theorem dX5_init_19 : decode cX5_init 19 = .ok (.return_, 1) := by decide +kernel
set_option maxRecDepth 20000 in
theorem ggX6_init_Jx4a65c_init_da8c8 : GoodIn wsX6_init wsJx4a65c_init_da8c8 := goodIn_r _ [34, 35, 36, 37, 38, 39, 40, 41, 42, 43, 44, 45, 46, 2, 3, 82, 83, 84] (by decide +kernel) (by decide +kernel)
set_option maxRecDepth 20000 in
theorem gX6_init_Jx4a65c_init_da8c8 : GoodIn wsX6_init (wsJx4a65c_init_da8c8) := ggX6_init_Jx4a65c_init_da8c8
set_option maxRecDepth 20000 in
theorem ggX6_init_X2_init : GoodIn wsX6_init wsX2_init := goodIn_r _ [48, 49, 2, 3, 6, 50, 51, 85, 86] (by decide +kernel) (by decide +kernel)
set_option maxRecDepth 20000 in
theorem gX6_init_X2_init_n44 : GoodIn wsX6_init (wsX2_init) := ggX6_init_X2_init
set_option maxRecDepth 20000 in
theorem ggX6_init_X1_init : GoodIn wsX6_init wsX1_init := goodIn_r _ [53, 54, 2, 3, 55, 56, 57, 87, 88] (by decide +kernel) (by decide +kernel)
set_option maxRecDepth 20000 in
theorem gX6_init_X1_init_n51 : GoodIn wsX6_init (wsX1_init) := ggX6_init_X1_init
set_option maxRecDepth 20000 in
theorem ggX6_init_X5_init : GoodIn wsX6_init wsX5_init := goodIn_r _ [59, 60, 2, 3, 61, 62, 63, 89, 90, 91] (by decide +kernel) (by decide +kernel)
set_option maxRecDepth 20000 in
theorem gX6_init_X5_init_n69 : GoodIn wsX6_init (wsX5_init) := ggX6_init_X5_init
set_option maxRecDepth 20000 in
theorem ggX6_init_J7_fill_53178 : GoodIn wsX6_init wsJ7_fill_53178 := goodIn_r _ [67] (by decide +kernel) (by decide +kernel)
set_option maxRecDepth 20000 in
theorem gX6_init_J7_fill_53178 : GoodIn wsX6_init (va_wsS RX6 70 yJ7_fill_53178 wsJ7_fill_53178) := goodIn_app (goodIn_of _ (by decide +kernel)) ggX6_init_J7_fill_53178
theorem dX6_init_0 : decode cX6_init 0 = .ok (.aload_n 0, 1) := by decide +kernel
theorem dX6_init_1 : decode cX6_init 1 = .ok (.invokespecial 1, 3) := by decide +kernel
theorem dX6_init_4 : decode cX6_init 4 = .ok (.aload_n 0, 1) := by decide +kernel
theorem dX6_init_5 : decode cX6_init 5 = .ok (.bipush 8, 2) := by decide +kernel
theorem dX6_init_7 : decode cX6_init 7 = .ok (.anewarray 9, 3) := by decide +kernel
theorem dX6_init_10 : decode cX6_init 10 = .ok (.putfield 11, 3) := by decide +kernel
theorem dX6_init_13 : decode cX6_init 13 = .ok (.aload_n 0, 1) := by decide +kernel
theorem dX6_init_14 : decode cX6_init 14 = .ok (.iconst 3, 1) := by decide +kernel
theorem dX6_init_15 : decode cX6_init 15 = .ok (.newarray .int, 2) := by decide +kernel
theorem dX6_init_17 : decode cX6_init 17 = .ok (.putfield 15, 3) := by decide +kernel
theorem dX6_init_20 : decode cX6_init 20 = .ok (.aload_n 0, 1) := by decide +kernel
theorem dX6_init_21 : decode cX6_init 21 = .ok (.bipush 9, 2) := by decide +kernel
theorem dX6_init_23 : decode cX6_init 23 = .ok (.newarray .boolean, 2) := by decide +kernel
theorem dX6_init_25 : decode cX6_init 25 = .ok (.putfield 19, 3) := by decide +kernel
theorem dX6_init_28 : decode cX6_init 28 = .ok (.aload_n 0, 1) := by decide +kernel
theorem dX6_init_29 : decode cX6_init 29 = .ok (.bipush 9, 2) := by decide +kernel
theorem dX6_init_31 : decode cX6_init 31 = .ok (.newarray .int, 2) := by decide +kernel
theorem dX6_init_33 : decode cX6_init 33 = .ok (.putfield 23, 3) := by decide +kernel
theorem dX6_init_36 : decode cX6_init 36 = .ok (.aload_n 0, 1) := by decide +kernel
theorem dX6_init_37 : decode cX6_init 37 = .ok (.new 26, 3) := by decide +kernel
theorem dX6_init_40 : decode cX6_init 40 = .ok (.dup, 1) := by decide +kernel
theorem dX6_init_41 : decode cX6_init 41 = .ok (.invokespecial 28, 3) := by decide +kernel
theorem dX6_init_44 : decode cX6_init 44 = .ok (.putfield 29, 3) := by decide +kernel
theorem dX6_init_47 : decode cX6_init 47 = .ok (.aload_n 0, 1) := by decide +kernel
theorem dX6_init_48 : decode cX6_init 48 = .ok (.new 26, 3) := by decide +kernel
theorem dX6_init_51 : decode cX6_init 51 = .ok (.dup, 1) := by decide +kernel
theorem dX6_init_52 : decode cX6_init 52 = .ok (.invokespecial 28, 3) := by decide +kernel
theorem dX6_init_55 : decode cX6_init 55 = .ok (.putfield 33, 3) := by decide +kernel
theorem dX6_init_58 : decode cX6_init 58 = .ok (.aload_n 0, 1) := by decide +kernel
theorem dX6_init_59 : decode cX6_init 59 = .ok (.new 26, 3) := by decide +kernel
theorem dX6_init_62 : decode cX6_init 62 = .ok (.dup, 1) := by decide +kernel
theorem dX6_init_63 : decode cX6_init 63 = .ok (.invokespecial 28, 3) := by decide +kernel
theorem dX6_init_66 : decode cX6_init 66 = .ok (.putfield 36, 3) := by decide +kernel
theorem dX6_init_69 : decode cX6_init 69 = .ok (.aload_n 0, 1) := by decide +kernel
theorem dX6_init_70 : decode cX6_init 70 = .ok (.bipush 60, 2) := by decide +kernel
theorem dX6_init_72 : decode cX6_init 72 = .ok (.newarray .int, 2) := by decide +kernel
theorem dX6_init_74 : decode cX6_init 74 = .ok (.putfield 39, 3) := by decide +kernel
theorem dX6_init_77 : decode cX6_init 77 = .ok (.aload_n 0, 1) := by decide +kernel
theorem dX6_init_78 : decode cX6_init 78 = .ok (.new 42, 3) := by decide +kernel
theorem dX6_init_81 : decode cX6_init 81 = .ok (.dup, 1) := by decide +kernel
theorem dX6_init_82 : decode cX6_init 82 = .ok (.invokespecial 44, 3) := by decide +kernel
theorem dX6_init_85 : decode cX6_init 85 = .ok (.putfield 45, 3) := by decide +kernel
theorem dX6_init_88 : decode cX6_init 88 = .ok (.aload_n 0, 1) := by decide +kernel
theorem dX6_init_89 : decode cX6_init 89 = .ok (.new 49, 3) := by decide +kernel
theorem dX6_init_92 : decode cX6_init 92 = .ok (.dup, 1) := by decide +kernel
theorem dX6_init_93 : decode cX6_init 93 = .ok (.invokespecial 51, 3) := by decide +kernel
theorem dX6_init_96 : decode cX6_init 96 = .ok (.putfield 52, 3) := by decide +kernel
theorem dX6_init_99 : decode cX6_init 99 = .ok (.aload_n 0, 1) := by decide +kernel
theorem dX6_init_100 : decode cX6_init 100 = .ok (.iconst 0, 1) := by decide +kernel
theorem dX6_init_101 : decode cX6_init 101 = .ok (.putfield 56, 3) := by decide +kernel
theorem dX6_init_104 : decode cX6_init 104 = .ok (.aload_n 0, 1) := by decide +kernel
theorem dX6_init_105 : decode cX6_init 105 = .ok (.iconst 0, 1) := by decide +kernel
theorem dX6_init_106 : decode cX6_init 106 = .ok (.putfield 60, 3) := by decide +kernel
theorem dX6_init_109 : decode cX6_init 109 = .ok (.aload_n 0, 1) := by decide +kernel
theorem dX6_init_110 : decode cX6_init 110 = .ok (.iconst 0, 1) := by decide +kernel
theorem dX6_init_111 : decode cX6_init 111 = .ok (.putfield 63, 3) := by decide +kernel
theorem dX6_init_114 : decode cX6_init 114 = .ok (.aload_n 0, 1) := by decide +kernel
theorem dX6_init_115 : decode cX6_init 115 = .ok (.iconst 0, 1) := by decide +kernel
theorem dX6_init_116 : decode cX6_init 116 = .ok (.putfield 66, 3) := by decide +kernel
theorem dX6_init_119 : decode cX6_init 119 = .ok (.iconst 0, 1) := by decide +kernel
theorem dX6_init_120 : decode cX6_init 120 = .ok (.istore_n 1, 1) := by decide +kernel
theorem dX6_init_121 : decode cX6_init 121 = .ok (.iload_n 1, 1) := by decide +kernel
theorem dX6_init_122 : decode cX6_init 122 = .ok (.bipush 8, 2) := by decide +kernel
theorem dX6_init_124 : decode cX6_init 124 = .ok (.if_icmp .ge 22, 3) := by decide +kernel
theorem dX6_init_127 : decode cX6_init 127 = .ok (.aload_n 0, 1) := by decide +kernel
theorem dX6_init_128 : decode cX6_init 128 = .ok (.getfield 11, 3) := by decide +kernel
theorem dX6_init_131 : decode cX6_init 131 = .ok (.iload_n 1, 1) := by decide +kernel
theorem dX6_init_132 : decode cX6_init 132 = .ok (.new 9, 3) := by decide +kernel
theorem dX6_init_135 : decode cX6_init 135 = .ok (.dup, 1) := by decide +kernel
theorem dX6_init_136 : decode cX6_init 136 = .ok (.invokespecial 69, 3) := by decide +kernel
theorem dX6_init_139 : decode cX6_init 139 = .ok (.aastore, 1) := by decide +kernel
theorem dX6_init_140 : decode cX6_init 140 = .ok (.iinc 1 1, 3) := by decide +kernel
theorem dX6_init_143 : decode cX6_init 143 = .ok (.goto (-22), 3) := by decide +kernel
theorem dX6_init_146 : decode cX6_init 146 = .ok (.aload_n 0, 1) := by decide +kernel
theorem dX6_init_147 : decode cX6_init 147 = .ok (.getfield 39, 3) := by decide +kernel
theorem dX6_init_150 : decode cX6_init 150 = .ok (.iconst (-1), 1) := by decide +kernel
theorem dX6_init_151 : decode cX6_init 151 = .ok (.invokestatic 70, 3) := by decide +kernel
theorem dX6_init_154 : decode cX6_init 154 = .ok (.return_, 1) := by decide +kernel
set_option maxRecDepth 20000 in
theorem ggX6_pipe_X6_checkValve : GoodIn wsX6_pipe wsX6_checkValve := goodIn_ca (goodIn_r _ [9, 10, 11] (by decide +kernel) (by decide +kernel)) (goodIn_sub (fun _ h => List.mem_cons_of_mem _ (List.mem_append_right _ h)) (by decide +kernel))
set_option maxRecDepth 20000 in
theorem gX6_pipe_X6_checkValve : GoodIn wsX6_pipe (va_wsS RX6 76 yX6_checkValve wsX6_checkValve) := goodIn_app (goodIn_of _ (by decide +kernel)) ggX6_pipe_X6_checkValve
set_option maxRecDepth 20000 in
theorem ggX6_pipe_X6_isEnd : GoodIn wsX6_pipe wsX6_isEnd := goodIn_r _ [14, 15, 16, 8, 17] (by decide +kernel) (by decide +kernel)
set_option maxRecDepth 20000 in
theorem gX6_pipe_X6_isEnd : GoodIn wsX6_pipe (va_wsS RX6 80 yX6_isEnd wsX6_isEnd) := goodIn_app (goodIn_of _ (by decide +kernel)) ggX6_pipe_X6_isEnd
set_option maxRecDepth 20000 in
theorem ggX6_pipe_X6_countTagsOn : GoodIn wsX6_pipe wsX6_countTagsOn := goodIn_r _ [21, 22, 23, 24, 25, 26, 27, 28, 29, 30, 31, 32, 33, 34, 35, 36, 37, 38, 39, 40, 41, 42, 43, 44, 45, 46, 47, 48, 49, 50, 51, 52, 53, 54, 55, 56, 57, 58, 59, 60, 64, 65, 66, 67, 68, 69, 70] (by decide +kernel) (by decide +kernel)
set_option maxRecDepth 20000 in
theorem gX6_pipe_X6_countTagsOn : GoodIn wsX6_pipe (wsV RX6 106 RX6 yX6_countTagsOn wsX6_countTagsOn) := goodIn_app (goodIn_of _ (by decide +kernel)) ggX6_pipe_X6_countTagsOn
theorem dX6_pipe_0 : decode cX6_pipe 0 = .ok (.iload_n 1, 1) := by decide +kernel
theorem dX6_pipe_1 : decode cX6_pipe 1 = .ok (.invokestatic 76, 3) := by decide +kernel
theorem dX6_pipe_4 : decode cX6_pipe 4 = .ok (.iload_n 2, 1) := by decide +kernel
theorem dX6_pipe_5 : decode cX6_pipe 5 = .ok (.invokestatic 80, 3) := by decide +kernel
theorem dX6_pipe_8 : decode cX6_pipe 8 = .ok (.ifCond .eq 15, 3) := by decide +kernel
theorem dX6_pipe_11 : decode cX6_pipe 11 = .ok (.iload_n 3, 1) := by decide +kernel
theorem dX6_pipe_12 : decode cX6_pipe 12 = .ok (.invokestatic 80, 3) := by decide +kernel
theorem dX6_pipe_15 : decode cX6_pipe 15 = .ok (.ifCond .eq 8, 3) := by decide +kernel
theorem dX6_pipe_18 : decode cX6_pipe 18 = .ok (.iload_n 2, 1) := by decide +kernel
theorem dX6_pipe_19 : decode cX6_pipe 19 = .ok (.iload_n 3, 1) := by decide +kernel
theorem dX6_pipe_20 : decode cX6_pipe 20 = .ok (.if_icmp .ne 13, 3) := by decide +kernel
theorem dX6_pipe_23 : decode cX6_pipe 23 = .ok (.new 84, 3) := by decide +kernel
theorem dX6_pipe_26 : decode cX6_pipe 26 = .ok (.dup, 1) := by decide +kernel
theorem dX6_pipe_27 : decode cX6_pipe 27 = .ok (.ldc 86, 2) := by decide +kernel
theorem dX6_pipe_29 : decode cX6_pipe 29 = .ok (.invokespecial 88, 3) := by decide +kernel
theorem dX6_pipe_32 : decode cX6_pipe 32 = .ok (.athrow, 1) := by decide +kernel
theorem dX6_pipe_33 : decode cX6_pipe 33 = .ok (.aload_n 0, 1) := by decide +kernel
theorem dX6_pipe_34 : decode cX6_pipe 34 = .ok (.getfield 11, 3) := by decide +kernel
theorem dX6_pipe_37 : decode cX6_pipe 37 = .ok (.iload_n 1, 1) := by decide +kernel
theorem dX6_pipe_38 : decode cX6_pipe 38 = .ok (.aaload, 1) := by decide +kernel
theorem dX6_pipe_39 : decode cX6_pipe 39 = .ok (.astore 4, 2) := by decide +kernel
theorem dX6_pipe_41 : decode cX6_pipe 41 = .ok (.aload 4, 2) := by decide +kernel
theorem dX6_pipe_43 : decode cX6_pipe 43 = .ok (.getfield 91, 3) := by decide +kernel
theorem dX6_pipe_46 : decode cX6_pipe 46 = .ok (.ifCond .eq 13, 3) := by decide +kernel
theorem dX6_pipe_49 : decode cX6_pipe 49 = .ok (.new 95, 3) := by decide +kernel
theorem dX6_pipe_52 : decode cX6_pipe 52 = .ok (.dup, 1) := by decide +kernel
theorem dX6_pipe_53 : decode cX6_pipe 53 = .ok (.ldc 97, 2) := by decide +kernel
theorem dX6_pipe_55 : decode cX6_pipe 55 = .ok (.invokespecial 99, 3) := by decide +kernel
theorem dX6_pipe_58 : decode cX6_pipe 58 = .ok (.athrow, 1) := by decide +kernel
theorem dX6_pipe_59 : decode cX6_pipe 59 = .ok (.aload 4, 2) := by decide +kernel
theorem dX6_pipe_61 : decode cX6_pipe 61 = .ok (.iload_n 2, 1) := by decide +kernel
theorem dX6_pipe_62 : decode cX6_pipe 62 = .ok (.putfield 100, 3) := by decide +kernel
theorem dX6_pipe_65 : decode cX6_pipe 65 = .ok (.aload 4, 2) := by decide +kernel
theorem dX6_pipe_67 : decode cX6_pipe 67 = .ok (.iload_n 3, 1) := by decide +kernel
theorem dX6_pipe_68 : decode cX6_pipe 68 = .ok (.putfield 103, 3) := by decide +kernel
theorem dX6_pipe_71 : decode cX6_pipe 71 = .ok (.aload_n 0, 1) := by decide +kernel
theorem dX6_pipe_72 : decode cX6_pipe 72 = .ok (.iload_n 1, 1) := by decide +kernel
theorem dX6_pipe_73 : decode cX6_pipe 73 = .ok (.invokevirtual 106, 3) := by decide +kernel
theorem dX6_pipe_76 : decode cX6_pipe 76 = .ok (.ireturn, 1) := by decide +kernel
set_option maxRecDepth 20000 in
theorem ggX6_turn_X6_checkPerson : GoodIn wsX6_turn wsX6_checkPerson := goodIn_ca (goodIn_r _ [6, 7, 8] (by decide +kernel) (by decide +kernel)) (goodIn_sub (fun _ h => List.mem_cons_of_mem _ (List.mem_append_right _ h)) (by decide +kernel))
set_option maxRecDepth 20000 in
theorem gX6_turn_X6_checkPerson : GoodIn wsX6_turn (va_wsS RX6 110 yX6_checkPerson wsX6_checkPerson) := goodIn_app (goodIn_of _ (by decide +kernel)) ggX6_turn_X6_checkPerson
set_option maxRecDepth 20000 in
theorem ggX6_turn_X6_checkValve : GoodIn wsX6_turn wsX6_checkValve := goodIn_ca (goodIn_r _ [11, 7, 8] (by decide +kernel) (by decide +kernel)) (goodIn_sub (fun _ h => List.mem_cons_of_mem _ (List.mem_append_right _ h)) (by decide +kernel))
set_option maxRecDepth 20000 in
theorem gX6_turn_X6_checkValve : GoodIn wsX6_turn (va_wsS RX6 76 yX6_checkValve wsX6_checkValve) := goodIn_app (goodIn_of _ (by decide +kernel)) ggX6_turn_X6_checkValve
set_option maxRecDepth 20000 in
theorem ggX6_turn_X6_findObstacle : GoodIn wsX6_turn wsX6_findObstacle := goodIn_r _ [15, 16, 17, 18, 5, 19, 20, 21, 22, 23, 24, 25, 26, 27, 28, 29, 30, 31, 32, 33, 34, 35, 36, 37, 38, 39, 40, 41, 42, 43, 44, 45, 46, 47, 48, 49, 50, 51, 52, 53, 54, 55, 56, 92, 93, 94, 95, 96, 97, 98, 99, 100, 101, 102, 103, 104, 105, 106, 107, 108, 109, 110, 111, 112] (by decide +kernel) (by decide +kernel)
set_option maxRecDepth 20000 in
theorem gX6_turn_X6_findObstacle : GoodIn wsX6_turn (wsV RX6 113 RX6 yX6_findObstacle wsX6_findObstacle) := goodIn_app (goodIn_of _ (by decide +kernel)) ggX6_turn_X6_findObstacle
set_option maxRecDepth 20000 in
theorem ggX6_turn_X6_setValve : GoodIn wsX6_turn wsX6_setValve := goodIn_r _ [60, 61, 62, 21, 63, 64, 65, 66, 67, 68, 69, 70, 71, 72, 73, 74, 75, 76, 77, 78, 79, 80, 81, 82, 83, 84, 85, 86, 87, 88, 89, 90, 91, 92, 93, 94, 95, 96, 97, 98, 99, 100, 101, 102, 103, 104, 105, 113, 114, 115, 116, 117] (by decide +kernel) (by decide +kernel)
set_option maxRecDepth 20000 in
theorem gX6_turn_X6_setValve : GoodIn wsX6_turn (wsV RX6 119 RX6 yX6_setValve wsX6_setValve) := goodIn_app (goodIn_of _ (by decide +kernel)) ggX6_turn_X6_setValve
theorem dX6_turn_0 : decode cX6_turn 0 = .ok (.iload_n 1, 1) := by decide +kernel
theorem dX6_turn_1 : decode cX6_turn 1 = .ok (.invokestatic 110, 3) := by decide +kernel
theorem dX6_turn_4 : decode cX6_turn 4 = .ok (.iload_n 2, 1) := by decide +kernel
theorem dX6_turn_5 : decode cX6_turn 5 = .ok (.invokestatic 76, 3) := by decide +kernel
theorem dX6_turn_8 : decode cX6_turn 8 = .ok (.aload_n 0, 1) := by decide +kernel
theorem dX6_turn_9 : decode cX6_turn 9 = .ok (.iload_n 1, 1) := by decide +kernel
theorem dX6_turn_10 : decode cX6_turn 10 = .ok (.iload_n 2, 1) := by decide +kernel
theorem dX6_turn_11 : decode cX6_turn 11 = .ok (.invokevirtual 113, 3) := by decide +kernel
theorem dX6_turn_14 : decode cX6_turn 14 = .ok (.ifCond .eq 13, 3) := by decide +kernel
theorem dX6_turn_17 : decode cX6_turn 17 = .ok (.new 95, 3) := by decide +kernel
theorem dX6_turn_20 : decode cX6_turn 20 = .ok (.dup, 1) := by decide +kernel
theorem dX6_turn_21 : decode cX6_turn 21 = .ok (.ldc 117, 2) := by decide +kernel
theorem dX6_turn_23 : decode cX6_turn 23 = .ok (.invokespecial 99, 3) := by decide +kernel
theorem dX6_turn_26 : decode cX6_turn 26 = .ok (.athrow, 1) := by decide +kernel
theorem dX6_turn_27 : decode cX6_turn 27 = .ok (.aload_n 0, 1) := by decide +kernel
theorem dX6_turn_28 : decode cX6_turn 28 = .ok (.iload_n 1, 1) := by decide +kernel
theorem dX6_turn_29 : decode cX6_turn 29 = .ok (.iload_n 2, 1) := by decide +kernel
theorem dX6_turn_30 : decode cX6_turn 30 = .ok (.iload_n 3, 1) := by decide +kernel
theorem dX6_turn_31 : decode cX6_turn 31 = .ok (.invokevirtual 119, 3) := by decide +kernel
theorem dX6_turn_34 : decode cX6_turn 34 = .ok (.ireturn, 1) := by decide +kernel
set_option maxRecDepth 20000 in
theorem ggX6_obstacle_X6_checkPerson : GoodIn wsX6_obstacle wsX6_checkPerson := goodIn_ca (goodIn_r _ [4, 5, 6] (by decide +kernel) (by decide +kernel)) (goodIn_sub (fun _ h => List.mem_cons_of_mem _ (List.mem_append_right _ h)) (by decide +kernel))
set_option maxRecDepth 20000 in
theorem gX6_obstacle_X6_checkPerson : GoodIn wsX6_obstacle (va_wsS RX6 110 yX6_checkPerson wsX6_checkPerson) := goodIn_app (goodIn_of _ (by decide +kernel)) ggX6_obstacle_X6_checkPerson
set_option maxRecDepth 20000 in
theorem ggX6_obstacle_X6_checkValve : GoodIn wsX6_obstacle wsX6_checkValve := goodIn_ca (goodIn_r _ [9, 5, 6] (by decide +kernel) (by decide +kernel)) (goodIn_sub (fun _ h => List.mem_cons_of_mem _ (List.mem_append_right _ h)) (by decide +kernel))
set_option maxRecDepth 20000 in
theorem gX6_obstacle_X6_checkValve : GoodIn wsX6_obstacle (va_wsS RX6 76 yX6_checkValve wsX6_checkValve) := goodIn_app (goodIn_of _ (by decide +kernel)) ggX6_obstacle_X6_checkValve
set_option maxRecDepth 20000 in
theorem ggX6_obstacle_X6_findObstacle : GoodIn wsX6_obstacle wsX6_findObstacle := goodIn_r _ [13, 14, 15, 16, 3, 17, 18, 19, 20, 21, 22, 23, 24, 25, 26, 27, 28, 29, 30, 31, 32, 33, 34, 35, 36, 37, 38, 39, 40, 41, 42, 43, 44, 45, 46, 47, 48, 49, 50, 51, 52, 53, 54, 55, 56, 57, 58, 59, 60, 61, 62, 63, 64, 65, 66, 67, 68, 69, 70, 71, 72, 73, 74, 75] (by decide +kernel) (by decide +kernel)
set_option maxRecDepth 20000 in
theorem gX6_obstacle_X6_findObstacle : GoodIn wsX6_obstacle (wsV RX6 113 RX6 yX6_findObstacle wsX6_findObstacle) := goodIn_app (goodIn_of _ (by decide +kernel)) ggX6_obstacle_X6_findObstacle
theorem dX6_obstacle_0 : decode cX6_obstacle 0 = .ok (.iload_n 1, 1) := by decide +kernel
theorem dX6_obstacle_1 : decode cX6_obstacle 1 = .ok (.invokestatic 110, 3) := by decide +kernel
theorem dX6_obstacle_4 : decode cX6_obstacle 4 = .ok (.iload_n 2, 1) := by decide +kernel
theorem dX6_obstacle_5 : decode cX6_obstacle 5 = .ok (.invokestatic 76, 3) := by decide +kernel
theorem dX6_obstacle_8 : decode cX6_obstacle 8 = .ok (.aload_n 0, 1) := by decide +kernel
theorem dX6_obstacle_9 : decode cX6_obstacle 9 = .ok (.iload_n 1, 1) := by decide +kernel
theorem dX6_obstacle_10 : decode cX6_obstacle 10 = .ok (.iload_n 2, 1) := by decide +kernel
theorem dX6_obstacle_11 : decode cX6_obstacle 11 = .ok (.invokevirtual 113, 3) := by decide +kernel
theorem dX6_obstacle_14 : decode cX6_obstacle 14 = .ok (.ireturn, 1) := by decide +kernel
set_option maxRecDepth 20000 in
theorem ggX6_isOpen_X6_checkValve : GoodIn wsX6_isOpen wsX6_checkValve := goodIn_ca (goodIn_r _ [5, 6, 7] (by decide +kernel) (by decide +kernel)) (goodIn_sub (fun _ h => List.mem_cons_of_mem _ (List.mem_append_right _ h)) (by decide +kernel))
set_option maxRecDepth 20000 in
theorem gX6_isOpen_X6_checkValve : GoodIn wsX6_isOpen (va_wsS RX6 76 yX6_checkValve wsX6_checkValve) := goodIn_app (goodIn_of _ (by decide +kernel)) ggX6_isOpen_X6_checkValve
theorem dX6_isOpen_0 : decode cX6_isOpen 0 = .ok (.iload_n 1, 1) := by decide +kernel
theorem dX6_isOpen_1 : decode cX6_isOpen 1 = .ok (.invokestatic 76, 3) := by decide +kernel
theorem dX6_isOpen_4 : decode cX6_isOpen 4 = .ok (.aload_n 0, 1) := by decide +kernel
theorem dX6_isOpen_5 : decode cX6_isOpen 5 = .ok (.getfield 11, 3) := by decide +kernel
theorem dX6_isOpen_8 : decode cX6_isOpen 8 = .ok (.iload_n 1, 1) := by decide +kernel
theorem dX6_isOpen_9 : decode cX6_isOpen 9 = .ok (.aaload, 1) := by decide +kernel
theorem dX6_isOpen_10 : decode cX6_isOpen 10 = .ok (.getfield 91, 3) := by decide +kernel
theorem dX6_isOpen_13 : decode cX6_isOpen 13 = .ok (.ireturn, 1) := by decide +kernel
set_option maxRecDepth 20000 in
theorem ggX6_isOpenByLog_X6_checkValve : GoodIn wsX6_isOpenByLog wsX6_checkValve := goodIn_ca (goodIn_r _ [5, 6, 7] (by decide +kernel) (by decide +kernel)) (goodIn_sub (fun _ h => List.mem_cons_of_mem _ (List.mem_append_right _ h)) (by decide +kernel))
set_option maxRecDepth 20000 in
theorem gX6_isOpenByLog_X6_checkValve : GoodIn wsX6_isOpenByLog (va_wsS RX6 76 yX6_checkValve wsX6_checkValve) := goodIn_app (goodIn_of _ (by decide +kernel)) ggX6_isOpenByLog_X6_checkValve
set_option maxRecDepth 20000 in
theorem ggX6_isOpenByLog_X2_size : GoodIn wsX6_isOpenByLog wsX2_size := goodIn_r _ [11, 12, 41, 42] (by decide +kernel) (by decide +kernel)
set_option maxRecDepth 20000 in
theorem gX6_isOpenByLog_X2_size_n123 : GoodIn wsX6_isOpenByLog (wsX2_size) := ggX6_isOpenByLog_X2_size
set_option maxRecDepth 20000 in
theorem ggX6_isOpenByLog_X2_kindAt : GoodIn wsX6_isOpenByLog wsX2_kindAt := goodIn_r _ [15, 16, 41, 42] (by decide +kernel) (by decide +kernel)
set_option maxRecDepth 20000 in
theorem gX6_isOpenByLog_X2_kindAt_n127 : GoodIn wsX6_isOpenByLog (wsX2_kindAt) := ggX6_isOpenByLog_X2_kindAt
set_option maxRecDepth 20000 in
theorem ggX6_isOpenByLog_X2_valveTurnedAt : GoodIn wsX6_isOpenByLog wsX2_valveTurnedAt := goodIn_r _ [19, 20, 21, 22, 9, 23, 16, 41, 42] (by decide +kernel) (by decide +kernel)
set_option maxRecDepth 20000 in
theorem gX6_isOpenByLog_X2_valveTurnedAt_n130 : GoodIn wsX6_isOpenByLog (wsX2_valveTurnedAt) := ggX6_isOpenByLog_X2_valveTurnedAt
set_option maxRecDepth 20000 in
theorem ggX6_isOpenByLog_X2_opensAt : GoodIn wsX6_isOpenByLog wsX2_opensAt := goodIn_r _ [26, 20, 21, 22, 9, 23, 16, 41, 42] (by decide +kernel) (by decide +kernel)
set_option maxRecDepth 20000 in
theorem gX6_isOpenByLog_X2_opensAt_n133 : GoodIn wsX6_isOpenByLog (wsX2_opensAt) := ggX6_isOpenByLog_X2_opensAt
theorem dX6_isOpenByLog_0 : decode cX6_isOpenByLog 0 = .ok (.iload_n 1, 1) := by decide +kernel
theorem dX6_isOpenByLog_1 : decode cX6_isOpenByLog 1 = .ok (.invokestatic 76, 3) := by decide +kernel
theorem dX6_isOpenByLog_4 : decode cX6_isOpenByLog 4 = .ok (.aload_n 0, 1) := by decide +kernel
theorem dX6_isOpenByLog_5 : decode cX6_isOpenByLog 5 = .ok (.getfield 45, 3) := by decide +kernel
theorem dX6_isOpenByLog_8 : decode cX6_isOpenByLog 8 = .ok (.invokevirtual 123, 3) := by decide +kernel
theorem dX6_isOpenByLog_11 : decode cX6_isOpenByLog 11 = .ok (.iconst 1, 1) := by decide +kernel
theorem dX6_isOpenByLog_12 : decode cX6_isOpenByLog 12 = .ok (.isub, 1) := by decide +kernel
theorem dX6_isOpenByLog_13 : decode cX6_isOpenByLog 13 = .ok (.istore_n 2, 1) := by decide +kernel
theorem dX6_isOpenByLog_14 : decode cX6_isOpenByLog 14 = .ok (.iload_n 2, 1) := by decide +kernel
theorem dX6_isOpenByLog_15 : decode cX6_isOpenByLog 15 = .ok (.ifCond .lt 41, 3) := by decide +kernel
theorem dX6_isOpenByLog_18 : decode cX6_isOpenByLog 18 = .ok (.aload_n 0, 1) := by decide +kernel
theorem dX6_isOpenByLog_19 : decode cX6_isOpenByLog 19 = .ok (.getfield 45, 3) := by decide +kernel
theorem dX6_isOpenByLog_22 : decode cX6_isOpenByLog 22 = .ok (.iload_n 2, 1) := by decide +kernel
theorem dX6_isOpenByLog_23 : decode cX6_isOpenByLog 23 = .ok (.invokevirtual 127, 3) := by decide +kernel
theorem dX6_isOpenByLog_26 : decode cX6_isOpenByLog 26 = .ok (.ifCond .ne 24, 3) := by decide +kernel
theorem dX6_isOpenByLog_29 : decode cX6_isOpenByLog 29 = .ok (.aload_n 0, 1) := by decide +kernel
theorem dX6_isOpenByLog_30 : decode cX6_isOpenByLog 30 = .ok (.getfield 45, 3) := by decide +kernel
theorem dX6_isOpenByLog_33 : decode cX6_isOpenByLog 33 = .ok (.iload_n 2, 1) := by decide +kernel
theorem dX6_isOpenByLog_34 : decode cX6_isOpenByLog 34 = .ok (.invokevirtual 130, 3) := by decide +kernel
theorem dX6_isOpenByLog_37 : decode cX6_isOpenByLog 37 = .ok (.iload_n 1, 1) := by decide +kernel
theorem dX6_isOpenByLog_38 : decode cX6_isOpenByLog 38 = .ok (.if_icmp .ne 12, 3) := by decide +kernel
theorem dX6_isOpenByLog_41 : decode cX6_isOpenByLog 41 = .ok (.aload_n 0, 1) := by decide +kernel
theorem dX6_isOpenByLog_42 : decode cX6_isOpenByLog 42 = .ok (.getfield 45, 3) := by decide +kernel
theorem dX6_isOpenByLog_45 : decode cX6_isOpenByLog 45 = .ok (.iload_n 2, 1) := by decide +kernel
theorem dX6_isOpenByLog_46 : decode cX6_isOpenByLog 46 = .ok (.invokevirtual 133, 3) := by decide +kernel
theorem dX6_isOpenByLog_49 : decode cX6_isOpenByLog 49 = .ok (.ireturn, 1) := by decide +kernel
theorem dX6_isOpenByLog_50 : decode cX6_isOpenByLog 50 = .ok (.iinc 2 (-1), 3) := by decide +kernel
theorem dX6_isOpenByLog_53 : decode cX6_isOpenByLog 53 = .ok (.goto (-39), 3) := by decide +kernel
theorem dX6_isOpenByLog_56 : decode cX6_isOpenByLog 56 = .ok (.iconst 0, 1) := by decide +kernel
theorem dX6_isOpenByLog_57 : decode cX6_isOpenByLog 57 = .ok (.ireturn, 1) := by decide +kernel
set_option maxRecDepth 20000 in
theorem ggX6_level_X6_checkVessel : GoodIn wsX6_level wsX6_checkVessel := goodIn_ca (goodIn_r _ [5, 6, 7, 8, 9, 4, 10] (by decide +kernel) (by decide +kernel)) (goodIn_sub (fun _ h => List.mem_cons_of_mem _ (List.mem_append_right _ h)) (by decide +kernel))
set_option maxRecDepth 20000 in
theorem gX6_level_X6_checkVessel : GoodIn wsX6_level (va_wsS RX6 136 yX6_checkVessel wsX6_checkVessel) := goodIn_app (goodIn_of _ (by decide +kernel)) ggX6_level_X6_checkVessel
theorem dX6_level_0 : decode cX6_level 0 = .ok (.iload_n 1, 1) := by decide +kernel
theorem dX6_level_1 : decode cX6_level 1 = .ok (.invokestatic 136, 3) := by decide +kernel
theorem dX6_level_4 : decode cX6_level 4 = .ok (.aload_n 0, 1) := by decide +kernel
theorem dX6_level_5 : decode cX6_level 5 = .ok (.getfield 15, 3) := by decide +kernel
theorem dX6_level_8 : decode cX6_level 8 = .ok (.iload_n 1, 1) := by decide +kernel
theorem dX6_level_9 : decode cX6_level 9 = .ok (.iaload, 1) := by decide +kernel
theorem dX6_level_10 : decode cX6_level 10 = .ok (.ireturn, 1) := by decide +kernel
theorem dX6_spilled_0 : decode cX6_spilled 0 = .ok (.aload_n 0, 1) := by decide +kernel
theorem dX6_spilled_1 : decode cX6_spilled 1 = .ok (.getfield 63, 3) := by decide +kernel
theorem dX6_spilled_4 : decode cX6_spilled 4 = .ok (.ireturn, 1) := by decide +kernel
set_option maxRecDepth 20000 in
theorem ggX6_hang_X6_checkPerson : GoodIn wsX6_hang wsX6_checkPerson := goodIn_ca (goodIn_r _ [12, 13, 14] (by decide +kernel) (by decide +kernel)) (goodIn_sub (fun _ h => List.mem_cons_of_mem _ (List.mem_append_right _ h)) (by decide +kernel))
set_option maxRecDepth 20000 in
theorem gX6_hang_X6_checkPerson : GoodIn wsX6_hang (va_wsS RX6 110 yX6_checkPerson wsX6_checkPerson) := goodIn_app (goodIn_of _ (by decide +kernel)) ggX6_hang_X6_checkPerson
set_option maxRecDepth 20000 in
theorem ggX6_hang_X6_checkValve : GoodIn wsX6_hang wsX6_checkValve := goodIn_ca (goodIn_r _ [17, 13, 14] (by decide +kernel) (by decide +kernel)) (goodIn_sub (fun _ h => List.mem_cons_of_mem _ (List.mem_append_right _ h)) (by decide +kernel))
set_option maxRecDepth 20000 in
theorem gX6_hang_X6_checkValve : GoodIn wsX6_hang (va_wsS RX6 76 yX6_checkValve wsX6_checkValve) := goodIn_app (goodIn_of _ (by decide +kernel)) ggX6_hang_X6_checkValve
set_option maxRecDepth 20000 in
theorem ggX6_hang_X6_isAble : GoodIn wsX6_hang wsX6_isAble := goodIn_r _ [21, 22, 23, 24, 25, 26, 11, 27, 28, 8, 114, 115, 116, 117, 118, 119, 120, 121, 122, 123, 124, 125, 126, 127] (by decide +kernel) (by decide +kernel)
set_option maxRecDepth 20000 in
theorem gX6_hang_X6_isAble : GoodIn wsX6_hang (wsV RX6 139 RX6 yX6_isAble wsX6_isAble) := goodIn_app (goodIn_of _ (by decide +kernel)) ggX6_hang_X6_isAble
set_option maxRecDepth 20000 in
theorem ggX6_hang_Jx4a65c_size_8abf5 : GoodIn wsX6_hang wsJx4a65c_size_8abf5 := goodIn_r _ [33, 34, 132, 133, 134] (by decide +kernel) (by decide +kernel)
set_option maxRecDepth 20000 in
theorem gX6_hang_Jx4a65c_size_8abf5 : GoodIn wsX6_hang (wsV RX6 142 RJx4a65c yJx4a65c_size_8abf5 wsJx4a65c_size_8abf5) := goodIn_app (goodIn_of _ (by decide +kernel)) ggX6_hang_Jx4a65c_size_8abf5
set_option maxRecDepth 20000 in
theorem ggX6_hang_X4_init : GoodIn wsX6_hang wsX4_init := goodIn_r _ [36, 37, 38, 39, 40, 41, 42, 43, 128, 129, 130, 131] (by decide +kernel) (by decide +kernel)
set_option maxRecDepth 20000 in
theorem gX6_hang_X4_init_n147 : GoodIn wsX6_hang (wsX4_init) := ggX6_hang_X4_init
set_option maxRecDepth 20000 in
theorem ggX6_hang_Jx4a65c_add_9ea2d : GoodIn wsX6_hang wsJx4a65c_add_9ea2d := goodIn_r _ [47, 48, 49, 50, 34, 51, 52, 53, 32, 54, 55, 56, 57, 58, 59, 60, 61, 62, 63, 64, 65, 66, 67, 68, 69, 70, 71, 72, 73, 74, 75, 76, 77, 78, 79, 80, 81, 82, 83, 84, 85, 86, 87, 88, 89, 90, 91, 92, 93, 94, 95, 96, 97, 132, 133, 134] (by decide +kernel) (by decide +kernel)
set_option maxRecDepth 20000 in
theorem gX6_hang_Jx4a65c_add_9ea2d : GoodIn wsX6_hang (wsV RX6 150 RJx4a65c yJx4a65c_add_9ea2d wsJx4a65c_add_9ea2d) := goodIn_app (goodIn_of _ (by decide +kernel)) ggX6_hang_Jx4a65c_add_9ea2d
set_option maxRecDepth 20000 in
theorem ggX6_hang_X2_note : GoodIn wsX6_hang wsX2_note := goodIn_r _ [101, 102, 103, 104, 105, 80, 106, 107, 108, 109, 110, 111, 112, 113, 91, 92, 66, 93, 94, 95, 96, 97, 135, 136] (by decide +kernel) (by decide +kernel)
set_option maxRecDepth 20000 in
theorem gX6_hang_X2_note_n154 : GoodIn wsX6_hang (wsX2_note) := ggX6_hang_X2_note
theorem dX6_hang_0 : decode cX6_hang 0 = .ok (.iload_n 1, 1) := by decide +kernel
theorem dX6_hang_1 : decode cX6_hang 1 = .ok (.invokestatic 110, 3) := by decide +kernel
theorem dX6_hang_4 : decode cX6_hang 4 = .ok (.iload_n 2, 1) := by decide +kernel
theorem dX6_hang_5 : decode cX6_hang 5 = .ok (.invokestatic 76, 3) := by decide +kernel
theorem dX6_hang_8 : decode cX6_hang 8 = .ok (.aload_n 0, 1) := by decide +kernel
theorem dX6_hang_9 : decode cX6_hang 9 = .ok (.iload_n 1, 1) := by decide +kernel
theorem dX6_hang_10 : decode cX6_hang 10 = .ok (.invokevirtual 139, 3) := by decide +kernel
theorem dX6_hang_13 : decode cX6_hang 13 = .ok (.ifCond .eq 15, 3) := by decide +kernel
theorem dX6_hang_16 : decode cX6_hang 16 = .ok (.aload_n 0, 1) := by decide +kernel
theorem dX6_hang_17 : decode cX6_hang 17 = .ok (.getfield 29, 3) := by decide +kernel
theorem dX6_hang_20 : decode cX6_hang 20 = .ok (.invokevirtual 142, 3) := by decide +kernel
theorem dX6_hang_23 : decode cX6_hang 23 = .ok (.bipush 40, 2) := by decide +kernel
theorem dX6_hang_25 : decode cX6_hang 25 = .ok (.if_icmp .lt 13, 3) := by decide +kernel
theorem dX6_hang_28 : decode cX6_hang 28 = .ok (.new 95, 3) := by decide +kernel
theorem dX6_hang_31 : decode cX6_hang 31 = .ok (.dup, 1) := by decide +kernel
theorem dX6_hang_32 : decode cX6_hang 32 = .ok (.ldc 143, 2) := by decide +kernel
theorem dX6_hang_34 : decode cX6_hang 34 = .ok (.invokespecial 99, 3) := by decide +kernel
theorem dX6_hang_37 : decode cX6_hang 37 = .ok (.athrow, 1) := by decide +kernel
theorem dX6_hang_38 : decode cX6_hang 38 = .ok (.aload_n 0, 1) := by decide +kernel
theorem dX6_hang_39 : decode cX6_hang 39 = .ok (.getfield 29, 3) := by decide +kernel
theorem dX6_hang_42 : decode cX6_hang 42 = .ok (.invokevirtual 142, 3) := by decide +kernel
theorem dX6_hang_45 : decode cX6_hang 45 = .ok (.istore_n 3, 1) := by decide +kernel
theorem dX6_hang_46 : decode cX6_hang 46 = .ok (.aload_n 0, 1) := by decide +kernel
theorem dX6_hang_47 : decode cX6_hang 47 = .ok (.getfield 29, 3) := by decide +kernel
theorem dX6_hang_50 : decode cX6_hang 50 = .ok (.new 145, 3) := by decide +kernel
theorem dX6_hang_53 : decode cX6_hang 53 = .ok (.dup, 1) := by decide +kernel
theorem dX6_hang_54 : decode cX6_hang 54 = .ok (.iload_n 1, 1) := by decide +kernel
theorem dX6_hang_55 : decode cX6_hang 55 = .ok (.iload_n 2, 1) := by decide +kernel
theorem dX6_hang_56 : decode cX6_hang 56 = .ok (.invokespecial 147, 3) := by decide +kernel
theorem dX6_hang_59 : decode cX6_hang 59 = .ok (.invokevirtual 150, 3) := by decide +kernel
theorem dX6_hang_62 : decode cX6_hang 62 = .ok (.pop, 1) := by decide +kernel
theorem dX6_hang_63 : decode cX6_hang 63 = .ok (.aload_n 0, 1) := by decide +kernel
theorem dX6_hang_64 : decode cX6_hang 64 = .ok (.getfield 45, 3) := by decide +kernel
theorem dX6_hang_67 : decode cX6_hang 67 = .ok (.aload_n 0, 1) := by decide +kernel
theorem dX6_hang_68 : decode cX6_hang 68 = .ok (.getfield 56, 3) := by decide +kernel
theorem dX6_hang_71 : decode cX6_hang 71 = .ok (.iconst 1, 1) := by decide +kernel
theorem dX6_hang_72 : decode cX6_hang 72 = .ok (.iload_n 1, 1) := by decide +kernel
theorem dX6_hang_73 : decode cX6_hang 73 = .ok (.iload_n 3, 1) := by decide +kernel
theorem dX6_hang_74 : decode cX6_hang 74 = .ok (.invokevirtual 154, 3) := by decide +kernel
theorem dX6_hang_77 : decode cX6_hang 77 = .ok (.iload_n 3, 1) := by decide +kernel
theorem dX6_hang_78 : decode cX6_hang 78 = .ok (.ireturn, 1) := by decide +kernel
set_option maxRecDepth 20000 in
theorem ggX6_takeOff_X6_checkPerson : GoodIn wsX6_takeOff wsX6_checkPerson := goodIn_ca (goodIn_r _ [11, 12, 13] (by decide +kernel) (by decide +kernel)) (goodIn_sub (fun _ h => List.mem_cons_of_mem _ (List.mem_append_right _ h)) (by decide +kernel))
set_option maxRecDepth 20000 in
theorem gX6_takeOff_X6_checkPerson : GoodIn wsX6_takeOff (va_wsS RX6 110 yX6_checkPerson wsX6_checkPerson) := goodIn_app (goodIn_of _ (by decide +kernel)) ggX6_takeOff_X6_checkPerson
set_option maxRecDepth 20000 in
theorem ggX6_takeOff_X6_checkTag : GoodIn wsX6_takeOff wsX6_checkTag := goodIn_ca (goodIn_r _ [17, 12, 13, 3, 18, 19, 20, 21, 22, 23, 79, 80, 81, 82, 83, 84, 85, 86, 87, 88, 89, 90, 91, 92, 97, 98, 99] (by decide +kernel) (by decide +kernel)) (goodIn_sub (fun _ h => List.mem_cons_of_mem _ (List.mem_append_right _ h)) (by decide +kernel))
set_option maxRecDepth 20000 in
theorem gX6_takeOff_X6_checkTag : GoodIn wsX6_takeOff (wsV RX6 158 RX6 yX6_checkTag wsX6_checkTag) := goodIn_app (goodIn_of _ (by decide +kernel)) ggX6_takeOff_X6_checkTag
set_option maxRecDepth 20000 in
theorem ggX6_takeOff_Jx4a65c_get_915e3 : GoodIn wsX6_takeOff wsJx4a65c_get_915e3 := goodIn_r _ [27, 23, 28, 29, 30, 31, 32, 33, 34, 35, 36, 37, 38, 21, 39, 40, 97, 98, 99] (by decide +kernel) (by decide +kernel)
set_option maxRecDepth 20000 in
theorem gX6_takeOff_Jx4a65c_get_915e3 : GoodIn wsX6_takeOff (wsV RX6 161 RJx4a65c yJx4a65c_get_915e3 wsJx4a65c_get_915e3) := goodIn_app (goodIn_of _ (by decide +kernel)) ggX6_takeOff_Jx4a65c_get_915e3
set_option maxRecDepth 20000 in
theorem ggX6_takeOff_X6_isAble : GoodIn wsX6_takeOff wsX6_isAble := goodIn_r _ [44, 45, 46, 47, 48, 49, 10, 50, 5, 7, 79, 80, 81, 82, 83, 84, 85, 86, 87, 88, 89, 90, 91, 92] (by decide +kernel) (by decide +kernel)
set_option maxRecDepth 20000 in
theorem gX6_takeOff_X6_isAble : GoodIn wsX6_takeOff (wsV RX6 139 RX6 yX6_isAble wsX6_isAble) := goodIn_app (goodIn_of _ (by decide +kernel)) ggX6_takeOff_X6_isAble
set_option maxRecDepth 20000 in
theorem ggX6_takeOff_X6_isFirstToAsk : GoodIn wsX6_takeOff wsX6_isFirstToAsk := goodIn_r _ [53, 93, 94, 95, 96] (by decide +kernel) (by decide +kernel)
set_option maxRecDepth 20000 in
theorem gX6_takeOff_X6_isFirstToAsk : GoodIn wsX6_takeOff (va_wsS RX6 173 yX6_isFirstToAsk wsX6_isFirstToAsk) := goodIn_app (goodIn_of _ (by decide +kernel)) ggX6_takeOff_X6_isFirstToAsk
set_option maxRecDepth 20000 in
theorem ggX6_takeOff_X2_note : GoodIn wsX6_takeOff wsX2_note := goodIn_r _ [57, 58, 59, 60, 61, 62, 63, 64, 65, 66, 67, 68, 69, 70, 71, 72, 73, 74, 75, 76, 77, 78, 100, 101] (by decide +kernel) (by decide +kernel)
set_option maxRecDepth 20000 in
theorem gX6_takeOff_X2_note_n154 : GoodIn wsX6_takeOff (wsX2_note) := ggX6_takeOff_X2_note
theorem dX6_takeOff_0 : decode cX6_takeOff 0 = .ok (.iload_n 1, 1) := by decide +kernel
theorem dX6_takeOff_1 : decode cX6_takeOff 1 = .ok (.invokestatic 110, 3) := by decide +kernel
theorem dX6_takeOff_4 : decode cX6_takeOff 4 = .ok (.aload_n 0, 1) := by decide +kernel
theorem dX6_takeOff_5 : decode cX6_takeOff 5 = .ok (.iload_n 2, 1) := by decide +kernel
theorem dX6_takeOff_6 : decode cX6_takeOff 6 = .ok (.invokevirtual 158, 3) := by decide +kernel
theorem dX6_takeOff_9 : decode cX6_takeOff 9 = .ok (.aload_n 0, 1) := by decide +kernel
theorem dX6_takeOff_10 : decode cX6_takeOff 10 = .ok (.getfield 29, 3) := by decide +kernel
theorem dX6_takeOff_13 : decode cX6_takeOff 13 = .ok (.iload_n 2, 1) := by decide +kernel
theorem dX6_takeOff_14 : decode cX6_takeOff 14 = .ok (.invokevirtual 161, 3) := by decide +kernel
theorem dX6_takeOff_17 : decode cX6_takeOff 17 = .ok (.checkcast 145, 3) := by decide +kernel
theorem dX6_takeOff_20 : decode cX6_takeOff 20 = .ok (.astore_n 3, 1) := by decide +kernel
theorem dX6_takeOff_21 : decode cX6_takeOff 21 = .ok (.aload_n 3, 1) := by decide +kernel
theorem dX6_takeOff_22 : decode cX6_takeOff 22 = .ok (.getfield 165, 3) := by decide +kernel
theorem dX6_takeOff_25 : decode cX6_takeOff 25 = .ok (.ifCond .ne 31, 3) := by decide +kernel
theorem dX6_takeOff_28 : decode cX6_takeOff 28 = .ok (.aload_n 0, 1) := by decide +kernel
theorem dX6_takeOff_29 : decode cX6_takeOff 29 = .ok (.iload_n 1, 1) := by decide +kernel
theorem dX6_takeOff_30 : decode cX6_takeOff 30 = .ok (.invokevirtual 139, 3) := by decide +kernel
theorem dX6_takeOff_33 : decode cX6_takeOff 33 = .ok (.ifCond .eq 23, 3) := by decide +kernel
theorem dX6_takeOff_36 : decode cX6_takeOff 36 = .ok (.iload_n 1, 1) := by decide +kernel
theorem dX6_takeOff_37 : decode cX6_takeOff 37 = .ok (.aload_n 3, 1) := by decide +kernel
theorem dX6_takeOff_38 : decode cX6_takeOff 38 = .ok (.getfield 168, 3) := by decide +kernel
theorem dX6_takeOff_41 : decode cX6_takeOff 41 = .ok (.if_icmp .eq 25, 3) := by decide +kernel
theorem dX6_takeOff_44 : decode cX6_takeOff 44 = .ok (.aload_n 0, 1) := by decide +kernel
theorem dX6_takeOff_45 : decode cX6_takeOff 45 = .ok (.getfield 19, 3) := by decide +kernel
theorem dX6_takeOff_48 : decode cX6_takeOff 48 = .ok (.aload_n 3, 1) := by decide +kernel
theorem dX6_takeOff_49 : decode cX6_takeOff 49 = .ok (.getfield 168, 3) := by decide +kernel
theorem dX6_takeOff_52 : decode cX6_takeOff 52 = .ok (.baload, 1) := by decide +kernel
theorem dX6_takeOff_53 : decode cX6_takeOff 53 = .ok (.ifCond .ne 13, 3) := by decide +kernel
theorem dX6_takeOff_56 : decode cX6_takeOff 56 = .ok (.new 95, 3) := by decide +kernel
theorem dX6_takeOff_59 : decode cX6_takeOff 59 = .ok (.dup, 1) := by decide +kernel
theorem dX6_takeOff_60 : decode cX6_takeOff 60 = .ok (.ldc 171, 2) := by decide +kernel
theorem dX6_takeOff_62 : decode cX6_takeOff 62 = .ok (.invokespecial 99, 3) := by decide +kernel
theorem dX6_takeOff_65 : decode cX6_takeOff 65 = .ok (.athrow, 1) := by decide +kernel
theorem dX6_takeOff_66 : decode cX6_takeOff 66 = .ok (.iload_n 1, 1) := by decide +kernel
theorem dX6_takeOff_67 : decode cX6_takeOff 67 = .ok (.aload_n 3, 1) := by decide +kernel
theorem dX6_takeOff_68 : decode cX6_takeOff 68 = .ok (.getfield 168, 3) := by decide +kernel
theorem dX6_takeOff_71 : decode cX6_takeOff 71 = .ok (.if_icmp .eq 18, 3) := by decide +kernel
theorem dX6_takeOff_74 : decode cX6_takeOff 74 = .ok (.aload_n 3, 1) := by decide +kernel
theorem dX6_takeOff_75 : decode cX6_takeOff 75 = .ok (.iload_n 1, 1) := by decide +kernel
theorem dX6_takeOff_76 : decode cX6_takeOff 76 = .ok (.invokestatic 173, 3) := by decide +kernel
theorem dX6_takeOff_79 : decode cX6_takeOff 79 = .ok (.ifCond .eq 10, 3) := by decide +kernel
theorem dX6_takeOff_82 : decode cX6_takeOff 82 = .ok (.aload_n 3, 1) := by decide +kernel
theorem dX6_takeOff_83 : decode cX6_takeOff 83 = .ok (.iload_n 1, 1) := by decide +kernel
theorem dX6_takeOff_84 : decode cX6_takeOff 84 = .ok (.putfield 177, 3) := by decide +kernel
theorem dX6_takeOff_87 : decode cX6_takeOff 87 = .ok (.iconst 0, 1) := by decide +kernel
theorem dX6_takeOff_88 : decode cX6_takeOff 88 = .ok (.ireturn, 1) := by decide +kernel
theorem dX6_takeOff_89 : decode cX6_takeOff 89 = .ok (.aload_n 3, 1) := by decide +kernel
theorem dX6_takeOff_90 : decode cX6_takeOff 90 = .ok (.iconst 1, 1) := by decide +kernel
theorem dX6_takeOff_91 : decode cX6_takeOff 91 = .ok (.putfield 165, 3) := by decide +kernel
theorem dX6_takeOff_94 : decode cX6_takeOff 94 = .ok (.aload_n 0, 1) := by decide +kernel
theorem dX6_takeOff_95 : decode cX6_takeOff 95 = .ok (.getfield 45, 3) := by decide +kernel
theorem dX6_takeOff_98 : decode cX6_takeOff 98 = .ok (.aload_n 0, 1) := by decide +kernel
theorem dX6_takeOff_99 : decode cX6_takeOff 99 = .ok (.getfield 56, 3) := by decide +kernel
theorem dX6_takeOff_102 : decode cX6_takeOff 102 = .ok (.iconst 2, 1) := by decide +kernel
theorem dX6_takeOff_103 : decode cX6_takeOff 103 = .ok (.iload_n 1, 1) := by decide +kernel
theorem dX6_takeOff_104 : decode cX6_takeOff 104 = .ok (.iload_n 2, 1) := by decide +kernel
theorem dX6_takeOff_105 : decode cX6_takeOff 105 = .ok (.invokevirtual 154, 3) := by decide +kernel
theorem dX6_takeOff_108 : decode cX6_takeOff 108 = .ok (.iconst 1, 1) := by decide +kernel
theorem dX6_takeOff_109 : decode cX6_takeOff 109 = .ok (.ireturn, 1) := by decide +kernel
set_option maxRecDepth 20000 in
theorem ggX6_valveOf_X6_checkTag : GoodIn wsX6_valveOf wsX6_checkTag := goodIn_ca (goodIn_r _ [7, 8, 9, 1, 10, 11, 12, 13, 14, 15, 33, 34, 35, 36, 37, 38, 39, 40, 41, 42, 43, 44, 45, 46, 51, 52, 53] (by decide +kernel) (by decide +kernel)) (goodIn_sub (fun _ h => List.mem_cons_of_mem _ (List.mem_append_right _ h)) (by decide +kernel))
set_option maxRecDepth 20000 in
theorem gX6_valveOf_X6_checkTag : GoodIn wsX6_valveOf (wsV RX6 158 RX6 yX6_checkTag wsX6_checkTag) := goodIn_app (goodIn_of _ (by decide +kernel)) ggX6_valveOf_X6_checkTag
set_option maxRecDepth 20000 in
theorem ggX6_valveOf_Jx4a65c_get_915e3 : GoodIn wsX6_valveOf wsJx4a65c_get_915e3 := goodIn_r _ [19, 15, 20, 21, 22, 23, 24, 25, 26, 27, 28, 29, 30, 13, 31, 32, 51, 52, 53] (by decide +kernel) (by decide +kernel)
set_option maxRecDepth 20000 in
theorem gX6_valveOf_Jx4a65c_get_915e3 : GoodIn wsX6_valveOf (wsV RX6 161 RJx4a65c yJx4a65c_get_915e3 wsJx4a65c_get_915e3) := goodIn_app (goodIn_of _ (by decide +kernel)) ggX6_valveOf_Jx4a65c_get_915e3
theorem dX6_valveOf_0 : decode cX6_valveOf 0 = .ok (.aload_n 0, 1) := by decide +kernel
theorem dX6_valveOf_1 : decode cX6_valveOf 1 = .ok (.iload_n 1, 1) := by decide +kernel
theorem dX6_valveOf_2 : decode cX6_valveOf 2 = .ok (.invokevirtual 158, 3) := by decide +kernel
theorem dX6_valveOf_5 : decode cX6_valveOf 5 = .ok (.aload_n 0, 1) := by decide +kernel
theorem dX6_valveOf_6 : decode cX6_valveOf 6 = .ok (.getfield 29, 3) := by decide +kernel
theorem dX6_valveOf_9 : decode cX6_valveOf 9 = .ok (.iload_n 1, 1) := by decide +kernel
theorem dX6_valveOf_10 : decode cX6_valveOf 10 = .ok (.invokevirtual 161, 3) := by decide +kernel
theorem dX6_valveOf_13 : decode cX6_valveOf 13 = .ok (.checkcast 145, 3) := by decide +kernel
theorem dX6_valveOf_16 : decode cX6_valveOf 16 = .ok (.astore_n 2, 1) := by decide +kernel
theorem dX6_valveOf_17 : decode cX6_valveOf 17 = .ok (.aload_n 2, 1) := by decide +kernel
theorem dX6_valveOf_18 : decode cX6_valveOf 18 = .ok (.getfield 165, 3) := by decide +kernel
theorem dX6_valveOf_21 : decode cX6_valveOf 21 = .ok (.ifCond .eq 7, 3) := by decide +kernel
theorem dX6_valveOf_24 : decode cX6_valveOf 24 = .ok (.iconst (-1), 1) := by decide +kernel
theorem dX6_valveOf_25 : decode cX6_valveOf 25 = .ok (.goto 7, 3) := by decide +kernel
theorem dX6_valveOf_28 : decode cX6_valveOf 28 = .ok (.aload_n 2, 1) := by decide +kernel
theorem dX6_valveOf_29 : decode cX6_valveOf 29 = .ok (.getfield 180, 3) := by decide +kernel
theorem dX6_valveOf_32 : decode cX6_valveOf 32 = .ok (.ireturn, 1) := by decide +kernel
set_option maxRecDepth 20000 in
theorem ggX6_ownerOf_X6_checkTag : GoodIn wsX6_ownerOf wsX6_checkTag := goodIn_ca (goodIn_r _ [7, 8, 9, 1, 10, 11, 12, 13, 14, 15, 33, 34, 35, 36, 37, 38, 39, 40, 41, 42, 43, 44, 45, 46, 51, 52, 53] (by decide +kernel) (by decide +kernel)) (goodIn_sub (fun _ h => List.mem_cons_of_mem _ (List.mem_append_right _ h)) (by decide +kernel))
set_option maxRecDepth 20000 in
theorem gX6_ownerOf_X6_checkTag : GoodIn wsX6_ownerOf (wsV RX6 158 RX6 yX6_checkTag wsX6_checkTag) := goodIn_app (goodIn_of _ (by decide +kernel)) ggX6_ownerOf_X6_checkTag
set_option maxRecDepth 20000 in
theorem ggX6_ownerOf_Jx4a65c_get_915e3 : GoodIn wsX6_ownerOf wsJx4a65c_get_915e3 := goodIn_r _ [19, 15, 20, 21, 22, 23, 24, 25, 26, 27, 28, 29, 30, 13, 31, 32, 51, 52, 53] (by decide +kernel) (by decide +kernel)
set_option maxRecDepth 20000 in
theorem gX6_ownerOf_Jx4a65c_get_915e3 : GoodIn wsX6_ownerOf (wsV RX6 161 RJx4a65c yJx4a65c_get_915e3 wsJx4a65c_get_915e3) := goodIn_app (goodIn_of _ (by decide +kernel)) ggX6_ownerOf_Jx4a65c_get_915e3
theorem dX6_ownerOf_0 : decode cX6_ownerOf 0 = .ok (.aload_n 0, 1) := by decide +kernel
theorem dX6_ownerOf_1 : decode cX6_ownerOf 1 = .ok (.iload_n 1, 1) := by decide +kernel
theorem dX6_ownerOf_2 : decode cX6_ownerOf 2 = .ok (.invokevirtual 158, 3) := by decide +kernel
theorem dX6_ownerOf_5 : decode cX6_ownerOf 5 = .ok (.aload_n 0, 1) := by decide +kernel
theorem dX6_ownerOf_6 : decode cX6_ownerOf 6 = .ok (.getfield 29, 3) := by decide +kernel
theorem dX6_ownerOf_9 : decode cX6_ownerOf 9 = .ok (.iload_n 1, 1) := by decide +kernel
theorem dX6_ownerOf_10 : decode cX6_ownerOf 10 = .ok (.invokevirtual 161, 3) := by decide +kernel
theorem dX6_ownerOf_13 : decode cX6_ownerOf 13 = .ok (.checkcast 145, 3) := by decide +kernel
theorem dX6_ownerOf_16 : decode cX6_ownerOf 16 = .ok (.getfield 168, 3) := by decide +kernel
theorem dX6_ownerOf_19 : decode cX6_ownerOf 19 = .ok (.ireturn, 1) := by decide +kernel
set_option maxRecDepth 20000 in
theorem ggX6_tagsByLog_X6_checkValve : GoodIn wsX6_tagsByLog wsX6_checkValve := goodIn_ca (goodIn_r _ [5, 6, 7] (by decide +kernel) (by decide +kernel)) (goodIn_sub (fun _ h => List.mem_cons_of_mem _ (List.mem_append_right _ h)) (by decide +kernel))
set_option maxRecDepth 20000 in
theorem gX6_tagsByLog_X6_checkValve : GoodIn wsX6_tagsByLog (va_wsS RX6 76 yX6_checkValve wsX6_checkValve) := goodIn_app (goodIn_of _ (by decide +kernel)) ggX6_tagsByLog_X6_checkValve
set_option maxRecDepth 20000 in
theorem ggX6_tagsByLog_X2_size : GoodIn wsX6_tagsByLog wsX2_size := goodIn_r _ [11, 12, 63, 64] (by decide +kernel) (by decide +kernel)
set_option maxRecDepth 20000 in
theorem gX6_tagsByLog_X2_size_n123 : GoodIn wsX6_tagsByLog (wsX2_size) := ggX6_tagsByLog_X2_size
set_option maxRecDepth 20000 in
theorem ggX6_tagsByLog_X2_kindAt : GoodIn wsX6_tagsByLog wsX2_kindAt := goodIn_r _ [15, 16, 63, 64] (by decide +kernel) (by decide +kernel)
set_option maxRecDepth 20000 in
theorem gX6_tagsByLog_X2_kindAt_n127 : GoodIn wsX6_tagsByLog (wsX2_kindAt) := ggX6_tagsByLog_X2_kindAt
set_option maxRecDepth 20000 in
theorem ggX6_tagsByLog_X2_whatAt : GoodIn wsX6_tagsByLog wsX2_whatAt := goodIn_r _ [19, 16, 63, 64] (by decide +kernel) (by decide +kernel)
set_option maxRecDepth 20000 in
theorem gX6_tagsByLog_X2_whatAt_n183 : GoodIn wsX6_tagsByLog (wsX2_whatAt) := ggX6_tagsByLog_X2_whatAt
set_option maxRecDepth 20000 in
theorem ggX6_tagsByLog_X6_wasHungOn : GoodIn wsX6_tagsByLog wsX6_wasHungOn := goodIn_r _ [23, 24, 25, 26, 27, 28, 29, 30, 31, 32, 33, 34, 35, 36, 37, 38, 39, 40, 41, 42, 43, 44, 45, 46, 47, 48, 49, 50, 51, 52, 53, 54, 55, 56, 57, 58, 59, 60, 61, 62, 65, 66, 67, 68, 69, 70, 71] (by decide +kernel) (by decide +kernel)
set_option maxRecDepth 20000 in
theorem gX6_tagsByLog_X6_wasHungOn : GoodIn wsX6_tagsByLog (wsV RX6 186 RX6 yX6_wasHungOn wsX6_wasHungOn) := goodIn_app (goodIn_of _ (by decide +kernel)) ggX6_tagsByLog_X6_wasHungOn
theorem dX6_tagsByLog_0 : decode cX6_tagsByLog 0 = .ok (.iload_n 1, 1) := by decide +kernel
theorem dX6_tagsByLog_1 : decode cX6_tagsByLog 1 = .ok (.invokestatic 76, 3) := by decide +kernel
theorem dX6_tagsByLog_4 : decode cX6_tagsByLog 4 = .ok (.iconst 0, 1) := by decide +kernel
theorem dX6_tagsByLog_5 : decode cX6_tagsByLog 5 = .ok (.istore_n 2, 1) := by decide +kernel
theorem dX6_tagsByLog_6 : decode cX6_tagsByLog 6 = .ok (.iconst 0, 1) := by decide +kernel
theorem dX6_tagsByLog_7 : decode cX6_tagsByLog 7 = .ok (.istore_n 3, 1) := by decide +kernel
theorem dX6_tagsByLog_8 : decode cX6_tagsByLog 8 = .ok (.iload_n 3, 1) := by decide +kernel
theorem dX6_tagsByLog_9 : decode cX6_tagsByLog 9 = .ok (.aload_n 0, 1) := by decide +kernel
theorem dX6_tagsByLog_10 : decode cX6_tagsByLog 10 = .ok (.getfield 45, 3) := by decide +kernel
theorem dX6_tagsByLog_13 : decode cX6_tagsByLog 13 = .ok (.invokevirtual 123, 3) := by decide +kernel
theorem dX6_tagsByLog_16 : decode cX6_tagsByLog 16 = .ok (.if_icmp .ge 61, 3) := by decide +kernel
theorem dX6_tagsByLog_19 : decode cX6_tagsByLog 19 = .ok (.aload_n 0, 1) := by decide +kernel
theorem dX6_tagsByLog_20 : decode cX6_tagsByLog 20 = .ok (.getfield 45, 3) := by decide +kernel
theorem dX6_tagsByLog_23 : decode cX6_tagsByLog 23 = .ok (.iload_n 3, 1) := by decide +kernel
theorem dX6_tagsByLog_24 : decode cX6_tagsByLog 24 = .ok (.invokevirtual 127, 3) := by decide +kernel
theorem dX6_tagsByLog_27 : decode cX6_tagsByLog 27 = .ok (.istore 4, 2) := by decide +kernel
theorem dX6_tagsByLog_29 : decode cX6_tagsByLog 29 = .ok (.iload 4, 2) := by decide +kernel
theorem dX6_tagsByLog_31 : decode cX6_tagsByLog 31 = .ok (.iconst 1, 1) := by decide +kernel
theorem dX6_tagsByLog_32 : decode cX6_tagsByLog 32 = .ok (.if_icmp .eq 9, 3) := by decide +kernel
theorem dX6_tagsByLog_35 : decode cX6_tagsByLog 35 = .ok (.iload 4, 2) := by decide +kernel
theorem dX6_tagsByLog_37 : decode cX6_tagsByLog 37 = .ok (.iconst 2, 1) := by decide +kernel
theorem dX6_tagsByLog_38 : decode cX6_tagsByLog 38 = .ok (.if_icmp .ne 33, 3) := by decide +kernel
theorem dX6_tagsByLog_41 : decode cX6_tagsByLog 41 = .ok (.aload_n 0, 1) := by decide +kernel
theorem dX6_tagsByLog_42 : decode cX6_tagsByLog 42 = .ok (.aload_n 0, 1) := by decide +kernel
theorem dX6_tagsByLog_43 : decode cX6_tagsByLog 43 = .ok (.getfield 45, 3) := by decide +kernel
theorem dX6_tagsByLog_46 : decode cX6_tagsByLog 46 = .ok (.iload_n 3, 1) := by decide +kernel
theorem dX6_tagsByLog_47 : decode cX6_tagsByLog 47 = .ok (.invokevirtual 183, 3) := by decide +kernel
theorem dX6_tagsByLog_50 : decode cX6_tagsByLog 50 = .ok (.iload_n 1, 1) := by decide +kernel
theorem dX6_tagsByLog_51 : decode cX6_tagsByLog 51 = .ok (.invokevirtual 186, 3) := by decide +kernel
theorem dX6_tagsByLog_54 : decode cX6_tagsByLog 54 = .ok (.ifCond .eq 17, 3) := by decide +kernel
theorem dX6_tagsByLog_57 : decode cX6_tagsByLog 57 = .ok (.iload_n 2, 1) := by decide +kernel
theorem dX6_tagsByLog_58 : decode cX6_tagsByLog 58 = .ok (.iload 4, 2) := by decide +kernel
theorem dX6_tagsByLog_60 : decode cX6_tagsByLog 60 = .ok (.iconst 1, 1) := by decide +kernel
theorem dX6_tagsByLog_61 : decode cX6_tagsByLog 61 = .ok (.if_icmp .ne 7, 3) := by decide +kernel
theorem dX6_tagsByLog_64 : decode cX6_tagsByLog 64 = .ok (.iconst 1, 1) := by decide +kernel
theorem dX6_tagsByLog_65 : decode cX6_tagsByLog 65 = .ok (.goto 4, 3) := by decide +kernel
theorem dX6_tagsByLog_68 : decode cX6_tagsByLog 68 = .ok (.iconst (-1), 1) := by decide +kernel
theorem dX6_tagsByLog_69 : decode cX6_tagsByLog 69 = .ok (.iadd, 1) := by decide +kernel
theorem dX6_tagsByLog_70 : decode cX6_tagsByLog 70 = .ok (.istore_n 2, 1) := by decide +kernel
theorem dX6_tagsByLog_71 : decode cX6_tagsByLog 71 = .ok (.iinc 3 1, 3) := by decide +kernel
theorem dX6_tagsByLog_74 : decode cX6_tagsByLog 74 = .ok (.goto (-66), 3) := by decide +kernel
theorem dX6_tagsByLog_77 : decode cX6_tagsByLog 77 = .ok (.iload_n 2, 1) := by decide +kernel
theorem dX6_tagsByLog_78 : decode cX6_tagsByLog 78 = .ok (.ireturn, 1) := by decide +kernel
set_option maxRecDepth 20000 in
theorem ggX6_read_X6_checkPerson : GoodIn wsX6_read wsX6_checkPerson := goodIn_ca (goodIn_r _ [6, 7, 8] (by decide +kernel) (by decide +kernel)) (goodIn_sub (fun _ h => List.mem_cons_of_mem _ (List.mem_append_left _ (List.mem_append_right _ h))) (by decide +kernel))
set_option maxRecDepth 20000 in
theorem gX6_read_X6_checkPerson : GoodIn wsX6_read (va_wsS RX6 110 yX6_checkPerson wsX6_checkPerson) := goodIn_app (goodIn_of _ (by decide +kernel)) ggX6_read_X6_checkPerson
set_option maxRecDepth 20000 in
theorem ggX6_read_X6_checkNotGone : GoodIn wsX6_read wsX6_checkNotGone := goodIn_ca (goodIn_r _ [12, 13, 14, 15, 21, 22, 23, 24, 25, 26, 27, 28, 29, 30, 31, 32, 33, 34] (by decide +kernel) (by decide +kernel)) (goodIn_sub (fun _ h => List.mem_cons_of_mem _ (List.mem_append_right _ h)) (by decide +kernel))
set_option maxRecDepth 20000 in
theorem gX6_read_X6_checkNotGone : GoodIn wsX6_read (wsV RX6 190 RX6 yX6_checkNotGone wsX6_checkNotGone) := goodIn_app (goodIn_of _ (by decide +kernel)) ggX6_read_X6_checkNotGone
set_option maxRecDepth 20000 in
theorem ggX6_read_X2_size : GoodIn wsX6_read wsX2_size := goodIn_r _ [19, 20, 35, 36] (by decide +kernel) (by decide +kernel)
set_option maxRecDepth 20000 in
theorem gX6_read_X2_size_n123 : GoodIn wsX6_read (wsX2_size) := ggX6_read_X2_size
theorem dX6_read_0 : decode cX6_read 0 = .ok (.iload_n 1, 1) := by decide +kernel
theorem dX6_read_1 : decode cX6_read 1 = .ok (.invokestatic 110, 3) := by decide +kernel
theorem dX6_read_4 : decode cX6_read 4 = .ok (.aload_n 0, 1) := by decide +kernel
theorem dX6_read_5 : decode cX6_read 5 = .ok (.iload_n 1, 1) := by decide +kernel
theorem dX6_read_6 : decode cX6_read 6 = .ok (.invokevirtual 190, 3) := by decide +kernel
theorem dX6_read_9 : decode cX6_read 9 = .ok (.aload_n 0, 1) := by decide +kernel
theorem dX6_read_10 : decode cX6_read 10 = .ok (.getfield 45, 3) := by decide +kernel
theorem dX6_read_13 : decode cX6_read 13 = .ok (.invokevirtual 123, 3) := by decide +kernel
theorem dX6_read_16 : decode cX6_read 16 = .ok (.aload_n 0, 1) := by decide +kernel
theorem dX6_read_17 : decode cX6_read 17 = .ok (.getfield 23, 3) := by decide +kernel
theorem dX6_read_20 : decode cX6_read 20 = .ok (.iload_n 1, 1) := by decide +kernel
theorem dX6_read_21 : decode cX6_read 21 = .ok (.iaload, 1) := by decide +kernel
theorem dX6_read_22 : decode cX6_read 22 = .ok (.isub, 1) := by decide +kernel
theorem dX6_read_23 : decode cX6_read 23 = .ok (.istore_n 2, 1) := by decide +kernel
theorem dX6_read_24 : decode cX6_read 24 = .ok (.aload_n 0, 1) := by decide +kernel
theorem dX6_read_25 : decode cX6_read 25 = .ok (.getfield 23, 3) := by decide +kernel
theorem dX6_read_28 : decode cX6_read 28 = .ok (.iload_n 1, 1) := by decide +kernel
theorem dX6_read_29 : decode cX6_read 29 = .ok (.aload_n 0, 1) := by decide +kernel
theorem dX6_read_30 : decode cX6_read 30 = .ok (.getfield 45, 3) := by decide +kernel
theorem dX6_read_33 : decode cX6_read 33 = .ok (.invokevirtual 123, 3) := by decide +kernel
theorem dX6_read_36 : decode cX6_read 36 = .ok (.iastore, 1) := by decide +kernel
theorem dX6_read_37 : decode cX6_read 37 = .ok (.iload_n 2, 1) := by decide +kernel
theorem dX6_read_38 : decode cX6_read 38 = .ok (.ireturn, 1) := by decide +kernel
set_option maxRecDepth 20000 in
theorem ggX6_leave_X6_checkPerson : GoodIn wsX6_leave wsX6_checkPerson := goodIn_ca (goodIn_r _ [9, 10, 11] (by decide +kernel) (by decide +kernel)) (goodIn_sub (fun _ h => List.mem_cons_of_mem _ (List.mem_append_left _ (List.mem_append_right _ h))) (by decide +kernel))
set_option maxRecDepth 20000 in
theorem gX6_leave_X6_checkPerson : GoodIn wsX6_leave (va_wsS RX6 110 yX6_checkPerson wsX6_checkPerson) := goodIn_app (goodIn_of _ (by decide +kernel)) ggX6_leave_X6_checkPerson
set_option maxRecDepth 20000 in
theorem ggX6_leave_X6_checkNotGone : GoodIn wsX6_leave wsX6_checkNotGone := goodIn_ca (goodIn_r _ [15, 16, 17, 1, 66, 67, 68, 69, 70, 71, 72, 73, 74, 75, 76, 77, 78, 79] (by decide +kernel) (by decide +kernel)) (goodIn_sub (fun _ h => List.mem_cons_of_mem _ (List.mem_append_right _ h)) (by decide +kernel))
set_option maxRecDepth 20000 in
theorem gX6_leave_X6_checkNotGone : GoodIn wsX6_leave (wsV RX6 190 RX6 yX6_checkNotGone wsX6_checkNotGone) := goodIn_app (goodIn_of _ (by decide +kernel)) ggX6_leave_X6_checkNotGone
set_option maxRecDepth 20000 in
theorem ggX6_leave_X2_note : GoodIn wsX6_leave wsX2_note := goodIn_r _ [21, 22, 23, 24, 25, 26, 27, 28, 29, 30, 31, 32, 33, 34, 35, 36, 37, 38, 39, 40, 41, 42, 84, 85] (by decide +kernel) (by decide +kernel)
set_option maxRecDepth 20000 in
theorem gX6_leave_X2_note_n154 : GoodIn wsX6_leave (wsX2_note) := ggX6_leave_X2_note
set_option maxRecDepth 20000 in
theorem ggX6_leave_Jx4a65c_size_8abf5 : GoodIn wsX6_leave wsJx4a65c_size_8abf5 := goodIn_r _ [47, 48, 86, 87, 88] (by decide +kernel) (by decide +kernel)
set_option maxRecDepth 20000 in
theorem gX6_leave_Jx4a65c_size_8abf5 : GoodIn wsX6_leave (wsV RX6 142 RJx4a65c yJx4a65c_size_8abf5 wsJx4a65c_size_8abf5) := goodIn_app (goodIn_of _ (by decide +kernel)) ggX6_leave_Jx4a65c_size_8abf5
set_option maxRecDepth 20000 in
theorem ggX6_leave_Jx4a65c_get_915e3 : GoodIn wsX6_leave wsJx4a65c_get_915e3 := goodIn_r _ [52, 48, 53, 54, 55, 56, 57, 58, 59, 60, 61, 62, 63, 46, 64, 65, 86, 87, 88] (by decide +kernel) (by decide +kernel)
set_option maxRecDepth 20000 in
theorem gX6_leave_Jx4a65c_get_915e3 : GoodIn wsX6_leave (wsV RX6 161 RJx4a65c yJx4a65c_get_915e3 wsJx4a65c_get_915e3) := goodIn_app (goodIn_of _ (by decide +kernel)) ggX6_leave_Jx4a65c_get_915e3
theorem dX6_leave_0 : decode cX6_leave 0 = .ok (.iload_n 1, 1) := by decide +kernel
theorem dX6_leave_1 : decode cX6_leave 1 = .ok (.invokestatic 110, 3) := by decide +kernel
theorem dX6_leave_4 : decode cX6_leave 4 = .ok (.aload_n 0, 1) := by decide +kernel
theorem dX6_leave_5 : decode cX6_leave 5 = .ok (.iload_n 1, 1) := by decide +kernel
theorem dX6_leave_6 : decode cX6_leave 6 = .ok (.invokevirtual 190, 3) := by decide +kernel
theorem dX6_leave_9 : decode cX6_leave 9 = .ok (.aload_n 0, 1) := by decide +kernel
theorem dX6_leave_10 : decode cX6_leave 10 = .ok (.getfield 19, 3) := by decide +kernel
theorem dX6_leave_13 : decode cX6_leave 13 = .ok (.iload_n 1, 1) := by decide +kernel
theorem dX6_leave_14 : decode cX6_leave 14 = .ok (.iconst 1, 1) := by decide +kernel
theorem dX6_leave_15 : decode cX6_leave 15 = .ok (.bastore, 1) := by decide +kernel
theorem dX6_leave_16 : decode cX6_leave 16 = .ok (.aload_n 0, 1) := by decide +kernel
theorem dX6_leave_17 : decode cX6_leave 17 = .ok (.getfield 45, 3) := by decide +kernel
theorem dX6_leave_20 : decode cX6_leave 20 = .ok (.aload_n 0, 1) := by decide +kernel
theorem dX6_leave_21 : decode cX6_leave 21 = .ok (.getfield 56, 3) := by decide +kernel
theorem dX6_leave_24 : decode cX6_leave 24 = .ok (.iconst 4, 1) := by decide +kernel
theorem dX6_leave_25 : decode cX6_leave 25 = .ok (.iload_n 1, 1) := by decide +kernel
theorem dX6_leave_26 : decode cX6_leave 26 = .ok (.iconst 0, 1) := by decide +kernel
theorem dX6_leave_27 : decode cX6_leave 27 = .ok (.invokevirtual 154, 3) := by decide +kernel
theorem dX6_leave_30 : decode cX6_leave 30 = .ok (.iconst 0, 1) := by decide +kernel
theorem dX6_leave_31 : decode cX6_leave 31 = .ok (.istore_n 2, 1) := by decide +kernel
theorem dX6_leave_32 : decode cX6_leave 32 = .ok (.iconst 0, 1) := by decide +kernel
theorem dX6_leave_33 : decode cX6_leave 33 = .ok (.istore_n 3, 1) := by decide +kernel
theorem dX6_leave_34 : decode cX6_leave 34 = .ok (.iload_n 3, 1) := by decide +kernel
theorem dX6_leave_35 : decode cX6_leave 35 = .ok (.aload_n 0, 1) := by decide +kernel
theorem dX6_leave_36 : decode cX6_leave 36 = .ok (.getfield 29, 3) := by decide +kernel
theorem dX6_leave_39 : decode cX6_leave 39 = .ok (.invokevirtual 142, 3) := by decide +kernel
theorem dX6_leave_42 : decode cX6_leave 42 = .ok (.if_icmp .ge 42, 3) := by decide +kernel
theorem dX6_leave_45 : decode cX6_leave 45 = .ok (.aload_n 0, 1) := by decide +kernel
theorem dX6_leave_46 : decode cX6_leave 46 = .ok (.getfield 29, 3) := by decide +kernel
theorem dX6_leave_49 : decode cX6_leave 49 = .ok (.iload_n 3, 1) := by decide +kernel
theorem dX6_leave_50 : decode cX6_leave 50 = .ok (.invokevirtual 161, 3) := by decide +kernel
theorem dX6_leave_53 : decode cX6_leave 53 = .ok (.checkcast 145, 3) := by decide +kernel
theorem dX6_leave_56 : decode cX6_leave 56 = .ok (.astore 4, 2) := by decide +kernel
theorem dX6_leave_58 : decode cX6_leave 58 = .ok (.aload 4, 2) := by decide +kernel
theorem dX6_leave_60 : decode cX6_leave 60 = .ok (.getfield 165, 3) := by decide +kernel
theorem dX6_leave_63 : decode cX6_leave 63 = .ok (.ifCond .ne 15, 3) := by decide +kernel
theorem dX6_leave_66 : decode cX6_leave 66 = .ok (.aload 4, 2) := by decide +kernel
theorem dX6_leave_68 : decode cX6_leave 68 = .ok (.getfield 168, 3) := by decide +kernel
theorem dX6_leave_71 : decode cX6_leave 71 = .ok (.iload_n 1, 1) := by decide +kernel
theorem dX6_leave_72 : decode cX6_leave 72 = .ok (.if_icmp .ne 6, 3) := by decide +kernel
theorem dX6_leave_75 : decode cX6_leave 75 = .ok (.iinc 2 1, 3) := by decide +kernel
theorem dX6_leave_78 : decode cX6_leave 78 = .ok (.iinc 3 1, 3) := by decide +kernel
theorem dX6_leave_81 : decode cX6_leave 81 = .ok (.goto (-47), 3) := by decide +kernel
theorem dX6_leave_84 : decode cX6_leave 84 = .ok (.iload_n 2, 1) := by decide +kernel
theorem dX6_leave_85 : decode cX6_leave 85 = .ok (.ireturn, 1) := by decide +kernel
set_option maxRecDepth 20000 in
theorem ggX6_canAct_X6_checkPerson : GoodIn wsX6_canAct wsX6_checkPerson := goodIn_ca (goodIn_r _ [4, 5, 6] (by decide +kernel) (by decide +kernel)) (goodIn_sub (fun _ h => List.mem_cons_of_mem _ (List.mem_append_right _ h)) (by decide +kernel))
set_option maxRecDepth 20000 in
theorem gX6_canAct_X6_checkPerson : GoodIn wsX6_canAct (va_wsS RX6 110 yX6_checkPerson wsX6_checkPerson) := goodIn_app (goodIn_of _ (by decide +kernel)) ggX6_canAct_X6_checkPerson
set_option maxRecDepth 20000 in
theorem ggX6_canAct_X6_isAble : GoodIn wsX6_canAct wsX6_isAble := goodIn_r _ [10, 11, 12, 13, 14, 15, 3, 16, 17, 18, 19, 20, 21, 22, 23, 24, 25, 26, 27, 28, 29, 30, 31, 32] (by decide +kernel) (by decide +kernel)
set_option maxRecDepth 20000 in
theorem gX6_canAct_X6_isAble : GoodIn wsX6_canAct (wsV RX6 139 RX6 yX6_isAble wsX6_isAble) := goodIn_app (goodIn_of _ (by decide +kernel)) ggX6_canAct_X6_isAble
theorem dX6_canAct_0 : decode cX6_canAct 0 = .ok (.iload_n 1, 1) := by decide +kernel
theorem dX6_canAct_1 : decode cX6_canAct 1 = .ok (.invokestatic 110, 3) := by decide +kernel
theorem dX6_canAct_4 : decode cX6_canAct 4 = .ok (.aload_n 0, 1) := by decide +kernel
theorem dX6_canAct_5 : decode cX6_canAct 5 = .ok (.iload_n 1, 1) := by decide +kernel
theorem dX6_canAct_6 : decode cX6_canAct 6 = .ok (.invokevirtual 139, 3) := by decide +kernel
theorem dX6_canAct_9 : decode cX6_canAct 9 = .ok (.ireturn, 1) := by decide +kernel
set_option maxRecDepth 20000 in
theorem ggX6_advance_X6_endHour : GoodIn wsX6_advance wsX6_endHour := goodIn_r _ [10, 11, 12, 5, 13, 14, 15, 16, 17, 9, 18, 19, 20, 21, 22, 23, 24, 25, 26, 27, 28, 29, 30, 31, 32, 33, 34, 35, 36, 37, 38, 39, 40, 41, 42, 43, 44, 45, 46, 47, 48, 49, 50, 51, 52, 53, 54, 55, 56, 57, 58, 59, 60, 61, 62, 63, 64, 65, 66, 67, 68, 69, 70, 71, 72, 73, 74, 75, 76, 77, 78, 79, 80, 81, 82, 83, 84, 85, 86, 87, 88, 89, 90, 91, 92, 93, 94, 95, 96, 97, 98, 99, 100, 101, 102, 103, 104, 105, 106, 107, 108, 109, 110, 111, 112, 113, 114, 115, 116, 117, 118, 119, 120, 121, 122, 123, 124, 125, 126, 127, 128, 129, 130, 131, 132] (by decide +kernel) (by decide +kernel)
set_option maxRecDepth 20000 in
theorem gX6_advance_X6_endHour : GoodIn wsX6_advance (wsV RX6 197 RX6 yX6_endHour wsX6_endHour) := goodIn_app (goodIn_of _ (by decide +kernel)) ggX6_advance_X6_endHour
theorem dX6_advance_0 : decode cX6_advance 0 = .ok (.iload_n 1, 1) := by decide +kernel
theorem dX6_advance_1 : decode cX6_advance 1 = .ok (.iconst 1, 1) := by decide +kernel
theorem dX6_advance_2 : decode cX6_advance 2 = .ok (.if_icmp .lt 9, 3) := by decide +kernel
theorem dX6_advance_5 : decode cX6_advance 5 = .ok (.iload_n 1, 1) := by decide +kernel
theorem dX6_advance_6 : decode cX6_advance 6 = .ok (.bipush 100, 2) := by decide +kernel
theorem dX6_advance_8 : decode cX6_advance 8 = .ok (.if_icmp .le 13, 3) := by decide +kernel
theorem dX6_advance_11 : decode cX6_advance 11 = .ok (.new 84, 3) := by decide +kernel
theorem dX6_advance_14 : decode cX6_advance 14 = .ok (.dup, 1) := by decide +kernel
theorem dX6_advance_15 : decode cX6_advance 15 = .ok (.ldc 193, 2) := by decide +kernel
theorem dX6_advance_17 : decode cX6_advance 17 = .ok (.invokespecial 88, 3) := by decide +kernel
theorem dX6_advance_20 : decode cX6_advance 20 = .ok (.athrow, 1) := by decide +kernel
theorem dX6_advance_21 : decode cX6_advance 21 = .ok (.aload_n 0, 1) := by decide +kernel
theorem dX6_advance_22 : decode cX6_advance 22 = .ok (.getfield 56, 3) := by decide +kernel
theorem dX6_advance_25 : decode cX6_advance 25 = .ok (.iload_n 1, 1) := by decide +kernel
theorem dX6_advance_26 : decode cX6_advance 26 = .ok (.iadd, 1) := by decide +kernel
theorem dX6_advance_27 : decode cX6_advance 27 = .ok (.sipush 2000, 3) := by decide +kernel
theorem dX6_advance_30 : decode cX6_advance 30 = .ok (.if_icmp .le 13, 3) := by decide +kernel
theorem dX6_advance_33 : decode cX6_advance 33 = .ok (.new 95, 3) := by decide +kernel
theorem dX6_advance_36 : decode cX6_advance 36 = .ok (.dup, 1) := by decide +kernel
theorem dX6_advance_37 : decode cX6_advance 37 = .ok (.ldc 195, 2) := by decide +kernel
theorem dX6_advance_39 : decode cX6_advance 39 = .ok (.invokespecial 99, 3) := by decide +kernel
theorem dX6_advance_42 : decode cX6_advance 42 = .ok (.athrow, 1) := by decide +kernel
theorem dX6_advance_43 : decode cX6_advance 43 = .ok (.iconst 0, 1) := by decide +kernel
theorem dX6_advance_44 : decode cX6_advance 44 = .ok (.istore_n 2, 1) := by decide +kernel
theorem dX6_advance_45 : decode cX6_advance 45 = .ok (.iload_n 2, 1) := by decide +kernel
theorem dX6_advance_46 : decode cX6_advance 46 = .ok (.iload_n 1, 1) := by decide +kernel
theorem dX6_advance_47 : decode cX6_advance 47 = .ok (.if_icmp .ge 13, 3) := by decide +kernel
theorem dX6_advance_50 : decode cX6_advance 50 = .ok (.aload_n 0, 1) := by decide +kernel
theorem dX6_advance_51 : decode cX6_advance 51 = .ok (.invokevirtual 197, 3) := by decide +kernel
theorem dX6_advance_54 : decode cX6_advance 54 = .ok (.iinc 2 1, 3) := by decide +kernel
theorem dX6_advance_57 : decode cX6_advance 57 = .ok (.goto (-12), 3) := by decide +kernel
theorem dX6_advance_60 : decode cX6_advance 60 = .ok (.aload_n 0, 1) := by decide +kernel
theorem dX6_advance_61 : decode cX6_advance 61 = .ok (.getfield 56, 3) := by decide +kernel
theorem dX6_advance_64 : decode cX6_advance 64 = .ok (.ireturn, 1) := by decide +kernel
theorem dX6_hour_0 : decode cX6_hour 0 = .ok (.aload_n 0, 1) := by decide +kernel
theorem dX6_hour_1 : decode cX6_hour 1 = .ok (.getfield 56, 3) := by decide +kernel
theorem dX6_hour_4 : decode cX6_hour 4 = .ok (.ireturn, 1) := by decide +kernel
set_option maxRecDepth 20000 in
theorem ggX6_entries_X2_size : GoodIn wsX6_entries wsX2_size := goodIn_r _ [5, 6, 21, 22] (by decide +kernel) (by decide +kernel)
set_option maxRecDepth 20000 in
theorem gX6_entries_X2_size_n123 : GoodIn wsX6_entries (wsX2_size) := ggX6_entries_X2_size
theorem dX6_entries_0 : decode cX6_entries 0 = .ok (.aload_n 0, 1) := by decide +kernel
theorem dX6_entries_1 : decode cX6_entries 1 = .ok (.getfield 45, 3) := by decide +kernel
theorem dX6_entries_4 : decode cX6_entries 4 = .ok (.invokevirtual 123, 3) := by decide +kernel
theorem dX6_entries_7 : decode cX6_entries 7 = .ok (.ireturn, 1) := by decide +kernel
set_option maxRecDepth 20000 in
theorem ggX6_entryAt_X2_size : GoodIn wsX6_entryAt wsX2_size := goodIn_r _ [7, 8, 27, 28] (by decide +kernel) (by decide +kernel)
set_option maxRecDepth 20000 in
theorem gX6_entryAt_X2_size_n123 : GoodIn wsX6_entryAt (wsX2_size) := ggX6_entryAt_X2_size
set_option maxRecDepth 20000 in
theorem ggX6_entryAt_X2_codeAt : GoodIn wsX6_entryAt wsX2_codeAt := goodIn_r _ [11, 12, 27, 28] (by decide +kernel) (by decide +kernel)
set_option maxRecDepth 20000 in
theorem gX6_entryAt_X2_codeAt_n205 : GoodIn wsX6_entryAt (wsX2_codeAt) := ggX6_entryAt_X2_codeAt
theorem dX6_entryAt_0 : decode cX6_entryAt 0 = .ok (.iload_n 1, 1) := by decide +kernel
theorem dX6_entryAt_1 : decode cX6_entryAt 1 = .ok (.ifCond .lt 14, 3) := by decide +kernel
theorem dX6_entryAt_4 : decode cX6_entryAt 4 = .ok (.iload_n 1, 1) := by decide +kernel
theorem dX6_entryAt_5 : decode cX6_entryAt 5 = .ok (.aload_n 0, 1) := by decide +kernel
theorem dX6_entryAt_6 : decode cX6_entryAt 6 = .ok (.getfield 45, 3) := by decide +kernel
theorem dX6_entryAt_9 : decode cX6_entryAt 9 = .ok (.invokevirtual 123, 3) := by decide +kernel
theorem dX6_entryAt_12 : decode cX6_entryAt 12 = .ok (.if_icmp .lt 13, 3) := by decide +kernel
theorem dX6_entryAt_15 : decode cX6_entryAt 15 = .ok (.new 200, 3) := by decide +kernel
theorem dX6_entryAt_18 : decode cX6_entryAt 18 = .ok (.dup, 1) := by decide +kernel
theorem dX6_entryAt_19 : decode cX6_entryAt 19 = .ok (.ldc 202, 2) := by decide +kernel
theorem dX6_entryAt_21 : decode cX6_entryAt 21 = .ok (.invokespecial 204, 3) := by decide +kernel
theorem dX6_entryAt_24 : decode cX6_entryAt 24 = .ok (.athrow, 1) := by decide +kernel
theorem dX6_entryAt_25 : decode cX6_entryAt 25 = .ok (.aload_n 0, 1) := by decide +kernel
theorem dX6_entryAt_26 : decode cX6_entryAt 26 = .ok (.getfield 45, 3) := by decide +kernel
theorem dX6_entryAt_29 : decode cX6_entryAt 29 = .ok (.iload_n 1, 1) := by decide +kernel
theorem dX6_entryAt_30 : decode cX6_entryAt 30 = .ok (.invokevirtual 205, 3) := by decide +kernel
theorem dX6_entryAt_33 : decode cX6_entryAt 33 = .ok (.ireturn, 1) := by decide +kernel
set_option maxRecDepth 20000 in
theorem ggX6_alarm_X6_checkVessel : GoodIn wsX6_alarm wsX6_checkVessel := goodIn_ca (goodIn_r _ [12, 13, 14, 15, 16, 11, 17] (by decide +kernel) (by decide +kernel)) (goodIn_sub (fun _ h => List.mem_cons_of_mem _ (List.mem_append_right _ h)) (by decide +kernel))
set_option maxRecDepth 20000 in
theorem gX6_alarm_X6_checkVessel : GoodIn wsX6_alarm (va_wsS RX6 136 yX6_checkVessel wsX6_checkVessel) := goodIn_app (goodIn_of _ (by decide +kernel)) ggX6_alarm_X6_checkVessel
set_option maxRecDepth 20000 in
theorem ggX6_alarm_X6_checkValve : GoodIn wsX6_alarm wsX6_checkValve := goodIn_ca (goodIn_r _ [20, 13, 14] (by decide +kernel) (by decide +kernel)) (goodIn_sub (fun _ h => List.mem_cons_of_mem _ (List.mem_append_right _ h)) (by decide +kernel))
set_option maxRecDepth 20000 in
theorem gX6_alarm_X6_checkValve : GoodIn wsX6_alarm (va_wsS RX6 76 yX6_checkValve wsX6_checkValve) := goodIn_app (goodIn_of _ (by decide +kernel)) ggX6_alarm_X6_checkValve
set_option maxRecDepth 20000 in
theorem ggX6_alarm_Jx4a65c_size_8abf5 : GoodIn wsX6_alarm wsJx4a65c_size_8abf5 := goodIn_r _ [25, 26, 112, 113, 114] (by decide +kernel) (by decide +kernel)
set_option maxRecDepth 20000 in
theorem gX6_alarm_Jx4a65c_size_8abf5 : GoodIn wsX6_alarm (wsV RX6 142 RJx4a65c yJx4a65c_size_8abf5 wsJx4a65c_size_8abf5) := goodIn_app (goodIn_of _ (by decide +kernel)) ggX6_alarm_Jx4a65c_size_8abf5
set_option maxRecDepth 20000 in
theorem ggX6_alarm_X0_init : GoodIn wsX6_alarm wsX0_init := goodIn_r _ [28, 29, 30, 31, 32, 33, 34, 35, 36, 37, 106, 107, 108, 109, 110, 111] (by decide +kernel) (by decide +kernel)
set_option maxRecDepth 20000 in
theorem gX6_alarm_X0_init_n214 : GoodIn wsX6_alarm (wsX0_init) := ggX6_alarm_X0_init
set_option maxRecDepth 20000 in
theorem ggX6_alarm_Jx4a65c_add_9ea2d : GoodIn wsX6_alarm wsJx4a65c_add_9ea2d := goodIn_r _ [41, 42, 43, 44, 26, 45, 46, 47, 24, 48, 49, 50, 51, 52, 53, 54, 55, 56, 57, 58, 59, 60, 61, 62, 63, 64, 65, 66, 67, 68, 69, 70, 71, 72, 73, 74, 75, 76, 77, 78, 79, 80, 81, 82, 83, 84, 85, 86, 87, 88, 89, 90, 91, 112, 113, 114] (by decide +kernel) (by decide +kernel)
set_option maxRecDepth 20000 in
theorem gX6_alarm_Jx4a65c_add_9ea2d : GoodIn wsX6_alarm (wsV RX6 150 RJx4a65c yJx4a65c_add_9ea2d wsJx4a65c_add_9ea2d) := goodIn_app (goodIn_of _ (by decide +kernel)) ggX6_alarm_Jx4a65c_add_9ea2d
theorem dX6_alarm_0 : decode cX6_alarm 0 = .ok (.iload_n 1, 1) := by decide +kernel
theorem dX6_alarm_1 : decode cX6_alarm 1 = .ok (.invokestatic 136, 3) := by decide +kernel
theorem dX6_alarm_4 : decode cX6_alarm 4 = .ok (.iload 4, 2) := by decide +kernel
theorem dX6_alarm_6 : decode cX6_alarm 6 = .ok (.invokestatic 76, 3) := by decide +kernel
theorem dX6_alarm_9 : decode cX6_alarm 9 = .ok (.iload_n 2, 1) := by decide +kernel
theorem dX6_alarm_10 : decode cX6_alarm 10 = .ok (.ifCond .lt 10, 3) := by decide +kernel
theorem dX6_alarm_13 : decode cX6_alarm 13 = .ok (.iload_n 2, 1) := by decide +kernel
theorem dX6_alarm_14 : decode cX6_alarm 14 = .ok (.sipush 1000, 3) := by decide +kernel
theorem dX6_alarm_17 : decode cX6_alarm 17 = .ok (.if_icmp .le 13, 3) := by decide +kernel
theorem dX6_alarm_20 : decode cX6_alarm 20 = .ok (.new 84, 3) := by decide +kernel
theorem dX6_alarm_23 : decode cX6_alarm 23 = .ok (.dup, 1) := by decide +kernel
theorem dX6_alarm_24 : decode cX6_alarm 24 = .ok (.ldc 208, 2) := by decide +kernel
theorem dX6_alarm_26 : decode cX6_alarm 26 = .ok (.invokespecial 88, 3) := by decide +kernel
theorem dX6_alarm_29 : decode cX6_alarm 29 = .ok (.athrow, 1) := by decide +kernel
theorem dX6_alarm_30 : decode cX6_alarm 30 = .ok (.aload_n 0, 1) := by decide +kernel
theorem dX6_alarm_31 : decode cX6_alarm 31 = .ok (.getfield 33, 3) := by decide +kernel
theorem dX6_alarm_34 : decode cX6_alarm 34 = .ok (.invokevirtual 142, 3) := by decide +kernel
theorem dX6_alarm_37 : decode cX6_alarm 37 = .ok (.bipush 10, 2) := by decide +kernel
theorem dX6_alarm_39 : decode cX6_alarm 39 = .ok (.if_icmp .lt 13, 3) := by decide +kernel
theorem dX6_alarm_42 : decode cX6_alarm 42 = .ok (.new 95, 3) := by decide +kernel
theorem dX6_alarm_45 : decode cX6_alarm 45 = .ok (.dup, 1) := by decide +kernel
theorem dX6_alarm_46 : decode cX6_alarm 46 = .ok (.ldc 210, 2) := by decide +kernel
theorem dX6_alarm_48 : decode cX6_alarm 48 = .ok (.invokespecial 99, 3) := by decide +kernel
theorem dX6_alarm_51 : decode cX6_alarm 51 = .ok (.athrow, 1) := by decide +kernel
theorem dX6_alarm_52 : decode cX6_alarm 52 = .ok (.aload_n 0, 1) := by decide +kernel
theorem dX6_alarm_53 : decode cX6_alarm 53 = .ok (.getfield 33, 3) := by decide +kernel
theorem dX6_alarm_56 : decode cX6_alarm 56 = .ok (.new 212, 3) := by decide +kernel
theorem dX6_alarm_59 : decode cX6_alarm 59 = .ok (.dup, 1) := by decide +kernel
theorem dX6_alarm_60 : decode cX6_alarm 60 = .ok (.iload_n 1, 1) := by decide +kernel
theorem dX6_alarm_61 : decode cX6_alarm 61 = .ok (.iload_n 2, 1) := by decide +kernel
theorem dX6_alarm_62 : decode cX6_alarm 62 = .ok (.iload_n 3, 1) := by decide +kernel
theorem dX6_alarm_63 : decode cX6_alarm 63 = .ok (.iload 4, 2) := by decide +kernel
theorem dX6_alarm_65 : decode cX6_alarm 65 = .ok (.iload 5, 2) := by decide +kernel
theorem dX6_alarm_67 : decode cX6_alarm 67 = .ok (.invokespecial 214, 3) := by decide +kernel
theorem dX6_alarm_70 : decode cX6_alarm 70 = .ok (.invokevirtual 150, 3) := by decide +kernel
theorem dX6_alarm_73 : decode cX6_alarm 73 = .ok (.pop, 1) := by decide +kernel
theorem dX6_alarm_74 : decode cX6_alarm 74 = .ok (.aload_n 0, 1) := by decide +kernel
theorem dX6_alarm_75 : decode cX6_alarm 75 = .ok (.getfield 33, 3) := by decide +kernel
theorem dX6_alarm_78 : decode cX6_alarm 78 = .ok (.invokevirtual 142, 3) := by decide +kernel
theorem dX6_alarm_81 : decode cX6_alarm 81 = .ok (.iconst 1, 1) := by decide +kernel
theorem dX6_alarm_82 : decode cX6_alarm 82 = .ok (.isub, 1) := by decide +kernel
theorem dX6_alarm_83 : decode cX6_alarm 83 = .ok (.ireturn, 1) := by decide +kernel
set_option maxRecDepth 20000 in
theorem ggX6_stateOf_Jx4a65c_size_8abf5 : GoodIn wsX6_stateOf wsJx4a65c_size_8abf5 := goodIn_r _ [9, 10, 48, 49, 50] (by decide +kernel) (by decide +kernel)
set_option maxRecDepth 20000 in
theorem gX6_stateOf_Jx4a65c_size_8abf5 : GoodIn wsX6_stateOf (wsV RX6 142 RJx4a65c yJx4a65c_size_8abf5 wsJx4a65c_size_8abf5) := goodIn_app (goodIn_of _ (by decide +kernel)) ggX6_stateOf_Jx4a65c_size_8abf5
set_option maxRecDepth 20000 in
theorem ggX6_stateOf_Jx4a65c_get_915e3 : GoodIn wsX6_stateOf wsJx4a65c_get_915e3 := goodIn_r _ [14, 10, 15, 16, 17, 18, 19, 20, 21, 22, 23, 24, 25, 8, 26, 27, 48, 49, 50] (by decide +kernel) (by decide +kernel)
set_option maxRecDepth 20000 in
theorem gX6_stateOf_Jx4a65c_get_915e3 : GoodIn wsX6_stateOf (wsV RX6 161 RJx4a65c yJx4a65c_get_915e3 wsJx4a65c_get_915e3) := goodIn_app (goodIn_of _ (by decide +kernel)) ggX6_stateOf_Jx4a65c_get_915e3
theorem dX6_stateOf_0 : decode cX6_stateOf 0 = .ok (.iload_n 1, 1) := by decide +kernel
theorem dX6_stateOf_1 : decode cX6_stateOf 1 = .ok (.ifCond .lt 14, 3) := by decide +kernel
theorem dX6_stateOf_4 : decode cX6_stateOf 4 = .ok (.iload_n 1, 1) := by decide +kernel
theorem dX6_stateOf_5 : decode cX6_stateOf 5 = .ok (.aload_n 0, 1) := by decide +kernel
theorem dX6_stateOf_6 : decode cX6_stateOf 6 = .ok (.getfield 33, 3) := by decide +kernel
theorem dX6_stateOf_9 : decode cX6_stateOf 9 = .ok (.invokevirtual 142, 3) := by decide +kernel
theorem dX6_stateOf_12 : decode cX6_stateOf 12 = .ok (.if_icmp .lt 13, 3) := by decide +kernel
theorem dX6_stateOf_15 : decode cX6_stateOf 15 = .ok (.new 200, 3) := by decide +kernel
theorem dX6_stateOf_18 : decode cX6_stateOf 18 = .ok (.dup, 1) := by decide +kernel
theorem dX6_stateOf_19 : decode cX6_stateOf 19 = .ok (.ldc 217, 2) := by decide +kernel
theorem dX6_stateOf_21 : decode cX6_stateOf 21 = .ok (.invokespecial 204, 3) := by decide +kernel
theorem dX6_stateOf_24 : decode cX6_stateOf 24 = .ok (.athrow, 1) := by decide +kernel
theorem dX6_stateOf_25 : decode cX6_stateOf 25 = .ok (.aload_n 0, 1) := by decide +kernel
theorem dX6_stateOf_26 : decode cX6_stateOf 26 = .ok (.getfield 33, 3) := by decide +kernel
theorem dX6_stateOf_29 : decode cX6_stateOf 29 = .ok (.iload_n 1, 1) := by decide +kernel
theorem dX6_stateOf_30 : decode cX6_stateOf 30 = .ok (.invokevirtual 161, 3) := by decide +kernel
theorem dX6_stateOf_33 : decode cX6_stateOf 33 = .ok (.checkcast 212, 3) := by decide +kernel
theorem dX6_stateOf_36 : decode cX6_stateOf 36 = .ok (.getfield 219, 3) := by decide +kernel
theorem dX6_stateOf_39 : decode cX6_stateOf 39 = .ok (.ireturn, 1) := by decide +kernel
set_option maxRecDepth 20000 in
theorem ggX6_insert_X1_length : GoodIn wsX6_insert wsX1_length := goodIn_r _ [9, 10, 29, 30] (by decide +kernel) (by decide +kernel)
set_option maxRecDepth 20000 in
theorem gX6_insert_X1_length_n222 : GoodIn wsX6_insert (wsX1_length) := ggX6_insert_X1_length
set_option maxRecDepth 20000 in
theorem ggX6_insert_X1_put : GoodIn wsX6_insert wsX1_put := goodIn_r _ [13, 10, 14, 29, 30] (by decide +kernel) (by decide +kernel)
set_option maxRecDepth 20000 in
theorem gX6_insert_X1_put_n229 : GoodIn wsX6_insert (wsX1_put) := ggX6_insert_X1_put
theorem dX6_insert_0 : decode cX6_insert 0 = .ok (.iload_n 1, 1) := by decide +kernel
theorem dX6_insert_1 : decode cX6_insert 1 = .ok (.ifCond .lt 14, 3) := by decide +kernel
theorem dX6_insert_4 : decode cX6_insert 4 = .ok (.iload_n 1, 1) := by decide +kernel
theorem dX6_insert_5 : decode cX6_insert 5 = .ok (.aload_n 0, 1) := by decide +kernel
theorem dX6_insert_6 : decode cX6_insert 6 = .ok (.getfield 52, 3) := by decide +kernel
theorem dX6_insert_9 : decode cX6_insert 9 = .ok (.invokevirtual 222, 3) := by decide +kernel
theorem dX6_insert_12 : decode cX6_insert 12 = .ok (.if_icmp .le 13, 3) := by decide +kernel
theorem dX6_insert_15 : decode cX6_insert 15 = .ok (.new 84, 3) := by decide +kernel
theorem dX6_insert_18 : decode cX6_insert 18 = .ok (.dup, 1) := by decide +kernel
theorem dX6_insert_19 : decode cX6_insert 19 = .ok (.ldc 225, 2) := by decide +kernel
theorem dX6_insert_21 : decode cX6_insert 21 = .ok (.invokespecial 88, 3) := by decide +kernel
theorem dX6_insert_24 : decode cX6_insert 24 = .ok (.athrow, 1) := by decide +kernel
theorem dX6_insert_25 : decode cX6_insert 25 = .ok (.aload_n 0, 1) := by decide +kernel
theorem dX6_insert_26 : decode cX6_insert 26 = .ok (.getfield 52, 3) := by decide +kernel
theorem dX6_insert_29 : decode cX6_insert 29 = .ok (.invokevirtual 222, 3) := by decide +kernel
theorem dX6_insert_32 : decode cX6_insert 32 = .ok (.bipush 40, 2) := by decide +kernel
theorem dX6_insert_34 : decode cX6_insert 34 = .ok (.if_icmp .lt 13, 3) := by decide +kernel
theorem dX6_insert_37 : decode cX6_insert 37 = .ok (.new 95, 3) := by decide +kernel
theorem dX6_insert_40 : decode cX6_insert 40 = .ok (.dup, 1) := by decide +kernel
theorem dX6_insert_41 : decode cX6_insert 41 = .ok (.ldc 227, 2) := by decide +kernel
theorem dX6_insert_43 : decode cX6_insert 43 = .ok (.invokespecial 99, 3) := by decide +kernel
theorem dX6_insert_46 : decode cX6_insert 46 = .ok (.athrow, 1) := by decide +kernel
theorem dX6_insert_47 : decode cX6_insert 47 = .ok (.aload_n 0, 1) := by decide +kernel
theorem dX6_insert_48 : decode cX6_insert 48 = .ok (.getfield 52, 3) := by decide +kernel
theorem dX6_insert_51 : decode cX6_insert 51 = .ok (.iload_n 1, 1) := by decide +kernel
theorem dX6_insert_52 : decode cX6_insert 52 = .ok (.iload_n 2, 1) := by decide +kernel
theorem dX6_insert_53 : decode cX6_insert 53 = .ok (.invokevirtual 229, 3) := by decide +kernel
theorem dX6_insert_56 : decode cX6_insert 56 = .ok (.aload_n 0, 1) := by decide +kernel
theorem dX6_insert_57 : decode cX6_insert 57 = .ok (.getfield 52, 3) := by decide +kernel
theorem dX6_insert_60 : decode cX6_insert 60 = .ok (.invokevirtual 222, 3) := by decide +kernel
theorem dX6_insert_63 : decode cX6_insert 63 = .ok (.ireturn, 1) := by decide +kernel
set_option maxRecDepth 20000 in
theorem ggX6_clear_X1_length : GoodIn wsX6_clear wsX1_length := goodIn_r _ [5, 6, 24, 25] (by decide +kernel) (by decide +kernel)
set_option maxRecDepth 20000 in
theorem gX6_clear_X1_length_n222 : GoodIn wsX6_clear (wsX1_length) := ggX6_clear_X1_length
set_option maxRecDepth 20000 in
theorem ggX6_clear_X1_wipe : GoodIn wsX6_clear wsX1_wipe := goodIn_r _ [9, 6, 24, 25] (by decide +kernel) (by decide +kernel)
set_option maxRecDepth 20000 in
theorem gX6_clear_X1_wipe_n233 : GoodIn wsX6_clear (wsX1_wipe) := ggX6_clear_X1_wipe
theorem dX6_clear_0 : decode cX6_clear 0 = .ok (.aload_n 0, 1) := by decide +kernel
theorem dX6_clear_1 : decode cX6_clear 1 = .ok (.getfield 52, 3) := by decide +kernel
theorem dX6_clear_4 : decode cX6_clear 4 = .ok (.invokevirtual 222, 3) := by decide +kernel
theorem dX6_clear_7 : decode cX6_clear 7 = .ok (.istore_n 1, 1) := by decide +kernel
theorem dX6_clear_8 : decode cX6_clear 8 = .ok (.aload_n 0, 1) := by decide +kernel
theorem dX6_clear_9 : decode cX6_clear 9 = .ok (.getfield 52, 3) := by decide +kernel
theorem dX6_clear_12 : decode cX6_clear 12 = .ok (.invokevirtual 233, 3) := by decide +kernel
theorem dX6_clear_15 : decode cX6_clear 15 = .ok (.iload_n 1, 1) := by decide +kernel
theorem dX6_clear_16 : decode cX6_clear 16 = .ok (.ireturn, 1) := by decide +kernel
set_option maxRecDepth 20000 in
theorem ggX6_isWhole_X1_isComplete : GoodIn wsX6_isWhole wsX1_isComplete := goodIn_r _ [5, 6, 7, 8, 9, 3, 10, 11, 12, 13, 14, 15, 16, 31, 32] (by decide +kernel) (by decide +kernel)
set_option maxRecDepth 20000 in
theorem gX6_isWhole_X1_isComplete_n236 : GoodIn wsX6_isWhole (wsX1_isComplete) := ggX6_isWhole_X1_isComplete
theorem dX6_isWhole_0 : decode cX6_isWhole 0 = .ok (.aload_n 0, 1) := by decide +kernel
theorem dX6_isWhole_1 : decode cX6_isWhole 1 = .ok (.getfield 52, 3) := by decide +kernel
theorem dX6_isWhole_4 : decode cX6_isWhole 4 = .ok (.invokevirtual 236, 3) := by decide +kernel
theorem dX6_isWhole_7 : decode cX6_isWhole 7 = .ok (.ireturn, 1) := by decide +kernel
set_option maxRecDepth 20000 in
theorem ggX6_post_X6_checkPerson : GoodIn wsX6_post wsX6_checkPerson := goodIn_ca (goodIn_r _ [12, 13, 14] (by decide +kernel) (by decide +kernel)) (goodIn_sub (fun _ h => List.mem_cons_of_mem _ (List.mem_append_right _ h)) (by decide +kernel))
set_option maxRecDepth 20000 in
theorem gX6_post_X6_checkPerson : GoodIn wsX6_post (va_wsS RX6 110 yX6_checkPerson wsX6_checkPerson) := goodIn_app (goodIn_of _ (by decide +kernel)) ggX6_post_X6_checkPerson
set_option maxRecDepth 20000 in
theorem ggX6_post_X6_checkThread : GoodIn wsX6_post wsX6_checkThread := goodIn_ca (goodIn_r _ [18, 13, 14, 8, 145, 146, 147, 148, 149, 150, 151, 152, 153, 154, 155, 156, 157, 158] (by decide +kernel) (by decide +kernel)) (goodIn_sub (fun _ h => List.mem_cons_of_mem _ (List.mem_append_right _ h)) (by decide +kernel))
set_option maxRecDepth 20000 in
theorem gX6_post_X6_checkThread : GoodIn wsX6_post (wsV RX6 240 RX6 yX6_checkThread wsX6_checkThread) := goodIn_app (goodIn_of _ (by decide +kernel)) ggX6_post_X6_checkThread
set_option maxRecDepth 20000 in
theorem ggX6_post_X6_checkNotGone : GoodIn wsX6_post wsX6_checkNotGone := goodIn_ca (goodIn_r _ [22, 1, 2, 23, 145, 146, 147, 148, 149, 150, 151, 152, 153, 154, 155, 156, 157, 158] (by decide +kernel) (by decide +kernel)) (goodIn_sub (fun _ h => List.mem_cons_of_mem _ (List.mem_append_left _ (List.mem_append_right _ h))) (by decide +kernel))
set_option maxRecDepth 20000 in
theorem gX6_post_X6_checkNotGone : GoodIn wsX6_post (wsV RX6 190 RX6 yX6_checkNotGone wsX6_checkNotGone) := goodIn_app (goodIn_of _ (by decide +kernel)) ggX6_post_X6_checkNotGone
set_option maxRecDepth 20000 in
theorem ggX6_post_X1_isComplete : GoodIn wsX6_post wsX1_isComplete := goodIn_r _ [27, 28, 29, 30, 31, 25, 32, 33, 34, 35, 36, 37, 38, 160, 161] (by decide +kernel) (by decide +kernel)
set_option maxRecDepth 20000 in
theorem gX6_post_X1_isComplete_n236 : GoodIn wsX6_post (wsX1_isComplete) := ggX6_post_X1_isComplete
set_option maxRecDepth 20000 in
theorem ggX6_post_Jx4a65c_size_8abf5 : GoodIn wsX6_post wsJx4a65c_size_8abf5 := goodIn_r _ [43, 44, 162, 163, 164] (by decide +kernel) (by decide +kernel)
set_option maxRecDepth 20000 in
theorem gX6_post_Jx4a65c_size_8abf5 : GoodIn wsX6_post (wsV RX6 142 RJx4a65c yJx4a65c_size_8abf5 wsJx4a65c_size_8abf5) := goodIn_app (goodIn_of _ (by decide +kernel)) ggX6_post_Jx4a65c_size_8abf5
set_option maxRecDepth 20000 in
theorem ggX6_post_X1_toSigns : GoodIn wsX6_post wsX1_toSigns := goodIn_r _ [47, 28, 48, 29, 49, 50, 51, 25, 52, 35, 36, 37, 38, 33, 53, 54, 55, 56, 160, 161] (by decide +kernel) (by decide +kernel)
set_option maxRecDepth 20000 in
theorem gX6_post_X1_toSigns_n247 : GoodIn wsX6_post (wsX1_toSigns) := ggX6_post_X1_toSigns
set_option maxRecDepth 20000 in
theorem ggX6_post_X3_init : GoodIn wsX6_post wsX3_init := goodIn_r _ [58, 59, 60, 61, 62, 159] (by decide +kernel) (by decide +kernel)
set_option maxRecDepth 20000 in
theorem gX6_post_X3_init_n251 : GoodIn wsX6_post (wsX3_init) := ggX6_post_X3_init
set_option maxRecDepth 20000 in
theorem ggX6_post_Jx4a65c_add_9ea2d : GoodIn wsX6_post wsJx4a65c_add_9ea2d := goodIn_r _ [66, 67, 68, 69, 44, 70, 71, 72, 42, 73, 74, 75, 76, 77, 78, 79, 80, 81, 82, 83, 84, 85, 86, 87, 88, 89, 90, 91, 92, 93, 94, 95, 96, 97, 98, 99, 100, 101, 102, 103, 104, 105, 106, 107, 108, 109, 110, 111, 112, 113, 114, 115, 116, 162, 163, 164] (by decide +kernel) (by decide +kernel)
set_option maxRecDepth 20000 in
theorem gX6_post_Jx4a65c_add_9ea2d : GoodIn wsX6_post (wsV RX6 150 RJx4a65c yJx4a65c_add_9ea2d wsJx4a65c_add_9ea2d) := goodIn_app (goodIn_of _ (by decide +kernel)) ggX6_post_Jx4a65c_add_9ea2d
set_option maxRecDepth 20000 in
theorem ggX6_post_X1_wipe : GoodIn wsX6_post wsX1_wipe := goodIn_r _ [119, 28, 160, 161] (by decide +kernel) (by decide +kernel)
set_option maxRecDepth 20000 in
theorem gX6_post_X1_wipe_n233 : GoodIn wsX6_post (wsX1_wipe) := ggX6_post_X1_wipe
set_option maxRecDepth 20000 in
theorem ggX6_post_X3_personCalled : GoodIn wsX6_post wsX3_personCalled := goodIn_r _ [122, 62, 159] (by decide +kernel) (by decide +kernel)
set_option maxRecDepth 20000 in
theorem gX6_post_X3_personCalled_n254 : GoodIn wsX6_post (wsX3_personCalled) := ggX6_post_X3_personCalled
set_option maxRecDepth 20000 in
theorem ggX6_post_X6_assign : GoodIn wsX6_post wsX6_assign := goodIn_r _ [126, 127, 128, 129, 130, 131, 132, 133, 134, 135, 136, 137, 99, 138, 139, 140, 141, 142, 143, 144, 48, 110, 111, 85, 112, 113, 114, 115, 116, 145, 146, 147, 148, 149, 150, 151, 152, 153, 154, 155, 156, 157, 158, 165, 166] (by decide +kernel) (by decide +kernel)
set_option maxRecDepth 20000 in
theorem gX6_post_X6_assign : GoodIn wsX6_post (wsV RX6 257 RX6 yX6_assign wsX6_assign) := goodIn_app (goodIn_of _ (by decide +kernel)) ggX6_post_X6_assign
theorem dX6_post_0 : decode cX6_post 0 = .ok (.iload_n 1, 1) := by decide +kernel
theorem dX6_post_1 : decode cX6_post 1 = .ok (.invokestatic 110, 3) := by decide +kernel
theorem dX6_post_4 : decode cX6_post 4 = .ok (.iload_n 2, 1) := by decide +kernel
theorem dX6_post_5 : decode cX6_post 5 = .ok (.iconst (-1), 1) := by decide +kernel
theorem dX6_post_6 : decode cX6_post 6 = .ok (.if_icmp .eq 8, 3) := by decide +kernel
theorem dX6_post_9 : decode cX6_post 9 = .ok (.aload_n 0, 1) := by decide +kernel
theorem dX6_post_10 : decode cX6_post 10 = .ok (.iload_n 2, 1) := by decide +kernel
theorem dX6_post_11 : decode cX6_post 11 = .ok (.invokevirtual 240, 3) := by decide +kernel
theorem dX6_post_14 : decode cX6_post 14 = .ok (.aload_n 0, 1) := by decide +kernel
theorem dX6_post_15 : decode cX6_post 15 = .ok (.iload_n 1, 1) := by decide +kernel
theorem dX6_post_16 : decode cX6_post 16 = .ok (.invokevirtual 190, 3) := by decide +kernel
theorem dX6_post_19 : decode cX6_post 19 = .ok (.aload_n 0, 1) := by decide +kernel
theorem dX6_post_20 : decode cX6_post 20 = .ok (.getfield 52, 3) := by decide +kernel
theorem dX6_post_23 : decode cX6_post 23 = .ok (.invokevirtual 236, 3) := by decide +kernel
theorem dX6_post_26 : decode cX6_post 26 = .ok (.ifCond .eq 15, 3) := by decide +kernel
theorem dX6_post_29 : decode cX6_post 29 = .ok (.aload_n 0, 1) := by decide +kernel
theorem dX6_post_30 : decode cX6_post 30 = .ok (.getfield 36, 3) := by decide +kernel
theorem dX6_post_33 : decode cX6_post 33 = .ok (.invokevirtual 142, 3) := by decide +kernel
theorem dX6_post_36 : decode cX6_post 36 = .ok (.bipush 60, 2) := by decide +kernel
theorem dX6_post_38 : decode cX6_post 38 = .ok (.if_icmp .lt 13, 3) := by decide +kernel
theorem dX6_post_41 : decode cX6_post 41 = .ok (.new 95, 3) := by decide +kernel
theorem dX6_post_44 : decode cX6_post 44 = .ok (.dup, 1) := by decide +kernel
theorem dX6_post_45 : decode cX6_post 45 = .ok (.ldc 243, 2) := by decide +kernel
theorem dX6_post_47 : decode cX6_post 47 = .ok (.invokespecial 99, 3) := by decide +kernel
theorem dX6_post_50 : decode cX6_post 50 = .ok (.athrow, 1) := by decide +kernel
theorem dX6_post_51 : decode cX6_post 51 = .ok (.new 245, 3) := by decide +kernel
theorem dX6_post_54 : decode cX6_post 54 = .ok (.dup, 1) := by decide +kernel
theorem dX6_post_55 : decode cX6_post 55 = .ok (.aload_n 0, 1) := by decide +kernel
theorem dX6_post_56 : decode cX6_post 56 = .ok (.getfield 52, 3) := by decide +kernel
theorem dX6_post_59 : decode cX6_post 59 = .ok (.invokevirtual 247, 3) := by decide +kernel
theorem dX6_post_62 : decode cX6_post 62 = .ok (.invokespecial 251, 3) := by decide +kernel
theorem dX6_post_65 : decode cX6_post 65 = .ok (.astore_n 3, 1) := by decide +kernel
theorem dX6_post_66 : decode cX6_post 66 = .ok (.aload_n 0, 1) := by decide +kernel
theorem dX6_post_67 : decode cX6_post 67 = .ok (.getfield 36, 3) := by decide +kernel
theorem dX6_post_70 : decode cX6_post 70 = .ok (.aload_n 3, 1) := by decide +kernel
theorem dX6_post_71 : decode cX6_post 71 = .ok (.invokevirtual 150, 3) := by decide +kernel
theorem dX6_post_74 : decode cX6_post 74 = .ok (.pop, 1) := by decide +kernel
theorem dX6_post_75 : decode cX6_post 75 = .ok (.aload_n 0, 1) := by decide +kernel
theorem dX6_post_76 : decode cX6_post 76 = .ok (.getfield 52, 3) := by decide +kernel
theorem dX6_post_79 : decode cX6_post 79 = .ok (.invokevirtual 233, 3) := by decide +kernel
theorem dX6_post_82 : decode cX6_post 82 = .ok (.iload_n 2, 1) := by decide +kernel
theorem dX6_post_83 : decode cX6_post 83 = .ok (.istore 4, 2) := by decide +kernel
theorem dX6_post_85 : decode cX6_post 85 = .ok (.iload_n 2, 1) := by decide +kernel
theorem dX6_post_86 : decode cX6_post 86 = .ok (.iconst (-1), 1) := by decide +kernel
theorem dX6_post_87 : decode cX6_post 87 = .ok (.if_icmp .ne 19, 3) := by decide +kernel
theorem dX6_post_90 : decode cX6_post 90 = .ok (.aload_n 0, 1) := by decide +kernel
theorem dX6_post_91 : decode cX6_post 91 = .ok (.getfield 66, 3) := by decide +kernel
theorem dX6_post_94 : decode cX6_post 94 = .ok (.istore 4, 2) := by decide +kernel
theorem dX6_post_96 : decode cX6_post 96 = .ok (.aload_n 0, 1) := by decide +kernel
theorem dX6_post_97 : decode cX6_post 97 = .ok (.dup, 1) := by decide +kernel
theorem dX6_post_98 : decode cX6_post 98 = .ok (.getfield 66, 3) := by decide +kernel
theorem dX6_post_101 : decode cX6_post 101 = .ok (.iconst 1, 1) := by decide +kernel
theorem dX6_post_102 : decode cX6_post 102 = .ok (.iadd, 1) := by decide +kernel
theorem dX6_post_103 : decode cX6_post 103 = .ok (.putfield 66, 3) := by decide +kernel
theorem dX6_post_106 : decode cX6_post 106 = .ok (.aload_n 0, 1) := by decide +kernel
theorem dX6_post_107 : decode cX6_post 107 = .ok (.iload 4, 2) := by decide +kernel
theorem dX6_post_109 : decode cX6_post 109 = .ok (.aload_n 3, 1) := by decide +kernel
theorem dX6_post_110 : decode cX6_post 110 = .ok (.invokevirtual 254, 3) := by decide +kernel
theorem dX6_post_113 : decode cX6_post 113 = .ok (.invokevirtual 257, 3) := by decide +kernel
theorem dX6_post_116 : decode cX6_post 116 = .ok (.iload 4, 2) := by decide +kernel
theorem dX6_post_118 : decode cX6_post 118 = .ok (.ireturn, 1) := by decide +kernel
set_option maxRecDepth 20000 in
theorem ggX6_finish_X6_checkPerson : GoodIn wsX6_finish wsX6_checkPerson := goodIn_ca (goodIn_r _ [9, 10, 11] (by decide +kernel) (by decide +kernel)) (goodIn_sub (fun _ h => List.mem_cons_of_mem _ (List.mem_append_right _ h)) (by decide +kernel))
set_option maxRecDepth 20000 in
theorem gX6_finish_X6_checkPerson : GoodIn wsX6_finish (va_wsS RX6 110 yX6_checkPerson wsX6_checkPerson) := goodIn_app (goodIn_of _ (by decide +kernel)) ggX6_finish_X6_checkPerson
set_option maxRecDepth 20000 in
theorem ggX6_finish_X6_checkThread : GoodIn wsX6_finish wsX6_checkThread := goodIn_ca (goodIn_r _ [15, 10, 11, 16, 47, 48, 49, 50, 51, 52, 53, 54, 55, 56, 57, 58, 59, 60] (by decide +kernel) (by decide +kernel)) (goodIn_sub (fun _ h => List.mem_cons_of_mem _ (List.mem_append_right _ h)) (by decide +kernel))
set_option maxRecDepth 20000 in
theorem gX6_finish_X6_checkThread : GoodIn wsX6_finish (wsV RX6 240 RX6 yX6_checkThread wsX6_checkThread) := goodIn_app (goodIn_of _ (by decide +kernel)) ggX6_finish_X6_checkThread
set_option maxRecDepth 20000 in
theorem ggX6_finish_X6_checkNotGone : GoodIn wsX6_finish wsX6_checkNotGone := goodIn_ca (goodIn_r _ [20, 1, 2, 21, 47, 48, 49, 50, 51, 52, 53, 54, 55, 56, 57, 58, 59, 60] (by decide +kernel) (by decide +kernel)) (goodIn_sub (fun _ h => List.mem_cons_of_mem _ (List.mem_append_left _ (List.mem_append_right _ h))) (by decide +kernel))
set_option maxRecDepth 20000 in
theorem gX6_finish_X6_checkNotGone : GoodIn wsX6_finish (wsV RX6 190 RX6 yX6_checkNotGone wsX6_checkNotGone) := goodIn_app (goodIn_of _ (by decide +kernel)) ggX6_finish_X6_checkNotGone
set_option maxRecDepth 20000 in
theorem ggX6_finish_X2_note : GoodIn wsX6_finish wsX2_note := goodIn_r _ [25, 26, 27, 28, 29, 30, 31, 32, 33, 34, 35, 36, 37, 38, 39, 40, 41, 42, 43, 44, 45, 46, 61, 62] (by decide +kernel) (by decide +kernel)
set_option maxRecDepth 20000 in
theorem gX6_finish_X2_note_n154 : GoodIn wsX6_finish (wsX2_note) := ggX6_finish_X2_note
theorem dX6_finish_0 : decode cX6_finish 0 = .ok (.iload_n 1, 1) := by decide +kernel
theorem dX6_finish_1 : decode cX6_finish 1 = .ok (.invokestatic 110, 3) := by decide +kernel
theorem dX6_finish_4 : decode cX6_finish 4 = .ok (.aload_n 0, 1) := by decide +kernel
theorem dX6_finish_5 : decode cX6_finish 5 = .ok (.iload_n 2, 1) := by decide +kernel
theorem dX6_finish_6 : decode cX6_finish 6 = .ok (.invokevirtual 240, 3) := by decide +kernel
theorem dX6_finish_9 : decode cX6_finish 9 = .ok (.aload_n 0, 1) := by decide +kernel
theorem dX6_finish_10 : decode cX6_finish 10 = .ok (.iload_n 1, 1) := by decide +kernel
theorem dX6_finish_11 : decode cX6_finish 11 = .ok (.invokevirtual 190, 3) := by decide +kernel
theorem dX6_finish_14 : decode cX6_finish 14 = .ok (.aload_n 0, 1) := by decide +kernel
theorem dX6_finish_15 : decode cX6_finish 15 = .ok (.getfield 39, 3) := by decide +kernel
theorem dX6_finish_18 : decode cX6_finish 18 = .ok (.iload_n 2, 1) := by decide +kernel
theorem dX6_finish_19 : decode cX6_finish 19 = .ok (.iaload, 1) := by decide +kernel
theorem dX6_finish_20 : decode cX6_finish 20 = .ok (.iload_n 1, 1) := by decide +kernel
theorem dX6_finish_21 : decode cX6_finish 21 = .ok (.if_icmp .eq 14, 3) := by decide +kernel
theorem dX6_finish_24 : decode cX6_finish 24 = .ok (.new 95, 3) := by decide +kernel
theorem dX6_finish_27 : decode cX6_finish 27 = .ok (.dup, 1) := by decide +kernel
theorem dX6_finish_28 : decode cX6_finish 28 = .ok (.ldc_w 260, 3) := by decide +kernel
theorem dX6_finish_31 : decode cX6_finish 31 = .ok (.invokespecial 99, 3) := by decide +kernel
theorem dX6_finish_34 : decode cX6_finish 34 = .ok (.athrow, 1) := by decide +kernel
theorem dX6_finish_35 : decode cX6_finish 35 = .ok (.aload_n 0, 1) := by decide +kernel
theorem dX6_finish_36 : decode cX6_finish 36 = .ok (.getfield 39, 3) := by decide +kernel
theorem dX6_finish_39 : decode cX6_finish 39 = .ok (.iload_n 2, 1) := by decide +kernel
theorem dX6_finish_40 : decode cX6_finish 40 = .ok (.iconst (-1), 1) := by decide +kernel
theorem dX6_finish_41 : decode cX6_finish 41 = .ok (.iastore, 1) := by decide +kernel
theorem dX6_finish_42 : decode cX6_finish 42 = .ok (.aload_n 0, 1) := by decide +kernel
theorem dX6_finish_43 : decode cX6_finish 43 = .ok (.getfield 45, 3) := by decide +kernel
theorem dX6_finish_46 : decode cX6_finish 46 = .ok (.aload_n 0, 1) := by decide +kernel
theorem dX6_finish_47 : decode cX6_finish 47 = .ok (.getfield 56, 3) := by decide +kernel
theorem dX6_finish_50 : decode cX6_finish 50 = .ok (.bipush 6, 2) := by decide +kernel
theorem dX6_finish_52 : decode cX6_finish 52 = .ok (.iload_n 1, 1) := by decide +kernel
theorem dX6_finish_53 : decode cX6_finish 53 = .ok (.iload_n 2, 1) := by decide +kernel
theorem dX6_finish_54 : decode cX6_finish 54 = .ok (.invokevirtual 154, 3) := by decide +kernel
theorem dX6_finish_57 : decode cX6_finish 57 = .ok (.return_, 1) := by decide +kernel
set_option maxRecDepth 20000 in
theorem ggX6_taskOf_X6_checkThread : GoodIn wsX6_taskOf wsX6_checkThread := goodIn_ca (goodIn_r _ [6, 7, 8, 9, 10, 11, 12, 13, 14, 15, 16, 17, 18, 19, 20, 21, 22, 23] (by decide +kernel) (by decide +kernel)) (goodIn_sub (fun _ h => List.mem_cons_of_mem _ (List.mem_append_right _ h)) (by decide +kernel))
set_option maxRecDepth 20000 in
theorem gX6_taskOf_X6_checkThread : GoodIn wsX6_taskOf (wsV RX6 240 RX6 yX6_checkThread wsX6_checkThread) := goodIn_app (goodIn_of _ (by decide +kernel)) ggX6_taskOf_X6_checkThread
theorem dX6_taskOf_0 : decode cX6_taskOf 0 = .ok (.aload_n 0, 1) := by decide +kernel
theorem dX6_taskOf_1 : decode cX6_taskOf 1 = .ok (.iload_n 1, 1) := by decide +kernel
theorem dX6_taskOf_2 : decode cX6_taskOf 2 = .ok (.invokevirtual 240, 3) := by decide +kernel
theorem dX6_taskOf_5 : decode cX6_taskOf 5 = .ok (.aload_n 0, 1) := by decide +kernel
theorem dX6_taskOf_6 : decode cX6_taskOf 6 = .ok (.getfield 39, 3) := by decide +kernel
theorem dX6_taskOf_9 : decode cX6_taskOf 9 = .ok (.iload_n 1, 1) := by decide +kernel
theorem dX6_taskOf_10 : decode cX6_taskOf 10 = .ok (.iaload, 1) := by decide +kernel
theorem dX6_taskOf_11 : decode cX6_taskOf 11 = .ok (.ireturn, 1) := by decide +kernel
set_option maxRecDepth 20000 in
theorem ggX6_messages_Jx4a65c_size_8abf5 : GoodIn wsX6_messages wsJx4a65c_size_8abf5 := goodIn_r _ [6, 7, 22, 23, 24] (by decide +kernel) (by decide +kernel)
set_option maxRecDepth 20000 in
theorem gX6_messages_Jx4a65c_size_8abf5 : GoodIn wsX6_messages (wsV RX6 142 RJx4a65c yJx4a65c_size_8abf5 wsJx4a65c_size_8abf5) := goodIn_app (goodIn_of _ (by decide +kernel)) ggX6_messages_Jx4a65c_size_8abf5
theorem dX6_messages_0 : decode cX6_messages 0 = .ok (.aload_n 0, 1) := by decide +kernel
theorem dX6_messages_1 : decode cX6_messages 1 = .ok (.getfield 36, 3) := by decide +kernel
theorem dX6_messages_4 : decode cX6_messages 4 = .ok (.invokevirtual 142, 3) := by decide +kernel
theorem dX6_messages_7 : decode cX6_messages 7 = .ok (.ireturn, 1) := by decide +kernel
set_option maxRecDepth 20000 in
theorem ggX6_signs_X6_checkMessage : GoodIn wsX6_signs wsX6_checkMessage := goodIn_ca (goodIn_r _ [7, 8, 9, 1, 10, 11, 12, 13, 14, 15, 38, 39, 40, 41, 42, 43, 44, 45, 46, 47, 48, 49, 50, 51, 52, 53, 54] (by decide +kernel) (by decide +kernel)) (goodIn_sub (fun _ h => List.mem_cons_of_mem _ (List.mem_append_right _ h)) (by decide +kernel))
set_option maxRecDepth 20000 in
theorem gX6_signs_X6_checkMessage : GoodIn wsX6_signs (wsV RX6 262 RX6 yX6_checkMessage wsX6_checkMessage) := goodIn_app (goodIn_of _ (by decide +kernel)) ggX6_signs_X6_checkMessage
set_option maxRecDepth 20000 in
theorem ggX6_signs_Jx4a65c_get_915e3 : GoodIn wsX6_signs wsJx4a65c_get_915e3 := goodIn_r _ [19, 15, 20, 21, 22, 23, 24, 25, 26, 27, 28, 29, 30, 13, 31, 32, 52, 53, 54] (by decide +kernel) (by decide +kernel)
set_option maxRecDepth 20000 in
theorem gX6_signs_Jx4a65c_get_915e3 : GoodIn wsX6_signs (wsV RX6 161 RJx4a65c yJx4a65c_get_915e3 wsJx4a65c_get_915e3) := goodIn_app (goodIn_of _ (by decide +kernel)) ggX6_signs_Jx4a65c_get_915e3
set_option maxRecDepth 20000 in
theorem ggX6_signs_X3_length : GoodIn wsX6_signs wsX3_length := goodIn_r _ [36, 37, 55] (by decide +kernel) (by decide +kernel)
set_option maxRecDepth 20000 in
theorem gX6_signs_X3_length_n265 : GoodIn wsX6_signs (wsX3_length) := ggX6_signs_X3_length
theorem dX6_signs_0 : decode cX6_signs 0 = .ok (.aload_n 0, 1) := by decide +kernel
theorem dX6_signs_1 : decode cX6_signs 1 = .ok (.iload_n 1, 1) := by decide +kernel
theorem dX6_signs_2 : decode cX6_signs 2 = .ok (.invokevirtual 262, 3) := by decide +kernel
theorem dX6_signs_5 : decode cX6_signs 5 = .ok (.aload_n 0, 1) := by decide +kernel
theorem dX6_signs_6 : decode cX6_signs 6 = .ok (.getfield 36, 3) := by decide +kernel
theorem dX6_signs_9 : decode cX6_signs 9 = .ok (.iload_n 1, 1) := by decide +kernel
theorem dX6_signs_10 : decode cX6_signs 10 = .ok (.invokevirtual 161, 3) := by decide +kernel
theorem dX6_signs_13 : decode cX6_signs 13 = .ok (.checkcast 245, 3) := by decide +kernel
theorem dX6_signs_16 : decode cX6_signs 16 = .ok (.invokevirtual 265, 3) := by decide +kernel
theorem dX6_signs_19 : decode cX6_signs 19 = .ok (.ireturn, 1) := by decide +kernel
set_option maxRecDepth 20000 in
theorem ggX6_signAt_X6_checkMessage : GoodIn wsX6_signAt wsX6_checkMessage := goodIn_ca (goodIn_r _ [7, 8, 9, 1, 10, 11, 12, 13, 14, 15, 41, 42, 43, 44, 45, 46, 47, 48, 49, 50, 51, 52, 53, 54, 55, 56, 57] (by decide +kernel) (by decide +kernel)) (goodIn_sub (fun _ h => List.mem_cons_of_mem _ (List.mem_append_right _ h)) (by decide +kernel))
set_option maxRecDepth 20000 in
theorem gX6_signAt_X6_checkMessage : GoodIn wsX6_signAt (wsV RX6 262 RX6 yX6_checkMessage wsX6_checkMessage) := goodIn_app (goodIn_of _ (by decide +kernel)) ggX6_signAt_X6_checkMessage
set_option maxRecDepth 20000 in
theorem ggX6_signAt_X6_checkPlace : GoodIn wsX6_signAt wsX6_checkPlace := goodIn_ca (goodIn_r _ [18, 8, 9] (by decide +kernel) (by decide +kernel)) (goodIn_sub (fun _ h => List.mem_cons_of_mem _ (List.mem_append_right _ h)) (by decide +kernel))
set_option maxRecDepth 20000 in
theorem gX6_signAt_X6_checkPlace : GoodIn wsX6_signAt (va_wsS RX6 266 yX6_checkPlace wsX6_checkPlace) := goodIn_app (goodIn_of _ (by decide +kernel)) ggX6_signAt_X6_checkPlace
set_option maxRecDepth 20000 in
theorem ggX6_signAt_Jx4a65c_get_915e3 : GoodIn wsX6_signAt wsJx4a65c_get_915e3 := goodIn_r _ [22, 15, 23, 24, 25, 26, 27, 28, 29, 30, 31, 32, 33, 13, 34, 35, 55, 56, 57] (by decide +kernel) (by decide +kernel)
set_option maxRecDepth 20000 in
theorem gX6_signAt_Jx4a65c_get_915e3 : GoodIn wsX6_signAt (wsV RX6 161 RJx4a65c yJx4a65c_get_915e3 wsJx4a65c_get_915e3) := goodIn_app (goodIn_of _ (by decide +kernel)) ggX6_signAt_Jx4a65c_get_915e3
set_option maxRecDepth 20000 in
theorem ggX6_signAt_X3_get : GoodIn wsX6_signAt wsX3_get := goodIn_r _ [39, 40, 58] (by decide +kernel) (by decide +kernel)
set_option maxRecDepth 20000 in
theorem gX6_signAt_X3_get_n269 : GoodIn wsX6_signAt (wsX3_get) := ggX6_signAt_X3_get
theorem dX6_signAt_0 : decode cX6_signAt 0 = .ok (.aload_n 0, 1) := by decide +kernel
theorem dX6_signAt_1 : decode cX6_signAt 1 = .ok (.iload_n 1, 1) := by decide +kernel
theorem dX6_signAt_2 : decode cX6_signAt 2 = .ok (.invokevirtual 262, 3) := by decide +kernel
theorem dX6_signAt_5 : decode cX6_signAt 5 = .ok (.iload_n 2, 1) := by decide +kernel
theorem dX6_signAt_6 : decode cX6_signAt 6 = .ok (.invokestatic 266, 3) := by decide +kernel
theorem dX6_signAt_9 : decode cX6_signAt 9 = .ok (.aload_n 0, 1) := by decide +kernel
theorem dX6_signAt_10 : decode cX6_signAt 10 = .ok (.getfield 36, 3) := by decide +kernel
theorem dX6_signAt_13 : decode cX6_signAt 13 = .ok (.iload_n 1, 1) := by decide +kernel
theorem dX6_signAt_14 : decode cX6_signAt 14 = .ok (.invokevirtual 161, 3) := by decide +kernel
theorem dX6_signAt_17 : decode cX6_signAt 17 = .ok (.checkcast 245, 3) := by decide +kernel
theorem dX6_signAt_20 : decode cX6_signAt 20 = .ok (.iload_n 2, 1) := by decide +kernel
theorem dX6_signAt_21 : decode cX6_signAt 21 = .ok (.invokevirtual 269, 3) := by decide +kernel
theorem dX6_signAt_24 : decode cX6_signAt 24 = .ok (.ireturn, 1) := by decide +kernel
set_option maxRecDepth 20000 in
theorem ggX6_signBack_X6_checkMessage : GoodIn wsX6_signBack wsX6_checkMessage := goodIn_ca (goodIn_r _ [7, 8, 9, 1, 10, 11, 12, 13, 14, 15, 44, 45, 46, 47, 48, 49, 50, 51, 52, 53, 54, 55, 56, 57, 58, 59, 60] (by decide +kernel) (by decide +kernel)) (goodIn_sub (fun _ h => List.mem_cons_of_mem _ (List.mem_append_right _ h)) (by decide +kernel))
set_option maxRecDepth 20000 in
theorem gX6_signBack_X6_checkMessage : GoodIn wsX6_signBack (wsV RX6 262 RX6 yX6_checkMessage wsX6_checkMessage) := goodIn_app (goodIn_of _ (by decide +kernel)) ggX6_signBack_X6_checkMessage
set_option maxRecDepth 20000 in
theorem ggX6_signBack_X6_checkPlace : GoodIn wsX6_signBack wsX6_checkPlace := goodIn_ca (goodIn_r _ [18, 8, 9] (by decide +kernel) (by decide +kernel)) (goodIn_sub (fun _ h => List.mem_cons_of_mem _ (List.mem_append_right _ h)) (by decide +kernel))
set_option maxRecDepth 20000 in
theorem gX6_signBack_X6_checkPlace : GoodIn wsX6_signBack (va_wsS RX6 266 yX6_checkPlace wsX6_checkPlace) := goodIn_app (goodIn_of _ (by decide +kernel)) ggX6_signBack_X6_checkPlace
set_option maxRecDepth 20000 in
theorem ggX6_signBack_Jx4a65c_get_915e3 : GoodIn wsX6_signBack wsJx4a65c_get_915e3 := goodIn_r _ [22, 15, 23, 24, 25, 26, 27, 28, 29, 30, 31, 32, 33, 13, 34, 35, 58, 59, 60] (by decide +kernel) (by decide +kernel)
set_option maxRecDepth 20000 in
theorem gX6_signBack_Jx4a65c_get_915e3 : GoodIn wsX6_signBack (wsV RX6 161 RJx4a65c yJx4a65c_get_915e3 wsJx4a65c_get_915e3) := goodIn_app (goodIn_of _ (by decide +kernel)) ggX6_signBack_Jx4a65c_get_915e3
set_option maxRecDepth 20000 in
theorem ggX6_signBack_X3_length : GoodIn wsX6_signBack wsX3_length := goodIn_r _ [39, 40, 61] (by decide +kernel) (by decide +kernel)
set_option maxRecDepth 20000 in
theorem gX6_signBack_X3_length_n265 : GoodIn wsX6_signBack (wsX3_length) := ggX6_signBack_X3_length
set_option maxRecDepth 20000 in
theorem ggX6_signBack_X3_get : GoodIn wsX6_signBack wsX3_get := goodIn_r _ [43, 40, 61] (by decide +kernel) (by decide +kernel)
set_option maxRecDepth 20000 in
theorem gX6_signBack_X3_get_n269 : GoodIn wsX6_signBack (wsX3_get) := ggX6_signBack_X3_get
theorem dX6_signBack_0 : decode cX6_signBack 0 = .ok (.aload_n 0, 1) := by decide +kernel
theorem dX6_signBack_1 : decode cX6_signBack 1 = .ok (.iload_n 1, 1) := by decide +kernel
theorem dX6_signBack_2 : decode cX6_signBack 2 = .ok (.invokevirtual 262, 3) := by decide +kernel
theorem dX6_signBack_5 : decode cX6_signBack 5 = .ok (.iload_n 2, 1) := by decide +kernel
theorem dX6_signBack_6 : decode cX6_signBack 6 = .ok (.invokestatic 266, 3) := by decide +kernel
theorem dX6_signBack_9 : decode cX6_signBack 9 = .ok (.aload_n 0, 1) := by decide +kernel
theorem dX6_signBack_10 : decode cX6_signBack 10 = .ok (.getfield 36, 3) := by decide +kernel
theorem dX6_signBack_13 : decode cX6_signBack 13 = .ok (.iload_n 1, 1) := by decide +kernel
theorem dX6_signBack_14 : decode cX6_signBack 14 = .ok (.invokevirtual 161, 3) := by decide +kernel
theorem dX6_signBack_17 : decode cX6_signBack 17 = .ok (.checkcast 245, 3) := by decide +kernel
theorem dX6_signBack_20 : decode cX6_signBack 20 = .ok (.astore_n 3, 1) := by decide +kernel
theorem dX6_signBack_21 : decode cX6_signBack 21 = .ok (.aload_n 3, 1) := by decide +kernel
theorem dX6_signBack_22 : decode cX6_signBack 22 = .ok (.aload_n 3, 1) := by decide +kernel
theorem dX6_signBack_23 : decode cX6_signBack 23 = .ok (.invokevirtual 265, 3) := by decide +kernel
theorem dX6_signBack_26 : decode cX6_signBack 26 = .ok (.iconst 1, 1) := by decide +kernel
theorem dX6_signBack_27 : decode cX6_signBack 27 = .ok (.isub, 1) := by decide +kernel
theorem dX6_signBack_28 : decode cX6_signBack 28 = .ok (.iload_n 2, 1) := by decide +kernel
theorem dX6_signBack_29 : decode cX6_signBack 29 = .ok (.isub, 1) := by decide +kernel
theorem dX6_signBack_30 : decode cX6_signBack 30 = .ok (.invokevirtual 269, 3) := by decide +kernel
theorem dX6_signBack_33 : decode cX6_signBack 33 = .ok (.ireturn, 1) := by decide +kernel
theorem dX6_checkPerson_0 : decode cX6_checkPerson 0 = .ok (.iload_n 0, 1) := by decide +kernel
theorem dX6_checkPerson_1 : decode cX6_checkPerson 1 = .ok (.ifCond .lt 9, 3) := by decide +kernel
theorem dX6_checkPerson_4 : decode cX6_checkPerson 4 = .ok (.iload_n 0, 1) := by decide +kernel
theorem dX6_checkPerson_5 : decode cX6_checkPerson 5 = .ok (.bipush 9, 2) := by decide +kernel
theorem dX6_checkPerson_7 : decode cX6_checkPerson 7 = .ok (.if_icmp .lt 14, 3) := by decide +kernel
theorem dX6_checkPerson_10 : decode cX6_checkPerson 10 = .ok (.new 200, 3) := by decide +kernel
theorem dX6_checkPerson_13 : decode cX6_checkPerson 13 = .ok (.dup, 1) := by decide +kernel
theorem dX6_checkPerson_14 : decode cX6_checkPerson 14 = .ok (.ldc_w 271, 3) := by decide +kernel
theorem dX6_checkPerson_17 : decode cX6_checkPerson 17 = .ok (.invokespecial 204, 3) := by decide +kernel
theorem dX6_checkPerson_20 : decode cX6_checkPerson 20 = .ok (.athrow, 1) := by decide +kernel
theorem dX6_checkPerson_21 : decode cX6_checkPerson 21 = .ok (.return_, 1) := by decide +kernel
theorem dX6_checkValve_0 : decode cX6_checkValve 0 = .ok (.iload_n 0, 1) := by decide +kernel
theorem dX6_checkValve_1 : decode cX6_checkValve 1 = .ok (.ifCond .lt 9, 3) := by decide +kernel
theorem dX6_checkValve_4 : decode cX6_checkValve 4 = .ok (.iload_n 0, 1) := by decide +kernel
theorem dX6_checkValve_5 : decode cX6_checkValve 5 = .ok (.bipush 8, 2) := by decide +kernel
theorem dX6_checkValve_7 : decode cX6_checkValve 7 = .ok (.if_icmp .lt 14, 3) := by decide +kernel
theorem dX6_checkValve_10 : decode cX6_checkValve 10 = .ok (.new 200, 3) := by decide +kernel
theorem dX6_checkValve_13 : decode cX6_checkValve 13 = .ok (.dup, 1) := by decide +kernel
theorem dX6_checkValve_14 : decode cX6_checkValve 14 = .ok (.ldc_w 273, 3) := by decide +kernel
theorem dX6_checkValve_17 : decode cX6_checkValve 17 = .ok (.invokespecial 204, 3) := by decide +kernel
theorem dX6_checkValve_20 : decode cX6_checkValve 20 = .ok (.athrow, 1) := by decide +kernel
theorem dX6_checkValve_21 : decode cX6_checkValve 21 = .ok (.return_, 1) := by decide +kernel
set_option maxRecDepth 20000 in
theorem ggX6_checkVessel_X6_isVessel : GoodIn wsX6_checkVessel wsX6_isVessel := goodIn_r _ [6] (by decide +kernel) (by decide +kernel)
set_option maxRecDepth 20000 in
theorem gX6_checkVessel_X6_isVessel : GoodIn wsX6_checkVessel (va_wsS RX6 275 yX6_isVessel wsX6_isVessel) := goodIn_app (goodIn_of _ (by decide +kernel)) ggX6_checkVessel_X6_isVessel
theorem dX6_checkVessel_0 : decode cX6_checkVessel 0 = .ok (.iload_n 0, 1) := by decide +kernel
theorem dX6_checkVessel_1 : decode cX6_checkVessel 1 = .ok (.invokestatic 275, 3) := by decide +kernel
theorem dX6_checkVessel_4 : decode cX6_checkVessel 4 = .ok (.ifCond .ne 14, 3) := by decide +kernel
theorem dX6_checkVessel_7 : decode cX6_checkVessel 7 = .ok (.new 200, 3) := by decide +kernel
theorem dX6_checkVessel_10 : decode cX6_checkVessel 10 = .ok (.dup, 1) := by decide +kernel
theorem dX6_checkVessel_11 : decode cX6_checkVessel 11 = .ok (.ldc_w 278, 3) := by decide +kernel
theorem dX6_checkVessel_14 : decode cX6_checkVessel 14 = .ok (.invokespecial 204, 3) := by decide +kernel
theorem dX6_checkVessel_17 : decode cX6_checkVessel 17 = .ok (.athrow, 1) := by decide +kernel
theorem dX6_checkVessel_18 : decode cX6_checkVessel 18 = .ok (.return_, 1) := by decide +kernel
set_option maxRecDepth 20000 in
theorem ggX6_checkTag_Jx4a65c_size_8abf5 : GoodIn wsX6_checkTag wsJx4a65c_size_8abf5 := goodIn_r _ [8, 9, 24, 25, 26] (by decide +kernel) (by decide +kernel)
set_option maxRecDepth 20000 in
theorem gX6_checkTag_Jx4a65c_size_8abf5 : GoodIn wsX6_checkTag (wsV RX6 142 RJx4a65c yJx4a65c_size_8abf5 wsJx4a65c_size_8abf5) := goodIn_app (goodIn_of _ (by decide +kernel)) ggX6_checkTag_Jx4a65c_size_8abf5
theorem dX6_checkTag_0 : decode cX6_checkTag 0 = .ok (.iload_n 1, 1) := by decide +kernel
theorem dX6_checkTag_1 : decode cX6_checkTag 1 = .ok (.ifCond .lt 14, 3) := by decide +kernel
theorem dX6_checkTag_4 : decode cX6_checkTag 4 = .ok (.iload_n 1, 1) := by decide +kernel
theorem dX6_checkTag_5 : decode cX6_checkTag 5 = .ok (.aload_n 0, 1) := by decide +kernel
theorem dX6_checkTag_6 : decode cX6_checkTag 6 = .ok (.getfield 29, 3) := by decide +kernel
theorem dX6_checkTag_9 : decode cX6_checkTag 9 = .ok (.invokevirtual 142, 3) := by decide +kernel
theorem dX6_checkTag_12 : decode cX6_checkTag 12 = .ok (.if_icmp .lt 14, 3) := by decide +kernel
theorem dX6_checkTag_15 : decode cX6_checkTag 15 = .ok (.new 200, 3) := by decide +kernel
theorem dX6_checkTag_18 : decode cX6_checkTag 18 = .ok (.dup, 1) := by decide +kernel
theorem dX6_checkTag_19 : decode cX6_checkTag 19 = .ok (.ldc_w 280, 3) := by decide +kernel
theorem dX6_checkTag_22 : decode cX6_checkTag 22 = .ok (.invokespecial 204, 3) := by decide +kernel
theorem dX6_checkTag_25 : decode cX6_checkTag 25 = .ok (.athrow, 1) := by decide +kernel
theorem dX6_checkTag_26 : decode cX6_checkTag 26 = .ok (.return_, 1) := by decide +kernel
theorem dX6_checkThread_0 : decode cX6_checkThread 0 = .ok (.iload_n 1, 1) := by decide +kernel
theorem dX6_checkThread_1 : decode cX6_checkThread 1 = .ok (.ifCond .lt 11, 3) := by decide +kernel
theorem dX6_checkThread_4 : decode cX6_checkThread 4 = .ok (.iload_n 1, 1) := by decide +kernel
theorem dX6_checkThread_5 : decode cX6_checkThread 5 = .ok (.aload_n 0, 1) := by decide +kernel
theorem dX6_checkThread_6 : decode cX6_checkThread 6 = .ok (.getfield 66, 3) := by decide +kernel
theorem dX6_checkThread_9 : decode cX6_checkThread 9 = .ok (.if_icmp .lt 14, 3) := by decide +kernel
theorem dX6_checkThread_12 : decode cX6_checkThread 12 = .ok (.new 200, 3) := by decide +kernel
theorem dX6_checkThread_15 : decode cX6_checkThread 15 = .ok (.dup, 1) := by decide +kernel
theorem dX6_checkThread_16 : decode cX6_checkThread 16 = .ok (.ldc_w 282, 3) := by decide +kernel
theorem dX6_checkThread_19 : decode cX6_checkThread 19 = .ok (.invokespecial 204, 3) := by decide +kernel
theorem dX6_checkThread_22 : decode cX6_checkThread 22 = .ok (.athrow, 1) := by decide +kernel
theorem dX6_checkThread_23 : decode cX6_checkThread 23 = .ok (.return_, 1) := by decide +kernel
set_option maxRecDepth 20000 in
theorem ggX6_checkMessage_Jx4a65c_size_8abf5 : GoodIn wsX6_checkMessage wsJx4a65c_size_8abf5 := goodIn_r _ [8, 9, 24, 25, 26] (by decide +kernel) (by decide +kernel)
set_option maxRecDepth 20000 in
theorem gX6_checkMessage_Jx4a65c_size_8abf5 : GoodIn wsX6_checkMessage (wsV RX6 142 RJx4a65c yJx4a65c_size_8abf5 wsJx4a65c_size_8abf5) := goodIn_app (goodIn_of _ (by decide +kernel)) ggX6_checkMessage_Jx4a65c_size_8abf5
theorem dX6_checkMessage_0 : decode cX6_checkMessage 0 = .ok (.iload_n 1, 1) := by decide +kernel
theorem dX6_checkMessage_1 : decode cX6_checkMessage 1 = .ok (.ifCond .lt 14, 3) := by decide +kernel
theorem dX6_checkMessage_4 : decode cX6_checkMessage 4 = .ok (.iload_n 1, 1) := by decide +kernel
theorem dX6_checkMessage_5 : decode cX6_checkMessage 5 = .ok (.aload_n 0, 1) := by decide +kernel
theorem dX6_checkMessage_6 : decode cX6_checkMessage 6 = .ok (.getfield 36, 3) := by decide +kernel
theorem dX6_checkMessage_9 : decode cX6_checkMessage 9 = .ok (.invokevirtual 142, 3) := by decide +kernel
theorem dX6_checkMessage_12 : decode cX6_checkMessage 12 = .ok (.if_icmp .lt 14, 3) := by decide +kernel
theorem dX6_checkMessage_15 : decode cX6_checkMessage 15 = .ok (.new 200, 3) := by decide +kernel
theorem dX6_checkMessage_18 : decode cX6_checkMessage 18 = .ok (.dup, 1) := by decide +kernel
theorem dX6_checkMessage_19 : decode cX6_checkMessage 19 = .ok (.ldc_w 284, 3) := by decide +kernel
theorem dX6_checkMessage_22 : decode cX6_checkMessage 22 = .ok (.invokespecial 204, 3) := by decide +kernel
theorem dX6_checkMessage_25 : decode cX6_checkMessage 25 = .ok (.athrow, 1) := by decide +kernel
theorem dX6_checkMessage_26 : decode cX6_checkMessage 26 = .ok (.return_, 1) := by decide +kernel
theorem dX6_checkPlace_0 : decode cX6_checkPlace 0 = .ok (.iload_n 0, 1) := by decide +kernel
theorem dX6_checkPlace_1 : decode cX6_checkPlace 1 = .ok (.ifCond .ge 14, 3) := by decide +kernel
theorem dX6_checkPlace_4 : decode cX6_checkPlace 4 = .ok (.new 200, 3) := by decide +kernel
theorem dX6_checkPlace_7 : decode cX6_checkPlace 7 = .ok (.dup, 1) := by decide +kernel
theorem dX6_checkPlace_8 : decode cX6_checkPlace 8 = .ok (.ldc_w 286, 3) := by decide +kernel
theorem dX6_checkPlace_11 : decode cX6_checkPlace 11 = .ok (.invokespecial 204, 3) := by decide +kernel
theorem dX6_checkPlace_14 : decode cX6_checkPlace 14 = .ok (.athrow, 1) := by decide +kernel
theorem dX6_checkPlace_15 : decode cX6_checkPlace 15 = .ok (.return_, 1) := by decide +kernel
theorem dX6_checkNotGone_0 : decode cX6_checkNotGone 0 = .ok (.aload_n 0, 1) := by decide +kernel
theorem dX6_checkNotGone_1 : decode cX6_checkNotGone 1 = .ok (.getfield 19, 3) := by decide +kernel
theorem dX6_checkNotGone_4 : decode cX6_checkNotGone 4 = .ok (.iload_n 1, 1) := by decide +kernel
theorem dX6_checkNotGone_5 : decode cX6_checkNotGone 5 = .ok (.baload, 1) := by decide +kernel
theorem dX6_checkNotGone_6 : decode cX6_checkNotGone 6 = .ok (.ifCond .eq 14, 3) := by decide +kernel
theorem dX6_checkNotGone_9 : decode cX6_checkNotGone 9 = .ok (.new 95, 3) := by decide +kernel
theorem dX6_checkNotGone_12 : decode cX6_checkNotGone 12 = .ok (.dup, 1) := by decide +kernel
theorem dX6_checkNotGone_13 : decode cX6_checkNotGone 13 = .ok (.ldc_w 288, 3) := by decide +kernel
theorem dX6_checkNotGone_16 : decode cX6_checkNotGone 16 = .ok (.invokespecial 99, 3) := by decide +kernel
theorem dX6_checkNotGone_19 : decode cX6_checkNotGone 19 = .ok (.athrow, 1) := by decide +kernel
theorem dX6_checkNotGone_20 : decode cX6_checkNotGone 20 = .ok (.return_, 1) := by decide +kernel
theorem dX6_isVessel_0 : decode cX6_isVessel 0 = .ok (.iload_n 0, 1) := by decide +kernel
theorem dX6_isVessel_1 : decode cX6_isVessel 1 = .ok (.ifCond .lt 12, 3) := by decide +kernel
theorem dX6_isVessel_4 : decode cX6_isVessel 4 = .ok (.iload_n 0, 1) := by decide +kernel
theorem dX6_isVessel_5 : decode cX6_isVessel 5 = .ok (.iconst 3, 1) := by decide +kernel
theorem dX6_isVessel_6 : decode cX6_isVessel 6 = .ok (.if_icmp .ge 7, 3) := by decide +kernel
theorem dX6_isVessel_9 : decode cX6_isVessel 9 = .ok (.iconst 1, 1) := by decide +kernel
theorem dX6_isVessel_10 : decode cX6_isVessel 10 = .ok (.goto 4, 3) := by decide +kernel
theorem dX6_isVessel_13 : decode cX6_isVessel 13 = .ok (.iconst 0, 1) := by decide +kernel
theorem dX6_isVessel_14 : decode cX6_isVessel 14 = .ok (.ireturn, 1) := by decide +kernel
set_option maxRecDepth 20000 in
theorem ggX6_isEnd_X6_isVessel : GoodIn wsX6_isEnd wsX6_isVessel := goodIn_r _ [4] (by decide +kernel) (by decide +kernel)
set_option maxRecDepth 20000 in
theorem gX6_isEnd_X6_isVessel : GoodIn wsX6_isEnd (va_wsS RX6 275 yX6_isVessel wsX6_isVessel) := goodIn_app (goodIn_of _ (by decide +kernel)) ggX6_isEnd_X6_isVessel
theorem dX6_isEnd_0 : decode cX6_isEnd 0 = .ok (.iload_n 0, 1) := by decide +kernel
theorem dX6_isEnd_1 : decode cX6_isEnd 1 = .ok (.iconst (-1), 1) := by decide +kernel
theorem dX6_isEnd_2 : decode cX6_isEnd 2 = .ok (.if_icmp .eq 10, 3) := by decide +kernel
theorem dX6_isEnd_5 : decode cX6_isEnd 5 = .ok (.iload_n 0, 1) := by decide +kernel
theorem dX6_isEnd_6 : decode cX6_isEnd 6 = .ok (.invokestatic 275, 3) := by decide +kernel
theorem dX6_isEnd_9 : decode cX6_isEnd 9 = .ok (.ifCond .eq 7, 3) := by decide +kernel
theorem dX6_isEnd_12 : decode cX6_isEnd 12 = .ok (.iconst 1, 1) := by decide +kernel
theorem dX6_isEnd_13 : decode cX6_isEnd 13 = .ok (.goto 4, 3) := by decide +kernel
theorem dX6_isEnd_16 : decode cX6_isEnd 16 = .ok (.iconst 0, 1) := by decide +kernel
theorem dX6_isEnd_17 : decode cX6_isEnd 17 = .ok (.ireturn, 1) := by decide +kernel
theorem dX6_isOnDuty_0 : decode cX6_isOnDuty 0 = .ok (.aload_n 0, 1) := by decide +kernel
theorem dX6_isOnDuty_1 : decode cX6_isOnDuty 1 = .ok (.getfield 19, 3) := by decide +kernel
theorem dX6_isOnDuty_4 : decode cX6_isOnDuty 4 = .ok (.iload_n 1, 1) := by decide +kernel
theorem dX6_isOnDuty_5 : decode cX6_isOnDuty 5 = .ok (.baload, 1) := by decide +kernel
theorem dX6_isOnDuty_6 : decode cX6_isOnDuty 6 = .ok (.ifCond .ne 22, 3) := by decide +kernel
theorem dX6_isOnDuty_9 : decode cX6_isOnDuty 9 = .ok (.iload_n 1, 1) := by decide +kernel
theorem dX6_isOnDuty_10 : decode cX6_isOnDuty 10 = .ok (.iconst 3, 1) := by decide +kernel
theorem dX6_isOnDuty_11 : decode cX6_isOnDuty 11 = .ok (.irem, 1) := by decide +kernel
theorem dX6_isOnDuty_12 : decode cX6_isOnDuty 12 = .ok (.aload_n 0, 1) := by decide +kernel
theorem dX6_isOnDuty_13 : decode cX6_isOnDuty 13 = .ok (.getfield 56, 3) := by decide +kernel
theorem dX6_isOnDuty_16 : decode cX6_isOnDuty 16 = .ok (.bipush 8, 2) := by decide +kernel
theorem dX6_isOnDuty_18 : decode cX6_isOnDuty 18 = .ok (.idiv, 1) := by decide +kernel
theorem dX6_isOnDuty_19 : decode cX6_isOnDuty 19 = .ok (.iconst 3, 1) := by decide +kernel
theorem dX6_isOnDuty_20 : decode cX6_isOnDuty 20 = .ok (.irem, 1) := by decide +kernel
theorem dX6_isOnDuty_21 : decode cX6_isOnDuty 21 = .ok (.if_icmp .ne 7, 3) := by decide +kernel
theorem dX6_isOnDuty_24 : decode cX6_isOnDuty 24 = .ok (.iconst 1, 1) := by decide +kernel
theorem dX6_isOnDuty_25 : decode cX6_isOnDuty 25 = .ok (.goto 4, 3) := by decide +kernel
theorem dX6_isOnDuty_28 : decode cX6_isOnDuty 28 = .ok (.iconst 0, 1) := by decide +kernel
theorem dX6_isOnDuty_29 : decode cX6_isOnDuty 29 = .ok (.ireturn, 1) := by decide +kernel
set_option maxRecDepth 20000 in
theorem ggX6_isAble_X6_isOnDuty : GoodIn wsX6_isAble wsX6_isOnDuty := goodIn_r _ [7, 8, 9, 10, 11, 12, 13, 14, 15, 16, 17, 18, 19, 20, 21, 22, 23] (by decide +kernel) (by decide +kernel)
set_option maxRecDepth 20000 in
theorem gX6_isAble_X6_isOnDuty : GoodIn wsX6_isAble (wsV RX6 290 RX6 yX6_isOnDuty wsX6_isOnDuty) := goodIn_app (goodIn_of _ (by decide +kernel)) ggX6_isAble_X6_isOnDuty
theorem dX6_isAble_0 : decode cX6_isAble 0 = .ok (.aload_n 0, 1) := by decide +kernel
theorem dX6_isAble_1 : decode cX6_isAble 1 = .ok (.iload_n 1, 1) := by decide +kernel
theorem dX6_isAble_2 : decode cX6_isAble 2 = .ok (.invokevirtual 290, 3) := by decide +kernel
theorem dX6_isAble_5 : decode cX6_isAble 5 = .ok (.ifCond .eq 20, 3) := by decide +kernel
theorem dX6_isAble_8 : decode cX6_isAble 8 = .ok (.aload_n 0, 1) := by decide +kernel
theorem dX6_isAble_9 : decode cX6_isAble 9 = .ok (.getfield 23, 3) := by decide +kernel
theorem dX6_isAble_12 : decode cX6_isAble 12 = .ok (.iload_n 1, 1) := by decide +kernel
theorem dX6_isAble_13 : decode cX6_isAble 13 = .ok (.iaload, 1) := by decide +kernel
theorem dX6_isAble_14 : decode cX6_isAble 14 = .ok (.aload_n 0, 1) := by decide +kernel
theorem dX6_isAble_15 : decode cX6_isAble 15 = .ok (.getfield 60, 3) := by decide +kernel
theorem dX6_isAble_18 : decode cX6_isAble 18 = .ok (.if_icmp .lt 7, 3) := by decide +kernel
theorem dX6_isAble_21 : decode cX6_isAble 21 = .ok (.iconst 1, 1) := by decide +kernel
theorem dX6_isAble_22 : decode cX6_isAble 22 = .ok (.goto 4, 3) := by decide +kernel
theorem dX6_isAble_25 : decode cX6_isAble 25 = .ok (.iconst 0, 1) := by decide +kernel
theorem dX6_isAble_26 : decode cX6_isAble 26 = .ok (.ireturn, 1) := by decide +kernel
set_option maxRecDepth 20000 in
theorem ggX6_findObstacle_X6_isOnDuty : GoodIn wsX6_findObstacle wsX6_isOnDuty := goodIn_r _ [5, 6, 7, 43, 44, 45, 46, 47, 48, 49, 50, 51, 52, 53, 54, 55, 56] (by decide +kernel) (by decide +kernel)
set_option maxRecDepth 20000 in
theorem gX6_findObstacle_X6_isOnDuty : GoodIn wsX6_findObstacle (wsV RX6 290 RX6 yX6_isOnDuty wsX6_isOnDuty) := goodIn_app (goodIn_of _ (by decide +kernel)) ggX6_findObstacle_X6_isOnDuty
set_option maxRecDepth 20000 in
theorem ggX6_findObstacle_X6_isAble : GoodIn wsX6_findObstacle wsX6_isAble := goodIn_r _ [11, 12, 13, 1, 2, 3, 4, 5, 6, 7, 43, 44, 45, 46, 47, 48, 49, 50, 51, 52, 53, 54, 55, 56] (by decide +kernel) (by decide +kernel)
set_option maxRecDepth 20000 in
theorem gX6_findObstacle_X6_isAble : GoodIn wsX6_findObstacle (wsV RX6 139 RX6 yX6_isAble wsX6_isAble) := goodIn_app (goodIn_of _ (by decide +kernel)) ggX6_findObstacle_X6_isAble
set_option maxRecDepth 20000 in
theorem ggX6_findObstacle_X6_hasTagOfAnother : GoodIn wsX6_findObstacle wsX6_hasTagOfAnother := goodIn_r _ [17, 18, 19, 20, 21, 22, 23, 24, 25, 26, 27, 28, 29, 30, 31, 32, 33, 34, 35, 36, 37, 38, 39, 40, 41, 42, 43, 44, 45, 46, 47, 48, 49, 50, 51, 52, 53, 54, 55, 56, 57, 58, 59, 60, 61, 62, 63] (by decide +kernel) (by decide +kernel)
set_option maxRecDepth 20000 in
theorem gX6_findObstacle_X6_hasTagOfAnother : GoodIn wsX6_findObstacle (wsV RX6 293 RX6 yX6_hasTagOfAnother wsX6_hasTagOfAnother) := goodIn_app (goodIn_of _ (by decide +kernel)) ggX6_findObstacle_X6_hasTagOfAnother
theorem dX6_findObstacle_0 : decode cX6_findObstacle 0 = .ok (.aload_n 0, 1) := by decide +kernel
theorem dX6_findObstacle_1 : decode cX6_findObstacle 1 = .ok (.iload_n 1, 1) := by decide +kernel
theorem dX6_findObstacle_2 : decode cX6_findObstacle 2 = .ok (.invokevirtual 290, 3) := by decide +kernel
theorem dX6_findObstacle_5 : decode cX6_findObstacle 5 = .ok (.ifCond .ne 5, 3) := by decide +kernel
theorem dX6_findObstacle_8 : decode cX6_findObstacle 8 = .ok (.iconst 1, 1) := by decide +kernel
theorem dX6_findObstacle_9 : decode cX6_findObstacle 9 = .ok (.ireturn, 1) := by decide +kernel
theorem dX6_findObstacle_10 : decode cX6_findObstacle 10 = .ok (.aload_n 0, 1) := by decide +kernel
theorem dX6_findObstacle_11 : decode cX6_findObstacle 11 = .ok (.iload_n 1, 1) := by decide +kernel
theorem dX6_findObstacle_12 : decode cX6_findObstacle 12 = .ok (.invokevirtual 139, 3) := by decide +kernel
theorem dX6_findObstacle_15 : decode cX6_findObstacle 15 = .ok (.ifCond .ne 5, 3) := by decide +kernel
theorem dX6_findObstacle_18 : decode cX6_findObstacle 18 = .ok (.iconst 2, 1) := by decide +kernel
theorem dX6_findObstacle_19 : decode cX6_findObstacle 19 = .ok (.ireturn, 1) := by decide +kernel
theorem dX6_findObstacle_20 : decode cX6_findObstacle 20 = .ok (.aload_n 0, 1) := by decide +kernel
theorem dX6_findObstacle_21 : decode cX6_findObstacle 21 = .ok (.iload_n 2, 1) := by decide +kernel
theorem dX6_findObstacle_22 : decode cX6_findObstacle 22 = .ok (.iload_n 1, 1) := by decide +kernel
theorem dX6_findObstacle_23 : decode cX6_findObstacle 23 = .ok (.invokevirtual 293, 3) := by decide +kernel
theorem dX6_findObstacle_26 : decode cX6_findObstacle 26 = .ok (.ifCond .eq 7, 3) := by decide +kernel
theorem dX6_findObstacle_29 : decode cX6_findObstacle 29 = .ok (.iconst 3, 1) := by decide +kernel
theorem dX6_findObstacle_30 : decode cX6_findObstacle 30 = .ok (.goto 4, 3) := by decide +kernel
theorem dX6_findObstacle_33 : decode cX6_findObstacle 33 = .ok (.iconst 0, 1) := by decide +kernel
theorem dX6_findObstacle_34 : decode cX6_findObstacle 34 = .ok (.ireturn, 1) := by decide +kernel
set_option maxRecDepth 20000 in
theorem ggX6_hasTagOfAnother_Jx4a65c_size_8abf5 : GoodIn wsX6_hasTagOfAnother wsJx4a65c_size_8abf5 := goodIn_r _ [7, 8, 44, 45, 46] (by decide +kernel) (by decide +kernel)
set_option maxRecDepth 20000 in
theorem gX6_hasTagOfAnother_Jx4a65c_size_8abf5 : GoodIn wsX6_hasTagOfAnother (wsV RX6 142 RJx4a65c yJx4a65c_size_8abf5 wsJx4a65c_size_8abf5) := goodIn_app (goodIn_of _ (by decide +kernel)) ggX6_hasTagOfAnother_Jx4a65c_size_8abf5
set_option maxRecDepth 20000 in
theorem ggX6_hasTagOfAnother_Jx4a65c_get_915e3 : GoodIn wsX6_hasTagOfAnother wsJx4a65c_get_915e3 := goodIn_r _ [12, 8, 13, 14, 15, 16, 17, 18, 19, 20, 21, 22, 23, 6, 24, 25, 44, 45, 46] (by decide +kernel) (by decide +kernel)
set_option maxRecDepth 20000 in
theorem gX6_hasTagOfAnother_Jx4a65c_get_915e3 : GoodIn wsX6_hasTagOfAnother (wsV RX6 161 RJx4a65c yJx4a65c_get_915e3 wsJx4a65c_get_915e3) := goodIn_app (goodIn_of _ (by decide +kernel)) ggX6_hasTagOfAnother_Jx4a65c_get_915e3
theorem dX6_hasTagOfAnother_0 : decode cX6_hasTagOfAnother 0 = .ok (.iconst 0, 1) := by decide +kernel
theorem dX6_hasTagOfAnother_1 : decode cX6_hasTagOfAnother 1 = .ok (.istore_n 3, 1) := by decide +kernel
theorem dX6_hasTagOfAnother_2 : decode cX6_hasTagOfAnother 2 = .ok (.iload_n 3, 1) := by decide +kernel
theorem dX6_hasTagOfAnother_3 : decode cX6_hasTagOfAnother 3 = .ok (.aload_n 0, 1) := by decide +kernel
theorem dX6_hasTagOfAnother_4 : decode cX6_hasTagOfAnother 4 = .ok (.getfield 29, 3) := by decide +kernel
theorem dX6_hasTagOfAnother_7 : decode cX6_hasTagOfAnother 7 = .ok (.invokevirtual 142, 3) := by decide +kernel
theorem dX6_hasTagOfAnother_10 : decode cX6_hasTagOfAnother 10 = .ok (.if_icmp .ge 50, 3) := by decide +kernel
theorem dX6_hasTagOfAnother_13 : decode cX6_hasTagOfAnother 13 = .ok (.aload_n 0, 1) := by decide +kernel
theorem dX6_hasTagOfAnother_14 : decode cX6_hasTagOfAnother 14 = .ok (.getfield 29, 3) := by decide +kernel
theorem dX6_hasTagOfAnother_17 : decode cX6_hasTagOfAnother 17 = .ok (.iload_n 3, 1) := by decide +kernel
theorem dX6_hasTagOfAnother_18 : decode cX6_hasTagOfAnother 18 = .ok (.invokevirtual 161, 3) := by decide +kernel
theorem dX6_hasTagOfAnother_21 : decode cX6_hasTagOfAnother 21 = .ok (.checkcast 145, 3) := by decide +kernel
theorem dX6_hasTagOfAnother_24 : decode cX6_hasTagOfAnother 24 = .ok (.astore 4, 2) := by decide +kernel
theorem dX6_hasTagOfAnother_26 : decode cX6_hasTagOfAnother 26 = .ok (.aload 4, 2) := by decide +kernel
theorem dX6_hasTagOfAnother_28 : decode cX6_hasTagOfAnother 28 = .ok (.getfield 165, 3) := by decide +kernel
theorem dX6_hasTagOfAnother_31 : decode cX6_hasTagOfAnother 31 = .ok (.ifCond .ne 23, 3) := by decide +kernel
theorem dX6_hasTagOfAnother_34 : decode cX6_hasTagOfAnother 34 = .ok (.aload 4, 2) := by decide +kernel
theorem dX6_hasTagOfAnother_36 : decode cX6_hasTagOfAnother 36 = .ok (.getfield 180, 3) := by decide +kernel
theorem dX6_hasTagOfAnother_39 : decode cX6_hasTagOfAnother 39 = .ok (.iload_n 1, 1) := by decide +kernel
theorem dX6_hasTagOfAnother_40 : decode cX6_hasTagOfAnother 40 = .ok (.if_icmp .ne 14, 3) := by decide +kernel
theorem dX6_hasTagOfAnother_43 : decode cX6_hasTagOfAnother 43 = .ok (.aload 4, 2) := by decide +kernel
theorem dX6_hasTagOfAnother_45 : decode cX6_hasTagOfAnother 45 = .ok (.getfield 168, 3) := by decide +kernel
theorem dX6_hasTagOfAnother_48 : decode cX6_hasTagOfAnother 48 = .ok (.iload_n 2, 1) := by decide +kernel
theorem dX6_hasTagOfAnother_49 : decode cX6_hasTagOfAnother 49 = .ok (.if_icmp .eq 5, 3) := by decide +kernel
theorem dX6_hasTagOfAnother_52 : decode cX6_hasTagOfAnother 52 = .ok (.iconst 1, 1) := by decide +kernel
theorem dX6_hasTagOfAnother_53 : decode cX6_hasTagOfAnother 53 = .ok (.ireturn, 1) := by decide +kernel
theorem dX6_hasTagOfAnother_54 : decode cX6_hasTagOfAnother 54 = .ok (.iinc 3 1, 3) := by decide +kernel
theorem dX6_hasTagOfAnother_57 : decode cX6_hasTagOfAnother 57 = .ok (.goto (-55), 3) := by decide +kernel
theorem dX6_hasTagOfAnother_60 : decode cX6_hasTagOfAnother 60 = .ok (.iconst 0, 1) := by decide +kernel
theorem dX6_hasTagOfAnother_61 : decode cX6_hasTagOfAnother 61 = .ok (.ireturn, 1) := by decide +kernel
set_option maxRecDepth 20000 in
theorem ggX6_countTagsOn_Jx4a65c_size_8abf5 : GoodIn wsX6_countTagsOn wsJx4a65c_size_8abf5 := goodIn_r _ [7, 8, 44, 45, 46] (by decide +kernel) (by decide +kernel)
set_option maxRecDepth 20000 in
theorem gX6_countTagsOn_Jx4a65c_size_8abf5 : GoodIn wsX6_countTagsOn (wsV RX6 142 RJx4a65c yJx4a65c_size_8abf5 wsJx4a65c_size_8abf5) := goodIn_app (goodIn_of _ (by decide +kernel)) ggX6_countTagsOn_Jx4a65c_size_8abf5
set_option maxRecDepth 20000 in
theorem ggX6_countTagsOn_Jx4a65c_get_915e3 : GoodIn wsX6_countTagsOn wsJx4a65c_get_915e3 := goodIn_r _ [12, 8, 13, 14, 15, 16, 17, 18, 19, 20, 21, 22, 23, 6, 24, 25, 44, 45, 46] (by decide +kernel) (by decide +kernel)
set_option maxRecDepth 20000 in
theorem gX6_countTagsOn_Jx4a65c_get_915e3 : GoodIn wsX6_countTagsOn (wsV RX6 161 RJx4a65c yJx4a65c_get_915e3 wsJx4a65c_get_915e3) := goodIn_app (goodIn_of _ (by decide +kernel)) ggX6_countTagsOn_Jx4a65c_get_915e3
theorem dX6_countTagsOn_0 : decode cX6_countTagsOn 0 = .ok (.iconst 0, 1) := by decide +kernel
theorem dX6_countTagsOn_1 : decode cX6_countTagsOn 1 = .ok (.istore_n 2, 1) := by decide +kernel
theorem dX6_countTagsOn_2 : decode cX6_countTagsOn 2 = .ok (.iconst 0, 1) := by decide +kernel
theorem dX6_countTagsOn_3 : decode cX6_countTagsOn 3 = .ok (.istore_n 3, 1) := by decide +kernel
theorem dX6_countTagsOn_4 : decode cX6_countTagsOn 4 = .ok (.iload_n 3, 1) := by decide +kernel
theorem dX6_countTagsOn_5 : decode cX6_countTagsOn 5 = .ok (.aload_n 0, 1) := by decide +kernel
theorem dX6_countTagsOn_6 : decode cX6_countTagsOn 6 = .ok (.getfield 29, 3) := by decide +kernel
theorem dX6_countTagsOn_9 : decode cX6_countTagsOn 9 = .ok (.invokevirtual 142, 3) := by decide +kernel
theorem dX6_countTagsOn_12 : decode cX6_countTagsOn 12 = .ok (.if_icmp .ge 42, 3) := by decide +kernel
theorem dX6_countTagsOn_15 : decode cX6_countTagsOn 15 = .ok (.aload_n 0, 1) := by decide +kernel
theorem dX6_countTagsOn_16 : decode cX6_countTagsOn 16 = .ok (.getfield 29, 3) := by decide +kernel
theorem dX6_countTagsOn_19 : decode cX6_countTagsOn 19 = .ok (.iload_n 3, 1) := by decide +kernel
theorem dX6_countTagsOn_20 : decode cX6_countTagsOn 20 = .ok (.invokevirtual 161, 3) := by decide +kernel
theorem dX6_countTagsOn_23 : decode cX6_countTagsOn 23 = .ok (.checkcast 145, 3) := by decide +kernel
theorem dX6_countTagsOn_26 : decode cX6_countTagsOn 26 = .ok (.astore 4, 2) := by decide +kernel
theorem dX6_countTagsOn_28 : decode cX6_countTagsOn 28 = .ok (.aload 4, 2) := by decide +kernel
theorem dX6_countTagsOn_30 : decode cX6_countTagsOn 30 = .ok (.getfield 165, 3) := by decide +kernel
theorem dX6_countTagsOn_33 : decode cX6_countTagsOn 33 = .ok (.ifCond .ne 15, 3) := by decide +kernel
theorem dX6_countTagsOn_36 : decode cX6_countTagsOn 36 = .ok (.aload 4, 2) := by decide +kernel
theorem dX6_countTagsOn_38 : decode cX6_countTagsOn 38 = .ok (.getfield 180, 3) := by decide +kernel
theorem dX6_countTagsOn_41 : decode cX6_countTagsOn 41 = .ok (.iload_n 1, 1) := by decide +kernel
theorem dX6_countTagsOn_42 : decode cX6_countTagsOn 42 = .ok (.if_icmp .ne 6, 3) := by decide +kernel
theorem dX6_countTagsOn_45 : decode cX6_countTagsOn 45 = .ok (.iinc 2 1, 3) := by decide +kernel
theorem dX6_countTagsOn_48 : decode cX6_countTagsOn 48 = .ok (.iinc 3 1, 3) := by decide +kernel
theorem dX6_countTagsOn_51 : decode cX6_countTagsOn 51 = .ok (.goto (-47), 3) := by decide +kernel
theorem dX6_countTagsOn_54 : decode cX6_countTagsOn 54 = .ok (.iload_n 2, 1) := by decide +kernel
theorem dX6_countTagsOn_55 : decode cX6_countTagsOn 55 = .ok (.ireturn, 1) := by decide +kernel
set_option maxRecDepth 20000 in
theorem ggX6_wasHungOn_Jx4a65c_size_8abf5 : GoodIn wsX6_wasHungOn wsJx4a65c_size_8abf5 := goodIn_r _ [7, 8, 44, 45, 46] (by decide +kernel) (by decide +kernel)
set_option maxRecDepth 20000 in
theorem gX6_wasHungOn_Jx4a65c_size_8abf5 : GoodIn wsX6_wasHungOn (wsV RX6 142 RJx4a65c yJx4a65c_size_8abf5 wsJx4a65c_size_8abf5) := goodIn_app (goodIn_of _ (by decide +kernel)) ggX6_wasHungOn_Jx4a65c_size_8abf5
set_option maxRecDepth 20000 in
theorem ggX6_wasHungOn_Jx4a65c_get_915e3 : GoodIn wsX6_wasHungOn wsJx4a65c_get_915e3 := goodIn_r _ [12, 8, 13, 14, 15, 16, 17, 18, 19, 20, 21, 22, 23, 6, 24, 25, 44, 45, 46] (by decide +kernel) (by decide +kernel)
set_option maxRecDepth 20000 in
theorem gX6_wasHungOn_Jx4a65c_get_915e3 : GoodIn wsX6_wasHungOn (wsV RX6 161 RJx4a65c yJx4a65c_get_915e3 wsJx4a65c_get_915e3) := goodIn_app (goodIn_of _ (by decide +kernel)) ggX6_wasHungOn_Jx4a65c_get_915e3
theorem dX6_wasHungOn_0 : decode cX6_wasHungOn 0 = .ok (.iload_n 1, 1) := by decide +kernel
theorem dX6_wasHungOn_1 : decode cX6_wasHungOn 1 = .ok (.ifCond .lt 36, 3) := by decide +kernel
theorem dX6_wasHungOn_4 : decode cX6_wasHungOn 4 = .ok (.iload_n 1, 1) := by decide +kernel
theorem dX6_wasHungOn_5 : decode cX6_wasHungOn 5 = .ok (.aload_n 0, 1) := by decide +kernel
theorem dX6_wasHungOn_6 : decode cX6_wasHungOn 6 = .ok (.getfield 29, 3) := by decide +kernel
theorem dX6_wasHungOn_9 : decode cX6_wasHungOn 9 = .ok (.invokevirtual 142, 3) := by decide +kernel
theorem dX6_wasHungOn_12 : decode cX6_wasHungOn 12 = .ok (.if_icmp .ge 25, 3) := by decide +kernel
theorem dX6_wasHungOn_15 : decode cX6_wasHungOn 15 = .ok (.aload_n 0, 1) := by decide +kernel
theorem dX6_wasHungOn_16 : decode cX6_wasHungOn 16 = .ok (.getfield 29, 3) := by decide +kernel
theorem dX6_wasHungOn_19 : decode cX6_wasHungOn 19 = .ok (.iload_n 1, 1) := by decide +kernel
theorem dX6_wasHungOn_20 : decode cX6_wasHungOn 20 = .ok (.invokevirtual 161, 3) := by decide +kernel
theorem dX6_wasHungOn_23 : decode cX6_wasHungOn 23 = .ok (.checkcast 145, 3) := by decide +kernel
theorem dX6_wasHungOn_26 : decode cX6_wasHungOn 26 = .ok (.getfield 180, 3) := by decide +kernel
theorem dX6_wasHungOn_29 : decode cX6_wasHungOn 29 = .ok (.iload_n 2, 1) := by decide +kernel
theorem dX6_wasHungOn_30 : decode cX6_wasHungOn 30 = .ok (.if_icmp .ne 7, 3) := by decide +kernel
theorem dX6_wasHungOn_33 : decode cX6_wasHungOn 33 = .ok (.iconst 1, 1) := by decide +kernel
theorem dX6_wasHungOn_34 : decode cX6_wasHungOn 34 = .ok (.goto 4, 3) := by decide +kernel
theorem dX6_wasHungOn_37 : decode cX6_wasHungOn 37 = .ok (.iconst 0, 1) := by decide +kernel
theorem dX6_wasHungOn_38 : decode cX6_wasHungOn 38 = .ok (.ireturn, 1) := by decide +kernel
theorem dX6_isFirstToAsk_0 : decode cX6_isFirstToAsk 0 = .ok (.aload_n 0, 1) := by decide +kernel
theorem dX6_isFirstToAsk_1 : decode cX6_isFirstToAsk 1 = .ok (.getfield 177, 3) := by decide +kernel
theorem dX6_isFirstToAsk_4 : decode cX6_isFirstToAsk 4 = .ok (.iconst (-1), 1) := by decide +kernel
theorem dX6_isFirstToAsk_5 : decode cX6_isFirstToAsk 5 = .ok (.if_icmp .eq 11, 3) := by decide +kernel
theorem dX6_isFirstToAsk_8 : decode cX6_isFirstToAsk 8 = .ok (.aload_n 0, 1) := by decide +kernel
theorem dX6_isFirstToAsk_9 : decode cX6_isFirstToAsk 9 = .ok (.getfield 177, 3) := by decide +kernel
theorem dX6_isFirstToAsk_12 : decode cX6_isFirstToAsk 12 = .ok (.iload_n 1, 1) := by decide +kernel
theorem dX6_isFirstToAsk_13 : decode cX6_isFirstToAsk 13 = .ok (.if_icmp .ne 7, 3) := by decide +kernel
theorem dX6_isFirstToAsk_16 : decode cX6_isFirstToAsk 16 = .ok (.iconst 1, 1) := by decide +kernel
theorem dX6_isFirstToAsk_17 : decode cX6_isFirstToAsk 17 = .ok (.goto 4, 3) := by decide +kernel
theorem dX6_isFirstToAsk_20 : decode cX6_isFirstToAsk 20 = .ok (.iconst 0, 1) := by decide +kernel
theorem dX6_isFirstToAsk_21 : decode cX6_isFirstToAsk 21 = .ok (.ireturn, 1) := by decide +kernel
set_option maxRecDepth 20000 in
theorem ggX6_setValve_X2_noteTurn : GoodIn wsX6_setValve wsX2_noteTurn := goodIn_r _ [7, 8, 9, 10, 5, 11, 12, 13, 14, 15, 16, 17, 18, 19, 20, 21, 22, 23, 24, 25, 26, 27, 28, 29, 30, 31, 32, 50, 51] (by decide +kernel) (by decide +kernel)
set_option maxRecDepth 20000 in
theorem gX6_setValve_X2_noteTurn_n296 : GoodIn wsX6_setValve (wsX2_noteTurn) := ggX6_setValve_X2_noteTurn
theorem dX6_setValve_0 : decode cX6_setValve 0 = .ok (.aload_n 0, 1) := by decide +kernel
theorem dX6_setValve_1 : decode cX6_setValve 1 = .ok (.getfield 11, 3) := by decide +kernel
theorem dX6_setValve_4 : decode cX6_setValve 4 = .ok (.iload_n 2, 1) := by decide +kernel
theorem dX6_setValve_5 : decode cX6_setValve 5 = .ok (.aaload, 1) := by decide +kernel
theorem dX6_setValve_6 : decode cX6_setValve 6 = .ok (.astore 4, 2) := by decide +kernel
theorem dX6_setValve_8 : decode cX6_setValve 8 = .ok (.aload 4, 2) := by decide +kernel
theorem dX6_setValve_10 : decode cX6_setValve 10 = .ok (.getfield 91, 3) := by decide +kernel
theorem dX6_setValve_13 : decode cX6_setValve 13 = .ok (.iload_n 3, 1) := by decide +kernel
theorem dX6_setValve_14 : decode cX6_setValve 14 = .ok (.if_icmp .ne 5, 3) := by decide +kernel
theorem dX6_setValve_17 : decode cX6_setValve 17 = .ok (.iconst 0, 1) := by decide +kernel
theorem dX6_setValve_18 : decode cX6_setValve 18 = .ok (.ireturn, 1) := by decide +kernel
theorem dX6_setValve_19 : decode cX6_setValve 19 = .ok (.aload 4, 2) := by decide +kernel
theorem dX6_setValve_21 : decode cX6_setValve 21 = .ok (.iload_n 3, 1) := by decide +kernel
theorem dX6_setValve_22 : decode cX6_setValve 22 = .ok (.putfield 91, 3) := by decide +kernel
theorem dX6_setValve_25 : decode cX6_setValve 25 = .ok (.aload_n 0, 1) := by decide +kernel
theorem dX6_setValve_26 : decode cX6_setValve 26 = .ok (.getfield 45, 3) := by decide +kernel
theorem dX6_setValve_29 : decode cX6_setValve 29 = .ok (.aload_n 0, 1) := by decide +kernel
theorem dX6_setValve_30 : decode cX6_setValve 30 = .ok (.getfield 56, 3) := by decide +kernel
theorem dX6_setValve_33 : decode cX6_setValve 33 = .ok (.iload_n 1, 1) := by decide +kernel
theorem dX6_setValve_34 : decode cX6_setValve 34 = .ok (.iload_n 2, 1) := by decide +kernel
theorem dX6_setValve_35 : decode cX6_setValve 35 = .ok (.iload_n 3, 1) := by decide +kernel
theorem dX6_setValve_36 : decode cX6_setValve 36 = .ok (.invokevirtual 296, 3) := by decide +kernel
theorem dX6_setValve_39 : decode cX6_setValve 39 = .ok (.iconst 1, 1) := by decide +kernel
theorem dX6_setValve_40 : decode cX6_setValve 40 = .ok (.ireturn, 1) := by decide +kernel
set_option maxRecDepth 20000 in
theorem ggX6_assign_X2_note : GoodIn wsX6_assign wsX2_note := goodIn_r _ [7, 8, 9, 10, 11, 12, 13, 14, 15, 16, 17, 18, 19, 20, 21, 22, 23, 24, 25, 26, 27, 28, 43, 44] (by decide +kernel) (by decide +kernel)
set_option maxRecDepth 20000 in
theorem gX6_assign_X2_note_n154 : GoodIn wsX6_assign (wsX2_note) := ggX6_assign_X2_note
theorem dX6_assign_0 : decode cX6_assign 0 = .ok (.iload_n 2, 1) := by decide +kernel
theorem dX6_assign_1 : decode cX6_assign 1 = .ok (.iconst (-1), 1) := by decide +kernel
theorem dX6_assign_2 : decode cX6_assign 2 = .ok (.if_icmp .eq 24, 3) := by decide +kernel
theorem dX6_assign_5 : decode cX6_assign 5 = .ok (.aload_n 0, 1) := by decide +kernel
theorem dX6_assign_6 : decode cX6_assign 6 = .ok (.getfield 39, 3) := by decide +kernel
theorem dX6_assign_9 : decode cX6_assign 9 = .ok (.iload_n 1, 1) := by decide +kernel
theorem dX6_assign_10 : decode cX6_assign 10 = .ok (.iload_n 2, 1) := by decide +kernel
theorem dX6_assign_11 : decode cX6_assign 11 = .ok (.iastore, 1) := by decide +kernel
theorem dX6_assign_12 : decode cX6_assign 12 = .ok (.aload_n 0, 1) := by decide +kernel
theorem dX6_assign_13 : decode cX6_assign 13 = .ok (.getfield 45, 3) := by decide +kernel
theorem dX6_assign_16 : decode cX6_assign 16 = .ok (.aload_n 0, 1) := by decide +kernel
theorem dX6_assign_17 : decode cX6_assign 17 = .ok (.getfield 56, 3) := by decide +kernel
theorem dX6_assign_20 : decode cX6_assign 20 = .ok (.iconst 5, 1) := by decide +kernel
theorem dX6_assign_21 : decode cX6_assign 21 = .ok (.iload_n 2, 1) := by decide +kernel
theorem dX6_assign_22 : decode cX6_assign 22 = .ok (.iload_n 1, 1) := by decide +kernel
theorem dX6_assign_23 : decode cX6_assign 23 = .ok (.invokevirtual 154, 3) := by decide +kernel
theorem dX6_assign_26 : decode cX6_assign 26 = .ok (.return_, 1) := by decide +kernel
set_option maxRecDepth 20000 in
theorem ggX6_endHour_X6_leadOn : GoodIn wsX6_endHour wsX6_leadOn := goodIn_r _ [10, 11, 12, 13, 14, 15, 16, 17, 18, 9, 19, 93, 94, 95, 96, 97, 98, 99, 100, 101, 102, 103, 104, 105, 106] (by decide +kernel) (by decide +kernel)
set_option maxRecDepth 20000 in
theorem gX6_endHour_X6_leadOn : GoodIn wsX6_endHour (wsV RX6 300 RX6 yX6_leadOn wsX6_leadOn) := goodIn_app (goodIn_of _ (by decide +kernel)) ggX6_endHour_X6_leadOn
set_option maxRecDepth 20000 in
theorem ggX6_endHour_Jx4a65c_size_8abf5 : GoodIn wsX6_endHour wsJx4a65c_size_8abf5 := goodIn_r _ [24, 25, 110, 111, 112] (by decide +kernel) (by decide +kernel)
set_option maxRecDepth 20000 in
theorem gX6_endHour_Jx4a65c_size_8abf5 : GoodIn wsX6_endHour (wsV RX6 142 RJx4a65c yJx4a65c_size_8abf5 wsJx4a65c_size_8abf5) := goodIn_app (goodIn_of _ (by decide +kernel)) ggX6_endHour_Jx4a65c_size_8abf5
set_option maxRecDepth 20000 in
theorem ggX6_endHour_X6_watch : GoodIn wsX6_endHour wsX6_watch := goodIn_r _ [29, 2, 30, 11, 4, 3, 31, 32, 33, 23, 34, 25, 35, 36, 37, 38, 39, 40, 41, 42, 43, 44, 45, 46, 47, 48, 49, 50, 51, 52, 53, 54, 55, 56, 57, 58, 59, 60, 61, 62, 63, 64, 65, 66, 67, 68, 69, 70, 71, 13, 14, 15, 72, 73, 74, 75, 76, 77, 78, 9, 79, 80, 81, 20, 21, 22, 24, 82, 83, 84, 85, 1, 86, 87, 88, 89, 93, 94, 95, 96, 97, 98, 99, 100, 101, 102, 103, 104, 105, 106, 113, 114, 115, 116, 117, 118, 110, 111, 112, 119, 120, 121, 122, 123, 124, 107, 108, 109] (by decide +kernel) (by decide +kernel)
set_option maxRecDepth 20000 in
theorem gX6_endHour_X6_watch : GoodIn wsX6_endHour (wsV RX6 303 RX6 yX6_watch wsX6_watch) := goodIn_app (goodIn_of _ (by decide +kernel)) ggX6_endHour_X6_watch
set_option maxRecDepth 20000 in
theorem ggX6_endHour_X2_size : GoodIn wsX6_endHour wsX2_size := goodIn_r _ [92, 58, 119, 120] (by decide +kernel) (by decide +kernel)
set_option maxRecDepth 20000 in
theorem gX6_endHour_X2_size_n123 : GoodIn wsX6_endHour (wsX2_size) := ggX6_endHour_X2_size
theorem dX6_endHour_0 : decode cX6_endHour 0 = .ok (.iconst 0, 1) := by decide +kernel
theorem dX6_endHour_1 : decode cX6_endHour 1 = .ok (.istore_n 1, 1) := by decide +kernel
theorem dX6_endHour_2 : decode cX6_endHour 2 = .ok (.iload_n 1, 1) := by decide +kernel
theorem dX6_endHour_3 : decode cX6_endHour 3 = .ok (.bipush 8, 2) := by decide +kernel
theorem dX6_endHour_5 : decode cX6_endHour 5 = .ok (.if_icmp .ge 43, 3) := by decide +kernel
theorem dX6_endHour_8 : decode cX6_endHour 8 = .ok (.aload_n 0, 1) := by decide +kernel
theorem dX6_endHour_9 : decode cX6_endHour 9 = .ok (.getfield 11, 3) := by decide +kernel
theorem dX6_endHour_12 : decode cX6_endHour 12 = .ok (.iload_n 1, 1) := by decide +kernel
theorem dX6_endHour_13 : decode cX6_endHour 13 = .ok (.aaload, 1) := by decide +kernel
theorem dX6_endHour_14 : decode cX6_endHour 14 = .ok (.getfield 91, 3) := by decide +kernel
theorem dX6_endHour_17 : decode cX6_endHour 17 = .ok (.ifCond .eq 25, 3) := by decide +kernel
theorem dX6_endHour_20 : decode cX6_endHour 20 = .ok (.aload_n 0, 1) := by decide +kernel
theorem dX6_endHour_21 : decode cX6_endHour 21 = .ok (.aload_n 0, 1) := by decide +kernel
theorem dX6_endHour_22 : decode cX6_endHour 22 = .ok (.getfield 11, 3) := by decide +kernel
theorem dX6_endHour_25 : decode cX6_endHour 25 = .ok (.iload_n 1, 1) := by decide +kernel
theorem dX6_endHour_26 : decode cX6_endHour 26 = .ok (.aaload, 1) := by decide +kernel
theorem dX6_endHour_27 : decode cX6_endHour 27 = .ok (.getfield 100, 3) := by decide +kernel
theorem dX6_endHour_30 : decode cX6_endHour 30 = .ok (.aload_n 0, 1) := by decide +kernel
theorem dX6_endHour_31 : decode cX6_endHour 31 = .ok (.getfield 11, 3) := by decide +kernel
theorem dX6_endHour_34 : decode cX6_endHour 34 = .ok (.iload_n 1, 1) := by decide +kernel
theorem dX6_endHour_35 : decode cX6_endHour 35 = .ok (.aaload, 1) := by decide +kernel
theorem dX6_endHour_36 : decode cX6_endHour 36 = .ok (.getfield 103, 3) := by decide +kernel
theorem dX6_endHour_39 : decode cX6_endHour 39 = .ok (.invokevirtual 300, 3) := by decide +kernel
theorem dX6_endHour_42 : decode cX6_endHour 42 = .ok (.iinc 1 1, 3) := by decide +kernel
theorem dX6_endHour_45 : decode cX6_endHour 45 = .ok (.goto (-43), 3) := by decide +kernel
theorem dX6_endHour_48 : decode cX6_endHour 48 = .ok (.iconst 0, 1) := by decide +kernel
theorem dX6_endHour_49 : decode cX6_endHour 49 = .ok (.istore_n 1, 1) := by decide +kernel
theorem dX6_endHour_50 : decode cX6_endHour 50 = .ok (.iload_n 1, 1) := by decide +kernel
theorem dX6_endHour_51 : decode cX6_endHour 51 = .ok (.aload_n 0, 1) := by decide +kernel
theorem dX6_endHour_52 : decode cX6_endHour 52 = .ok (.getfield 33, 3) := by decide +kernel
theorem dX6_endHour_55 : decode cX6_endHour 55 = .ok (.invokevirtual 142, 3) := by decide +kernel
theorem dX6_endHour_58 : decode cX6_endHour 58 = .ok (.if_icmp .ge 14, 3) := by decide +kernel
theorem dX6_endHour_61 : decode cX6_endHour 61 = .ok (.aload_n 0, 1) := by decide +kernel
theorem dX6_endHour_62 : decode cX6_endHour 62 = .ok (.iload_n 1, 1) := by decide +kernel
theorem dX6_endHour_63 : decode cX6_endHour 63 = .ok (.invokevirtual 303, 3) := by decide +kernel
theorem dX6_endHour_66 : decode cX6_endHour 66 = .ok (.iinc 1 1, 3) := by decide +kernel
theorem dX6_endHour_69 : decode cX6_endHour 69 = .ok (.goto (-19), 3) := by decide +kernel
theorem dX6_endHour_72 : decode cX6_endHour 72 = .ok (.aload_n 0, 1) := by decide +kernel
theorem dX6_endHour_73 : decode cX6_endHour 73 = .ok (.dup, 1) := by decide +kernel
theorem dX6_endHour_74 : decode cX6_endHour 74 = .ok (.getfield 56, 3) := by decide +kernel
theorem dX6_endHour_77 : decode cX6_endHour 77 = .ok (.iconst 1, 1) := by decide +kernel
theorem dX6_endHour_78 : decode cX6_endHour 78 = .ok (.iadd, 1) := by decide +kernel
theorem dX6_endHour_79 : decode cX6_endHour 79 = .ok (.putfield 56, 3) := by decide +kernel
theorem dX6_endHour_82 : decode cX6_endHour 82 = .ok (.aload_n 0, 1) := by decide +kernel
theorem dX6_endHour_83 : decode cX6_endHour 83 = .ok (.getfield 56, 3) := by decide +kernel
theorem dX6_endHour_86 : decode cX6_endHour 86 = .ok (.bipush 8, 2) := by decide +kernel
theorem dX6_endHour_88 : decode cX6_endHour 88 = .ok (.irem, 1) := by decide +kernel
theorem dX6_endHour_89 : decode cX6_endHour 89 = .ok (.ifCond .ne 14, 3) := by decide +kernel
theorem dX6_endHour_92 : decode cX6_endHour 92 = .ok (.aload_n 0, 1) := by decide +kernel
theorem dX6_endHour_93 : decode cX6_endHour 93 = .ok (.aload_n 0, 1) := by decide +kernel
theorem dX6_endHour_94 : decode cX6_endHour 94 = .ok (.getfield 45, 3) := by decide +kernel
theorem dX6_endHour_97 : decode cX6_endHour 97 = .ok (.invokevirtual 123, 3) := by decide +kernel
theorem dX6_endHour_100 : decode cX6_endHour 100 = .ok (.putfield 60, 3) := by decide +kernel
theorem dX6_endHour_103 : decode cX6_endHour 103 = .ok (.return_, 1) := by decide +kernel
set_option maxRecDepth 20000 in
theorem ggX6_leadOn_X6_isVessel : GoodIn wsX6_leadOn wsX6_isVessel := goodIn_r _ [10] (by decide +kernel) (by decide +kernel)
set_option maxRecDepth 20000 in
theorem gX6_leadOn_X6_isVessel : GoodIn wsX6_leadOn (va_wsS RX6 275 yX6_isVessel wsX6_isVessel) := goodIn_app (goodIn_of _ (by decide +kernel)) ggX6_leadOn_X6_isVessel
theorem dX6_leadOn_0 : decode cX6_leadOn 0 = .ok (.bipush 10, 2) := by decide +kernel
theorem dX6_leadOn_2 : decode cX6_leadOn 2 = .ok (.istore_n 3, 1) := by decide +kernel
theorem dX6_leadOn_3 : decode cX6_leadOn 3 = .ok (.iload_n 1, 1) := by decide +kernel
theorem dX6_leadOn_4 : decode cX6_leadOn 4 = .ok (.invokestatic 275, 3) := by decide +kernel
theorem dX6_leadOn_7 : decode cX6_leadOn 7 = .ok (.ifCond .eq 25, 3) := by decide +kernel
theorem dX6_leadOn_10 : decode cX6_leadOn 10 = .ok (.bipush 10, 2) := by decide +kernel
theorem dX6_leadOn_12 : decode cX6_leadOn 12 = .ok (.aload_n 0, 1) := by decide +kernel
theorem dX6_leadOn_13 : decode cX6_leadOn 13 = .ok (.getfield 15, 3) := by decide +kernel
theorem dX6_leadOn_16 : decode cX6_leadOn 16 = .ok (.iload_n 1, 1) := by decide +kernel
theorem dX6_leadOn_17 : decode cX6_leadOn 17 = .ok (.iaload, 1) := by decide +kernel
theorem dX6_leadOn_18 : decode cX6_leadOn 18 = .ok (.invokestatic 306, 3) := by decide +kernel
theorem dX6_leadOn_21 : decode cX6_leadOn 21 = .ok (.istore_n 3, 1) := by decide +kernel
theorem dX6_leadOn_22 : decode cX6_leadOn 22 = .ok (.aload_n 0, 1) := by decide +kernel
theorem dX6_leadOn_23 : decode cX6_leadOn 23 = .ok (.getfield 15, 3) := by decide +kernel
theorem dX6_leadOn_26 : decode cX6_leadOn 26 = .ok (.iload_n 1, 1) := by decide +kernel
theorem dX6_leadOn_27 : decode cX6_leadOn 27 = .ok (.dup2, 1) := by decide +kernel
theorem dX6_leadOn_28 : decode cX6_leadOn 28 = .ok (.iaload, 1) := by decide +kernel
theorem dX6_leadOn_29 : decode cX6_leadOn 29 = .ok (.iload_n 3, 1) := by decide +kernel
theorem dX6_leadOn_30 : decode cX6_leadOn 30 = .ok (.isub, 1) := by decide +kernel
theorem dX6_leadOn_31 : decode cX6_leadOn 31 = .ok (.iastore, 1) := by decide +kernel
theorem dX6_leadOn_32 : decode cX6_leadOn 32 = .ok (.iload_n 2, 1) := by decide +kernel
theorem dX6_leadOn_33 : decode cX6_leadOn 33 = .ok (.invokestatic 275, 3) := by decide +kernel
theorem dX6_leadOn_36 : decode cX6_leadOn 36 = .ok (.ifCond .eq 45, 3) := by decide +kernel
theorem dX6_leadOn_39 : decode cX6_leadOn 39 = .ok (.aload_n 0, 1) := by decide +kernel
theorem dX6_leadOn_40 : decode cX6_leadOn 40 = .ok (.getfield 15, 3) := by decide +kernel
theorem dX6_leadOn_43 : decode cX6_leadOn 43 = .ok (.iload_n 2, 1) := by decide +kernel
theorem dX6_leadOn_44 : decode cX6_leadOn 44 = .ok (.iaload, 1) := by decide +kernel
theorem dX6_leadOn_45 : decode cX6_leadOn 45 = .ok (.iload_n 3, 1) := by decide +kernel
theorem dX6_leadOn_46 : decode cX6_leadOn 46 = .ok (.iadd, 1) := by decide +kernel
theorem dX6_leadOn_47 : decode cX6_leadOn 47 = .ok (.istore 4, 2) := by decide +kernel
theorem dX6_leadOn_49 : decode cX6_leadOn 49 = .ok (.aload_n 0, 1) := by decide +kernel
theorem dX6_leadOn_50 : decode cX6_leadOn 50 = .ok (.getfield 15, 3) := by decide +kernel
theorem dX6_leadOn_53 : decode cX6_leadOn 53 = .ok (.iload_n 2, 1) := by decide +kernel
theorem dX6_leadOn_54 : decode cX6_leadOn 54 = .ok (.sipush 1000, 3) := by decide +kernel
theorem dX6_leadOn_57 : decode cX6_leadOn 57 = .ok (.iload 4, 2) := by decide +kernel
theorem dX6_leadOn_59 : decode cX6_leadOn 59 = .ok (.invokestatic 306, 3) := by decide +kernel
theorem dX6_leadOn_62 : decode cX6_leadOn 62 = .ok (.iastore, 1) := by decide +kernel
theorem dX6_leadOn_63 : decode cX6_leadOn 63 = .ok (.aload_n 0, 1) := by decide +kernel
theorem dX6_leadOn_64 : decode cX6_leadOn 64 = .ok (.dup, 1) := by decide +kernel
theorem dX6_leadOn_65 : decode cX6_leadOn 65 = .ok (.getfield 63, 3) := by decide +kernel
theorem dX6_leadOn_68 : decode cX6_leadOn 68 = .ok (.iload 4, 2) := by decide +kernel
theorem dX6_leadOn_70 : decode cX6_leadOn 70 = .ok (.aload_n 0, 1) := by decide +kernel
theorem dX6_leadOn_71 : decode cX6_leadOn 71 = .ok (.getfield 15, 3) := by decide +kernel
theorem dX6_leadOn_74 : decode cX6_leadOn 74 = .ok (.iload_n 2, 1) := by decide +kernel
theorem dX6_leadOn_75 : decode cX6_leadOn 75 = .ok (.iaload, 1) := by decide +kernel
theorem dX6_leadOn_76 : decode cX6_leadOn 76 = .ok (.isub, 1) := by decide +kernel
theorem dX6_leadOn_77 : decode cX6_leadOn 77 = .ok (.iadd, 1) := by decide +kernel
theorem dX6_leadOn_78 : decode cX6_leadOn 78 = .ok (.putfield 63, 3) := by decide +kernel
theorem dX6_leadOn_81 : decode cX6_leadOn 81 = .ok (.return_, 1) := by decide +kernel
set_option maxRecDepth 20000 in
theorem ggX6_watch_Jx4a65c_get_915e3 : GoodIn wsX6_watch wsJx4a65c_get_915e3 := goodIn_r _ [10, 11, 12, 13, 14, 15, 16, 17, 18, 19, 20, 21, 22, 9, 23, 24, 96, 97, 98] (by decide +kernel) (by decide +kernel)
set_option maxRecDepth 20000 in
theorem gX6_watch_Jx4a65c_get_915e3 : GoodIn wsX6_watch (wsV RX6 161 RJx4a65c yJx4a65c_get_915e3 wsJx4a65c_get_915e3) := goodIn_app (goodIn_of _ (by decide +kernel)) ggX6_watch_Jx4a65c_get_915e3
set_option maxRecDepth 20000 in
theorem ggX6_watch_X0_isMetBy : GoodIn wsX6_watch wsX0_isMetBy := goodIn_r _ [28, 29, 30, 90, 91, 92, 93, 94, 95] (by decide +kernel) (by decide +kernel)
set_option maxRecDepth 20000 in
theorem gX6_watch_X0_isMetBy_n314 : GoodIn wsX6_watch (wsX0_isMetBy) := ggX6_watch_X0_isMetBy
set_option maxRecDepth 20000 in
theorem ggX6_watch_X2_note : GoodIn wsX6_watch wsX2_note := goodIn_r _ [34, 35, 36, 37, 38, 39, 40, 41, 42, 43, 44, 45, 46, 47, 48, 49, 50, 51, 52, 53, 54, 55, 99, 100] (by decide +kernel) (by decide +kernel)
set_option maxRecDepth 20000 in
theorem gX6_watch_X2_note_n154 : GoodIn wsX6_watch (wsX2_note) := ggX6_watch_X2_note
set_option maxRecDepth 20000 in
theorem ggX6_watch_X6_hasTagOfAnother : GoodIn wsX6_watch wsX6_hasTagOfAnother := goodIn_r _ [60, 61, 62, 63, 64, 65, 9, 66, 11, 6, 7, 8, 10, 12, 13, 14, 15, 16, 17, 18, 19, 20, 21, 22, 23, 24, 76, 77, 78, 79, 80, 81, 82, 83, 84, 85, 86, 87, 88, 89, 101, 102, 103, 104, 96, 97, 98] (by decide +kernel) (by decide +kernel)
set_option maxRecDepth 20000 in
theorem gX6_watch_X6_hasTagOfAnother : GoodIn wsX6_watch (wsV RX6 293 RX6 yX6_hasTagOfAnother wsX6_hasTagOfAnother) := goodIn_app (goodIn_of _ (by decide +kernel)) ggX6_watch_X6_hasTagOfAnother
set_option maxRecDepth 20000 in
theorem ggX6_watch_X6_setValve : GoodIn wsX6_watch wsX6_setValve := goodIn_r _ [70, 71, 4, 5, 72, 32, 73, 74, 75, 31, 33, 34, 35, 36, 37, 38, 39, 40, 41, 42, 43, 44, 45, 46, 47, 48, 49, 50, 51, 52, 53, 54, 55, 76, 77, 78, 79, 80, 81, 82, 83, 84, 85, 86, 87, 88, 89, 105, 106, 107, 99, 100] (by decide +kernel) (by decide +kernel)
set_option maxRecDepth 20000 in
theorem gX6_watch_X6_setValve : GoodIn wsX6_watch (wsV RX6 119 RX6 yX6_setValve wsX6_setValve) := goodIn_app (goodIn_of _ (by decide +kernel)) ggX6_watch_X6_setValve
theorem dX6_watch_0 : decode cX6_watch 0 = .ok (.aload_n 0, 1) := by decide +kernel
theorem dX6_watch_1 : decode cX6_watch 1 = .ok (.getfield 33, 3) := by decide +kernel
theorem dX6_watch_4 : decode cX6_watch 4 = .ok (.iload_n 1, 1) := by decide +kernel
theorem dX6_watch_5 : decode cX6_watch 5 = .ok (.invokevirtual 161, 3) := by decide +kernel
theorem dX6_watch_8 : decode cX6_watch 8 = .ok (.checkcast 212, 3) := by decide +kernel
theorem dX6_watch_11 : decode cX6_watch 11 = .ok (.astore_n 2, 1) := by decide +kernel
theorem dX6_watch_12 : decode cX6_watch 12 = .ok (.aload_n 2, 1) := by decide +kernel
theorem dX6_watch_13 : decode cX6_watch 13 = .ok (.aload_n 0, 1) := by decide +kernel
theorem dX6_watch_14 : decode cX6_watch 14 = .ok (.getfield 15, 3) := by decide +kernel
theorem dX6_watch_17 : decode cX6_watch 17 = .ok (.aload_n 2, 1) := by decide +kernel
theorem dX6_watch_18 : decode cX6_watch 18 = .ok (.getfield 311, 3) := by decide +kernel
theorem dX6_watch_21 : decode cX6_watch 21 = .ok (.iaload, 1) := by decide +kernel
theorem dX6_watch_22 : decode cX6_watch 22 = .ok (.invokevirtual 314, 3) := by decide +kernel
theorem dX6_watch_25 : decode cX6_watch 25 = .ok (.ifCond .ne 9, 3) := by decide +kernel
theorem dX6_watch_28 : decode cX6_watch 28 = .ok (.aload_n 2, 1) := by decide +kernel
theorem dX6_watch_29 : decode cX6_watch 29 = .ok (.iconst 0, 1) := by decide +kernel
theorem dX6_watch_30 : decode cX6_watch 30 = .ok (.putfield 219, 3) := by decide +kernel
theorem dX6_watch_33 : decode cX6_watch 33 = .ok (.return_, 1) := by decide +kernel
theorem dX6_watch_34 : decode cX6_watch 34 = .ok (.aload_n 2, 1) := by decide +kernel
theorem dX6_watch_35 : decode cX6_watch 35 = .ok (.getfield 219, 3) := by decide +kernel
theorem dX6_watch_38 : decode cX6_watch 38 = .ok (.iconst 1, 1) := by decide +kernel
theorem dX6_watch_39 : decode cX6_watch 39 = .ok (.if_icmp .ne 4, 3) := by decide +kernel
theorem dX6_watch_42 : decode cX6_watch 42 = .ok (.return_, 1) := by decide +kernel
theorem dX6_watch_43 : decode cX6_watch 43 = .ok (.aload_n 2, 1) := by decide +kernel
theorem dX6_watch_44 : decode cX6_watch 44 = .ok (.getfield 219, 3) := by decide +kernel
theorem dX6_watch_47 : decode cX6_watch 47 = .ok (.ifCond .ne 17, 3) := by decide +kernel
theorem dX6_watch_50 : decode cX6_watch 50 = .ok (.aload_n 0, 1) := by decide +kernel
theorem dX6_watch_51 : decode cX6_watch 51 = .ok (.getfield 45, 3) := by decide +kernel
theorem dX6_watch_54 : decode cX6_watch 54 = .ok (.aload_n 0, 1) := by decide +kernel
theorem dX6_watch_55 : decode cX6_watch 55 = .ok (.getfield 56, 3) := by decide +kernel
theorem dX6_watch_58 : decode cX6_watch 58 = .ok (.iconst 3, 1) := by decide +kernel
theorem dX6_watch_59 : decode cX6_watch 59 = .ok (.iconst (-1), 1) := by decide +kernel
theorem dX6_watch_60 : decode cX6_watch 60 = .ok (.iload_n 1, 1) := by decide +kernel
theorem dX6_watch_61 : decode cX6_watch 61 = .ok (.invokevirtual 154, 3) := by decide +kernel
theorem dX6_watch_64 : decode cX6_watch 64 = .ok (.aload_n 0, 1) := by decide +kernel
theorem dX6_watch_65 : decode cX6_watch 65 = .ok (.aload_n 2, 1) := by decide +kernel
theorem dX6_watch_66 : decode cX6_watch 66 = .ok (.getfield 317, 3) := by decide +kernel
theorem dX6_watch_69 : decode cX6_watch 69 = .ok (.iconst (-1), 1) := by decide +kernel
theorem dX6_watch_70 : decode cX6_watch 70 = .ok (.invokevirtual 293, 3) := by decide +kernel
theorem dX6_watch_73 : decode cX6_watch 73 = .ok (.ifCond .eq 9, 3) := by decide +kernel
theorem dX6_watch_76 : decode cX6_watch 76 = .ok (.aload_n 2, 1) := by decide +kernel
theorem dX6_watch_77 : decode cX6_watch 77 = .ok (.iconst 2, 1) := by decide +kernel
theorem dX6_watch_78 : decode cX6_watch 78 = .ok (.putfield 219, 3) := by decide +kernel
theorem dX6_watch_81 : decode cX6_watch 81 = .ok (.return_, 1) := by decide +kernel
theorem dX6_watch_82 : decode cX6_watch 82 = .ok (.aload_n 0, 1) := by decide +kernel
theorem dX6_watch_83 : decode cX6_watch 83 = .ok (.iconst (-1), 1) := by decide +kernel
theorem dX6_watch_84 : decode cX6_watch 84 = .ok (.aload_n 2, 1) := by decide +kernel
theorem dX6_watch_85 : decode cX6_watch 85 = .ok (.getfield 317, 3) := by decide +kernel
theorem dX6_watch_88 : decode cX6_watch 88 = .ok (.aload_n 2, 1) := by decide +kernel
theorem dX6_watch_89 : decode cX6_watch 89 = .ok (.getfield 318, 3) := by decide +kernel
theorem dX6_watch_92 : decode cX6_watch 92 = .ok (.invokevirtual 119, 3) := by decide +kernel
theorem dX6_watch_95 : decode cX6_watch 95 = .ok (.pop, 1) := by decide +kernel
theorem dX6_watch_96 : decode cX6_watch 96 = .ok (.aload_n 2, 1) := by decide +kernel
theorem dX6_watch_97 : decode cX6_watch 97 = .ok (.iconst 1, 1) := by decide +kernel
theorem dX6_watch_98 : decode cX6_watch 98 = .ok (.putfield 219, 3) := by decide +kernel
theorem dX6_watch_101 : decode cX6_watch 101 = .ok (.return_, 1) := by decide +kernel
theorem dJ9_max_7cf53_0 : decode cJ9_max_7cf53 0 = .ok (.iload_n 0, 1) := by decide +kernel
theorem dJ9_max_7cf53_1 : decode cJ9_max_7cf53 1 = .ok (.iload_n 1, 1) := by decide +kernel
theorem dJ9_max_7cf53_2 : decode cJ9_max_7cf53 2 = .ok (.if_icmp .lt 7, 3) := by decide +kernel
theorem dJ9_max_7cf53_5 : decode cJ9_max_7cf53 5 = .ok (.iload_n 0, 1) := by decide +kernel
theorem dJ9_max_7cf53_6 : decode cJ9_max_7cf53 6 = .ok (.goto 4, 3) := by decide +kernel
theorem dJ9_max_7cf53_9 : decode cJ9_max_7cf53 9 = .ok (.iload_n 1, 1) := by decide +kernel
theorem dJ9_max_7cf53_10 : decode cJ9_max_7cf53 10 = .ok (.ireturn, 1) := by decide +kernel
theorem dJ9_min_7cf53_0 : decode cJ9_min_7cf53 0 = .ok (.iload_n 0, 1) := by decide +kernel
theorem dJ9_min_7cf53_1 : decode cJ9_min_7cf53 1 = .ok (.iload_n 1, 1) := by decide +kernel
theorem dJ9_min_7cf53_2 : decode cJ9_min_7cf53 2 = .ok (.if_icmp .gt 7, 3) := by decide +kernel
theorem dJ9_min_7cf53_5 : decode cJ9_min_7cf53 5 = .ok (.iload_n 0, 1) := by decide +kernel
theorem dJ9_min_7cf53_6 : decode cJ9_min_7cf53 6 = .ok (.goto 4, 3) := by decide +kernel
theorem dJ9_min_7cf53_9 : decode cJ9_min_7cf53 9 = .ok (.iload_n 1, 1) := by decide +kernel
theorem dJ9_min_7cf53_10 : decode cJ9_min_7cf53 10 = .ok (.ireturn, 1) := by decide +kernel
theorem dJxa1e45_init_da8c8_0 : decode cJxa1e45_init_da8c8 0 = .ok (.aload_n 0, 1) := by decide +kernel
theorem dJxa1e45_init_da8c8_1 : decode cJxa1e45_init_da8c8 1 = .ok (.invokespecial 1, 3) := by decide +kernel
theorem dJxa1e45_init_da8c8_4 : decode cJxa1e45_init_da8c8 4 = .ok (.return_, 1) := by decide +kernel
set_option maxRecDepth 20000 in
theorem ggJxc12de_init_da8c8_Jxa1e45_init_da8c8 : GoodIn wsJxc12de_init_da8c8 wsJxa1e45_init_da8c8 := goodIn_r _ [5, 6, 7, 8] (by decide +kernel) (by decide +kernel)
set_option maxRecDepth 20000 in
theorem gJxc12de_init_da8c8_Jxa1e45_init_da8c8 : GoodIn wsJxc12de_init_da8c8 (wsJxa1e45_init_da8c8) := ggJxc12de_init_da8c8_Jxa1e45_init_da8c8
theorem dJxc12de_init_da8c8_0 : decode cJxc12de_init_da8c8 0 = .ok (.aload_n 0, 1) := by decide +kernel
theorem dJxc12de_init_da8c8_1 : decode cJxc12de_init_da8c8 1 = .ok (.invokespecial 1, 3) := by decide +kernel
theorem dJxc12de_init_da8c8_4 : decode cJxc12de_init_da8c8 4 = .ok (.aload_n 0, 1) := by decide +kernel
theorem dJxc12de_init_da8c8_5 : decode cJxc12de_init_da8c8 5 = .ok (.iconst 0, 1) := by decide +kernel
theorem dJxc12de_init_da8c8_6 : decode cJxc12de_init_da8c8 6 = .ok (.putfield 7, 3) := by decide +kernel
theorem dJxc12de_init_da8c8_9 : decode cJxc12de_init_da8c8 9 = .ok (.return_, 1) := by decide +kernel
set_option maxRecDepth 20000 in
theorem ggJx4a65c_init_da8c8_Jxc12de_init_da8c8 : GoodIn wsJx4a65c_init_da8c8 wsJxc12de_init_da8c8 := goodIn_r _ [6, 7, 8, 9, 10, 11, 12, 13, 14, 15, 16, 17] (by decide +kernel) (by decide +kernel)
set_option maxRecDepth 20000 in
theorem gJx4a65c_init_da8c8_Jxc12de_init_da8c8 : GoodIn wsJx4a65c_init_da8c8 (wsJxc12de_init_da8c8) := ggJx4a65c_init_da8c8_Jxc12de_init_da8c8
theorem dJx4a65c_init_da8c8_0 : decode cJx4a65c_init_da8c8 0 = .ok (.aload_n 0, 1) := by decide +kernel
theorem dJx4a65c_init_da8c8_1 : decode cJx4a65c_init_da8c8 1 = .ok (.invokespecial 1, 3) := by decide +kernel
theorem dJx4a65c_init_da8c8_4 : decode cJx4a65c_init_da8c8 4 = .ok (.aload_n 0, 1) := by decide +kernel
theorem dJx4a65c_init_da8c8_5 : decode cJx4a65c_init_da8c8 5 = .ok (.getstatic 39, 3) := by decide +kernel
theorem dJx4a65c_init_da8c8_8 : decode cJx4a65c_init_da8c8 8 = .ok (.putfield 9, 3) := by decide +kernel
theorem dJx4a65c_init_da8c8_11 : decode cJx4a65c_init_da8c8 11 = .ok (.return_, 1) := by decide +kernel
set_option maxRecDepth 20000 in
theorem ggJx4a65c_grow_92f84_J8_newLength_cabcc : GoodIn wsJx4a65c_grow_92f84 wsJ8_newLength_cabcc := goodIn_r _ [11, 12, 4, 5, 6, 13, 14, 15, 10, 16] (by decide +kernel) (by decide +kernel)
set_option maxRecDepth 20000 in
theorem gJx4a65c_grow_92f84_J8_newLength_cabcc : GoodIn wsJx4a65c_grow_92f84 (va_wsS RJx4a65c 73 yJ8_newLength_cabcc wsJ8_newLength_cabcc) := goodIn_app (goodIn_of _ (by decide +kernel)) ggJx4a65c_grow_92f84_J8_newLength_cabcc
set_option maxRecDepth 20000 in
theorem ggJx4a65c_grow_92f84_J7_copyOf_1904c : GoodIn wsJx4a65c_grow_92f84 wsJ7_copyOf_1904c := goodIn_r _ [20, 21, 22, 23, 24, 25, 26, 19, 27, 28, 29, 30, 31, 5, 32, 33, 34, 35, 36] (by decide +kernel) (by decide +kernel)
set_option maxRecDepth 20000 in
theorem gJx4a65c_grow_92f84_J7_copyOf_1904c : GoodIn wsJx4a65c_grow_92f84 (va_wsS RJx4a65c 66 yJ7_copyOf_1904c wsJ7_copyOf_1904c) := goodIn_app (goodIn_of _ (by decide +kernel)) ggJx4a65c_grow_92f84_J7_copyOf_1904c
theorem dJx4a65c_grow_92f84_0 : decode cJx4a65c_grow_92f84 0 = .ok (.aload_n 0, 1) := by decide +kernel
theorem dJx4a65c_grow_92f84_1 : decode cJx4a65c_grow_92f84 1 = .ok (.getfield 9, 3) := by decide +kernel
theorem dJx4a65c_grow_92f84_4 : decode cJx4a65c_grow_92f84 4 = .ok (.arraylength, 1) := by decide +kernel
theorem dJx4a65c_grow_92f84_5 : decode cJx4a65c_grow_92f84 5 = .ok (.istore_n 2, 1) := by decide +kernel
theorem dJx4a65c_grow_92f84_6 : decode cJx4a65c_grow_92f84 6 = .ok (.iload_n 2, 1) := by decide +kernel
theorem dJx4a65c_grow_92f84_7 : decode cJx4a65c_grow_92f84 7 = .ok (.ifCond .gt 13, 3) := by decide +kernel
theorem dJx4a65c_grow_92f84_10 : decode cJx4a65c_grow_92f84 10 = .ok (.aload_n 0, 1) := by decide +kernel
theorem dJx4a65c_grow_92f84_11 : decode cJx4a65c_grow_92f84 11 = .ok (.getfield 9, 3) := by decide +kernel
theorem dJx4a65c_grow_92f84_14 : decode cJx4a65c_grow_92f84 14 = .ok (.getstatic 39, 3) := by decide +kernel
theorem dJx4a65c_grow_92f84_17 : decode cJx4a65c_grow_92f84 17 = .ok (.if_acmp .eq 28, 3) := by decide +kernel
theorem dJx4a65c_grow_92f84_20 : decode cJx4a65c_grow_92f84 20 = .ok (.iload_n 2, 1) := by decide +kernel
theorem dJx4a65c_grow_92f84_21 : decode cJx4a65c_grow_92f84 21 = .ok (.iload_n 1, 1) := by decide +kernel
theorem dJx4a65c_grow_92f84_22 : decode cJx4a65c_grow_92f84 22 = .ok (.iload_n 2, 1) := by decide +kernel
theorem dJx4a65c_grow_92f84_23 : decode cJx4a65c_grow_92f84 23 = .ok (.isub, 1) := by decide +kernel
theorem dJx4a65c_grow_92f84_24 : decode cJx4a65c_grow_92f84 24 = .ok (.iload_n 2, 1) := by decide +kernel
theorem dJx4a65c_grow_92f84_25 : decode cJx4a65c_grow_92f84 25 = .ok (.iconst 1, 1) := by decide +kernel
theorem dJx4a65c_grow_92f84_26 : decode cJx4a65c_grow_92f84 26 = .ok (.ishr, 1) := by decide +kernel
theorem dJx4a65c_grow_92f84_27 : decode cJx4a65c_grow_92f84 27 = .ok (.invokestatic 73, 3) := by decide +kernel
theorem dJx4a65c_grow_92f84_30 : decode cJx4a65c_grow_92f84 30 = .ok (.istore_n 3, 1) := by decide +kernel
theorem dJx4a65c_grow_92f84_31 : decode cJx4a65c_grow_92f84 31 = .ok (.aload_n 0, 1) := by decide +kernel
theorem dJx4a65c_grow_92f84_32 : decode cJx4a65c_grow_92f84 32 = .ok (.aload_n 0, 1) := by decide +kernel
theorem dJx4a65c_grow_92f84_33 : decode cJx4a65c_grow_92f84 33 = .ok (.getfield 9, 3) := by decide +kernel
theorem dJx4a65c_grow_92f84_36 : decode cJx4a65c_grow_92f84 36 = .ok (.iload_n 3, 1) := by decide +kernel
theorem dJx4a65c_grow_92f84_37 : decode cJx4a65c_grow_92f84 37 = .ok (.invokestatic 66, 3) := by decide +kernel
theorem dJx4a65c_grow_92f84_40 : decode cJx4a65c_grow_92f84 40 = .ok (.dup_x1, 1) := by decide +kernel
theorem dJx4a65c_grow_92f84_41 : decode cJx4a65c_grow_92f84 41 = .ok (.putfield 9, 3) := by decide +kernel
theorem dJx4a65c_grow_92f84_44 : decode cJx4a65c_grow_92f84 44 = .ok (.areturn, 1) := by decide +kernel
theorem dJx4a65c_grow_92f84_45 : decode cJx4a65c_grow_92f84 45 = .ok (.aload_n 0, 1) := by decide +kernel
theorem dJx4a65c_grow_92f84_46 : decode cJx4a65c_grow_92f84 46 = .ok (.bipush 10, 2) := by decide +kernel
theorem dJx4a65c_grow_92f84_48 : decode cJx4a65c_grow_92f84 48 = .ok (.iload_n 1, 1) := by decide +kernel
theorem dJx4a65c_grow_92f84_49 : decode cJx4a65c_grow_92f84 49 = .ok (.invokestatic 79, 3) := by decide +kernel
theorem dJx4a65c_grow_92f84_52 : decode cJx4a65c_grow_92f84 52 = .ok (.anewarray 7, 3) := by decide +kernel
theorem dJx4a65c_grow_92f84_55 : decode cJx4a65c_grow_92f84 55 = .ok (.dup_x1, 1) := by decide +kernel
theorem dJx4a65c_grow_92f84_56 : decode cJx4a65c_grow_92f84 56 = .ok (.putfield 9, 3) := by decide +kernel
theorem dJx4a65c_grow_92f84_59 : decode cJx4a65c_grow_92f84 59 = .ok (.areturn, 1) := by decide +kernel
set_option maxRecDepth 20000 in
theorem ggJx4a65c_grow_d5877_Jx4a65c_grow_92f84 : GoodIn wsJx4a65c_grow_d5877 wsJx4a65c_grow_92f84 := goodIn_r _ [6, 7, 8, 9, 10, 11, 12, 13, 14, 15, 16, 17, 18, 19, 20, 21, 22, 23, 24, 25, 26, 27, 28, 29, 30, 31, 32, 33, 34, 35, 36, 37, 38, 39, 40, 41, 42, 43, 44, 45] (by decide +kernel) (by decide +kernel)
set_option maxRecDepth 20000 in
theorem gJx4a65c_grow_d5877_Jx4a65c_grow_92f84 : GoodIn wsJx4a65c_grow_d5877 (wsV RJx4a65c 69 RJx4a65c yJx4a65c_grow_92f84 wsJx4a65c_grow_92f84) := goodIn_app (goodIn_of _ (by decide +kernel)) ggJx4a65c_grow_d5877_Jx4a65c_grow_92f84
theorem dJx4a65c_grow_d5877_0 : decode cJx4a65c_grow_d5877 0 = .ok (.aload_n 0, 1) := by decide +kernel
theorem dJx4a65c_grow_d5877_1 : decode cJx4a65c_grow_d5877 1 = .ok (.aload_n 0, 1) := by decide +kernel
theorem dJx4a65c_grow_d5877_2 : decode cJx4a65c_grow_d5877 2 = .ok (.getfield 48, 3) := by decide +kernel
theorem dJx4a65c_grow_d5877_5 : decode cJx4a65c_grow_d5877 5 = .ok (.iconst 1, 1) := by decide +kernel
theorem dJx4a65c_grow_d5877_6 : decode cJx4a65c_grow_d5877 6 = .ok (.iadd, 1) := by decide +kernel
theorem dJx4a65c_grow_d5877_7 : decode cJx4a65c_grow_d5877 7 = .ok (.invokevirtual 69, 3) := by decide +kernel
theorem dJx4a65c_grow_d5877_10 : decode cJx4a65c_grow_d5877 10 = .ok (.areturn, 1) := by decide +kernel
theorem dJx4a65c_size_8abf5_0 : decode cJx4a65c_size_8abf5 0 = .ok (.aload_n 0, 1) := by decide +kernel
theorem dJx4a65c_size_8abf5_1 : decode cJx4a65c_size_8abf5 1 = .ok (.getfield 48, 3) := by decide +kernel
theorem dJx4a65c_size_8abf5_4 : decode cJx4a65c_size_8abf5 4 = .ok (.ireturn, 1) := by decide +kernel
theorem dJx4a65c_elementData_915e3_0 : decode cJx4a65c_elementData_915e3 0 = .ok (.aload_n 0, 1) := by decide +kernel
theorem dJx4a65c_elementData_915e3_1 : decode cJx4a65c_elementData_915e3 1 = .ok (.getfield 9, 3) := by decide +kernel
theorem dJx4a65c_elementData_915e3_4 : decode cJx4a65c_elementData_915e3 4 = .ok (.iload_n 1, 1) := by decide +kernel
theorem dJx4a65c_elementData_915e3_5 : decode cJx4a65c_elementData_915e3 5 = .ok (.aaload, 1) := by decide +kernel
theorem dJx4a65c_elementData_915e3_6 : decode cJx4a65c_elementData_915e3 6 = .ok (.areturn, 1) := by decide +kernel
set_option maxRecDepth 20000 in
theorem ggJx4a65c_get_915e3_J15_checkIndex_7cf53 : GoodIn wsJx4a65c_get_915e3 wsJ15_checkIndex_7cf53 := goodIn_r _ [5, 6, 7, 8, 9] (by decide +kernel) (by decide +kernel)
set_option maxRecDepth 20000 in
theorem gJx4a65c_get_915e3_J15_checkIndex_7cf53 : GoodIn wsJx4a65c_get_915e3 (va_wsS RJx4a65c 118 yJ15_checkIndex_7cf53 wsJ15_checkIndex_7cf53) := goodIn_app (goodIn_of _ (by decide +kernel)) ggJx4a65c_get_915e3_J15_checkIndex_7cf53
set_option maxRecDepth 20000 in
theorem ggJx4a65c_get_915e3_Jx4a65c_elementData_915e3 : GoodIn wsJx4a65c_get_915e3 wsJx4a65c_elementData_915e3 := goodIn_r _ [14, 15, 16, 17, 18] (by decide +kernel) (by decide +kernel)
set_option maxRecDepth 20000 in
theorem gJx4a65c_get_915e3_Jx4a65c_elementData_915e3 : GoodIn wsJx4a65c_get_915e3 (wsV RJx4a65c 123 RJx4a65c yJx4a65c_elementData_915e3 wsJx4a65c_elementData_915e3) := goodIn_app (goodIn_of _ (by decide +kernel)) ggJx4a65c_get_915e3_Jx4a65c_elementData_915e3
theorem dJx4a65c_get_915e3_0 : decode cJx4a65c_get_915e3 0 = .ok (.iload_n 1, 1) := by decide +kernel
theorem dJx4a65c_get_915e3_1 : decode cJx4a65c_get_915e3 1 = .ok (.aload_n 0, 1) := by decide +kernel
theorem dJx4a65c_get_915e3_2 : decode cJx4a65c_get_915e3 2 = .ok (.getfield 48, 3) := by decide +kernel
theorem dJx4a65c_get_915e3_5 : decode cJx4a65c_get_915e3 5 = .ok (.invokestatic 118, 3) := by decide +kernel
theorem dJx4a65c_get_915e3_8 : decode cJx4a65c_get_915e3 8 = .ok (.pop, 1) := by decide +kernel
theorem dJx4a65c_get_915e3_9 : decode cJx4a65c_get_915e3 9 = .ok (.aload_n 0, 1) := by decide +kernel
theorem dJx4a65c_get_915e3_10 : decode cJx4a65c_get_915e3 10 = .ok (.iload_n 1, 1) := by decide +kernel
theorem dJx4a65c_get_915e3_11 : decode cJx4a65c_get_915e3 11 = .ok (.invokevirtual 123, 3) := by decide +kernel
theorem dJx4a65c_get_915e3_14 : decode cJx4a65c_get_915e3 14 = .ok (.areturn, 1) := by decide +kernel
set_option maxRecDepth 20000 in
theorem ggJx4a65c_add_72be8_Jx4a65c_grow_d5877 : GoodIn wsJx4a65c_add_72be8 wsJx4a65c_grow_d5877 := goodIn_r _ [6, 1, 7, 8, 9, 5, 10, 11, 12, 13, 14, 15, 16, 17, 18, 19, 20, 21, 22, 23, 24, 25, 26, 27, 28, 29, 30, 31, 32, 33, 34, 35, 36, 37, 38, 39, 40, 41, 42, 43, 44, 45, 46, 47, 48, 49] (by decide +kernel) (by decide +kernel)
set_option maxRecDepth 20000 in
theorem gJx4a65c_add_72be8_Jx4a65c_grow_d5877 : GoodIn wsJx4a65c_add_72be8 (wsV RJx4a65c 129 RJx4a65c yJx4a65c_grow_d5877 wsJx4a65c_grow_d5877) := goodIn_app (goodIn_of _ (by decide +kernel)) ggJx4a65c_add_72be8_Jx4a65c_grow_d5877
theorem dJx4a65c_add_72be8_0 : decode cJx4a65c_add_72be8 0 = .ok (.iload_n 3, 1) := by decide +kernel
theorem dJx4a65c_add_72be8_1 : decode cJx4a65c_add_72be8 1 = .ok (.aload_n 2, 1) := by decide +kernel
theorem dJx4a65c_add_72be8_2 : decode cJx4a65c_add_72be8 2 = .ok (.arraylength, 1) := by decide +kernel
theorem dJx4a65c_add_72be8_3 : decode cJx4a65c_add_72be8 3 = .ok (.if_icmp .ne 8, 3) := by decide +kernel
theorem dJx4a65c_add_72be8_6 : decode cJx4a65c_add_72be8 6 = .ok (.aload_n 0, 1) := by decide +kernel
theorem dJx4a65c_add_72be8_7 : decode cJx4a65c_add_72be8 7 = .ok (.invokevirtual 129, 3) := by decide +kernel
theorem dJx4a65c_add_72be8_10 : decode cJx4a65c_add_72be8 10 = .ok (.astore_n 2, 1) := by decide +kernel
theorem dJx4a65c_add_72be8_11 : decode cJx4a65c_add_72be8 11 = .ok (.aload_n 2, 1) := by decide +kernel
theorem dJx4a65c_add_72be8_12 : decode cJx4a65c_add_72be8 12 = .ok (.iload_n 3, 1) := by decide +kernel
theorem dJx4a65c_add_72be8_13 : decode cJx4a65c_add_72be8 13 = .ok (.aload_n 1, 1) := by decide +kernel
theorem dJx4a65c_add_72be8_14 : decode cJx4a65c_add_72be8 14 = .ok (.aastore, 1) := by decide +kernel
theorem dJx4a65c_add_72be8_15 : decode cJx4a65c_add_72be8 15 = .ok (.aload_n 0, 1) := by decide +kernel
theorem dJx4a65c_add_72be8_16 : decode cJx4a65c_add_72be8 16 = .ok (.iload_n 3, 1) := by decide +kernel
theorem dJx4a65c_add_72be8_17 : decode cJx4a65c_add_72be8 17 = .ok (.iconst 1, 1) := by decide +kernel
theorem dJx4a65c_add_72be8_18 : decode cJx4a65c_add_72be8 18 = .ok (.iadd, 1) := by decide +kernel
theorem dJx4a65c_add_72be8_19 : decode cJx4a65c_add_72be8 19 = .ok (.putfield 48, 3) := by decide +kernel
theorem dJx4a65c_add_72be8_22 : decode cJx4a65c_add_72be8 22 = .ok (.return_, 1) := by decide +kernel
set_option maxRecDepth 20000 in
theorem ggJx4a65c_add_9ea2d_Jx4a65c_add_72be8 : GoodIn wsJx4a65c_add_9ea2d wsJx4a65c_add_72be8 := goodIn_r _ [9, 4, 10, 11, 12, 8, 13, 14, 15, 16, 17, 3, 18, 19, 20, 21, 22, 23, 24, 25, 26, 27, 28, 29, 30, 31, 32, 33, 34, 35, 36, 37, 38, 39, 40, 41, 42, 43, 44, 45, 46, 47, 48, 49, 50, 51, 52, 53, 54, 55] (by decide +kernel) (by decide +kernel)
set_option maxRecDepth 20000 in
theorem gJx4a65c_add_9ea2d_Jx4a65c_add_72be8 : GoodIn wsJx4a65c_add_9ea2d (wsV RJx4a65c 131 RJx4a65c yJx4a65c_add_72be8 wsJx4a65c_add_72be8) := goodIn_app (goodIn_of _ (by decide +kernel)) ggJx4a65c_add_9ea2d_Jx4a65c_add_72be8
theorem dJx4a65c_add_9ea2d_0 : decode cJx4a65c_add_9ea2d 0 = .ok (.aload_n 0, 1) := by decide +kernel
theorem dJx4a65c_add_9ea2d_1 : decode cJx4a65c_add_9ea2d 1 = .ok (.dup, 1) := by decide +kernel
theorem dJx4a65c_add_9ea2d_2 : decode cJx4a65c_add_9ea2d 2 = .ok (.getfield 63, 3) := by decide +kernel
theorem dJx4a65c_add_9ea2d_5 : decode cJx4a65c_add_9ea2d 5 = .ok (.iconst 1, 1) := by decide +kernel
theorem dJx4a65c_add_9ea2d_6 : decode cJx4a65c_add_9ea2d 6 = .ok (.iadd, 1) := by decide +kernel
theorem dJx4a65c_add_9ea2d_7 : decode cJx4a65c_add_9ea2d 7 = .ok (.putfield 63, 3) := by decide +kernel
theorem dJx4a65c_add_9ea2d_10 : decode cJx4a65c_add_9ea2d 10 = .ok (.aload_n 0, 1) := by decide +kernel
theorem dJx4a65c_add_9ea2d_11 : decode cJx4a65c_add_9ea2d 11 = .ok (.aload_n 1, 1) := by decide +kernel
theorem dJx4a65c_add_9ea2d_12 : decode cJx4a65c_add_9ea2d 12 = .ok (.aload_n 0, 1) := by decide +kernel
theorem dJx4a65c_add_9ea2d_13 : decode cJx4a65c_add_9ea2d 13 = .ok (.getfield 9, 3) := by decide +kernel
theorem dJx4a65c_add_9ea2d_16 : decode cJx4a65c_add_9ea2d 16 = .ok (.aload_n 0, 1) := by decide +kernel
theorem dJx4a65c_add_9ea2d_17 : decode cJx4a65c_add_9ea2d 17 = .ok (.getfield 48, 3) := by decide +kernel
theorem dJx4a65c_add_9ea2d_20 : decode cJx4a65c_add_9ea2d 20 = .ok (.invokevirtual 131, 3) := by decide +kernel
theorem dJx4a65c_add_9ea2d_23 : decode cJx4a65c_add_9ea2d 23 = .ok (.iconst 1, 1) := by decide +kernel
theorem dJx4a65c_add_9ea2d_24 : decode cJx4a65c_add_9ea2d 24 = .ok (.ireturn, 1) := by decide +kernel
theorem dJ7_fill_53178_0 : decode cJ7_fill_53178 0 = .ok (.iconst 0, 1) := by decide +kernel
theorem dJ7_fill_53178_1 : decode cJ7_fill_53178 1 = .ok (.istore_n 2, 1) := by decide +kernel
theorem dJ7_fill_53178_2 : decode cJ7_fill_53178 2 = .ok (.aload_n 0, 1) := by decide +kernel
theorem dJ7_fill_53178_3 : decode cJ7_fill_53178 3 = .ok (.arraylength, 1) := by decide +kernel
theorem dJ7_fill_53178_4 : decode cJ7_fill_53178 4 = .ok (.istore_n 3, 1) := by decide +kernel
theorem dJ7_fill_53178_5 : decode cJ7_fill_53178 5 = .ok (.iload_n 2, 1) := by decide +kernel
theorem dJ7_fill_53178_6 : decode cJ7_fill_53178 6 = .ok (.iload_n 3, 1) := by decide +kernel
theorem dJ7_fill_53178_7 : decode cJ7_fill_53178 7 = .ok (.if_icmp .ge 13, 3) := by decide +kernel
theorem dJ7_fill_53178_10 : decode cJ7_fill_53178 10 = .ok (.aload_n 0, 1) := by decide +kernel
theorem dJ7_fill_53178_11 : decode cJ7_fill_53178 11 = .ok (.iload_n 2, 1) := by decide +kernel
theorem dJ7_fill_53178_12 : decode cJ7_fill_53178 12 = .ok (.iload_n 1, 1) := by decide +kernel
theorem dJ7_fill_53178_13 : decode cJ7_fill_53178 13 = .ok (.iastore, 1) := by decide +kernel
theorem dJ7_fill_53178_14 : decode cJ7_fill_53178 14 = .ok (.iinc 2 1, 3) := by decide +kernel
theorem dJ7_fill_53178_17 : decode cJ7_fill_53178 17 = .ok (.goto (-12), 3) := by decide +kernel
theorem dJ7_fill_53178_20 : decode cJ7_fill_53178 20 = .ok (.return_, 1) := by decide +kernel
set_option maxRecDepth 20000 in
theorem ggJ7_copyOf_1904c_J7_copyOf_6403c : GoodIn wsJ7_copyOf_1904c wsJ7_copyOf_6403c := goodIn_r _ [8, 9, 10, 11, 12, 13, 14, 15, 16, 17, 18] (by decide +kernel) (by decide +kernel)
set_option maxRecDepth 20000 in
theorem gJ7_copyOf_1904c_J7_copyOf_6403c : GoodIn wsJ7_copyOf_1904c (va_wsS RJ7 300 yJ7_copyOf_6403c wsJ7_copyOf_6403c) := goodIn_app (goodIn_of _ (by decide +kernel)) ggJ7_copyOf_1904c_J7_copyOf_6403c
theorem dJ7_copyOf_1904c_0 : decode cJ7_copyOf_1904c 0 = .ok (.aload_n 0, 1) := by decide +kernel
theorem dJ7_copyOf_1904c_1 : decode cJ7_copyOf_1904c 1 = .ok (.iload_n 1, 1) := by decide +kernel
theorem dJ7_copyOf_1904c_2 : decode cJ7_copyOf_1904c 2 = .ok (.aload_n 0, 1) := by decide +kernel
theorem dJ7_copyOf_1904c_3 : decode cJ7_copyOf_1904c 3 = .ok (.invokevirtual 86, 3) := by decide +kernel
theorem dJ7_copyOf_1904c_6 : decode cJ7_copyOf_1904c 6 = .ok (.invokestatic 300, 3) := by decide +kernel
theorem dJ7_copyOf_1904c_9 : decode cJ7_copyOf_1904c 9 = .ok (.areturn, 1) := by decide +kernel
theorem dJ7_copyOf_6403c_0 : decode cJ7_copyOf_6403c 0 = .ok (.aload_n 2, 1) := by decide +kernel
theorem dJ7_copyOf_6403c_1 : decode cJ7_copyOf_6403c 1 = .ok (.ldc 110, 2) := by decide +kernel
theorem dJ7_copyOf_6403c_3 : decode cJ7_copyOf_6403c 3 = .ok (.if_acmp .ne 10, 3) := by decide +kernel
theorem dJ7_copyOf_6403c_6 : decode cJ7_copyOf_6403c 6 = .ok (.iload_n 1, 1) := by decide +kernel
theorem dJ7_copyOf_6403c_7 : decode cJ7_copyOf_6403c 7 = .ok (.anewarray 2, 3) := by decide +kernel
theorem dJ7_copyOf_6403c_10 : decode cJ7_copyOf_6403c 10 = .ok (.goto 14, 3) := by decide +kernel
theorem dJ7_copyOf_6403c_13 : decode cJ7_copyOf_6403c 13 = .ok (.aload_n 2, 1) := by decide +kernel
theorem dJ7_copyOf_6403c_14 : decode cJ7_copyOf_6403c 14 = .ok (.invokevirtual 90, 3) := by decide +kernel
theorem dJ7_copyOf_6403c_17 : decode cJ7_copyOf_6403c 17 = .ok (.iload_n 1, 1) := by decide +kernel
theorem dJ7_copyOf_6403c_18 : decode cJ7_copyOf_6403c 18 = .ok (.invokestatic 95, 3) := by decide +kernel
theorem dJ7_copyOf_6403c_21 : decode cJ7_copyOf_6403c 21 = .ok (.checkcast 110, 3) := by decide +kernel
theorem dJ7_copyOf_6403c_24 : decode cJ7_copyOf_6403c 24 = .ok (.astore_n 3, 1) := by decide +kernel
theorem dJ7_copyOf_6403c_25 : decode cJ7_copyOf_6403c 25 = .ok (.aload_n 0, 1) := by decide +kernel
theorem dJ7_copyOf_6403c_26 : decode cJ7_copyOf_6403c 26 = .ok (.iconst 0, 1) := by decide +kernel
theorem dJ7_copyOf_6403c_27 : decode cJ7_copyOf_6403c 27 = .ok (.aload_n 3, 1) := by decide +kernel
theorem dJ7_copyOf_6403c_28 : decode cJ7_copyOf_6403c 28 = .ok (.iconst 0, 1) := by decide +kernel
theorem dJ7_copyOf_6403c_29 : decode cJ7_copyOf_6403c 29 = .ok (.aload_n 0, 1) := by decide +kernel
theorem dJ7_copyOf_6403c_30 : decode cJ7_copyOf_6403c 30 = .ok (.arraylength, 1) := by decide +kernel
theorem dJ7_copyOf_6403c_31 : decode cJ7_copyOf_6403c 31 = .ok (.iload_n 1, 1) := by decide +kernel
theorem dJ7_copyOf_6403c_32 : decode cJ7_copyOf_6403c 32 = .ok (.invokestatic 304, 3) := by decide +kernel
theorem dJ7_copyOf_6403c_35 : decode cJ7_copyOf_6403c 35 = .ok (.invokestatic 150, 3) := by decide +kernel
theorem dJ7_copyOf_6403c_38 : decode cJ7_copyOf_6403c 38 = .ok (.aload_n 3, 1) := by decide +kernel
theorem dJ7_copyOf_6403c_39 : decode cJ7_copyOf_6403c 39 = .ok (.areturn, 1) := by decide +kernel
theorem dJ7_copyOf_59c91_0 : decode cJ7_copyOf_59c91 0 = .ok (.iload_n 1, 1) := by decide +kernel
theorem dJ7_copyOf_59c91_1 : decode cJ7_copyOf_59c91 1 = .ok (.aload_n 0, 1) := by decide +kernel
theorem dJ7_copyOf_59c91_2 : decode cJ7_copyOf_59c91 2 = .ok (.arraylength, 1) := by decide +kernel
theorem dJ7_copyOf_59c91_3 : decode cJ7_copyOf_59c91 3 = .ok (.if_icmp .ne 11, 3) := by decide +kernel
theorem dJ7_copyOf_59c91_6 : decode cJ7_copyOf_59c91 6 = .ok (.aload_n 0, 1) := by decide +kernel
theorem dJ7_copyOf_59c91_7 : decode cJ7_copyOf_59c91 7 = .ok (.invokevirtual 316, 3) := by decide +kernel
theorem dJ7_copyOf_59c91_10 : decode cJ7_copyOf_59c91 10 = .ok (.checkcast 317, 3) := by decide +kernel
theorem dJ7_copyOf_59c91_13 : decode cJ7_copyOf_59c91 13 = .ok (.areturn, 1) := by decide +kernel
theorem dJ7_copyOf_59c91_14 : decode cJ7_copyOf_59c91 14 = .ok (.iload_n 1, 1) := by decide +kernel
theorem dJ7_copyOf_59c91_15 : decode cJ7_copyOf_59c91 15 = .ok (.newarray .int, 2) := by decide +kernel
theorem dJ7_copyOf_59c91_17 : decode cJ7_copyOf_59c91 17 = .ok (.astore_n 2, 1) := by decide +kernel
theorem dJ7_copyOf_59c91_18 : decode cJ7_copyOf_59c91 18 = .ok (.aload_n 0, 1) := by decide +kernel
theorem dJ7_copyOf_59c91_19 : decode cJ7_copyOf_59c91 19 = .ok (.iconst 0, 1) := by decide +kernel
theorem dJ7_copyOf_59c91_20 : decode cJ7_copyOf_59c91 20 = .ok (.aload_n 2, 1) := by decide +kernel
theorem dJ7_copyOf_59c91_21 : decode cJ7_copyOf_59c91 21 = .ok (.iconst 0, 1) := by decide +kernel
theorem dJ7_copyOf_59c91_22 : decode cJ7_copyOf_59c91 22 = .ok (.aload_n 0, 1) := by decide +kernel
theorem dJ7_copyOf_59c91_23 : decode cJ7_copyOf_59c91 23 = .ok (.arraylength, 1) := by decide +kernel
theorem dJ7_copyOf_59c91_24 : decode cJ7_copyOf_59c91 24 = .ok (.iload_n 1, 1) := by decide +kernel
theorem dJ7_copyOf_59c91_25 : decode cJ7_copyOf_59c91 25 = .ok (.invokestatic 304, 3) := by decide +kernel
theorem dJ7_copyOf_59c91_28 : decode cJ7_copyOf_59c91 28 = .ok (.invokestatic 150, 3) := by decide +kernel
theorem dJ7_copyOf_59c91_31 : decode cJ7_copyOf_59c91 31 = .ok (.aload_n 2, 1) := by decide +kernel
theorem dJ7_copyOf_59c91_32 : decode cJ7_copyOf_59c91 32 = .ok (.areturn, 1) := by decide +kernel
set_option maxRecDepth 20000 in
theorem ggJ15_checkIndex_7cf53_J3_checkIndex_8e157 : GoodIn wsJ15_checkIndex_7cf53 wsJ3_checkIndex_8e157 := goodIn_r _ [4] (by decide +kernel) (by decide +kernel)
set_option maxRecDepth 20000 in
theorem gJ15_checkIndex_7cf53_J3_checkIndex_8e157 : GoodIn wsJ15_checkIndex_7cf53 (va_wsS RJ15 105 yJ3_checkIndex_8e157 wsJ3_checkIndex_8e157) := goodIn_app (goodIn_of _ (by decide +kernel)) ggJ15_checkIndex_7cf53_J3_checkIndex_8e157
theorem dJ15_checkIndex_7cf53_0 : decode cJ15_checkIndex_7cf53 0 = .ok (.iload_n 0, 1) := by decide +kernel
theorem dJ15_checkIndex_7cf53_1 : decode cJ15_checkIndex_7cf53 1 = .ok (.iload_n 1, 1) := by decide +kernel
theorem dJ15_checkIndex_7cf53_2 : decode cJ15_checkIndex_7cf53 2 = .ok (.aconst_null, 1) := by decide +kernel
theorem dJ15_checkIndex_7cf53_3 : decode cJ15_checkIndex_7cf53 3 = .ok (.invokestatic 105, 3) := by decide +kernel
theorem dJ15_checkIndex_7cf53_6 : decode cJ15_checkIndex_7cf53 6 = .ok (.ireturn, 1) := by decide +kernel
set_option maxRecDepth 20000 in
theorem ggJ8_newLength_cabcc_J8_hugeLength_7cf53 : GoodIn wsJ8_newLength_cabcc wsJ8_hugeLength_7cf53 := goodIn_r _ [9, 5] (by decide +kernel) (by decide +kernel)
set_option maxRecDepth 20000 in
theorem gJ8_newLength_cabcc_J8_hugeLength_7cf53 : GoodIn wsJ8_newLength_cabcc (va_wsS RJ8 201 yJ8_hugeLength_7cf53 wsJ8_hugeLength_7cf53) := goodIn_app (goodIn_of _ (by decide +kernel)) ggJ8_newLength_cabcc_J8_hugeLength_7cf53
theorem dJ8_newLength_cabcc_0 : decode cJ8_newLength_cabcc 0 = .ok (.iload_n 0, 1) := by decide +kernel
theorem dJ8_newLength_cabcc_1 : decode cJ8_newLength_cabcc 1 = .ok (.iload_n 1, 1) := by decide +kernel
theorem dJ8_newLength_cabcc_2 : decode cJ8_newLength_cabcc 2 = .ok (.iload_n 2, 1) := by decide +kernel
theorem dJ8_newLength_cabcc_3 : decode cJ8_newLength_cabcc 3 = .ok (.invokestatic 194, 3) := by decide +kernel
theorem dJ8_newLength_cabcc_6 : decode cJ8_newLength_cabcc 6 = .ok (.iadd, 1) := by decide +kernel
theorem dJ8_newLength_cabcc_7 : decode cJ8_newLength_cabcc 7 = .ok (.istore_n 3, 1) := by decide +kernel
theorem dJ8_newLength_cabcc_8 : decode cJ8_newLength_cabcc 8 = .ok (.iconst 0, 1) := by decide +kernel
theorem dJ8_newLength_cabcc_9 : decode cJ8_newLength_cabcc 9 = .ok (.iload_n 3, 1) := by decide +kernel
theorem dJ8_newLength_cabcc_10 : decode cJ8_newLength_cabcc 10 = .ok (.if_icmp .ge 11, 3) := by decide +kernel
theorem dJ8_newLength_cabcc_13 : decode cJ8_newLength_cabcc 13 = .ok (.iload_n 3, 1) := by decide +kernel
theorem dJ8_newLength_cabcc_14 : decode cJ8_newLength_cabcc 14 = .ok (.ldc 200, 2) := by decide +kernel
theorem dJ8_newLength_cabcc_16 : decode cJ8_newLength_cabcc 16 = .ok (.if_icmp .gt 5, 3) := by decide +kernel
theorem dJ8_newLength_cabcc_19 : decode cJ8_newLength_cabcc 19 = .ok (.iload_n 3, 1) := by decide +kernel
theorem dJ8_newLength_cabcc_20 : decode cJ8_newLength_cabcc 20 = .ok (.ireturn, 1) := by decide +kernel
theorem dJ8_newLength_cabcc_21 : decode cJ8_newLength_cabcc 21 = .ok (.iload_n 0, 1) := by decide +kernel
theorem dJ8_newLength_cabcc_22 : decode cJ8_newLength_cabcc 22 = .ok (.iload_n 1, 1) := by decide +kernel
theorem dJ8_newLength_cabcc_23 : decode cJ8_newLength_cabcc 23 = .ok (.invokestatic 201, 3) := by decide +kernel
theorem dJ8_newLength_cabcc_26 : decode cJ8_newLength_cabcc 26 = .ok (.ireturn, 1) := by decide +kernel
theorem dJ8_hugeLength_7cf53_0 : decode cJ8_hugeLength_7cf53 0 = .ok (.iload_n 0, 1) := by decide +kernel
theorem dJ8_hugeLength_7cf53_1 : decode cJ8_hugeLength_7cf53 1 = .ok (.iload_n 1, 1) := by decide +kernel
theorem dJ8_hugeLength_7cf53_2 : decode cJ8_hugeLength_7cf53 2 = .ok (.iadd, 1) := by decide +kernel
theorem dJ8_hugeLength_7cf53_3 : decode cJ8_hugeLength_7cf53 3 = .ok (.istore_n 2, 1) := by decide +kernel
theorem dJ8_hugeLength_7cf53_4 : decode cJ8_hugeLength_7cf53 4 = .ok (.iload_n 2, 1) := by decide +kernel
theorem dJ8_hugeLength_7cf53_5 : decode cJ8_hugeLength_7cf53 5 = .ok (.ifCond .ge 44, 3) := by decide +kernel
theorem dJ8_hugeLength_7cf53_8 : decode cJ8_hugeLength_7cf53 8 = .ok (.new 204, 3) := by decide +kernel
theorem dJ8_hugeLength_7cf53_11 : decode cJ8_hugeLength_7cf53 11 = .ok (.dup, 1) := by decide +kernel
theorem dJ8_hugeLength_7cf53_12 : decode cJ8_hugeLength_7cf53 12 = .ok (.new 89, 3) := by decide +kernel
theorem dJ8_hugeLength_7cf53_15 : decode cJ8_hugeLength_7cf53 15 = .ok (.dup, 1) := by decide +kernel
theorem dJ8_hugeLength_7cf53_16 : decode cJ8_hugeLength_7cf53 16 = .ok (.invokespecial 91, 3) := by decide +kernel
theorem dJ8_hugeLength_7cf53_19 : decode cJ8_hugeLength_7cf53 19 = .ok (.ldc 206, 2) := by decide +kernel
theorem dJ8_hugeLength_7cf53_21 : decode cJ8_hugeLength_7cf53 21 = .ok (.invokevirtual 94, 3) := by decide +kernel
theorem dJ8_hugeLength_7cf53_24 : decode cJ8_hugeLength_7cf53 24 = .ok (.iload_n 0, 1) := by decide +kernel
theorem dJ8_hugeLength_7cf53_25 : decode cJ8_hugeLength_7cf53 25 = .ok (.invokevirtual 98, 3) := by decide +kernel
theorem dJ8_hugeLength_7cf53_28 : decode cJ8_hugeLength_7cf53 28 = .ok (.ldc 208, 2) := by decide +kernel
theorem dJ8_hugeLength_7cf53_30 : decode cJ8_hugeLength_7cf53 30 = .ok (.invokevirtual 94, 3) := by decide +kernel
theorem dJ8_hugeLength_7cf53_33 : decode cJ8_hugeLength_7cf53 33 = .ok (.iload_n 1, 1) := by decide +kernel
theorem dJ8_hugeLength_7cf53_34 : decode cJ8_hugeLength_7cf53 34 = .ok (.invokevirtual 98, 3) := by decide +kernel
theorem dJ8_hugeLength_7cf53_37 : decode cJ8_hugeLength_7cf53 37 = .ok (.ldc 210, 2) := by decide +kernel
theorem dJ8_hugeLength_7cf53_39 : decode cJ8_hugeLength_7cf53 39 = .ok (.invokevirtual 94, 3) := by decide +kernel
theorem dJ8_hugeLength_7cf53_42 : decode cJ8_hugeLength_7cf53 42 = .ok (.invokevirtual 101, 3) := by decide +kernel
theorem dJ8_hugeLength_7cf53_45 : decode cJ8_hugeLength_7cf53 45 = .ok (.invokespecial 212, 3) := by decide +kernel
theorem dJ8_hugeLength_7cf53_48 : decode cJ8_hugeLength_7cf53 48 = .ok (.athrow, 1) := by decide +kernel
theorem dJ8_hugeLength_7cf53_49 : decode cJ8_hugeLength_7cf53 49 = .ok (.iload_n 2, 1) := by decide +kernel
theorem dJ8_hugeLength_7cf53_50 : decode cJ8_hugeLength_7cf53 50 = .ok (.ldc 200, 2) := by decide +kernel
theorem dJ8_hugeLength_7cf53_52 : decode cJ8_hugeLength_7cf53 52 = .ok (.if_icmp .gt 6, 3) := by decide +kernel
theorem dJ8_hugeLength_7cf53_55 : decode cJ8_hugeLength_7cf53 55 = .ok (.ldc 200, 2) := by decide +kernel
theorem dJ8_hugeLength_7cf53_57 : decode cJ8_hugeLength_7cf53 57 = .ok (.ireturn, 1) := by decide +kernel
theorem dJ8_hugeLength_7cf53_58 : decode cJ8_hugeLength_7cf53 58 = .ok (.iload_n 2, 1) := by decide +kernel
theorem dJ8_hugeLength_7cf53_59 : decode cJ8_hugeLength_7cf53 59 = .ok (.ireturn, 1) := by decide +kernel
theorem dJ3_checkIndex_8e157_0 : decode cJ3_checkIndex_8e157 0 = .ok (.iload_n 0, 1) := by decide +kernel
theorem dJ3_checkIndex_8e157_1 : decode cJ3_checkIndex_8e157 1 = .ok (.ifCond .lt 8, 3) := by decide +kernel
theorem dJ3_checkIndex_8e157_4 : decode cJ3_checkIndex_8e157 4 = .ok (.iload_n 0, 1) := by decide +kernel
theorem dJ3_checkIndex_8e157_5 : decode cJ3_checkIndex_8e157 5 = .ok (.iload_n 1, 1) := by decide +kernel
theorem dJ3_checkIndex_8e157_6 : decode cJ3_checkIndex_8e157 6 = .ok (.if_icmp .lt 10, 3) := by decide +kernel
theorem dJ3_checkIndex_8e157_9 : decode cJ3_checkIndex_8e157 9 = .ok (.aload_n 2, 1) := by decide +kernel
theorem dJ3_checkIndex_8e157_10 : decode cJ3_checkIndex_8e157 10 = .ok (.iload_n 0, 1) := by decide +kernel
theorem dJ3_checkIndex_8e157_11 : decode cJ3_checkIndex_8e157 11 = .ok (.iload_n 1, 1) := by decide +kernel
theorem dJ3_checkIndex_8e157_12 : decode cJ3_checkIndex_8e157 12 = .ok (.invokestatic 95, 3) := by decide +kernel
theorem dJ3_checkIndex_8e157_15 : decode cJ3_checkIndex_8e157 15 = .ok (.athrow, 1) := by decide +kernel
theorem dJ3_checkIndex_8e157_16 : decode cJ3_checkIndex_8e157 16 = .ok (.iload_n 0, 1) := by decide +kernel
theorem dJ3_checkIndex_8e157_17 : decode cJ3_checkIndex_8e157 17 = .ok (.ireturn, 1) := by decide +kernel
