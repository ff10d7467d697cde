theorem dX7_init_0 : decode cX7_init 0 = .ok (.aload_n 0, 1) := by decide +kernel
theorem dX7_init_1 : decode cX7_init 1 = .ok (.invokespecial 1, 3) := by decide +kernel
theorem dX7_init_4 : decode cX7_init 4 = .ok (.aload_n 0, 1) := by decide +kernel
theorem dX7_init_5 : decode cX7_init 5 = .ok (.sipush 12500, 3) := by decide +kernel
theorem dX7_init_8 : decode cX7_init 8 = .ok (.newarray .long, 2) := by decide +kernel
theorem dX7_init_10 : decode cX7_init 10 = .ok (.putfield 7, 3) := by decide +kernel
theorem dX7_init_13 : decode cX7_init 13 = .ok (.aload_n 0, 1) := by decide +kernel
theorem dX7_init_14 : decode cX7_init 14 = .ok (.bipush 9, 2) := by decide +kernel
theorem dX7_init_16 : decode cX7_init 16 = .ok (.newarray .int, 2) := by decide +kernel
theorem dX7_init_18 : decode cX7_init 18 = .ok (.putfield 13, 3) := by decide +kernel
theorem dX7_init_21 : decode cX7_init 21 = .ok (.aload_n 0, 1) := by decide +kernel
theorem dX7_init_22 : decode cX7_init 22 = .ok (.bipush 9, 2) := by decide +kernel
theorem dX7_init_24 : decode cX7_init 24 = .ok (.newarray .boolean, 2) := by decide +kernel
theorem dX7_init_26 : decode cX7_init 26 = .ok (.putfield 17, 3) := by decide +kernel
theorem dX7_init_29 : decode cX7_init 29 = .ok (.aload_n 0, 1) := by decide +kernel
theorem dX7_init_30 : decode cX7_init 30 = .ok (.bipush 8, 2) := by decide +kernel
theorem dX7_init_32 : decode cX7_init 32 = .ok (.newarray .boolean, 2) := by decide +kernel
theorem dX7_init_34 : decode cX7_init 34 = .ok (.putfield 21, 3) := by decide +kernel
theorem dX7_init_37 : decode cX7_init 37 = .ok (.aload_n 0, 1) := by decide +kernel
theorem dX7_init_38 : decode cX7_init 38 = .ok (.bipush 8, 2) := by decide +kernel
theorem dX7_init_40 : decode cX7_init 40 = .ok (.newarray .int, 2) := by decide +kernel
theorem dX7_init_42 : decode cX7_init 42 = .ok (.dup, 1) := by decide +kernel
theorem dX7_init_43 : decode cX7_init 43 = .ok (.iconst 0, 1) := by decide +kernel
theorem dX7_init_44 : decode cX7_init 44 = .ok (.iconst (-1), 1) := by decide +kernel
theorem dX7_init_45 : decode cX7_init 45 = .ok (.iastore, 1) := by decide +kernel
theorem dX7_init_46 : decode cX7_init 46 = .ok (.dup, 1) := by decide +kernel
theorem dX7_init_47 : decode cX7_init 47 = .ok (.iconst 1, 1) := by decide +kernel
theorem dX7_init_48 : decode cX7_init 48 = .ok (.iconst (-1), 1) := by decide +kernel
theorem dX7_init_49 : decode cX7_init 49 = .ok (.iastore, 1) := by decide +kernel
theorem dX7_init_50 : decode cX7_init 50 = .ok (.dup, 1) := by decide +kernel
theorem dX7_init_51 : decode cX7_init 51 = .ok (.iconst 2, 1) := by decide +kernel
theorem dX7_init_52 : decode cX7_init 52 = .ok (.iconst (-1), 1) := by decide +kernel
theorem dX7_init_53 : decode cX7_init 53 = .ok (.iastore, 1) := by decide +kernel
theorem dX7_init_54 : decode cX7_init 54 = .ok (.dup, 1) := by decide +kernel
theorem dX7_init_55 : decode cX7_init 55 = .ok (.iconst 3, 1) := by decide +kernel
theorem dX7_init_56 : decode cX7_init 56 = .ok (.iconst (-1), 1) := by decide +kernel
theorem dX7_init_57 : decode cX7_init 57 = .ok (.iastore, 1) := by decide +kernel
theorem dX7_init_58 : decode cX7_init 58 = .ok (.dup, 1) := by decide +kernel
theorem dX7_init_59 : decode cX7_init 59 = .ok (.iconst 4, 1) := by decide +kernel
theorem dX7_init_60 : decode cX7_init 60 = .ok (.iconst (-1), 1) := by decide +kernel
theorem dX7_init_61 : decode cX7_init 61 = .ok (.iastore, 1) := by decide +kernel
theorem dX7_init_62 : decode cX7_init 62 = .ok (.dup, 1) := by decide +kernel
theorem dX7_init_63 : decode cX7_init 63 = .ok (.iconst 5, 1) := by decide +kernel
theorem dX7_init_64 : decode cX7_init 64 = .ok (.iconst (-1), 1) := by decide +kernel
theorem dX7_init_65 : decode cX7_init 65 = .ok (.iastore, 1) := by decide +kernel
theorem dX7_init_66 : decode cX7_init 66 = .ok (.dup, 1) := by decide +kernel
theorem dX7_init_67 : decode cX7_init 67 = .ok (.bipush 6, 2) := by decide +kernel
theorem dX7_init_69 : decode cX7_init 69 = .ok (.iconst (-1), 1) := by decide +kernel
theorem dX7_init_70 : decode cX7_init 70 = .ok (.iastore, 1) := by decide +kernel
theorem dX7_init_71 : decode cX7_init 71 = .ok (.dup, 1) := by decide +kernel
theorem dX7_init_72 : decode cX7_init 72 = .ok (.bipush 7, 2) := by decide +kernel
theorem dX7_init_74 : decode cX7_init 74 = .ok (.iconst (-1), 1) := by decide +kernel
theorem dX7_init_75 : decode cX7_init 75 = .ok (.iastore, 1) := by decide +kernel
theorem dX7_init_76 : decode cX7_init 76 = .ok (.putfield 24, 3) := by decide +kernel
theorem dX7_init_79 : decode cX7_init 79 = .ok (.aload_n 0, 1) := by decide +kernel
theorem dX7_init_80 : decode cX7_init 80 = .ok (.bipush 8, 2) := by decide +kernel
theorem dX7_init_82 : decode cX7_init 82 = .ok (.newarray .int, 2) := by decide +kernel
theorem dX7_init_84 : decode cX7_init 84 = .ok (.putfield 27, 3) := by decide +kernel
theorem dX7_init_87 : decode cX7_init 87 = .ok (.aload_n 0, 1) := by decide +kernel
theorem dX7_init_88 : decode cX7_init 88 = .ok (.iconst 3, 1) := by decide +kernel
theorem dX7_init_89 : decode cX7_init 89 = .ok (.newarray .int, 2) := by decide +kernel
theorem dX7_init_91 : decode cX7_init 91 = .ok (.putfield 30, 3) := by decide +kernel
theorem dX7_init_94 : decode cX7_init 94 = .ok (.aload_n 0, 1) := by decide +kernel
theorem dX7_init_95 : decode cX7_init 95 = .ok (.bipush 40, 2) := by decide +kernel
theorem dX7_init_97 : decode cX7_init 97 = .ok (.newarray .int, 2) := by decide +kernel
theorem dX7_init_99 : decode cX7_init 99 = .ok (.putfield 33, 3) := by decide +kernel
theorem dX7_init_102 : decode cX7_init 102 = .ok (.aload_n 0, 1) := by decide +kernel
theorem dX7_init_103 : decode cX7_init 103 = .ok (.bipush 40, 2) := by decide +kernel
theorem dX7_init_105 : decode cX7_init 105 = .ok (.newarray .int, 2) := by decide +kernel
theorem dX7_init_107 : decode cX7_init 107 = .ok (.putfield 36, 3) := by decide +kernel
theorem dX7_init_110 : decode cX7_init 110 = .ok (.aload_n 0, 1) := by decide +kernel
theorem dX7_init_111 : decode cX7_init 111 = .ok (.bipush 40, 2) := by decide +kernel
theorem dX7_init_113 : decode cX7_init 113 = .ok (.newarray .int, 2) := by decide +kernel
theorem dX7_init_115 : decode cX7_init 115 = .ok (.putfield 39, 3) := by decide +kernel
theorem dX7_init_118 : decode cX7_init 118 = .ok (.aload_n 0, 1) := by decide +kernel
theorem dX7_init_119 : decode cX7_init 119 = .ok (.bipush 10, 2) := by decide +kernel
theorem dX7_init_121 : decode cX7_init 121 = .ok (.newarray .int, 2) := by decide +kernel
theorem dX7_init_123 : decode cX7_init 123 = .ok (.putfield 42, 3) := by decide +kernel
theorem dX7_init_126 : decode cX7_init 126 = .ok (.aload_n 0, 1) := by decide +kernel
theorem dX7_init_127 : decode cX7_init 127 = .ok (.bipush 10, 2) := by decide +kernel
theorem dX7_init_129 : decode cX7_init 129 = .ok (.newarray .int, 2) := by decide +kernel
theorem dX7_init_131 : decode cX7_init 131 = .ok (.putfield 45, 3) := by decide +kernel
theorem dX7_init_134 : decode cX7_init 134 = .ok (.aload_n 0, 1) := by decide +kernel
theorem dX7_init_135 : decode cX7_init 135 = .ok (.bipush 10, 2) := by decide +kernel
theorem dX7_init_137 : decode cX7_init 137 = .ok (.newarray .boolean, 2) := by decide +kernel
theorem dX7_init_139 : decode cX7_init 139 = .ok (.putfield 48, 3) := by decide +kernel
theorem dX7_init_142 : decode cX7_init 142 = .ok (.aload_n 0, 1) := by decide +kernel
theorem dX7_init_143 : decode cX7_init 143 = .ok (.bipush 10, 2) := by decide +kernel
theorem dX7_init_145 : decode cX7_init 145 = .ok (.newarray .int, 2) := by decide +kernel
theorem dX7_init_147 : decode cX7_init 147 = .ok (.putfield 51, 3) := by decide +kernel
theorem dX7_init_150 : decode cX7_init 150 = .ok (.aload_n 0, 1) := by decide +kernel
theorem dX7_init_151 : decode cX7_init 151 = .ok (.bipush 10, 2) := by decide +kernel
theorem dX7_init_153 : decode cX7_init 153 = .ok (.newarray .boolean, 2) := by decide +kernel
theorem dX7_init_155 : decode cX7_init 155 = .ok (.putfield 54, 3) := by decide +kernel
theorem dX7_init_158 : decode cX7_init 158 = .ok (.aload_n 0, 1) := by decide +kernel
theorem dX7_init_159 : decode cX7_init 159 = .ok (.bipush 10, 2) := by decide +kernel
theorem dX7_init_161 : decode cX7_init 161 = .ok (.newarray .int, 2) := by decide +kernel
theorem dX7_init_163 : decode cX7_init 163 = .ok (.putfield 57, 3) := by decide +kernel
theorem dX7_init_166 : decode cX7_init 166 = .ok (.aload_n 0, 1) := by decide +kernel
theorem dX7_init_167 : decode cX7_init 167 = .ok (.bipush 40, 2) := by decide +kernel
theorem dX7_init_169 : decode cX7_init 169 = .ok (.newarray .char, 2) := by decide +kernel
theorem dX7_init_171 : decode cX7_init 171 = .ok (.putfield 60, 3) := by decide +kernel
theorem dX7_init_174 : decode cX7_init 174 = .ok (.aload_n 0, 1) := by decide +kernel
theorem dX7_init_175 : decode cX7_init 175 = .ok (.bipush 60, 2) := by decide +kernel
theorem dX7_init_177 : decode cX7_init 177 = .ok (.newarray .int, 2) := by decide +kernel
theorem dX7_init_179 : decode cX7_init 179 = .ok (.putfield 64, 3) := by decide +kernel
theorem dX7_init_182 : decode cX7_init 182 = .ok (.aload_n 0, 1) := by decide +kernel
theorem dX7_init_183 : decode cX7_init 183 = .ok (.sipush 2400, 3) := by decide +kernel
theorem dX7_init_186 : decode cX7_init 186 = .ok (.newarray .char, 2) := by decide +kernel
theorem dX7_init_188 : decode cX7_init 188 = .ok (.putfield 67, 3) := by decide +kernel
theorem dX7_init_191 : decode cX7_init 191 = .ok (.aload_n 0, 1) := by decide +kernel
theorem dX7_init_192 : decode cX7_init 192 = .ok (.bipush 60, 2) := by decide +kernel
theorem dX7_init_194 : decode cX7_init 194 = .ok (.newarray .int, 2) := by decide +kernel
theorem dX7_init_196 : decode cX7_init 196 = .ok (.putfield 70, 3) := by decide +kernel
theorem dX7_init_199 : decode cX7_init 199 = .ok (.aload_n 0, 1) := by decide +kernel
theorem dX7_init_200 : decode cX7_init 200 = .ok (.bipush 40, 2) := by decide +kernel
theorem dX7_init_202 : decode cX7_init 202 = .ok (.newarray .int, 2) := by decide +kernel
theorem dX7_init_204 : decode cX7_init 204 = .ok (.putfield 73, 3) := by decide +kernel
theorem dX7_init_207 : decode cX7_init 207 = .ok (.return_, 1) := by decide +kernel
theorem dX7_thrown_0 : decode cX7_thrown 0 = .ok (.aload_n 0, 1) := by decide +kernel
theorem dX7_thrown_1 : decode cX7_thrown 1 = .ok (.getfield 76, 3) := by decide +kernel
theorem dX7_thrown_4 : decode cX7_thrown 4 = .ok (.ireturn, 1) := by decide +kernel
theorem dX7_in_0 : decode cX7_in 0 = .ok (.iload_n 0, 1) := by decide +kernel
theorem dX7_in_1 : decode cX7_in 1 = .ok (.iload_n 1, 1) := by decide +kernel
theorem dX7_in_2 : decode cX7_in 2 = .ok (.if_icmp .lt 12, 3) := by decide +kernel
theorem dX7_in_5 : decode cX7_in 5 = .ok (.iload_n 0, 1) := by decide +kernel
theorem dX7_in_6 : decode cX7_in 6 = .ok (.iload_n 2, 1) := by decide +kernel
theorem dX7_in_7 : decode cX7_in 7 = .ok (.if_icmp .gt 7, 3) := by decide +kernel
theorem dX7_in_10 : decode cX7_in 10 = .ok (.iconst 1, 1) := by decide +kernel
theorem dX7_in_11 : decode cX7_in 11 = .ok (.goto 4, 3) := by decide +kernel
theorem dX7_in_14 : decode cX7_in 14 = .ok (.iconst 0, 1) := by decide +kernel
theorem dX7_in_15 : decode cX7_in 15 = .ok (.ireturn, 1) := by decide +kernel
set_option maxRecDepth 20000 in
theorem ggX7_isPerson_X7_in : GoodIn wsX7_isPerson wsX7_in := goodIn_r _ [4] (by decide +kernel) (by decide +kernel)
set_option maxRecDepth 20000 in
theorem gX7_isPerson_X7_in : GoodIn wsX7_isPerson (va_wsS RX7 80 yX7_in wsX7_in) := goodIn_app (goodIn_of _ (by decide +kernel)) ggX7_isPerson_X7_in
theorem dX7_isPerson_0 : decode cX7_isPerson 0 = .ok (.iload_n 0, 1) := by decide +kernel
theorem dX7_isPerson_1 : decode cX7_isPerson 1 = .ok (.iconst 0, 1) := by decide +kernel
theorem dX7_isPerson_2 : decode cX7_isPerson 2 = .ok (.bipush 8, 2) := by decide +kernel
theorem dX7_isPerson_4 : decode cX7_isPerson 4 = .ok (.invokestatic 80, 3) := by decide +kernel
theorem dX7_isPerson_7 : decode cX7_isPerson 7 = .ok (.ireturn, 1) := by decide +kernel
set_option maxRecDepth 20000 in
theorem ggX7_isValve_X7_in : GoodIn wsX7_isValve wsX7_in := goodIn_r _ [4] (by decide +kernel) (by decide +kernel)
set_option maxRecDepth 20000 in
theorem gX7_isValve_X7_in : GoodIn wsX7_isValve (va_wsS RX7 80 yX7_in wsX7_in) := goodIn_app (goodIn_of _ (by decide +kernel)) ggX7_isValve_X7_in
theorem dX7_isValve_0 : decode cX7_isValve 0 = .ok (.iload_n 0, 1) := by decide +kernel
theorem dX7_isValve_1 : decode cX7_isValve 1 = .ok (.iconst 0, 1) := by decide +kernel
theorem dX7_isValve_2 : decode cX7_isValve 2 = .ok (.bipush 7, 2) := by decide +kernel
theorem dX7_isValve_4 : decode cX7_isValve 4 = .ok (.invokestatic 80, 3) := by decide +kernel
theorem dX7_isValve_7 : decode cX7_isValve 7 = .ok (.ireturn, 1) := by decide +kernel
set_option maxRecDepth 20000 in
theorem ggX7_isVessel_X7_in : GoodIn wsX7_isVessel wsX7_in := goodIn_r _ [4] (by decide +kernel) (by decide +kernel)
set_option maxRecDepth 20000 in
theorem gX7_isVessel_X7_in : GoodIn wsX7_isVessel (va_wsS RX7 80 yX7_in wsX7_in) := goodIn_app (goodIn_of _ (by decide +kernel)) ggX7_isVessel_X7_in
theorem dX7_isVessel_0 : decode cX7_isVessel 0 = .ok (.iload_n 0, 1) := by decide +kernel
theorem dX7_isVessel_1 : decode cX7_isVessel 1 = .ok (.iconst 0, 1) := by decide +kernel
theorem dX7_isVessel_2 : decode cX7_isVessel 2 = .ok (.iconst 2, 1) := by decide +kernel
theorem dX7_isVessel_3 : decode cX7_isVessel 3 = .ok (.invokestatic 80, 3) := by decide +kernel
theorem dX7_isVessel_6 : decode cX7_isVessel 6 = .ok (.ireturn, 1) := by decide +kernel
set_option maxRecDepth 20000 in
theorem ggX7_isTag_X7_in : GoodIn wsX7_isTag wsX7_in := goodIn_r _ [5] (by decide +kernel) (by decide +kernel)
set_option maxRecDepth 20000 in
theorem gX7_isTag_X7_in : GoodIn wsX7_isTag (va_wsS RX7 80 yX7_in wsX7_in) := goodIn_app (goodIn_of _ (by decide +kernel)) ggX7_isTag_X7_in
theorem dX7_isTag_0 : decode cX7_isTag 0 = .ok (.iload_n 1, 1) := by decide +kernel
theorem dX7_isTag_1 : decode cX7_isTag 1 = .ok (.iconst 0, 1) := by decide +kernel
theorem dX7_isTag_2 : decode cX7_isTag 2 = .ok (.aload_n 0, 1) := by decide +kernel
theorem dX7_isTag_3 : decode cX7_isTag 3 = .ok (.getfield 84, 3) := by decide +kernel
theorem dX7_isTag_6 : decode cX7_isTag 6 = .ok (.iconst 1, 1) := by decide +kernel
theorem dX7_isTag_7 : decode cX7_isTag 7 = .ok (.isub, 1) := by decide +kernel
theorem dX7_isTag_8 : decode cX7_isTag 8 = .ok (.invokestatic 80, 3) := by decide +kernel
theorem dX7_isTag_11 : decode cX7_isTag 11 = .ok (.ireturn, 1) := by decide +kernel
theorem dX7_notes_0 : decode cX7_notes 0 = .ok (.ldc2_w 87, 3) := by decide +kernel
theorem dX7_notes_3 : decode cX7_notes 3 = .ok (.aload_n 0, 1) := by decide +kernel
theorem dX7_notes_4 : decode cX7_notes 4 = .ok (.getfield 89, 3) := by decide +kernel
theorem dX7_notes_7 : decode cX7_notes 7 = .ok (.i2l, 1) := by decide +kernel
theorem dX7_notes_8 : decode cX7_notes 8 = .ok (.lmul, 1) := by decide +kernel
theorem dX7_notes_9 : decode cX7_notes 9 = .ok (.sipush 1000, 3) := by decide +kernel
theorem dX7_notes_12 : decode cX7_notes 12 = .ok (.iload_n 1, 1) := by decide +kernel
theorem dX7_notes_13 : decode cX7_notes 13 = .ok (.imul, 1) := by decide +kernel
theorem dX7_notes_14 : decode cX7_notes 14 = .ok (.i2l, 1) := by decide +kernel
theorem dX7_notes_15 : decode cX7_notes 15 = .ok (.ladd, 1) := by decide +kernel
theorem dX7_notes_16 : decode cX7_notes 16 = .ok (.bipush 100, 2) := by decide +kernel
theorem dX7_notes_18 : decode cX7_notes 18 = .ok (.iload_n 2, 1) := by decide +kernel
theorem dX7_notes_19 : decode cX7_notes 19 = .ok (.iconst 1, 1) := by decide +kernel
theorem dX7_notes_20 : decode cX7_notes 20 = .ok (.iadd, 1) := by decide +kernel
theorem dX7_notes_21 : decode cX7_notes 21 = .ok (.imul, 1) := by decide +kernel
theorem dX7_notes_22 : decode cX7_notes 22 = .ok (.i2l, 1) := by decide +kernel
theorem dX7_notes_23 : decode cX7_notes 23 = .ok (.ladd, 1) := by decide +kernel
theorem dX7_notes_24 : decode cX7_notes 24 = .ok (.iload_n 3, 1) := by decide +kernel
theorem dX7_notes_25 : decode cX7_notes 25 = .ok (.i2l, 1) := by decide +kernel
theorem dX7_notes_26 : decode cX7_notes 26 = .ok (.ladd, 1) := by decide +kernel
theorem dX7_notes_27 : decode cX7_notes 27 = .ok (.lstore 4, 2) := by decide +kernel
theorem dX7_notes_29 : decode cX7_notes 29 = .ok (.aload_n 0, 1) := by decide +kernel
theorem dX7_notes_30 : decode cX7_notes 30 = .ok (.getfield 92, 3) := by decide +kernel
theorem dX7_notes_33 : decode cX7_notes 33 = .ok (.iconst 2, 1) := by decide +kernel
theorem dX7_notes_34 : decode cX7_notes 34 = .ok (.idiv, 1) := by decide +kernel
theorem dX7_notes_35 : decode cX7_notes 35 = .ok (.istore 6, 2) := by decide +kernel
theorem dX7_notes_37 : decode cX7_notes 37 = .ok (.aload_n 0, 1) := by decide +kernel
theorem dX7_notes_38 : decode cX7_notes 38 = .ok (.getfield 7, 3) := by decide +kernel
theorem dX7_notes_41 : decode cX7_notes 41 = .ok (.iload 6, 2) := by decide +kernel
theorem dX7_notes_43 : decode cX7_notes 43 = .ok (.aload_n 0, 1) := by decide +kernel
theorem dX7_notes_44 : decode cX7_notes 44 = .ok (.getfield 92, 3) := by decide +kernel
theorem dX7_notes_47 : decode cX7_notes 47 = .ok (.iconst 2, 1) := by decide +kernel
theorem dX7_notes_48 : decode cX7_notes 48 = .ok (.irem, 1) := by decide +kernel
theorem dX7_notes_49 : decode cX7_notes 49 = .ok (.ifCond .ne 8, 3) := by decide +kernel
theorem dX7_notes_52 : decode cX7_notes 52 = .ok (.lload 4, 2) := by decide +kernel
theorem dX7_notes_54 : decode cX7_notes 54 = .ok (.goto 16, 3) := by decide +kernel
theorem dX7_notes_57 : decode cX7_notes 57 = .ok (.aload_n 0, 1) := by decide +kernel
theorem dX7_notes_58 : decode cX7_notes 58 = .ok (.getfield 7, 3) := by decide +kernel
theorem dX7_notes_61 : decode cX7_notes 61 = .ok (.iload 6, 2) := by decide +kernel
theorem dX7_notes_63 : decode cX7_notes 63 = .ok (.laload, 1) := by decide +kernel
theorem dX7_notes_64 : decode cX7_notes 64 = .ok (.lload 4, 2) := by decide +kernel
theorem dX7_notes_66 : decode cX7_notes 66 = .ok (.bipush 32, 2) := by decide +kernel
theorem dX7_notes_68 : decode cX7_notes 68 = .ok (.lshl, 1) := by decide +kernel
theorem dX7_notes_69 : decode cX7_notes 69 = .ok (.lor, 1) := by decide +kernel
theorem dX7_notes_70 : decode cX7_notes 70 = .ok (.lastore, 1) := by decide +kernel
theorem dX7_notes_71 : decode cX7_notes 71 = .ok (.aload_n 0, 1) := by decide +kernel
theorem dX7_notes_72 : decode cX7_notes 72 = .ok (.dup, 1) := by decide +kernel
theorem dX7_notes_73 : decode cX7_notes 73 = .ok (.getfield 92, 3) := by decide +kernel
theorem dX7_notes_76 : decode cX7_notes 76 = .ok (.iconst 1, 1) := by decide +kernel
theorem dX7_notes_77 : decode cX7_notes 77 = .ok (.iadd, 1) := by decide +kernel
theorem dX7_notes_78 : decode cX7_notes 78 = .ok (.putfield 92, 3) := by decide +kernel
theorem dX7_notes_81 : decode cX7_notes 81 = .ok (.return_, 1) := by decide +kernel
theorem dX7_isOnDuty_0 : decode cX7_isOnDuty 0 = .ok (.aload_n 0, 1) := by decide +kernel
theorem dX7_isOnDuty_1 : decode cX7_isOnDuty 1 = .ok (.getfield 17, 3) := by decide +kernel
theorem dX7_isOnDuty_4 : decode cX7_isOnDuty 4 = .ok (.iload_n 1, 1) := by decide +kernel
theorem dX7_isOnDuty_5 : decode cX7_isOnDuty 5 = .ok (.baload, 1) := by decide +kernel
theorem dX7_isOnDuty_6 : decode cX7_isOnDuty 6 = .ok (.ifCond .ne 22, 3) := by decide +kernel
theorem dX7_isOnDuty_9 : decode cX7_isOnDuty 9 = .ok (.iload_n 1, 1) := by decide +kernel
theorem dX7_isOnDuty_10 : decode cX7_isOnDuty 10 = .ok (.iconst 3, 1) := by decide +kernel
theorem dX7_isOnDuty_11 : decode cX7_isOnDuty 11 = .ok (.irem, 1) := by decide +kernel
theorem dX7_isOnDuty_12 : decode cX7_isOnDuty 12 = .ok (.aload_n 0, 1) := by decide +kernel
theorem dX7_isOnDuty_13 : decode cX7_isOnDuty 13 = .ok (.getfield 89, 3) := by decide +kernel
theorem dX7_isOnDuty_16 : decode cX7_isOnDuty 16 = .ok (.bipush 8, 2) := by decide +kernel
theorem dX7_isOnDuty_18 : decode cX7_isOnDuty 18 = .ok (.idiv, 1) := by decide +kernel
theorem dX7_isOnDuty_19 : decode cX7_isOnDuty 19 = .ok (.iconst 3, 1) := by decide +kernel
theorem dX7_isOnDuty_20 : decode cX7_isOnDuty 20 = .ok (.irem, 1) := by decide +kernel
theorem dX7_isOnDuty_21 : decode cX7_isOnDuty 21 = .ok (.if_icmp .ne 7, 3) := by decide +kernel
theorem dX7_isOnDuty_24 : decode cX7_isOnDuty 24 = .ok (.iconst 1, 1) := by decide +kernel
theorem dX7_isOnDuty_25 : decode cX7_isOnDuty 25 = .ok (.goto 4, 3) := by decide +kernel
theorem dX7_isOnDuty_28 : decode cX7_isOnDuty 28 = .ok (.iconst 0, 1) := by decide +kernel
theorem dX7_isOnDuty_29 : decode cX7_isOnDuty 29 = .ok (.ireturn, 1) := by decide +kernel
set_option maxRecDepth 20000 in
theorem ggX7_may_X7_isOnDuty : GoodIn wsX7_may wsX7_isOnDuty := goodIn_r _ [7, 8, 9, 10, 11, 12, 13, 14, 15, 16, 17, 18, 19, 20, 21, 22, 23, 24, 25, 26, 27, 28, 29, 30, 31, 32, 33, 34, 35, 36, 37, 38, 39, 40, 41] (by decide +kernel) (by decide +kernel)
set_option maxRecDepth 20000 in
theorem gX7_may_X7_isOnDuty : GoodIn wsX7_may (wsV RX7 95 RX7 yX7_isOnDuty wsX7_isOnDuty) := goodIn_app (goodIn_of _ (by decide +kernel)) ggX7_may_X7_isOnDuty
theorem dX7_may_0 : decode cX7_may 0 = .ok (.aload_n 0, 1) := by decide +kernel
theorem dX7_may_1 : decode cX7_may 1 = .ok (.iload_n 1, 1) := by decide +kernel
theorem dX7_may_2 : decode cX7_may 2 = .ok (.invokevirtual 95, 3) := by decide +kernel
theorem dX7_may_5 : decode cX7_may 5 = .ok (.ifCond .eq 20, 3) := by decide +kernel
theorem dX7_may_8 : decode cX7_may 8 = .ok (.aload_n 0, 1) := by decide +kernel
theorem dX7_may_9 : decode cX7_may 9 = .ok (.getfield 13, 3) := by decide +kernel
theorem dX7_may_12 : decode cX7_may 12 = .ok (.iload_n 1, 1) := by decide +kernel
theorem dX7_may_13 : decode cX7_may 13 = .ok (.iaload, 1) := by decide +kernel
theorem dX7_may_14 : decode cX7_may 14 = .ok (.aload_n 0, 1) := by decide +kernel
theorem dX7_may_15 : decode cX7_may 15 = .ok (.getfield 99, 3) := by decide +kernel
theorem dX7_may_18 : decode cX7_may 18 = .ok (.if_icmp .lt 7, 3) := by decide +kernel
theorem dX7_may_21 : decode cX7_may 21 = .ok (.iconst 1, 1) := by decide +kernel
theorem dX7_may_22 : decode cX7_may 22 = .ok (.goto 4, 3) := by decide +kernel
theorem dX7_may_25 : decode cX7_may 25 = .ok (.iconst 0, 1) := by decide +kernel
theorem dX7_may_26 : decode cX7_may 26 = .ok (.ireturn, 1) := by decide +kernel
theorem dX7_tagsOn_0 : decode cX7_tagsOn 0 = .ok (.iconst 0, 1) := by decide +kernel
theorem dX7_tagsOn_1 : decode cX7_tagsOn 1 = .ok (.istore_n 2, 1) := by decide +kernel
theorem dX7_tagsOn_2 : decode cX7_tagsOn 2 = .ok (.iconst 0, 1) := by decide +kernel
theorem dX7_tagsOn_3 : decode cX7_tagsOn 3 = .ok (.istore_n 3, 1) := by decide +kernel
theorem dX7_tagsOn_4 : decode cX7_tagsOn 4 = .ok (.iload_n 3, 1) := by decide +kernel
theorem dX7_tagsOn_5 : decode cX7_tagsOn 5 = .ok (.aload_n 0, 1) := by decide +kernel
theorem dX7_tagsOn_6 : decode cX7_tagsOn 6 = .ok (.getfield 84, 3) := by decide +kernel
theorem dX7_tagsOn_9 : decode cX7_tagsOn 9 = .ok (.if_icmp .ge 27, 3) := by decide +kernel
theorem dX7_tagsOn_12 : decode cX7_tagsOn 12 = .ok (.iload_n 2, 1) := by decide +kernel
theorem dX7_tagsOn_13 : decode cX7_tagsOn 13 = .ok (.aload_n 0, 1) := by decide +kernel
theorem dX7_tagsOn_14 : decode cX7_tagsOn 14 = .ok (.getfield 33, 3) := by decide +kernel
theorem dX7_tagsOn_17 : decode cX7_tagsOn 17 = .ok (.iload_n 3, 1) := by decide +kernel
theorem dX7_tagsOn_18 : decode cX7_tagsOn 18 = .ok (.iaload, 1) := by decide +kernel
theorem dX7_tagsOn_19 : decode cX7_tagsOn 19 = .ok (.iload_n 1, 1) := by decide +kernel
theorem dX7_tagsOn_20 : decode cX7_tagsOn 20 = .ok (.if_icmp .ne 7, 3) := by decide +kernel
theorem dX7_tagsOn_23 : decode cX7_tagsOn 23 = .ok (.iconst 1, 1) := by decide +kernel
theorem dX7_tagsOn_24 : decode cX7_tagsOn 24 = .ok (.goto 4, 3) := by decide +kernel
theorem dX7_tagsOn_27 : decode cX7_tagsOn 27 = .ok (.iconst 0, 1) := by decide +kernel
theorem dX7_tagsOn_28 : decode cX7_tagsOn 28 = .ok (.iadd, 1) := by decide +kernel
theorem dX7_tagsOn_29 : decode cX7_tagsOn 29 = .ok (.istore_n 2, 1) := by decide +kernel
theorem dX7_tagsOn_30 : decode cX7_tagsOn 30 = .ok (.iinc 3 1, 3) := by decide +kernel
theorem dX7_tagsOn_33 : decode cX7_tagsOn 33 = .ok (.goto (-29), 3) := by decide +kernel
theorem dX7_tagsOn_36 : decode cX7_tagsOn 36 = .ok (.iload_n 2, 1) := by decide +kernel
theorem dX7_tagsOn_37 : decode cX7_tagsOn 37 = .ok (.ireturn, 1) := by decide +kernel
theorem dX7_isBarred_0 : decode cX7_isBarred 0 = .ok (.iconst 0, 1) := by decide +kernel
theorem dX7_isBarred_1 : decode cX7_isBarred 1 = .ok (.istore_n 3, 1) := by decide +kernel
theorem dX7_isBarred_2 : decode cX7_isBarred 2 = .ok (.iconst 0, 1) := by decide +kernel
theorem dX7_isBarred_3 : decode cX7_isBarred 3 = .ok (.istore 4, 2) := by decide +kernel
theorem dX7_isBarred_5 : decode cX7_isBarred 5 = .ok (.iload 4, 2) := by decide +kernel
theorem dX7_isBarred_7 : decode cX7_isBarred 7 = .ok (.aload_n 0, 1) := by decide +kernel
theorem dX7_isBarred_8 : decode cX7_isBarred 8 = .ok (.getfield 84, 3) := by decide +kernel
theorem dX7_isBarred_11 : decode cX7_isBarred 11 = .ok (.if_icmp .ge 41, 3) := by decide +kernel
theorem dX7_isBarred_14 : decode cX7_isBarred 14 = .ok (.iload_n 3, 1) := by decide +kernel
theorem dX7_isBarred_15 : decode cX7_isBarred 15 = .ok (.ifCond .ne 25, 3) := by decide +kernel
theorem dX7_isBarred_18 : decode cX7_isBarred 18 = .ok (.aload_n 0, 1) := by decide +kernel
theorem dX7_isBarred_19 : decode cX7_isBarred 19 = .ok (.getfield 33, 3) := by decide +kernel
theorem dX7_isBarred_22 : decode cX7_isBarred 22 = .ok (.iload 4, 2) := by decide +kernel
theorem dX7_isBarred_24 : decode cX7_isBarred 24 = .ok (.iaload, 1) := by decide +kernel
theorem dX7_isBarred_25 : decode cX7_isBarred 25 = .ok (.iload_n 2, 1) := by decide +kernel
theorem dX7_isBarred_26 : decode cX7_isBarred 26 = .ok (.if_icmp .ne 18, 3) := by decide +kernel
theorem dX7_isBarred_29 : decode cX7_isBarred 29 = .ok (.aload_n 0, 1) := by decide +kernel
theorem dX7_isBarred_30 : decode cX7_isBarred 30 = .ok (.getfield 36, 3) := by decide +kernel
theorem dX7_isBarred_33 : decode cX7_isBarred 33 = .ok (.iload 4, 2) := by decide +kernel
theorem dX7_isBarred_35 : decode cX7_isBarred 35 = .ok (.iaload, 1) := by decide +kernel
theorem dX7_isBarred_36 : decode cX7_isBarred 36 = .ok (.iload_n 1, 1) := by decide +kernel
theorem dX7_isBarred_37 : decode cX7_isBarred 37 = .ok (.if_icmp .eq 7, 3) := by decide +kernel
theorem dX7_isBarred_40 : decode cX7_isBarred 40 = .ok (.iconst 1, 1) := by decide +kernel
theorem dX7_isBarred_41 : decode cX7_isBarred 41 = .ok (.goto 4, 3) := by decide +kernel
theorem dX7_isBarred_44 : decode cX7_isBarred 44 = .ok (.iconst 0, 1) := by decide +kernel
theorem dX7_isBarred_45 : decode cX7_isBarred 45 = .ok (.istore_n 3, 1) := by decide +kernel
theorem dX7_isBarred_46 : decode cX7_isBarred 46 = .ok (.iinc 4 1, 3) := by decide +kernel
theorem dX7_isBarred_49 : decode cX7_isBarred 49 = .ok (.goto (-44), 3) := by decide +kernel
theorem dX7_isBarred_52 : decode cX7_isBarred 52 = .ok (.iload_n 3, 1) := by decide +kernel
theorem dX7_isBarred_53 : decode cX7_isBarred 53 = .ok (.ireturn, 1) := by decide +kernel
set_option maxRecDepth 20000 in
theorem ggX7_turnsTo_X7_notes : GoodIn wsX7_turnsTo wsX7_notes := goodIn_r _ [6, 7, 8, 9, 10, 11, 12, 13, 14, 15, 16, 17, 18, 19, 20, 21, 22, 23, 24, 25, 26, 27, 28, 29, 30, 31, 32, 33, 34, 35, 36, 37, 38, 39, 40, 41, 42] (by decide +kernel) (by decide +kernel)
set_option maxRecDepth 20000 in
theorem gX7_turnsTo_X7_notes : GoodIn wsX7_turnsTo (wsV RX7 102 RX7 yX7_notes wsX7_notes) := goodIn_app (goodIn_of _ (by decide +kernel)) ggX7_turnsTo_X7_notes
theorem dX7_turnsTo_0 : decode cX7_turnsTo 0 = .ok (.aload_n 0, 1) := by decide +kernel
theorem dX7_turnsTo_1 : decode cX7_turnsTo 1 = .ok (.getfield 21, 3) := by decide +kernel
theorem dX7_turnsTo_4 : decode cX7_turnsTo 4 = .ok (.iload_n 2, 1) := by decide +kernel
theorem dX7_turnsTo_5 : decode cX7_turnsTo 5 = .ok (.baload, 1) := by decide +kernel
theorem dX7_turnsTo_6 : decode cX7_turnsTo 6 = .ok (.iload_n 3, 1) := by decide +kernel
theorem dX7_turnsTo_7 : decode cX7_turnsTo 7 = .ok (.if_icmp .ne 5, 3) := by decide +kernel
theorem dX7_turnsTo_10 : decode cX7_turnsTo 10 = .ok (.iconst 0, 1) := by decide +kernel
theorem dX7_turnsTo_11 : decode cX7_turnsTo 11 = .ok (.ireturn, 1) := by decide +kernel
theorem dX7_turnsTo_12 : decode cX7_turnsTo 12 = .ok (.aload_n 0, 1) := by decide +kernel
theorem dX7_turnsTo_13 : decode cX7_turnsTo 13 = .ok (.getfield 21, 3) := by decide +kernel
theorem dX7_turnsTo_16 : decode cX7_turnsTo 16 = .ok (.iload_n 2, 1) := by decide +kernel
theorem dX7_turnsTo_17 : decode cX7_turnsTo 17 = .ok (.iload_n 3, 1) := by decide +kernel
theorem dX7_turnsTo_18 : decode cX7_turnsTo 18 = .ok (.bastore, 1) := by decide +kernel
theorem dX7_turnsTo_19 : decode cX7_turnsTo 19 = .ok (.aload_n 0, 1) := by decide +kernel
theorem dX7_turnsTo_20 : decode cX7_turnsTo 20 = .ok (.iconst 0, 1) := by decide +kernel
theorem dX7_turnsTo_21 : decode cX7_turnsTo 21 = .ok (.iload_n 1, 1) := by decide +kernel
theorem dX7_turnsTo_22 : decode cX7_turnsTo 22 = .ok (.iload_n 2, 1) := by decide +kernel
theorem dX7_turnsTo_23 : decode cX7_turnsTo 23 = .ok (.iload_n 3, 1) := by decide +kernel
theorem dX7_turnsTo_24 : decode cX7_turnsTo 24 = .ok (.ifCond .eq 8, 3) := by decide +kernel
theorem dX7_turnsTo_27 : decode cX7_turnsTo 27 = .ok (.bipush 10, 2) := by decide +kernel
theorem dX7_turnsTo_29 : decode cX7_turnsTo 29 = .ok (.goto 4, 3) := by decide +kernel
theorem dX7_turnsTo_32 : decode cX7_turnsTo 32 = .ok (.iconst 0, 1) := by decide +kernel
theorem dX7_turnsTo_33 : decode cX7_turnsTo 33 = .ok (.iadd, 1) := by decide +kernel
theorem dX7_turnsTo_34 : decode cX7_turnsTo 34 = .ok (.invokevirtual 102, 3) := by decide +kernel
theorem dX7_turnsTo_37 : decode cX7_turnsTo 37 = .ok (.iconst 1, 1) := by decide +kernel
theorem dX7_turnsTo_38 : decode cX7_turnsTo 38 = .ok (.ireturn, 1) := by decide +kernel
set_option maxRecDepth 20000 in
theorem ggX7_pipe_X7_in : GoodIn wsX7_pipe wsX7_in := goodIn_r _ [8] (by decide +kernel) (by decide +kernel)
set_option maxRecDepth 20000 in
theorem gX7_pipe_X7_in : GoodIn wsX7_pipe (va_wsS RX7 80 yX7_in wsX7_in) := goodIn_app (goodIn_of _ (by decide +kernel)) ggX7_pipe_X7_in
set_option maxRecDepth 20000 in
theorem ggX7_pipe_X7_isValve : GoodIn wsX7_pipe wsX7_isValve := goodIn_r _ [11, 5, 6, 7, 8] (by decide +kernel) (by decide +kernel)
set_option maxRecDepth 20000 in
theorem gX7_pipe_X7_isValve : GoodIn wsX7_pipe (va_wsS RX7 106 yX7_isValve wsX7_isValve) := goodIn_app (goodIn_of _ (by decide +kernel)) ggX7_pipe_X7_isValve
set_option maxRecDepth 20000 in
theorem ggX7_pipe_X7_tagsOn : GoodIn wsX7_pipe wsX7_tagsOn := goodIn_r _ [15, 16, 17, 18, 19, 20, 21, 22, 23, 24, 25, 26, 27, 28, 29, 30, 31, 32, 33, 34, 35, 36, 37, 38, 39, 40, 41, 42, 43, 44, 45, 46, 47, 48, 49] (by decide +kernel) (by decide +kernel)
set_option maxRecDepth 20000 in
theorem gX7_pipe_X7_tagsOn : GoodIn wsX7_pipe (wsV RX7 109 RX7 yX7_tagsOn wsX7_tagsOn) := goodIn_app (goodIn_of _ (by decide +kernel)) ggX7_pipe_X7_tagsOn
theorem dX7_pipe_0 : decode cX7_pipe 0 = .ok (.iload_n 2, 1) := by decide +kernel
theorem dX7_pipe_1 : decode cX7_pipe 1 = .ok (.iconst (-1), 1) := by decide +kernel
theorem dX7_pipe_2 : decode cX7_pipe 2 = .ok (.iconst 2, 1) := by decide +kernel
theorem dX7_pipe_3 : decode cX7_pipe 3 = .ok (.invokestatic 80, 3) := by decide +kernel
theorem dX7_pipe_6 : decode cX7_pipe 6 = .ok (.ifCond .eq 21, 3) := by decide +kernel
theorem dX7_pipe_9 : decode cX7_pipe 9 = .ok (.iload_n 3, 1) := by decide +kernel
theorem dX7_pipe_10 : decode cX7_pipe 10 = .ok (.iconst (-1), 1) := by decide +kernel
theorem dX7_pipe_11 : decode cX7_pipe 11 = .ok (.iconst 2, 1) := by decide +kernel
theorem dX7_pipe_12 : decode cX7_pipe 12 = .ok (.invokestatic 80, 3) := by decide +kernel
theorem dX7_pipe_15 : decode cX7_pipe 15 = .ok (.ifCond .eq 12, 3) := by decide +kernel
theorem dX7_pipe_18 : decode cX7_pipe 18 = .ok (.iload_n 2, 1) := by decide +kernel
theorem dX7_pipe_19 : decode cX7_pipe 19 = .ok (.iload_n 3, 1) := by decide +kernel
theorem dX7_pipe_20 : decode cX7_pipe 20 = .ok (.if_icmp .eq 7, 3) := by decide +kernel
theorem dX7_pipe_23 : decode cX7_pipe 23 = .ok (.iconst 1, 1) := by decide +kernel
theorem dX7_pipe_24 : decode cX7_pipe 24 = .ok (.goto 4, 3) := by decide +kernel
theorem dX7_pipe_27 : decode cX7_pipe 27 = .ok (.iconst 0, 1) := by decide +kernel
theorem dX7_pipe_28 : decode cX7_pipe 28 = .ok (.istore 4, 2) := by decide +kernel
theorem dX7_pipe_30 : decode cX7_pipe 30 = .ok (.aload_n 0, 1) := by decide +kernel
theorem dX7_pipe_31 : decode cX7_pipe 31 = .ok (.iload_n 1, 1) := by decide +kernel
theorem dX7_pipe_32 : decode cX7_pipe 32 = .ok (.invokestatic 106, 3) := by decide +kernel
theorem dX7_pipe_35 : decode cX7_pipe 35 = .ok (.ifCond .ne 7, 3) := by decide +kernel
theorem dX7_pipe_38 : decode cX7_pipe 38 = .ok (.iconst 1, 1) := by decide +kernel
theorem dX7_pipe_39 : decode cX7_pipe 39 = .ok (.goto 26, 3) := by decide +kernel
theorem dX7_pipe_42 : decode cX7_pipe 42 = .ok (.iload 4, 2) := by decide +kernel
theorem dX7_pipe_44 : decode cX7_pipe 44 = .ok (.ifCond .ne 7, 3) := by decide +kernel
theorem dX7_pipe_47 : decode cX7_pipe 47 = .ok (.iconst 2, 1) := by decide +kernel
theorem dX7_pipe_48 : decode cX7_pipe 48 = .ok (.goto 17, 3) := by decide +kernel
theorem dX7_pipe_51 : decode cX7_pipe 51 = .ok (.aload_n 0, 1) := by decide +kernel
theorem dX7_pipe_52 : decode cX7_pipe 52 = .ok (.getfield 21, 3) := by decide +kernel
theorem dX7_pipe_55 : decode cX7_pipe 55 = .ok (.iload_n 1, 1) := by decide +kernel
theorem dX7_pipe_56 : decode cX7_pipe 56 = .ok (.baload, 1) := by decide +kernel
theorem dX7_pipe_57 : decode cX7_pipe 57 = .ok (.ifCond .eq 7, 3) := by decide +kernel
theorem dX7_pipe_60 : decode cX7_pipe 60 = .ok (.iconst 3, 1) := by decide +kernel
theorem dX7_pipe_61 : decode cX7_pipe 61 = .ok (.goto 4, 3) := by decide +kernel
theorem dX7_pipe_64 : decode cX7_pipe 64 = .ok (.iconst 0, 1) := by decide +kernel
theorem dX7_pipe_65 : decode cX7_pipe 65 = .ok (.putfield 76, 3) := by decide +kernel
theorem dX7_pipe_68 : decode cX7_pipe 68 = .ok (.aload_n 0, 1) := by decide +kernel
theorem dX7_pipe_69 : decode cX7_pipe 69 = .ok (.getfield 76, 3) := by decide +kernel
theorem dX7_pipe_72 : decode cX7_pipe 72 = .ok (.ifCond .le 5, 3) := by decide +kernel
theorem dX7_pipe_75 : decode cX7_pipe 75 = .ok (.iconst 0, 1) := by decide +kernel
theorem dX7_pipe_76 : decode cX7_pipe 76 = .ok (.ireturn, 1) := by decide +kernel
theorem dX7_pipe_77 : decode cX7_pipe 77 = .ok (.aload_n 0, 1) := by decide +kernel
theorem dX7_pipe_78 : decode cX7_pipe 78 = .ok (.getfield 24, 3) := by decide +kernel
theorem dX7_pipe_81 : decode cX7_pipe 81 = .ok (.iload_n 1, 1) := by decide +kernel
theorem dX7_pipe_82 : decode cX7_pipe 82 = .ok (.iload_n 2, 1) := by decide +kernel
theorem dX7_pipe_83 : decode cX7_pipe 83 = .ok (.iastore, 1) := by decide +kernel
theorem dX7_pipe_84 : decode cX7_pipe 84 = .ok (.aload_n 0, 1) := by decide +kernel
theorem dX7_pipe_85 : decode cX7_pipe 85 = .ok (.getfield 27, 3) := by decide +kernel
theorem dX7_pipe_88 : decode cX7_pipe 88 = .ok (.iload_n 1, 1) := by decide +kernel
theorem dX7_pipe_89 : decode cX7_pipe 89 = .ok (.iload_n 3, 1) := by decide +kernel
theorem dX7_pipe_90 : decode cX7_pipe 90 = .ok (.iastore, 1) := by decide +kernel
theorem dX7_pipe_91 : decode cX7_pipe 91 = .ok (.aload_n 0, 1) := by decide +kernel
theorem dX7_pipe_92 : decode cX7_pipe 92 = .ok (.iload_n 1, 1) := by decide +kernel
theorem dX7_pipe_93 : decode cX7_pipe 93 = .ok (.invokevirtual 109, 3) := by decide +kernel
theorem dX7_pipe_96 : decode cX7_pipe 96 = .ok (.ireturn, 1) := by decide +kernel
set_option maxRecDepth 20000 in
theorem ggX7_bars_X7_isOnDuty : GoodIn wsX7_bars wsX7_isOnDuty := goodIn_r _ [5, 6, 7, 21, 22, 23, 24, 25, 26, 27, 28, 29, 30, 31, 32, 33, 34, 35, 36, 37, 38, 39, 40, 41, 42, 43, 44, 45, 46, 47, 48, 49, 50, 51, 52] (by decide +kernel) (by decide +kernel)
set_option maxRecDepth 20000 in
theorem gX7_bars_X7_isOnDuty : GoodIn wsX7_bars (wsV RX7 95 RX7 yX7_isOnDuty wsX7_isOnDuty) := goodIn_app (goodIn_of _ (by decide +kernel)) ggX7_bars_X7_isOnDuty
set_option maxRecDepth 20000 in
theorem ggX7_bars_X7_may : GoodIn wsX7_bars wsX7_may := goodIn_r _ [11, 12, 13, 1, 2, 3, 4, 5, 6, 7, 21, 22, 23, 24, 25, 26, 27, 28, 29, 30, 31, 32, 33, 34, 35, 36, 37, 38, 39, 40, 41, 42, 43, 44, 45, 46, 47, 48, 49, 50, 51, 52] (by decide +kernel) (by decide +kernel)
set_option maxRecDepth 20000 in
theorem gX7_bars_X7_may : GoodIn wsX7_bars (wsV RX7 113 RX7 yX7_may wsX7_may) := goodIn_app (goodIn_of _ (by decide +kernel)) ggX7_bars_X7_may
set_option maxRecDepth 20000 in
theorem ggX7_bars_X7_isBarred : GoodIn wsX7_bars wsX7_isBarred := goodIn_r _ [17, 18, 19, 20, 21, 22, 23, 24, 25, 26, 27, 28, 29, 30, 31, 32, 33, 34, 35, 36, 37, 38, 39, 40, 41, 42, 43, 44, 45, 46, 47, 48, 49, 50, 51, 52] (by decide +kernel) (by decide +kernel)
set_option maxRecDepth 20000 in
theorem gX7_bars_X7_isBarred : GoodIn wsX7_bars (wsV RX7 116 RX7 yX7_isBarred wsX7_isBarred) := goodIn_app (goodIn_of _ (by decide +kernel)) ggX7_bars_X7_isBarred
theorem dX7_bars_0 : decode cX7_bars 0 = .ok (.aload_n 0, 1) := by decide +kernel
theorem dX7_bars_1 : decode cX7_bars 1 = .ok (.iload_n 1, 1) := by decide +kernel
theorem dX7_bars_2 : decode cX7_bars 2 = .ok (.invokevirtual 95, 3) := by decide +kernel
theorem dX7_bars_5 : decode cX7_bars 5 = .ok (.ifCond .ne 7, 3) := by decide +kernel
theorem dX7_bars_8 : decode cX7_bars 8 = .ok (.iconst 1, 1) := by decide +kernel
theorem dX7_bars_9 : decode cX7_bars 9 = .ok (.goto 29, 3) := by decide +kernel
theorem dX7_bars_12 : decode cX7_bars 12 = .ok (.aload_n 0, 1) := by decide +kernel
theorem dX7_bars_13 : decode cX7_bars 13 = .ok (.iload_n 1, 1) := by decide +kernel
theorem dX7_bars_14 : decode cX7_bars 14 = .ok (.invokevirtual 113, 3) := by decide +kernel
theorem dX7_bars_17 : decode cX7_bars 17 = .ok (.ifCond .ne 7, 3) := by decide +kernel
theorem dX7_bars_20 : decode cX7_bars 20 = .ok (.iconst 2, 1) := by decide +kernel
theorem dX7_bars_21 : decode cX7_bars 21 = .ok (.goto 17, 3) := by decide +kernel
theorem dX7_bars_24 : decode cX7_bars 24 = .ok (.aload_n 0, 1) := by decide +kernel
theorem dX7_bars_25 : decode cX7_bars 25 = .ok (.iload_n 1, 1) := by decide +kernel
theorem dX7_bars_26 : decode cX7_bars 26 = .ok (.iload_n 2, 1) := by decide +kernel
theorem dX7_bars_27 : decode cX7_bars 27 = .ok (.invokevirtual 116, 3) := by decide +kernel
theorem dX7_bars_30 : decode cX7_bars 30 = .ok (.ifCond .eq 7, 3) := by decide +kernel
theorem dX7_bars_33 : decode cX7_bars 33 = .ok (.iconst 3, 1) := by decide +kernel
theorem dX7_bars_34 : decode cX7_bars 34 = .ok (.goto 4, 3) := by decide +kernel
theorem dX7_bars_37 : decode cX7_bars 37 = .ok (.iconst 0, 1) := by decide +kernel
theorem dX7_bars_38 : decode cX7_bars 38 = .ok (.ireturn, 1) := by decide +kernel
set_option maxRecDepth 20000 in
theorem ggX7_turn_X7_isPerson : GoodIn wsX7_turn wsX7_isPerson := goodIn_r _ [5, 6, 7, 4, 8] (by decide +kernel) (by decide +kernel)
set_option maxRecDepth 20000 in
theorem gX7_turn_X7_isPerson : GoodIn wsX7_turn (va_wsS RX7 120 yX7_isPerson wsX7_isPerson) := goodIn_app (goodIn_of _ (by decide +kernel)) ggX7_turn_X7_isPerson
set_option maxRecDepth 20000 in
theorem ggX7_turn_X7_isValve : GoodIn wsX7_turn wsX7_isValve := goodIn_r _ [11, 6, 7, 4, 8] (by decide +kernel) (by decide +kernel)
set_option maxRecDepth 20000 in
theorem gX7_turn_X7_isValve : GoodIn wsX7_turn (va_wsS RX7 106 yX7_isValve wsX7_isValve) := goodIn_app (goodIn_of _ (by decide +kernel)) ggX7_turn_X7_isValve
set_option maxRecDepth 20000 in
theorem ggX7_turn_X7_bars : GoodIn wsX7_turn wsX7_bars := goodIn_r _ [15, 16, 17, 18, 4, 19, 20, 21, 22, 23, 24, 25, 26, 27, 28, 29, 30, 31, 32, 33, 34, 47, 48, 49, 50, 51, 52, 53, 54, 55, 56, 57, 58, 59, 60, 61, 62, 63, 64, 65, 66, 67, 68, 69, 70, 71, 72, 73, 74, 75, 76, 77, 78] (by decide +kernel) (by decide +kernel)
set_option maxRecDepth 20000 in
theorem gX7_turn_X7_bars : GoodIn wsX7_turn (wsV RX7 123 RX7 yX7_bars wsX7_bars) := goodIn_app (goodIn_of _ (by decide +kernel)) ggX7_turn_X7_bars
set_option maxRecDepth 20000 in
theorem ggX7_turn_X7_turnsTo : GoodIn wsX7_turn wsX7_turnsTo := goodIn_r _ [38, 39, 40, 41, 42, 4, 43, 44, 21, 45, 46, 47, 48, 49, 50, 51, 52, 53, 54, 55, 56, 57, 58, 59, 60, 61, 62, 63, 64, 65, 66, 67, 68, 69, 70, 71, 72, 73, 74, 75, 76, 77, 78] (by decide +kernel) (by decide +kernel)
set_option maxRecDepth 20000 in
theorem gX7_turn_X7_turnsTo : GoodIn wsX7_turn (wsV RX7 127 RX7 yX7_turnsTo wsX7_turnsTo) := goodIn_app (goodIn_of _ (by decide +kernel)) ggX7_turn_X7_turnsTo
theorem dX7_turn_0 : decode cX7_turn 0 = .ok (.aload_n 0, 1) := by decide +kernel
theorem dX7_turn_1 : decode cX7_turn 1 = .ok (.iload_n 1, 1) := by decide +kernel
theorem dX7_turn_2 : decode cX7_turn 2 = .ok (.invokestatic 120, 3) := by decide +kernel
theorem dX7_turn_5 : decode cX7_turn 5 = .ok (.ifCond .eq 10, 3) := by decide +kernel
theorem dX7_turn_8 : decode cX7_turn 8 = .ok (.iload_n 2, 1) := by decide +kernel
theorem dX7_turn_9 : decode cX7_turn 9 = .ok (.invokestatic 106, 3) := by decide +kernel
theorem dX7_turn_12 : decode cX7_turn 12 = .ok (.ifCond .ne 7, 3) := by decide +kernel
theorem dX7_turn_15 : decode cX7_turn 15 = .ok (.iconst 1, 1) := by decide +kernel
theorem dX7_turn_16 : decode cX7_turn 16 = .ok (.goto 17, 3) := by decide +kernel
theorem dX7_turn_19 : decode cX7_turn 19 = .ok (.aload_n 0, 1) := by decide +kernel
theorem dX7_turn_20 : decode cX7_turn 20 = .ok (.iload_n 1, 1) := by decide +kernel
theorem dX7_turn_21 : decode cX7_turn 21 = .ok (.iload_n 2, 1) := by decide +kernel
theorem dX7_turn_22 : decode cX7_turn 22 = .ok (.invokevirtual 123, 3) := by decide +kernel
theorem dX7_turn_25 : decode cX7_turn 25 = .ok (.ifCond .le 7, 3) := by decide +kernel
theorem dX7_turn_28 : decode cX7_turn 28 = .ok (.iconst 2, 1) := by decide +kernel
theorem dX7_turn_29 : decode cX7_turn 29 = .ok (.goto 4, 3) := by decide +kernel
theorem dX7_turn_32 : decode cX7_turn 32 = .ok (.iconst 0, 1) := by decide +kernel
theorem dX7_turn_33 : decode cX7_turn 33 = .ok (.putfield 76, 3) := by decide +kernel
theorem dX7_turn_36 : decode cX7_turn 36 = .ok (.aload_n 0, 1) := by decide +kernel
theorem dX7_turn_37 : decode cX7_turn 37 = .ok (.getfield 76, 3) := by decide +kernel
theorem dX7_turn_40 : decode cX7_turn 40 = .ok (.ifCond .ne 17, 3) := by decide +kernel
theorem dX7_turn_43 : decode cX7_turn 43 = .ok (.aload_n 0, 1) := by decide +kernel
theorem dX7_turn_44 : decode cX7_turn 44 = .ok (.iload_n 1, 1) := by decide +kernel
theorem dX7_turn_45 : decode cX7_turn 45 = .ok (.iload_n 2, 1) := by decide +kernel
theorem dX7_turn_46 : decode cX7_turn 46 = .ok (.iload_n 3, 1) := by decide +kernel
theorem dX7_turn_47 : decode cX7_turn 47 = .ok (.invokevirtual 127, 3) := by decide +kernel
theorem dX7_turn_50 : decode cX7_turn 50 = .ok (.ifCond .eq 7, 3) := by decide +kernel
theorem dX7_turn_53 : decode cX7_turn 53 = .ok (.iconst 1, 1) := by decide +kernel
theorem dX7_turn_54 : decode cX7_turn 54 = .ok (.goto 4, 3) := by decide +kernel
theorem dX7_turn_57 : decode cX7_turn 57 = .ok (.iconst 0, 1) := by decide +kernel
theorem dX7_turn_58 : decode cX7_turn 58 = .ok (.ireturn, 1) := by decide +kernel
set_option maxRecDepth 20000 in
theorem ggX7_obstacle_X7_isPerson : GoodIn wsX7_obstacle wsX7_isPerson := goodIn_r _ [5, 6, 7, 4, 8] (by decide +kernel) (by decide +kernel)
set_option maxRecDepth 20000 in
theorem gX7_obstacle_X7_isPerson : GoodIn wsX7_obstacle (va_wsS RX7 120 yX7_isPerson wsX7_isPerson) := goodIn_app (goodIn_of _ (by decide +kernel)) ggX7_obstacle_X7_isPerson
set_option maxRecDepth 20000 in
theorem ggX7_obstacle_X7_isValve : GoodIn wsX7_obstacle wsX7_isValve := goodIn_r _ [11, 6, 7, 4, 8] (by decide +kernel) (by decide +kernel)
set_option maxRecDepth 20000 in
theorem gX7_obstacle_X7_isValve : GoodIn wsX7_obstacle (va_wsS RX7 106 yX7_isValve wsX7_isValve) := goodIn_app (goodIn_of _ (by decide +kernel)) ggX7_obstacle_X7_isValve
set_option maxRecDepth 20000 in
theorem ggX7_obstacle_X7_bars : GoodIn wsX7_obstacle wsX7_bars := goodIn_r _ [15, 16, 17, 18, 4, 19, 20, 21, 22, 23, 24, 25, 26, 27, 28, 29, 30, 31, 32, 33, 34, 35, 36, 37, 38, 39, 40, 41, 42, 43, 44, 45, 46, 47, 48, 49, 50, 51, 52, 53, 54, 55, 56, 57, 58, 59, 60, 61, 62, 63, 64, 65, 66] (by decide +kernel) (by decide +kernel)
set_option maxRecDepth 20000 in
theorem gX7_obstacle_X7_bars : GoodIn wsX7_obstacle (wsV RX7 123 RX7 yX7_bars wsX7_bars) := goodIn_app (goodIn_of _ (by decide +kernel)) ggX7_obstacle_X7_bars
theorem dX7_obstacle_0 : decode cX7_obstacle 0 = .ok (.aload_n 0, 1) := by decide +kernel
theorem dX7_obstacle_1 : decode cX7_obstacle 1 = .ok (.iload_n 1, 1) := by decide +kernel
theorem dX7_obstacle_2 : decode cX7_obstacle 2 = .ok (.invokestatic 120, 3) := by decide +kernel
theorem dX7_obstacle_5 : decode cX7_obstacle 5 = .ok (.ifCond .eq 14, 3) := by decide +kernel
theorem dX7_obstacle_8 : decode cX7_obstacle 8 = .ok (.iload_n 2, 1) := by decide +kernel
theorem dX7_obstacle_9 : decode cX7_obstacle 9 = .ok (.invokestatic 106, 3) := by decide +kernel
theorem dX7_obstacle_12 : decode cX7_obstacle 12 = .ok (.ifCond .eq 7, 3) := by decide +kernel
theorem dX7_obstacle_15 : decode cX7_obstacle 15 = .ok (.iconst 0, 1) := by decide +kernel
theorem dX7_obstacle_16 : decode cX7_obstacle 16 = .ok (.goto 4, 3) := by decide +kernel
theorem dX7_obstacle_19 : decode cX7_obstacle 19 = .ok (.iconst 1, 1) := by decide +kernel
theorem dX7_obstacle_20 : decode cX7_obstacle 20 = .ok (.putfield 76, 3) := by decide +kernel
theorem dX7_obstacle_23 : decode cX7_obstacle 23 = .ok (.aload_n 0, 1) := by decide +kernel
theorem dX7_obstacle_24 : decode cX7_obstacle 24 = .ok (.getfield 76, 3) := by decide +kernel
theorem dX7_obstacle_27 : decode cX7_obstacle 27 = .ok (.ifCond .le 7, 3) := by decide +kernel
theorem dX7_obstacle_30 : decode cX7_obstacle 30 = .ok (.iconst 0, 1) := by decide +kernel
theorem dX7_obstacle_31 : decode cX7_obstacle 31 = .ok (.goto 9, 3) := by decide +kernel
theorem dX7_obstacle_34 : decode cX7_obstacle 34 = .ok (.aload_n 0, 1) := by decide +kernel
theorem dX7_obstacle_35 : decode cX7_obstacle 35 = .ok (.iload_n 1, 1) := by decide +kernel
theorem dX7_obstacle_36 : decode cX7_obstacle 36 = .ok (.iload_n 2, 1) := by decide +kernel
theorem dX7_obstacle_37 : decode cX7_obstacle 37 = .ok (.invokevirtual 123, 3) := by decide +kernel
theorem dX7_obstacle_40 : decode cX7_obstacle 40 = .ok (.ireturn, 1) := by decide +kernel
set_option maxRecDepth 20000 in
theorem ggX7_isOpen_X7_isValve : GoodIn wsX7_isOpen wsX7_isValve := goodIn_r _ [6, 7, 8, 5, 9] (by decide +kernel) (by decide +kernel)
set_option maxRecDepth 20000 in
theorem gX7_isOpen_X7_isValve : GoodIn wsX7_isOpen (va_wsS RX7 106 yX7_isValve wsX7_isValve) := goodIn_app (goodIn_of _ (by decide +kernel)) ggX7_isOpen_X7_isValve
theorem dX7_isOpen_0 : decode cX7_isOpen 0 = .ok (.aload_n 0, 1) := by decide +kernel
theorem dX7_isOpen_1 : decode cX7_isOpen 1 = .ok (.iload_n 1, 1) := by decide +kernel
theorem dX7_isOpen_2 : decode cX7_isOpen 2 = .ok (.invokestatic 106, 3) := by decide +kernel
theorem dX7_isOpen_5 : decode cX7_isOpen 5 = .ok (.ifCond .eq 7, 3) := by decide +kernel
theorem dX7_isOpen_8 : decode cX7_isOpen 8 = .ok (.iconst 0, 1) := by decide +kernel
theorem dX7_isOpen_9 : decode cX7_isOpen 9 = .ok (.goto 4, 3) := by decide +kernel
theorem dX7_isOpen_12 : decode cX7_isOpen 12 = .ok (.iconst 1, 1) := by decide +kernel
theorem dX7_isOpen_13 : decode cX7_isOpen 13 = .ok (.putfield 76, 3) := by decide +kernel
theorem dX7_isOpen_16 : decode cX7_isOpen 16 = .ok (.aload_n 0, 1) := by decide +kernel
theorem dX7_isOpen_17 : decode cX7_isOpen 17 = .ok (.getfield 76, 3) := by decide +kernel
theorem dX7_isOpen_20 : decode cX7_isOpen 20 = .ok (.ifCond .ne 16, 3) := by decide +kernel
theorem dX7_isOpen_23 : decode cX7_isOpen 23 = .ok (.aload_n 0, 1) := by decide +kernel
theorem dX7_isOpen_24 : decode cX7_isOpen 24 = .ok (.getfield 21, 3) := by decide +kernel
theorem dX7_isOpen_27 : decode cX7_isOpen 27 = .ok (.iload_n 1, 1) := by decide +kernel
theorem dX7_isOpen_28 : decode cX7_isOpen 28 = .ok (.baload, 1) := by decide +kernel
theorem dX7_isOpen_29 : decode cX7_isOpen 29 = .ok (.ifCond .eq 7, 3) := by decide +kernel
theorem dX7_isOpen_32 : decode cX7_isOpen 32 = .ok (.iconst 1, 1) := by decide +kernel
theorem dX7_isOpen_33 : decode cX7_isOpen 33 = .ok (.goto 4, 3) := by decide +kernel
theorem dX7_isOpen_36 : decode cX7_isOpen 36 = .ok (.iconst 0, 1) := by decide +kernel
theorem dX7_isOpen_37 : decode cX7_isOpen 37 = .ok (.ireturn, 1) := by decide +kernel
set_option maxRecDepth 20000 in
theorem ggX7_isOpenByLog_X7_isValve : GoodIn wsX7_isOpenByLog wsX7_isValve := goodIn_r _ [6, 7, 8, 5, 9] (by decide +kernel) (by decide +kernel)
set_option maxRecDepth 20000 in
theorem gX7_isOpenByLog_X7_isValve : GoodIn wsX7_isOpenByLog (va_wsS RX7 106 yX7_isValve wsX7_isValve) := goodIn_app (goodIn_of _ (by decide +kernel)) ggX7_isOpenByLog_X7_isValve
theorem dX7_isOpenByLog_0 : decode cX7_isOpenByLog 0 = .ok (.aload_n 0, 1) := by decide +kernel
theorem dX7_isOpenByLog_1 : decode cX7_isOpenByLog 1 = .ok (.iload_n 1, 1) := by decide +kernel
theorem dX7_isOpenByLog_2 : decode cX7_isOpenByLog 2 = .ok (.invokestatic 106, 3) := by decide +kernel
theorem dX7_isOpenByLog_5 : decode cX7_isOpenByLog 5 = .ok (.ifCond .eq 7, 3) := by decide +kernel
theorem dX7_isOpenByLog_8 : decode cX7_isOpenByLog 8 = .ok (.iconst 0, 1) := by decide +kernel
theorem dX7_isOpenByLog_9 : decode cX7_isOpenByLog 9 = .ok (.goto 4, 3) := by decide +kernel
theorem dX7_isOpenByLog_12 : decode cX7_isOpenByLog 12 = .ok (.iconst 1, 1) := by decide +kernel
theorem dX7_isOpenByLog_13 : decode cX7_isOpenByLog 13 = .ok (.putfield 76, 3) := by decide +kernel
theorem dX7_isOpenByLog_16 : decode cX7_isOpenByLog 16 = .ok (.aload_n 0, 1) := by decide +kernel
theorem dX7_isOpenByLog_17 : decode cX7_isOpenByLog 17 = .ok (.getfield 76, 3) := by decide +kernel
theorem dX7_isOpenByLog_20 : decode cX7_isOpenByLog 20 = .ok (.ifCond .ne 16, 3) := by decide +kernel
theorem dX7_isOpenByLog_23 : decode cX7_isOpenByLog 23 = .ok (.aload_n 0, 1) := by decide +kernel
theorem dX7_isOpenByLog_24 : decode cX7_isOpenByLog 24 = .ok (.getfield 21, 3) := by decide +kernel
theorem dX7_isOpenByLog_27 : decode cX7_isOpenByLog 27 = .ok (.iload_n 1, 1) := by decide +kernel
theorem dX7_isOpenByLog_28 : decode cX7_isOpenByLog 28 = .ok (.baload, 1) := by decide +kernel
theorem dX7_isOpenByLog_29 : decode cX7_isOpenByLog 29 = .ok (.ifCond .eq 7, 3) := by decide +kernel
theorem dX7_isOpenByLog_32 : decode cX7_isOpenByLog 32 = .ok (.iconst 1, 1) := by decide +kernel
theorem dX7_isOpenByLog_33 : decode cX7_isOpenByLog 33 = .ok (.goto 4, 3) := by decide +kernel
theorem dX7_isOpenByLog_36 : decode cX7_isOpenByLog 36 = .ok (.iconst 0, 1) := by decide +kernel
theorem dX7_isOpenByLog_37 : decode cX7_isOpenByLog 37 = .ok (.ireturn, 1) := by decide +kernel
set_option maxRecDepth 20000 in
theorem ggX7_level_X7_isVessel : GoodIn wsX7_level wsX7_isVessel := goodIn_r _ [6, 7, 8, 5, 9] (by decide +kernel) (by decide +kernel)
set_option maxRecDepth 20000 in
theorem gX7_level_X7_isVessel : GoodIn wsX7_level (va_wsS RX7 131 yX7_isVessel wsX7_isVessel) := goodIn_app (goodIn_of _ (by decide +kernel)) ggX7_level_X7_isVessel
theorem dX7_level_0 : decode cX7_level 0 = .ok (.aload_n 0, 1) := by decide +kernel
theorem dX7_level_1 : decode cX7_level 1 = .ok (.iload_n 1, 1) := by decide +kernel
theorem dX7_level_2 : decode cX7_level 2 = .ok (.invokestatic 131, 3) := by decide +kernel
theorem dX7_level_5 : decode cX7_level 5 = .ok (.ifCond .eq 7, 3) := by decide +kernel
theorem dX7_level_8 : decode cX7_level 8 = .ok (.iconst 0, 1) := by decide +kernel
theorem dX7_level_9 : decode cX7_level 9 = .ok (.goto 4, 3) := by decide +kernel
theorem dX7_level_12 : decode cX7_level 12 = .ok (.iconst 1, 1) := by decide +kernel
theorem dX7_level_13 : decode cX7_level 13 = .ok (.putfield 76, 3) := by decide +kernel
theorem dX7_level_16 : decode cX7_level 16 = .ok (.aload_n 0, 1) := by decide +kernel
theorem dX7_level_17 : decode cX7_level 17 = .ok (.getfield 76, 3) := by decide +kernel
theorem dX7_level_20 : decode cX7_level 20 = .ok (.ifCond .le 7, 3) := by decide +kernel
theorem dX7_level_23 : decode cX7_level 23 = .ok (.iconst 0, 1) := by decide +kernel
theorem dX7_level_24 : decode cX7_level 24 = .ok (.goto 9, 3) := by decide +kernel
theorem dX7_level_27 : decode cX7_level 27 = .ok (.aload_n 0, 1) := by decide +kernel
theorem dX7_level_28 : decode cX7_level 28 = .ok (.getfield 30, 3) := by decide +kernel
theorem dX7_level_31 : decode cX7_level 31 = .ok (.iload_n 1, 1) := by decide +kernel
theorem dX7_level_32 : decode cX7_level 32 = .ok (.iaload, 1) := by decide +kernel
theorem dX7_level_33 : decode cX7_level 33 = .ok (.ireturn, 1) := by decide +kernel
theorem dX7_spilled_0 : decode cX7_spilled 0 = .ok (.aload_n 0, 1) := by decide +kernel
theorem dX7_spilled_1 : decode cX7_spilled 1 = .ok (.iconst 0, 1) := by decide +kernel
theorem dX7_spilled_2 : decode cX7_spilled 2 = .ok (.putfield 76, 3) := by decide +kernel
theorem dX7_spilled_5 : decode cX7_spilled 5 = .ok (.aload_n 0, 1) := by decide +kernel
theorem dX7_spilled_6 : decode cX7_spilled 6 = .ok (.getfield 134, 3) := by decide +kernel
theorem dX7_spilled_9 : decode cX7_spilled 9 = .ok (.ireturn, 1) := by decide +kernel
set_option maxRecDepth 20000 in
theorem ggX7_hang_X7_isPerson : GoodIn wsX7_hang wsX7_isPerson := goodIn_r _ [9, 10, 11, 8, 12] (by decide +kernel) (by decide +kernel)
set_option maxRecDepth 20000 in
theorem gX7_hang_X7_isPerson : GoodIn wsX7_hang (va_wsS RX7 120 yX7_isPerson wsX7_isPerson) := goodIn_app (goodIn_of _ (by decide +kernel)) ggX7_hang_X7_isPerson
set_option maxRecDepth 20000 in
theorem ggX7_hang_X7_isValve : GoodIn wsX7_hang wsX7_isValve := goodIn_r _ [15, 10, 11, 8, 12] (by decide +kernel) (by decide +kernel)
set_option maxRecDepth 20000 in
theorem gX7_hang_X7_isValve : GoodIn wsX7_hang (va_wsS RX7 106 yX7_isValve wsX7_isValve) := goodIn_app (goodIn_of _ (by decide +kernel)) ggX7_hang_X7_isValve
set_option maxRecDepth 20000 in
theorem ggX7_hang_X7_may : GoodIn wsX7_hang wsX7_may := goodIn_r _ [19, 20, 21, 22, 23, 24, 8, 25, 26, 27, 35, 36, 37, 38, 39, 40, 41, 42, 43, 44, 45, 46, 47, 48, 49, 50, 51, 52, 53, 54, 55, 56, 57, 58, 59, 60, 61, 62, 63, 64, 65, 66] (by decide +kernel) (by decide +kernel)
set_option maxRecDepth 20000 in
theorem gX7_hang_X7_may : GoodIn wsX7_hang (wsV RX7 113 RX7 yX7_may wsX7_may) := goodIn_app (goodIn_of _ (by decide +kernel)) ggX7_hang_X7_may
set_option maxRecDepth 20000 in
theorem ggX7_hang_X7_notes : GoodIn wsX7_hang wsX7_notes := goodIn_r _ [31, 32, 27, 33, 34, 35, 36, 37, 38, 39, 40, 41, 42, 43, 44, 45, 46, 47, 48, 49, 50, 51, 52, 53, 54, 55, 56, 57, 58, 59, 60, 61, 62, 63, 64, 65, 66] (by decide +kernel) (by decide +kernel)
set_option maxRecDepth 20000 in
theorem gX7_hang_X7_notes : GoodIn wsX7_hang (wsV RX7 102 RX7 yX7_notes wsX7_notes) := goodIn_app (goodIn_of _ (by decide +kernel)) ggX7_hang_X7_notes
theorem dX7_hang_0 : decode cX7_hang 0 = .ok (.aload_n 0, 1) := by decide +kernel
theorem dX7_hang_1 : decode cX7_hang 1 = .ok (.iload_n 1, 1) := by decide +kernel
theorem dX7_hang_2 : decode cX7_hang 2 = .ok (.invokestatic 120, 3) := by decide +kernel
theorem dX7_hang_5 : decode cX7_hang 5 = .ok (.ifCond .eq 10, 3) := by decide +kernel
theorem dX7_hang_8 : decode cX7_hang 8 = .ok (.iload_n 2, 1) := by decide +kernel
theorem dX7_hang_9 : decode cX7_hang 9 = .ok (.invokestatic 106, 3) := by decide +kernel
theorem dX7_hang_12 : decode cX7_hang 12 = .ok (.ifCond .ne 7, 3) := by decide +kernel
theorem dX7_hang_15 : decode cX7_hang 15 = .ok (.iconst 1, 1) := by decide +kernel
theorem dX7_hang_16 : decode cX7_hang 16 = .ok (.goto 25, 3) := by decide +kernel
theorem dX7_hang_19 : decode cX7_hang 19 = .ok (.aload_n 0, 1) := by decide +kernel
theorem dX7_hang_20 : decode cX7_hang 20 = .ok (.iload_n 1, 1) := by decide +kernel
theorem dX7_hang_21 : decode cX7_hang 21 = .ok (.invokevirtual 113, 3) := by decide +kernel
theorem dX7_hang_24 : decode cX7_hang 24 = .ok (.ifCond .eq 12, 3) := by decide +kernel
theorem dX7_hang_27 : decode cX7_hang 27 = .ok (.aload_n 0, 1) := by decide +kernel
theorem dX7_hang_28 : decode cX7_hang 28 = .ok (.getfield 84, 3) := by decide +kernel
theorem dX7_hang_31 : decode cX7_hang 31 = .ok (.bipush 40, 2) := by decide +kernel
theorem dX7_hang_33 : decode cX7_hang 33 = .ok (.if_icmp .ne 7, 3) := by decide +kernel
theorem dX7_hang_36 : decode cX7_hang 36 = .ok (.iconst 2, 1) := by decide +kernel
theorem dX7_hang_37 : decode cX7_hang 37 = .ok (.goto 4, 3) := by decide +kernel
theorem dX7_hang_40 : decode cX7_hang 40 = .ok (.iconst 0, 1) := by decide +kernel
theorem dX7_hang_41 : decode cX7_hang 41 = .ok (.putfield 76, 3) := by decide +kernel
theorem dX7_hang_44 : decode cX7_hang 44 = .ok (.aload_n 0, 1) := by decide +kernel
theorem dX7_hang_45 : decode cX7_hang 45 = .ok (.getfield 76, 3) := by decide +kernel
theorem dX7_hang_48 : decode cX7_hang 48 = .ok (.ifCond .le 5, 3) := by decide +kernel
theorem dX7_hang_51 : decode cX7_hang 51 = .ok (.iconst 0, 1) := by decide +kernel
theorem dX7_hang_52 : decode cX7_hang 52 = .ok (.ireturn, 1) := by decide +kernel
theorem dX7_hang_53 : decode cX7_hang 53 = .ok (.aload_n 0, 1) := by decide +kernel
theorem dX7_hang_54 : decode cX7_hang 54 = .ok (.getfield 33, 3) := by decide +kernel
theorem dX7_hang_57 : decode cX7_hang 57 = .ok (.aload_n 0, 1) := by decide +kernel
theorem dX7_hang_58 : decode cX7_hang 58 = .ok (.getfield 84, 3) := by decide +kernel
theorem dX7_hang_61 : decode cX7_hang 61 = .ok (.iload_n 2, 1) := by decide +kernel
theorem dX7_hang_62 : decode cX7_hang 62 = .ok (.iastore, 1) := by decide +kernel
theorem dX7_hang_63 : decode cX7_hang 63 = .ok (.aload_n 0, 1) := by decide +kernel
theorem dX7_hang_64 : decode cX7_hang 64 = .ok (.getfield 36, 3) := by decide +kernel
theorem dX7_hang_67 : decode cX7_hang 67 = .ok (.aload_n 0, 1) := by decide +kernel
theorem dX7_hang_68 : decode cX7_hang 68 = .ok (.getfield 84, 3) := by decide +kernel
theorem dX7_hang_71 : decode cX7_hang 71 = .ok (.iload_n 1, 1) := by decide +kernel
theorem dX7_hang_72 : decode cX7_hang 72 = .ok (.iastore, 1) := by decide +kernel
theorem dX7_hang_73 : decode cX7_hang 73 = .ok (.aload_n 0, 1) := by decide +kernel
theorem dX7_hang_74 : decode cX7_hang 74 = .ok (.getfield 39, 3) := by decide +kernel
theorem dX7_hang_77 : decode cX7_hang 77 = .ok (.aload_n 0, 1) := by decide +kernel
theorem dX7_hang_78 : decode cX7_hang 78 = .ok (.getfield 84, 3) := by decide +kernel
theorem dX7_hang_81 : decode cX7_hang 81 = .ok (.iconst 0, 1) := by decide +kernel
theorem dX7_hang_82 : decode cX7_hang 82 = .ok (.iastore, 1) := by decide +kernel
theorem dX7_hang_83 : decode cX7_hang 83 = .ok (.aload_n 0, 1) := by decide +kernel
theorem dX7_hang_84 : decode cX7_hang 84 = .ok (.iconst 1, 1) := by decide +kernel
theorem dX7_hang_85 : decode cX7_hang 85 = .ok (.iload_n 1, 1) := by decide +kernel
theorem dX7_hang_86 : decode cX7_hang 86 = .ok (.aload_n 0, 1) := by decide +kernel
theorem dX7_hang_87 : decode cX7_hang 87 = .ok (.getfield 84, 3) := by decide +kernel
theorem dX7_hang_90 : decode cX7_hang 90 = .ok (.invokevirtual 102, 3) := by decide +kernel
theorem dX7_hang_93 : decode cX7_hang 93 = .ok (.aload_n 0, 1) := by decide +kernel
theorem dX7_hang_94 : decode cX7_hang 94 = .ok (.dup, 1) := by decide +kernel
theorem dX7_hang_95 : decode cX7_hang 95 = .ok (.getfield 84, 3) := by decide +kernel
theorem dX7_hang_98 : decode cX7_hang 98 = .ok (.iconst 1, 1) := by decide +kernel
theorem dX7_hang_99 : decode cX7_hang 99 = .ok (.iadd, 1) := by decide +kernel
theorem dX7_hang_100 : decode cX7_hang 100 = .ok (.putfield 84, 3) := by decide +kernel
theorem dX7_hang_103 : decode cX7_hang 103 = .ok (.aload_n 0, 1) := by decide +kernel
theorem dX7_hang_104 : decode cX7_hang 104 = .ok (.getfield 84, 3) := by decide +kernel
theorem dX7_hang_107 : decode cX7_hang 107 = .ok (.iconst 1, 1) := by decide +kernel
theorem dX7_hang_108 : decode cX7_hang 108 = .ok (.isub, 1) := by decide +kernel
theorem dX7_hang_109 : decode cX7_hang 109 = .ok (.ireturn, 1) := by decide +kernel
set_option maxRecDepth 20000 in
theorem ggX7_takeOff_X7_isPerson : GoodIn wsX7_takeOff wsX7_isPerson := goodIn_r _ [9, 10, 11, 8, 12] (by decide +kernel) (by decide +kernel)
set_option maxRecDepth 20000 in
theorem gX7_takeOff_X7_isPerson : GoodIn wsX7_takeOff (va_wsS RX7 120 yX7_isPerson wsX7_isPerson) := goodIn_app (goodIn_of _ (by decide +kernel)) ggX7_takeOff_X7_isPerson
set_option maxRecDepth 20000 in
theorem ggX7_takeOff_X7_isTag : GoodIn wsX7_takeOff wsX7_isTag := goodIn_r _ [16, 17, 10, 11, 8, 12, 36, 37, 38, 39, 40, 41, 42, 43, 44, 45, 46, 47, 48, 49, 50, 51, 52, 53, 54, 55, 56, 57, 58, 59, 60, 61, 62, 63, 64, 65, 66, 67] (by decide +kernel) (by decide +kernel)
set_option maxRecDepth 20000 in
theorem gX7_takeOff_X7_isTag : GoodIn wsX7_takeOff (wsV RX7 137 RX7 yX7_isTag wsX7_isTag) := goodIn_app (goodIn_of _ (by decide +kernel)) ggX7_takeOff_X7_isTag
set_option maxRecDepth 20000 in
theorem ggX7_takeOff_X7_may : GoodIn wsX7_takeOff wsX7_may := goodIn_r _ [21, 22, 23, 24, 25, 26, 8, 27, 4, 28, 36, 37, 38, 39, 40, 41, 42, 43, 44, 45, 46, 47, 48, 49, 50, 51, 52, 53, 54, 55, 56, 57, 58, 59, 60, 61, 62, 63, 64, 65, 66, 67] (by decide +kernel) (by decide +kernel)
set_option maxRecDepth 20000 in
theorem gX7_takeOff_X7_may : GoodIn wsX7_takeOff (wsV RX7 113 RX7 yX7_may wsX7_may) := goodIn_app (goodIn_of _ (by decide +kernel)) ggX7_takeOff_X7_may
set_option maxRecDepth 20000 in
theorem ggX7_takeOff_X7_notes : GoodIn wsX7_takeOff wsX7_notes := goodIn_r _ [32, 33, 28, 34, 35, 36, 37, 38, 39, 40, 41, 42, 43, 44, 45, 46, 47, 48, 49, 50, 51, 52, 53, 54, 55, 56, 57, 58, 59, 60, 61, 62, 63, 64, 65, 66, 67] (by decide +kernel) (by decide +kernel)
set_option maxRecDepth 20000 in
theorem gX7_takeOff_X7_notes : GoodIn wsX7_takeOff (wsV RX7 102 RX7 yX7_notes wsX7_notes) := goodIn_app (goodIn_of _ (by decide +kernel)) ggX7_takeOff_X7_notes
theorem dX7_takeOff_0 : decode cX7_takeOff 0 = .ok (.aload_n 0, 1) := by decide +kernel
theorem dX7_takeOff_1 : decode cX7_takeOff 1 = .ok (.iload_n 1, 1) := by decide +kernel
theorem dX7_takeOff_2 : decode cX7_takeOff 2 = .ok (.invokestatic 120, 3) := by decide +kernel
theorem dX7_takeOff_5 : decode cX7_takeOff 5 = .ok (.ifCond .eq 15, 3) := by decide +kernel
theorem dX7_takeOff_8 : decode cX7_takeOff 8 = .ok (.aload_n 0, 1) := by decide +kernel
theorem dX7_takeOff_9 : decode cX7_takeOff 9 = .ok (.iload_n 2, 1) := by decide +kernel
theorem dX7_takeOff_10 : decode cX7_takeOff 10 = .ok (.invokevirtual 137, 3) := by decide +kernel
theorem dX7_takeOff_13 : decode cX7_takeOff 13 = .ok (.ifCond .eq 7, 3) := by decide +kernel
theorem dX7_takeOff_16 : decode cX7_takeOff 16 = .ok (.iconst 0, 1) := by decide +kernel
theorem dX7_takeOff_17 : decode cX7_takeOff 17 = .ok (.goto 4, 3) := by decide +kernel
theorem dX7_takeOff_20 : decode cX7_takeOff 20 = .ok (.iconst 1, 1) := by decide +kernel
theorem dX7_takeOff_21 : decode cX7_takeOff 21 = .ok (.putfield 76, 3) := by decide +kernel
theorem dX7_takeOff_24 : decode cX7_takeOff 24 = .ok (.aload_n 0, 1) := by decide +kernel
theorem dX7_takeOff_25 : decode cX7_takeOff 25 = .ok (.getfield 76, 3) := by decide +kernel
theorem dX7_takeOff_28 : decode cX7_takeOff 28 = .ok (.ifCond .ne 64, 3) := by decide +kernel
theorem dX7_takeOff_31 : decode cX7_takeOff 31 = .ok (.aload_n 0, 1) := by decide +kernel
theorem dX7_takeOff_32 : decode cX7_takeOff 32 = .ok (.getfield 33, 3) := by decide +kernel
theorem dX7_takeOff_35 : decode cX7_takeOff 35 = .ok (.iload_n 2, 1) := by decide +kernel
theorem dX7_takeOff_36 : decode cX7_takeOff 36 = .ok (.iaload, 1) := by decide +kernel
theorem dX7_takeOff_37 : decode cX7_takeOff 37 = .ok (.iconst (-1), 1) := by decide +kernel
theorem dX7_takeOff_38 : decode cX7_takeOff 38 = .ok (.if_icmp .eq 39, 3) := by decide +kernel
theorem dX7_takeOff_41 : decode cX7_takeOff 41 = .ok (.aload_n 0, 1) := by decide +kernel
theorem dX7_takeOff_42 : decode cX7_takeOff 42 = .ok (.iload_n 1, 1) := by decide +kernel
theorem dX7_takeOff_43 : decode cX7_takeOff 43 = .ok (.invokevirtual 113, 3) := by decide +kernel
theorem dX7_takeOff_46 : decode cX7_takeOff 46 = .ok (.ifCond .eq 31, 3) := by decide +kernel
theorem dX7_takeOff_49 : decode cX7_takeOff 49 = .ok (.iload_n 1, 1) := by decide +kernel
theorem dX7_takeOff_50 : decode cX7_takeOff 50 = .ok (.aload_n 0, 1) := by decide +kernel
theorem dX7_takeOff_51 : decode cX7_takeOff 51 = .ok (.getfield 36, 3) := by decide +kernel
theorem dX7_takeOff_54 : decode cX7_takeOff 54 = .ok (.iload_n 2, 1) := by decide +kernel
theorem dX7_takeOff_55 : decode cX7_takeOff 55 = .ok (.iaload, 1) := by decide +kernel
theorem dX7_takeOff_56 : decode cX7_takeOff 56 = .ok (.if_icmp .eq 17, 3) := by decide +kernel
theorem dX7_takeOff_59 : decode cX7_takeOff 59 = .ok (.aload_n 0, 1) := by decide +kernel
theorem dX7_takeOff_60 : decode cX7_takeOff 60 = .ok (.getfield 17, 3) := by decide +kernel
theorem dX7_takeOff_63 : decode cX7_takeOff 63 = .ok (.aload_n 0, 1) := by decide +kernel
theorem dX7_takeOff_64 : decode cX7_takeOff 64 = .ok (.getfield 36, 3) := by decide +kernel
theorem dX7_takeOff_67 : decode cX7_takeOff 67 = .ok (.iload_n 2, 1) := by decide +kernel
theorem dX7_takeOff_68 : decode cX7_takeOff 68 = .ok (.iaload, 1) := by decide +kernel
theorem dX7_takeOff_69 : decode cX7_takeOff 69 = .ok (.baload, 1) := by decide +kernel
theorem dX7_takeOff_70 : decode cX7_takeOff 70 = .ok (.ifCond .eq 7, 3) := by decide +kernel
theorem dX7_takeOff_73 : decode cX7_takeOff 73 = .ok (.iconst 1, 1) := by decide +kernel
theorem dX7_takeOff_74 : decode cX7_takeOff 74 = .ok (.goto 4, 3) := by decide +kernel
theorem dX7_takeOff_77 : decode cX7_takeOff 77 = .ok (.iconst 0, 1) := by decide +kernel
theorem dX7_takeOff_78 : decode cX7_takeOff 78 = .ok (.istore_n 3, 1) := by decide +kernel
theorem dX7_takeOff_79 : decode cX7_takeOff 79 = .ok (.aload_n 0, 1) := by decide +kernel
theorem dX7_takeOff_80 : decode cX7_takeOff 80 = .ok (.iload_n 3, 1) := by decide +kernel
theorem dX7_takeOff_81 : decode cX7_takeOff 81 = .ok (.ifCond .eq 7, 3) := by decide +kernel
theorem dX7_takeOff_84 : decode cX7_takeOff 84 = .ok (.iconst 0, 1) := by decide +kernel
theorem dX7_takeOff_85 : decode cX7_takeOff 85 = .ok (.goto 4, 3) := by decide +kernel
theorem dX7_takeOff_88 : decode cX7_takeOff 88 = .ok (.iconst 2, 1) := by decide +kernel
theorem dX7_takeOff_89 : decode cX7_takeOff 89 = .ok (.putfield 76, 3) := by decide +kernel
theorem dX7_takeOff_92 : decode cX7_takeOff 92 = .ok (.aload_n 0, 1) := by decide +kernel
theorem dX7_takeOff_93 : decode cX7_takeOff 93 = .ok (.getfield 76, 3) := by decide +kernel
theorem dX7_takeOff_96 : decode cX7_takeOff 96 = .ok (.ifCond .le 5, 3) := by decide +kernel
theorem dX7_takeOff_99 : decode cX7_takeOff 99 = .ok (.iconst 0, 1) := by decide +kernel
theorem dX7_takeOff_100 : decode cX7_takeOff 100 = .ok (.ireturn, 1) := by decide +kernel
theorem dX7_takeOff_101 : decode cX7_takeOff 101 = .ok (.aload_n 0, 1) := by decide +kernel
theorem dX7_takeOff_102 : decode cX7_takeOff 102 = .ok (.getfield 39, 3) := by decide +kernel
theorem dX7_takeOff_105 : decode cX7_takeOff 105 = .ok (.iload_n 2, 1) := by decide +kernel
theorem dX7_takeOff_106 : decode cX7_takeOff 106 = .ok (.dup2, 1) := by decide +kernel
theorem dX7_takeOff_107 : decode cX7_takeOff 107 = .ok (.iaload, 1) := by decide +kernel
theorem dX7_takeOff_108 : decode cX7_takeOff 108 = .ok (.iconst 1, 1) := by decide +kernel
theorem dX7_takeOff_109 : decode cX7_takeOff 109 = .ok (.iload_n 1, 1) := by decide +kernel
theorem dX7_takeOff_110 : decode cX7_takeOff 110 = .ok (.ishl, 1) := by decide +kernel
theorem dX7_takeOff_111 : decode cX7_takeOff 111 = .ok (.ior, 1) := by decide +kernel
theorem dX7_takeOff_112 : decode cX7_takeOff 112 = .ok (.iastore, 1) := by decide +kernel
theorem dX7_takeOff_113 : decode cX7_takeOff 113 = .ok (.iload_n 1, 1) := by decide +kernel
theorem dX7_takeOff_114 : decode cX7_takeOff 114 = .ok (.aload_n 0, 1) := by decide +kernel
theorem dX7_takeOff_115 : decode cX7_takeOff 115 = .ok (.getfield 36, 3) := by decide +kernel
theorem dX7_takeOff_118 : decode cX7_takeOff 118 = .ok (.iload_n 2, 1) := by decide +kernel
theorem dX7_takeOff_119 : decode cX7_takeOff 119 = .ok (.iaload, 1) := by decide +kernel
theorem dX7_takeOff_120 : decode cX7_takeOff 120 = .ok (.if_icmp .eq 21, 3) := by decide +kernel
theorem dX7_takeOff_123 : decode cX7_takeOff 123 = .ok (.aload_n 0, 1) := by decide +kernel
theorem dX7_takeOff_124 : decode cX7_takeOff 124 = .ok (.getfield 39, 3) := by decide +kernel
theorem dX7_takeOff_127 : decode cX7_takeOff 127 = .ok (.iload_n 2, 1) := by decide +kernel
theorem dX7_takeOff_128 : decode cX7_takeOff 128 = .ok (.iaload, 1) := by decide +kernel
theorem dX7_takeOff_129 : decode cX7_takeOff 129 = .ok (.aload_n 0, 1) := by decide +kernel
theorem dX7_takeOff_130 : decode cX7_takeOff 130 = .ok (.getfield 39, 3) := by decide +kernel
theorem dX7_takeOff_133 : decode cX7_takeOff 133 = .ok (.iload_n 2, 1) := by decide +kernel
theorem dX7_takeOff_134 : decode cX7_takeOff 134 = .ok (.iaload, 1) := by decide +kernel
theorem dX7_takeOff_135 : decode cX7_takeOff 135 = .ok (.iconst 1, 1) := by decide +kernel
theorem dX7_takeOff_136 : decode cX7_takeOff 136 = .ok (.isub, 1) := by decide +kernel
theorem dX7_takeOff_137 : decode cX7_takeOff 137 = .ok (.iand, 1) := by decide +kernel
theorem dX7_takeOff_138 : decode cX7_takeOff 138 = .ok (.ifCond .eq 7, 3) := by decide +kernel
theorem dX7_takeOff_141 : decode cX7_takeOff 141 = .ok (.iconst 1, 1) := by decide +kernel
theorem dX7_takeOff_142 : decode cX7_takeOff 142 = .ok (.goto 4, 3) := by decide +kernel
theorem dX7_takeOff_145 : decode cX7_takeOff 145 = .ok (.iconst 0, 1) := by decide +kernel
theorem dX7_takeOff_146 : decode cX7_takeOff 146 = .ok (.istore_n 3, 1) := by decide +kernel
theorem dX7_takeOff_147 : decode cX7_takeOff 147 = .ok (.iload_n 3, 1) := by decide +kernel
theorem dX7_takeOff_148 : decode cX7_takeOff 148 = .ok (.ifCond .eq 17, 3) := by decide +kernel
theorem dX7_takeOff_151 : decode cX7_takeOff 151 = .ok (.aload_n 0, 1) := by decide +kernel
theorem dX7_takeOff_152 : decode cX7_takeOff 152 = .ok (.getfield 33, 3) := by decide +kernel
theorem dX7_takeOff_155 : decode cX7_takeOff 155 = .ok (.iload_n 2, 1) := by decide +kernel
theorem dX7_takeOff_156 : decode cX7_takeOff 156 = .ok (.iconst (-1), 1) := by decide +kernel
theorem dX7_takeOff_157 : decode cX7_takeOff 157 = .ok (.iastore, 1) := by decide +kernel
theorem dX7_takeOff_158 : decode cX7_takeOff 158 = .ok (.aload_n 0, 1) := by decide +kernel
theorem dX7_takeOff_159 : decode cX7_takeOff 159 = .ok (.iconst 2, 1) := by decide +kernel
theorem dX7_takeOff_160 : decode cX7_takeOff 160 = .ok (.iload_n 1, 1) := by decide +kernel
theorem dX7_takeOff_161 : decode cX7_takeOff 161 = .ok (.iload_n 2, 1) := by decide +kernel
theorem dX7_takeOff_162 : decode cX7_takeOff 162 = .ok (.invokevirtual 102, 3) := by decide +kernel
theorem dX7_takeOff_165 : decode cX7_takeOff 165 = .ok (.iload_n 3, 1) := by decide +kernel
theorem dX7_takeOff_166 : decode cX7_takeOff 166 = .ok (.ireturn, 1) := by decide +kernel
set_option maxRecDepth 20000 in
theorem ggX7_valveOf_X7_isTag : GoodIn wsX7_valveOf wsX7_isTag := goodIn_r _ [7, 8, 9, 10, 6, 11, 12, 13, 14, 15, 16, 17, 18, 19, 20, 21, 22, 23, 24, 25, 26, 27, 28, 29, 30, 31, 32, 33, 34, 35, 36, 37, 38, 39, 40, 41, 42, 43] (by decide +kernel) (by decide +kernel)
set_option maxRecDepth 20000 in
theorem gX7_valveOf_X7_isTag : GoodIn wsX7_valveOf (wsV RX7 137 RX7 yX7_isTag wsX7_isTag) := goodIn_app (goodIn_of _ (by decide +kernel)) ggX7_valveOf_X7_isTag
theorem dX7_valveOf_0 : decode cX7_valveOf 0 = .ok (.aload_n 0, 1) := by decide +kernel
theorem dX7_valveOf_1 : decode cX7_valveOf 1 = .ok (.aload_n 0, 1) := by decide +kernel
theorem dX7_valveOf_2 : decode cX7_valveOf 2 = .ok (.iload_n 1, 1) := by decide +kernel
theorem dX7_valveOf_3 : decode cX7_valveOf 3 = .ok (.invokevirtual 137, 3) := by decide +kernel
theorem dX7_valveOf_6 : decode cX7_valveOf 6 = .ok (.ifCond .eq 7, 3) := by decide +kernel
theorem dX7_valveOf_9 : decode cX7_valveOf 9 = .ok (.iconst 0, 1) := by decide +kernel
theorem dX7_valveOf_10 : decode cX7_valveOf 10 = .ok (.goto 4, 3) := by decide +kernel
theorem dX7_valveOf_13 : decode cX7_valveOf 13 = .ok (.iconst 1, 1) := by decide +kernel
theorem dX7_valveOf_14 : decode cX7_valveOf 14 = .ok (.putfield 76, 3) := by decide +kernel
theorem dX7_valveOf_17 : decode cX7_valveOf 17 = .ok (.aload_n 0, 1) := by decide +kernel
theorem dX7_valveOf_18 : decode cX7_valveOf 18 = .ok (.getfield 76, 3) := by decide +kernel
theorem dX7_valveOf_21 : decode cX7_valveOf 21 = .ok (.ifCond .le 7, 3) := by decide +kernel
theorem dX7_valveOf_24 : decode cX7_valveOf 24 = .ok (.iconst 0, 1) := by decide +kernel
theorem dX7_valveOf_25 : decode cX7_valveOf 25 = .ok (.goto 9, 3) := by decide +kernel
theorem dX7_valveOf_28 : decode cX7_valveOf 28 = .ok (.aload_n 0, 1) := by decide +kernel
theorem dX7_valveOf_29 : decode cX7_valveOf 29 = .ok (.getfield 33, 3) := by decide +kernel
theorem dX7_valveOf_32 : decode cX7_valveOf 32 = .ok (.iload_n 1, 1) := by decide +kernel
theorem dX7_valveOf_33 : decode cX7_valveOf 33 = .ok (.iaload, 1) := by decide +kernel
theorem dX7_valveOf_34 : decode cX7_valveOf 34 = .ok (.ireturn, 1) := by decide +kernel
set_option maxRecDepth 20000 in
theorem ggX7_ownerOf_X7_isTag : GoodIn wsX7_ownerOf wsX7_isTag := goodIn_r _ [7, 8, 9, 10, 6, 11, 12, 13, 14, 15, 16, 17, 18, 19, 20, 21, 22, 23, 24, 25, 26, 27, 28, 29, 30, 31, 32, 33, 34, 35, 36, 37, 38, 39, 40, 41, 42, 43] (by decide +kernel) (by decide +kernel)
set_option maxRecDepth 20000 in
theorem gX7_ownerOf_X7_isTag : GoodIn wsX7_ownerOf (wsV RX7 137 RX7 yX7_isTag wsX7_isTag) := goodIn_app (goodIn_of _ (by decide +kernel)) ggX7_ownerOf_X7_isTag
theorem dX7_ownerOf_0 : decode cX7_ownerOf 0 = .ok (.aload_n 0, 1) := by decide +kernel
theorem dX7_ownerOf_1 : decode cX7_ownerOf 1 = .ok (.aload_n 0, 1) := by decide +kernel
theorem dX7_ownerOf_2 : decode cX7_ownerOf 2 = .ok (.iload_n 1, 1) := by decide +kernel
theorem dX7_ownerOf_3 : decode cX7_ownerOf 3 = .ok (.invokevirtual 137, 3) := by decide +kernel
theorem dX7_ownerOf_6 : decode cX7_ownerOf 6 = .ok (.ifCond .eq 7, 3) := by decide +kernel
theorem dX7_ownerOf_9 : decode cX7_ownerOf 9 = .ok (.iconst 0, 1) := by decide +kernel
theorem dX7_ownerOf_10 : decode cX7_ownerOf 10 = .ok (.goto 4, 3) := by decide +kernel
theorem dX7_ownerOf_13 : decode cX7_ownerOf 13 = .ok (.iconst 1, 1) := by decide +kernel
theorem dX7_ownerOf_14 : decode cX7_ownerOf 14 = .ok (.putfield 76, 3) := by decide +kernel
theorem dX7_ownerOf_17 : decode cX7_ownerOf 17 = .ok (.aload_n 0, 1) := by decide +kernel
theorem dX7_ownerOf_18 : decode cX7_ownerOf 18 = .ok (.getfield 76, 3) := by decide +kernel
theorem dX7_ownerOf_21 : decode cX7_ownerOf 21 = .ok (.ifCond .le 7, 3) := by decide +kernel
theorem dX7_ownerOf_24 : decode cX7_ownerOf 24 = .ok (.iconst 0, 1) := by decide +kernel
theorem dX7_ownerOf_25 : decode cX7_ownerOf 25 = .ok (.goto 9, 3) := by decide +kernel
theorem dX7_ownerOf_28 : decode cX7_ownerOf 28 = .ok (.aload_n 0, 1) := by decide +kernel
theorem dX7_ownerOf_29 : decode cX7_ownerOf 29 = .ok (.getfield 36, 3) := by decide +kernel
theorem dX7_ownerOf_32 : decode cX7_ownerOf 32 = .ok (.iload_n 1, 1) := by decide +kernel
theorem dX7_ownerOf_33 : decode cX7_ownerOf 33 = .ok (.iaload, 1) := by decide +kernel
theorem dX7_ownerOf_34 : decode cX7_ownerOf 34 = .ok (.ireturn, 1) := by decide +kernel
set_option maxRecDepth 20000 in
theorem ggX7_tagsByLog_X7_isValve : GoodIn wsX7_tagsByLog wsX7_isValve := goodIn_r _ [5, 6, 7, 4, 8] (by decide +kernel) (by decide +kernel)
set_option maxRecDepth 20000 in
theorem gX7_tagsByLog_X7_isValve : GoodIn wsX7_tagsByLog (va_wsS RX7 106 yX7_isValve wsX7_isValve) := goodIn_app (goodIn_of _ (by decide +kernel)) ggX7_tagsByLog_X7_isValve
set_option maxRecDepth 20000 in
theorem ggX7_tagsByLog_X7_tagsOn : GoodIn wsX7_tagsByLog wsX7_tagsOn := goodIn_r _ [12, 13, 14, 15, 16, 17, 18, 19, 20, 21, 22, 23, 24, 25, 26, 27, 28, 29, 30, 31, 32, 33, 34, 35, 36, 37, 38, 39, 40, 41, 42, 43, 44, 45, 46] (by decide +kernel) (by decide +kernel)
set_option maxRecDepth 20000 in
theorem gX7_tagsByLog_X7_tagsOn : GoodIn wsX7_tagsByLog (wsV RX7 109 RX7 yX7_tagsOn wsX7_tagsOn) := goodIn_app (goodIn_of _ (by decide +kernel)) ggX7_tagsByLog_X7_tagsOn
theorem dX7_tagsByLog_0 : decode cX7_tagsByLog 0 = .ok (.aload_n 0, 1) := by decide +kernel
theorem dX7_tagsByLog_1 : decode cX7_tagsByLog 1 = .ok (.iload_n 1, 1) := by decide +kernel
theorem dX7_tagsByLog_2 : decode cX7_tagsByLog 2 = .ok (.invokestatic 106, 3) := by decide +kernel
theorem dX7_tagsByLog_5 : decode cX7_tagsByLog 5 = .ok (.ifCond .eq 7, 3) := by decide +kernel
theorem dX7_tagsByLog_8 : decode cX7_tagsByLog 8 = .ok (.iconst 0, 1) := by decide +kernel
theorem dX7_tagsByLog_9 : decode cX7_tagsByLog 9 = .ok (.goto 4, 3) := by decide +kernel
theorem dX7_tagsByLog_12 : decode cX7_tagsByLog 12 = .ok (.iconst 1, 1) := by decide +kernel
theorem dX7_tagsByLog_13 : decode cX7_tagsByLog 13 = .ok (.putfield 76, 3) := by decide +kernel
theorem dX7_tagsByLog_16 : decode cX7_tagsByLog 16 = .ok (.aload_n 0, 1) := by decide +kernel
theorem dX7_tagsByLog_17 : decode cX7_tagsByLog 17 = .ok (.getfield 76, 3) := by decide +kernel
theorem dX7_tagsByLog_20 : decode cX7_tagsByLog 20 = .ok (.ifCond .le 7, 3) := by decide +kernel
theorem dX7_tagsByLog_23 : decode cX7_tagsByLog 23 = .ok (.iconst 0, 1) := by decide +kernel
theorem dX7_tagsByLog_24 : decode cX7_tagsByLog 24 = .ok (.goto 8, 3) := by decide +kernel
theorem dX7_tagsByLog_27 : decode cX7_tagsByLog 27 = .ok (.aload_n 0, 1) := by decide +kernel
theorem dX7_tagsByLog_28 : decode cX7_tagsByLog 28 = .ok (.iload_n 1, 1) := by decide +kernel
theorem dX7_tagsByLog_29 : decode cX7_tagsByLog 29 = .ok (.invokevirtual 109, 3) := by decide +kernel
theorem dX7_tagsByLog_32 : decode cX7_tagsByLog 32 = .ok (.ireturn, 1) := by decide +kernel
set_option maxRecDepth 20000 in
theorem ggX7_read_X7_isPerson : GoodIn wsX7_read wsX7_isPerson := goodIn_r _ [8, 9, 10, 7, 11] (by decide +kernel) (by decide +kernel)
set_option maxRecDepth 20000 in
theorem gX7_read_X7_isPerson : GoodIn wsX7_read (va_wsS RX7 120 yX7_isPerson wsX7_isPerson) := goodIn_app (goodIn_of _ (by decide +kernel)) ggX7_read_X7_isPerson
theorem dX7_read_0 : decode cX7_read 0 = .ok (.aload_n 0, 1) := by decide +kernel
theorem dX7_read_1 : decode cX7_read 1 = .ok (.iload_n 1, 1) := by decide +kernel
theorem dX7_read_2 : decode cX7_read 2 = .ok (.invokestatic 120, 3) := by decide +kernel
theorem dX7_read_5 : decode cX7_read 5 = .ok (.ifCond .ne 7, 3) := by decide +kernel
theorem dX7_read_8 : decode cX7_read 8 = .ok (.iconst 1, 1) := by decide +kernel
theorem dX7_read_9 : decode cX7_read 9 = .ok (.goto 17, 3) := by decide +kernel
theorem dX7_read_12 : decode cX7_read 12 = .ok (.aload_n 0, 1) := by decide +kernel
theorem dX7_read_13 : decode cX7_read 13 = .ok (.getfield 17, 3) := by decide +kernel
theorem dX7_read_16 : decode cX7_read 16 = .ok (.iload_n 1, 1) := by decide +kernel
theorem dX7_read_17 : decode cX7_read 17 = .ok (.baload, 1) := by decide +kernel
theorem dX7_read_18 : decode cX7_read 18 = .ok (.ifCond .eq 7, 3) := by decide +kernel
theorem dX7_read_21 : decode cX7_read 21 = .ok (.iconst 2, 1) := by decide +kernel
theorem dX7_read_22 : decode cX7_read 22 = .ok (.goto 4, 3) := by decide +kernel
theorem dX7_read_25 : decode cX7_read 25 = .ok (.iconst 0, 1) := by decide +kernel
theorem dX7_read_26 : decode cX7_read 26 = .ok (.putfield 76, 3) := by decide +kernel
theorem dX7_read_29 : decode cX7_read 29 = .ok (.aload_n 0, 1) := by decide +kernel
theorem dX7_read_30 : decode cX7_read 30 = .ok (.getfield 76, 3) := by decide +kernel
theorem dX7_read_33 : decode cX7_read 33 = .ok (.ifCond .le 5, 3) := by decide +kernel
theorem dX7_read_36 : decode cX7_read 36 = .ok (.iconst 0, 1) := by decide +kernel
theorem dX7_read_37 : decode cX7_read 37 = .ok (.ireturn, 1) := by decide +kernel
theorem dX7_read_38 : decode cX7_read 38 = .ok (.aload_n 0, 1) := by decide +kernel
theorem dX7_read_39 : decode cX7_read 39 = .ok (.getfield 92, 3) := by decide +kernel
theorem dX7_read_42 : decode cX7_read 42 = .ok (.aload_n 0, 1) := by decide +kernel
theorem dX7_read_43 : decode cX7_read 43 = .ok (.getfield 13, 3) := by decide +kernel
theorem dX7_read_46 : decode cX7_read 46 = .ok (.iload_n 1, 1) := by decide +kernel
theorem dX7_read_47 : decode cX7_read 47 = .ok (.iaload, 1) := by decide +kernel
theorem dX7_read_48 : decode cX7_read 48 = .ok (.isub, 1) := by decide +kernel
theorem dX7_read_49 : decode cX7_read 49 = .ok (.istore_n 2, 1) := by decide +kernel
theorem dX7_read_50 : decode cX7_read 50 = .ok (.aload_n 0, 1) := by decide +kernel
theorem dX7_read_51 : decode cX7_read 51 = .ok (.getfield 13, 3) := by decide +kernel
theorem dX7_read_54 : decode cX7_read 54 = .ok (.iload_n 1, 1) := by decide +kernel
theorem dX7_read_55 : decode cX7_read 55 = .ok (.aload_n 0, 1) := by decide +kernel
theorem dX7_read_56 : decode cX7_read 56 = .ok (.getfield 92, 3) := by decide +kernel
theorem dX7_read_59 : decode cX7_read 59 = .ok (.iastore, 1) := by decide +kernel
theorem dX7_read_60 : decode cX7_read 60 = .ok (.iload_n 2, 1) := by decide +kernel
theorem dX7_read_61 : decode cX7_read 61 = .ok (.ireturn, 1) := by decide +kernel
set_option maxRecDepth 20000 in
theorem ggX7_leave_X7_isPerson : GoodIn wsX7_leave wsX7_isPerson := goodIn_r _ [9, 10, 11, 8, 12] (by decide +kernel) (by decide +kernel)
set_option maxRecDepth 20000 in
theorem gX7_leave_X7_isPerson : GoodIn wsX7_leave (va_wsS RX7 120 yX7_isPerson wsX7_isPerson) := goodIn_app (goodIn_of _ (by decide +kernel)) ggX7_leave_X7_isPerson
set_option maxRecDepth 20000 in
theorem ggX7_leave_X7_notes : GoodIn wsX7_leave wsX7_notes := goodIn_r _ [16, 17, 18, 19, 20, 21, 22, 23, 24, 25, 26, 27, 28, 29, 30, 31, 32, 33, 34, 35, 36, 37, 38, 39, 40, 41, 42, 43, 44, 45, 46, 47, 48, 49, 50, 51, 52] (by decide +kernel) (by decide +kernel)
set_option maxRecDepth 20000 in
theorem gX7_leave_X7_notes : GoodIn wsX7_leave (wsV RX7 102 RX7 yX7_notes wsX7_notes) := goodIn_app (goodIn_of _ (by decide +kernel)) ggX7_leave_X7_notes
theorem dX7_leave_0 : decode cX7_leave 0 = .ok (.aload_n 0, 1) := by decide +kernel
theorem dX7_leave_1 : decode cX7_leave 1 = .ok (.iload_n 1, 1) := by decide +kernel
theorem dX7_leave_2 : decode cX7_leave 2 = .ok (.invokestatic 120, 3) := by decide +kernel
theorem dX7_leave_5 : decode cX7_leave 5 = .ok (.ifCond .ne 7, 3) := by decide +kernel
theorem dX7_leave_8 : decode cX7_leave 8 = .ok (.iconst 1, 1) := by decide +kernel
theorem dX7_leave_9 : decode cX7_leave 9 = .ok (.goto 17, 3) := by decide +kernel
theorem dX7_leave_12 : decode cX7_leave 12 = .ok (.aload_n 0, 1) := by decide +kernel
theorem dX7_leave_13 : decode cX7_leave 13 = .ok (.getfield 17, 3) := by decide +kernel
theorem dX7_leave_16 : decode cX7_leave 16 = .ok (.iload_n 1, 1) := by decide +kernel
theorem dX7_leave_17 : decode cX7_leave 17 = .ok (.baload, 1) := by decide +kernel
theorem dX7_leave_18 : decode cX7_leave 18 = .ok (.ifCond .eq 7, 3) := by decide +kernel
theorem dX7_leave_21 : decode cX7_leave 21 = .ok (.iconst 2, 1) := by decide +kernel
theorem dX7_leave_22 : decode cX7_leave 22 = .ok (.goto 4, 3) := by decide +kernel
theorem dX7_leave_25 : decode cX7_leave 25 = .ok (.iconst 0, 1) := by decide +kernel
theorem dX7_leave_26 : decode cX7_leave 26 = .ok (.putfield 76, 3) := by decide +kernel
theorem dX7_leave_29 : decode cX7_leave 29 = .ok (.aload_n 0, 1) := by decide +kernel
theorem dX7_leave_30 : decode cX7_leave 30 = .ok (.getfield 76, 3) := by decide +kernel
theorem dX7_leave_33 : decode cX7_leave 33 = .ok (.ifCond .le 5, 3) := by decide +kernel
theorem dX7_leave_36 : decode cX7_leave 36 = .ok (.iconst 0, 1) := by decide +kernel
theorem dX7_leave_37 : decode cX7_leave 37 = .ok (.ireturn, 1) := by decide +kernel
theorem dX7_leave_38 : decode cX7_leave 38 = .ok (.aload_n 0, 1) := by decide +kernel
theorem dX7_leave_39 : decode cX7_leave 39 = .ok (.getfield 17, 3) := by decide +kernel
theorem dX7_leave_42 : decode cX7_leave 42 = .ok (.iload_n 1, 1) := by decide +kernel
theorem dX7_leave_43 : decode cX7_leave 43 = .ok (.iconst 1, 1) := by decide +kernel
theorem dX7_leave_44 : decode cX7_leave 44 = .ok (.bastore, 1) := by decide +kernel
theorem dX7_leave_45 : decode cX7_leave 45 = .ok (.aload_n 0, 1) := by decide +kernel
theorem dX7_leave_46 : decode cX7_leave 46 = .ok (.iconst 4, 1) := by decide +kernel
theorem dX7_leave_47 : decode cX7_leave 47 = .ok (.iload_n 1, 1) := by decide +kernel
theorem dX7_leave_48 : decode cX7_leave 48 = .ok (.iconst 0, 1) := by decide +kernel
theorem dX7_leave_49 : decode cX7_leave 49 = .ok (.invokevirtual 102, 3) := by decide +kernel
theorem dX7_leave_52 : decode cX7_leave 52 = .ok (.iconst 0, 1) := by decide +kernel
theorem dX7_leave_53 : decode cX7_leave 53 = .ok (.istore_n 2, 1) := by decide +kernel
theorem dX7_leave_54 : decode cX7_leave 54 = .ok (.iconst 0, 1) := by decide +kernel
theorem dX7_leave_55 : decode cX7_leave 55 = .ok (.istore_n 3, 1) := by decide +kernel
theorem dX7_leave_56 : decode cX7_leave 56 = .ok (.iload_n 3, 1) := by decide +kernel
theorem dX7_leave_57 : decode cX7_leave 57 = .ok (.aload_n 0, 1) := by decide +kernel
theorem dX7_leave_58 : decode cX7_leave 58 = .ok (.getfield 84, 3) := by decide +kernel
theorem dX7_leave_61 : decode cX7_leave 61 = .ok (.if_icmp .ge 37, 3) := by decide +kernel
theorem dX7_leave_64 : decode cX7_leave 64 = .ok (.iload_n 2, 1) := by decide +kernel
theorem dX7_leave_65 : decode cX7_leave 65 = .ok (.aload_n 0, 1) := by decide +kernel
theorem dX7_leave_66 : decode cX7_leave 66 = .ok (.getfield 33, 3) := by decide +kernel
theorem dX7_leave_69 : decode cX7_leave 69 = .ok (.iload_n 3, 1) := by decide +kernel
theorem dX7_leave_70 : decode cX7_leave 70 = .ok (.iaload, 1) := by decide +kernel
theorem dX7_leave_71 : decode cX7_leave 71 = .ok (.iconst (-1), 1) := by decide +kernel
theorem dX7_leave_72 : decode cX7_leave 72 = .ok (.if_icmp .eq 17, 3) := by decide +kernel
theorem dX7_leave_75 : decode cX7_leave 75 = .ok (.aload_n 0, 1) := by decide +kernel
theorem dX7_leave_76 : decode cX7_leave 76 = .ok (.getfield 36, 3) := by decide +kernel
theorem dX7_leave_79 : decode cX7_leave 79 = .ok (.iload_n 3, 1) := by decide +kernel
theorem dX7_leave_80 : decode cX7_leave 80 = .ok (.iaload, 1) := by decide +kernel
theorem dX7_leave_81 : decode cX7_leave 81 = .ok (.iload_n 1, 1) := by decide +kernel
theorem dX7_leave_82 : decode cX7_leave 82 = .ok (.if_icmp .ne 7, 3) := by decide +kernel
theorem dX7_leave_85 : decode cX7_leave 85 = .ok (.iconst 1, 1) := by decide +kernel
theorem dX7_leave_86 : decode cX7_leave 86 = .ok (.goto 4, 3) := by decide +kernel
theorem dX7_leave_89 : decode cX7_leave 89 = .ok (.iconst 0, 1) := by decide +kernel
theorem dX7_leave_90 : decode cX7_leave 90 = .ok (.iadd, 1) := by decide +kernel
theorem dX7_leave_91 : decode cX7_leave 91 = .ok (.istore_n 2, 1) := by decide +kernel
theorem dX7_leave_92 : decode cX7_leave 92 = .ok (.iinc 3 1, 3) := by decide +kernel
theorem dX7_leave_95 : decode cX7_leave 95 = .ok (.goto (-39), 3) := by decide +kernel
theorem dX7_leave_98 : decode cX7_leave 98 = .ok (.iload_n 2, 1) := by decide +kernel
theorem dX7_leave_99 : decode cX7_leave 99 = .ok (.ireturn, 1) := by decide +kernel
set_option maxRecDepth 20000 in
theorem ggX7_canAct_X7_isPerson : GoodIn wsX7_canAct wsX7_isPerson := goodIn_r _ [5, 6, 7, 4, 8] (by decide +kernel) (by decide +kernel)
set_option maxRecDepth 20000 in
theorem gX7_canAct_X7_isPerson : GoodIn wsX7_canAct (va_wsS RX7 120 yX7_isPerson wsX7_isPerson) := goodIn_app (goodIn_of _ (by decide +kernel)) ggX7_canAct_X7_isPerson
set_option maxRecDepth 20000 in
theorem ggX7_canAct_X7_may : GoodIn wsX7_canAct wsX7_may := goodIn_r _ [12, 13, 14, 15, 16, 17, 4, 18, 19, 20, 21, 22, 23, 24, 25, 26, 27, 28, 29, 30, 31, 32, 33, 34, 35, 36, 37, 38, 39, 40, 41, 42, 43, 44, 45, 46, 47, 48, 49, 50, 51, 52] (by decide +kernel) (by decide +kernel)
set_option maxRecDepth 20000 in
theorem gX7_canAct_X7_may : GoodIn wsX7_canAct (wsV RX7 113 RX7 yX7_may wsX7_may) := goodIn_app (goodIn_of _ (by decide +kernel)) ggX7_canAct_X7_may
theorem dX7_canAct_0 : decode cX7_canAct 0 = .ok (.aload_n 0, 1) := by decide +kernel
theorem dX7_canAct_1 : decode cX7_canAct 1 = .ok (.iload_n 1, 1) := by decide +kernel
theorem dX7_canAct_2 : decode cX7_canAct 2 = .ok (.invokestatic 120, 3) := by decide +kernel
theorem dX7_canAct_5 : decode cX7_canAct 5 = .ok (.ifCond .eq 7, 3) := by decide +kernel
theorem dX7_canAct_8 : decode cX7_canAct 8 = .ok (.iconst 0, 1) := by decide +kernel
theorem dX7_canAct_9 : decode cX7_canAct 9 = .ok (.goto 4, 3) := by decide +kernel
theorem dX7_canAct_12 : decode cX7_canAct 12 = .ok (.iconst 1, 1) := by decide +kernel
theorem dX7_canAct_13 : decode cX7_canAct 13 = .ok (.putfield 76, 3) := by decide +kernel
theorem dX7_canAct_16 : decode cX7_canAct 16 = .ok (.aload_n 0, 1) := by decide +kernel
theorem dX7_canAct_17 : decode cX7_canAct 17 = .ok (.getfield 76, 3) := by decide +kernel
theorem dX7_canAct_20 : decode cX7_canAct 20 = .ok (.ifCond .ne 15, 3) := by decide +kernel
theorem dX7_canAct_23 : decode cX7_canAct 23 = .ok (.aload_n 0, 1) := by decide +kernel
theorem dX7_canAct_24 : decode cX7_canAct 24 = .ok (.iload_n 1, 1) := by decide +kernel
theorem dX7_canAct_25 : decode cX7_canAct 25 = .ok (.invokevirtual 113, 3) := by decide +kernel
theorem dX7_canAct_28 : decode cX7_canAct 28 = .ok (.ifCond .eq 7, 3) := by decide +kernel
theorem dX7_canAct_31 : decode cX7_canAct 31 = .ok (.iconst 1, 1) := by decide +kernel
theorem dX7_canAct_32 : decode cX7_canAct 32 = .ok (.goto 4, 3) := by decide +kernel
theorem dX7_canAct_35 : decode cX7_canAct 35 = .ok (.iconst 0, 1) := by decide +kernel
theorem dX7_canAct_36 : decode cX7_canAct 36 = .ok (.ireturn, 1) := by decide +kernel
theorem dX7_leads_0 : decode cX7_leads 0 = .ok (.aload_n 0, 1) := by decide +kernel
theorem dX7_leads_1 : decode cX7_leads 1 = .ok (.getfield 24, 3) := by decide +kernel
theorem dX7_leads_4 : decode cX7_leads 4 = .ok (.iload_n 1, 1) := by decide +kernel
theorem dX7_leads_5 : decode cX7_leads 5 = .ok (.iaload, 1) := by decide +kernel
theorem dX7_leads_6 : decode cX7_leads 6 = .ok (.iconst (-1), 1) := by decide +kernel
theorem dX7_leads_7 : decode cX7_leads 7 = .ok (.if_icmp .eq 19, 3) := by decide +kernel
theorem dX7_leads_10 : decode cX7_leads 10 = .ok (.aload_n 0, 1) := by decide +kernel
theorem dX7_leads_11 : decode cX7_leads 11 = .ok (.getfield 30, 3) := by decide +kernel
theorem dX7_leads_14 : decode cX7_leads 14 = .ok (.aload_n 0, 1) := by decide +kernel
theorem dX7_leads_15 : decode cX7_leads 15 = .ok (.getfield 24, 3) := by decide +kernel
theorem dX7_leads_18 : decode cX7_leads 18 = .ok (.iload_n 1, 1) := by decide +kernel
theorem dX7_leads_19 : decode cX7_leads 19 = .ok (.iaload, 1) := by decide +kernel
theorem dX7_leads_20 : decode cX7_leads 20 = .ok (.iaload, 1) := by decide +kernel
theorem dX7_leads_21 : decode cX7_leads 21 = .ok (.bipush 10, 2) := by decide +kernel
theorem dX7_leads_23 : decode cX7_leads 23 = .ok (.if_icmp .le 8, 3) := by decide +kernel
theorem dX7_leads_26 : decode cX7_leads 26 = .ok (.bipush 10, 2) := by decide +kernel
theorem dX7_leads_28 : decode cX7_leads 28 = .ok (.goto 14, 3) := by decide +kernel
theorem dX7_leads_31 : decode cX7_leads 31 = .ok (.aload_n 0, 1) := by decide +kernel
theorem dX7_leads_32 : decode cX7_leads 32 = .ok (.getfield 30, 3) := by decide +kernel
theorem dX7_leads_35 : decode cX7_leads 35 = .ok (.aload_n 0, 1) := by decide +kernel
theorem dX7_leads_36 : decode cX7_leads 36 = .ok (.getfield 24, 3) := by decide +kernel
theorem dX7_leads_39 : decode cX7_leads 39 = .ok (.iload_n 1, 1) := by decide +kernel
theorem dX7_leads_40 : decode cX7_leads 40 = .ok (.iaload, 1) := by decide +kernel
theorem dX7_leads_41 : decode cX7_leads 41 = .ok (.iaload, 1) := by decide +kernel
theorem dX7_leads_42 : decode cX7_leads 42 = .ok (.istore_n 2, 1) := by decide +kernel
theorem dX7_leads_43 : decode cX7_leads 43 = .ok (.aload_n 0, 1) := by decide +kernel
theorem dX7_leads_44 : decode cX7_leads 44 = .ok (.getfield 24, 3) := by decide +kernel
theorem dX7_leads_47 : decode cX7_leads 47 = .ok (.iload_n 1, 1) := by decide +kernel
theorem dX7_leads_48 : decode cX7_leads 48 = .ok (.iaload, 1) := by decide +kernel
theorem dX7_leads_49 : decode cX7_leads 49 = .ok (.iconst (-1), 1) := by decide +kernel
theorem dX7_leads_50 : decode cX7_leads 50 = .ok (.if_icmp .eq 18, 3) := by decide +kernel
theorem dX7_leads_53 : decode cX7_leads 53 = .ok (.aload_n 0, 1) := by decide +kernel
theorem dX7_leads_54 : decode cX7_leads 54 = .ok (.getfield 30, 3) := by decide +kernel
theorem dX7_leads_57 : decode cX7_leads 57 = .ok (.aload_n 0, 1) := by decide +kernel
theorem dX7_leads_58 : decode cX7_leads 58 = .ok (.getfield 24, 3) := by decide +kernel
theorem dX7_leads_61 : decode cX7_leads 61 = .ok (.iload_n 1, 1) := by decide +kernel
theorem dX7_leads_62 : decode cX7_leads 62 = .ok (.iaload, 1) := by decide +kernel
theorem dX7_leads_63 : decode cX7_leads 63 = .ok (.dup2, 1) := by decide +kernel
theorem dX7_leads_64 : decode cX7_leads 64 = .ok (.iaload, 1) := by decide +kernel
theorem dX7_leads_65 : decode cX7_leads 65 = .ok (.iload_n 2, 1) := by decide +kernel
theorem dX7_leads_66 : decode cX7_leads 66 = .ok (.isub, 1) := by decide +kernel
theorem dX7_leads_67 : decode cX7_leads 67 = .ok (.iastore, 1) := by decide +kernel
theorem dX7_leads_68 : decode cX7_leads 68 = .ok (.aload_n 0, 1) := by decide +kernel
theorem dX7_leads_69 : decode cX7_leads 69 = .ok (.getfield 27, 3) := by decide +kernel
theorem dX7_leads_72 : decode cX7_leads 72 = .ok (.iload_n 1, 1) := by decide +kernel
theorem dX7_leads_73 : decode cX7_leads 73 = .ok (.iaload, 1) := by decide +kernel
theorem dX7_leads_74 : decode cX7_leads 74 = .ok (.iconst (-1), 1) := by decide +kernel
theorem dX7_leads_75 : decode cX7_leads 75 = .ok (.if_icmp .eq 80, 3) := by decide +kernel
theorem dX7_leads_78 : decode cX7_leads 78 = .ok (.aload_n 0, 1) := by decide +kernel
theorem dX7_leads_79 : decode cX7_leads 79 = .ok (.getfield 30, 3) := by decide +kernel
theorem dX7_leads_82 : decode cX7_leads 82 = .ok (.aload_n 0, 1) := by decide +kernel
theorem dX7_leads_83 : decode cX7_leads 83 = .ok (.getfield 27, 3) := by decide +kernel
theorem dX7_leads_86 : decode cX7_leads 86 = .ok (.iload_n 1, 1) := by decide +kernel
theorem dX7_leads_87 : decode cX7_leads 87 = .ok (.iaload, 1) := by decide +kernel
theorem dX7_leads_88 : decode cX7_leads 88 = .ok (.dup2, 1) := by decide +kernel
theorem dX7_leads_89 : decode cX7_leads 89 = .ok (.iaload, 1) := by decide +kernel
theorem dX7_leads_90 : decode cX7_leads 90 = .ok (.iload_n 2, 1) := by decide +kernel
theorem dX7_leads_91 : decode cX7_leads 91 = .ok (.iadd, 1) := by decide +kernel
theorem dX7_leads_92 : decode cX7_leads 92 = .ok (.iastore, 1) := by decide +kernel
theorem dX7_leads_93 : decode cX7_leads 93 = .ok (.aload_n 0, 1) := by decide +kernel
theorem dX7_leads_94 : decode cX7_leads 94 = .ok (.getfield 30, 3) := by decide +kernel
theorem dX7_leads_97 : decode cX7_leads 97 = .ok (.aload_n 0, 1) := by decide +kernel
theorem dX7_leads_98 : decode cX7_leads 98 = .ok (.getfield 27, 3) := by decide +kernel
theorem dX7_leads_101 : decode cX7_leads 101 = .ok (.iload_n 1, 1) := by decide +kernel
theorem dX7_leads_102 : decode cX7_leads 102 = .ok (.iaload, 1) := by decide +kernel
theorem dX7_leads_103 : decode cX7_leads 103 = .ok (.iaload, 1) := by decide +kernel
theorem dX7_leads_104 : decode cX7_leads 104 = .ok (.sipush 1000, 3) := by decide +kernel
theorem dX7_leads_107 : decode cX7_leads 107 = .ok (.if_icmp .le 21, 3) := by decide +kernel
theorem dX7_leads_110 : decode cX7_leads 110 = .ok (.aload_n 0, 1) := by decide +kernel
theorem dX7_leads_111 : decode cX7_leads 111 = .ok (.getfield 30, 3) := by decide +kernel
theorem dX7_leads_114 : decode cX7_leads 114 = .ok (.aload_n 0, 1) := by decide +kernel
theorem dX7_leads_115 : decode cX7_leads 115 = .ok (.getfield 27, 3) := by decide +kernel
theorem dX7_leads_118 : decode cX7_leads 118 = .ok (.iload_n 1, 1) := by decide +kernel
theorem dX7_leads_119 : decode cX7_leads 119 = .ok (.iaload, 1) := by decide +kernel
theorem dX7_leads_120 : decode cX7_leads 120 = .ok (.iaload, 1) := by decide +kernel
theorem dX7_leads_121 : decode cX7_leads 121 = .ok (.sipush 1000, 3) := by decide +kernel
theorem dX7_leads_124 : decode cX7_leads 124 = .ok (.isub, 1) := by decide +kernel
theorem dX7_leads_125 : decode cX7_leads 125 = .ok (.goto 4, 3) := by decide +kernel
theorem dX7_leads_128 : decode cX7_leads 128 = .ok (.iconst 0, 1) := by decide +kernel
theorem dX7_leads_129 : decode cX7_leads 129 = .ok (.istore_n 3, 1) := by decide +kernel
theorem dX7_leads_130 : decode cX7_leads 130 = .ok (.aload_n 0, 1) := by decide +kernel
theorem dX7_leads_131 : decode cX7_leads 131 = .ok (.dup, 1) := by decide +kernel
theorem dX7_leads_132 : decode cX7_leads 132 = .ok (.getfield 134, 3) := by decide +kernel
theorem dX7_leads_135 : decode cX7_leads 135 = .ok (.iload_n 3, 1) := by decide +kernel
theorem dX7_leads_136 : decode cX7_leads 136 = .ok (.iadd, 1) := by decide +kernel
theorem dX7_leads_137 : decode cX7_leads 137 = .ok (.putfield 134, 3) := by decide +kernel
theorem dX7_leads_140 : decode cX7_leads 140 = .ok (.aload_n 0, 1) := by decide +kernel
theorem dX7_leads_141 : decode cX7_leads 141 = .ok (.getfield 30, 3) := by decide +kernel
theorem dX7_leads_144 : decode cX7_leads 144 = .ok (.aload_n 0, 1) := by decide +kernel
theorem dX7_leads_145 : decode cX7_leads 145 = .ok (.getfield 27, 3) := by decide +kernel
theorem dX7_leads_148 : decode cX7_leads 148 = .ok (.iload_n 1, 1) := by decide +kernel
theorem dX7_leads_149 : decode cX7_leads 149 = .ok (.iaload, 1) := by decide +kernel
theorem dX7_leads_150 : decode cX7_leads 150 = .ok (.dup2, 1) := by decide +kernel
theorem dX7_leads_151 : decode cX7_leads 151 = .ok (.iaload, 1) := by decide +kernel
theorem dX7_leads_152 : decode cX7_leads 152 = .ok (.iload_n 3, 1) := by decide +kernel
theorem dX7_leads_153 : decode cX7_leads 153 = .ok (.isub, 1) := by decide +kernel
theorem dX7_leads_154 : decode cX7_leads 154 = .ok (.iastore, 1) := by decide +kernel
theorem dX7_leads_155 : decode cX7_leads 155 = .ok (.return_, 1) := by decide +kernel
set_option maxRecDepth 20000 in
theorem ggX7_watches_X7_notes : GoodIn wsX7_watches wsX7_notes := goodIn_r _ [12, 13, 14, 15, 16, 28, 29, 30, 31, 32, 33, 34, 35, 36, 37, 38, 39, 40, 41, 42, 43, 44, 45, 46, 47, 48, 49, 50, 51, 52, 53, 54, 55, 56, 57, 58, 59] (by decide +kernel) (by decide +kernel)
set_option maxRecDepth 20000 in
theorem gX7_watches_X7_notes : GoodIn wsX7_watches (wsV RX7 102 RX7 yX7_notes wsX7_notes) := goodIn_app (goodIn_of _ (by decide +kernel)) ggX7_watches_X7_notes
set_option maxRecDepth 20000 in
theorem ggX7_watches_X7_tagsOn : GoodIn wsX7_watches wsX7_tagsOn := goodIn_r _ [20, 21, 22, 28, 29, 30, 31, 32, 33, 34, 35, 36, 37, 38, 39, 40, 41, 42, 43, 44, 45, 46, 47, 48, 49, 50, 51, 52, 53, 54, 55, 56, 57, 58, 59] (by decide +kernel) (by decide +kernel)
set_option maxRecDepth 20000 in
theorem gX7_watches_X7_tagsOn : GoodIn wsX7_watches (wsV RX7 109 RX7 yX7_tagsOn wsX7_tagsOn) := goodIn_app (goodIn_of _ (by decide +kernel)) ggX7_watches_X7_tagsOn
set_option maxRecDepth 20000 in
theorem ggX7_watches_X7_turnsTo : GoodIn wsX7_watches wsX7_turnsTo := goodIn_r _ [26, 27, 8, 9, 10, 11, 12, 13, 14, 15, 16, 28, 29, 30, 31, 32, 33, 34, 35, 36, 37, 38, 39, 40, 41, 42, 43, 44, 45, 46, 47, 48, 49, 50, 51, 52, 53, 54, 55, 56, 57, 58, 59] (by decide +kernel) (by decide +kernel)
set_option maxRecDepth 20000 in
theorem gX7_watches_X7_turnsTo : GoodIn wsX7_watches (wsV RX7 127 RX7 yX7_turnsTo wsX7_turnsTo) := goodIn_app (goodIn_of _ (by decide +kernel)) ggX7_watches_X7_turnsTo
theorem dX7_watches_0 : decode cX7_watches 0 = .ok (.aload_n 0, 1) := by decide +kernel
theorem dX7_watches_1 : decode cX7_watches 1 = .ok (.getfield 30, 3) := by decide +kernel
theorem dX7_watches_4 : decode cX7_watches 4 = .ok (.aload_n 0, 1) := by decide +kernel
theorem dX7_watches_5 : decode cX7_watches 5 = .ok (.getfield 42, 3) := by decide +kernel
theorem dX7_watches_8 : decode cX7_watches 8 = .ok (.iload_n 1, 1) := by decide +kernel
theorem dX7_watches_9 : decode cX7_watches 9 = .ok (.iaload, 1) := by decide +kernel
theorem dX7_watches_10 : decode cX7_watches 10 = .ok (.iaload, 1) := by decide +kernel
theorem dX7_watches_11 : decode cX7_watches 11 = .ok (.istore_n 2, 1) := by decide +kernel
theorem dX7_watches_12 : decode cX7_watches 12 = .ok (.aload_n 0, 1) := by decide +kernel
theorem dX7_watches_13 : decode cX7_watches 13 = .ok (.getfield 48, 3) := by decide +kernel
theorem dX7_watches_16 : decode cX7_watches 16 = .ok (.iload_n 1, 1) := by decide +kernel
theorem dX7_watches_17 : decode cX7_watches 17 = .ok (.baload, 1) := by decide +kernel
theorem dX7_watches_18 : decode cX7_watches 18 = .ok (.ifCond .eq 21, 3) := by decide +kernel
theorem dX7_watches_21 : decode cX7_watches 21 = .ok (.iload_n 2, 1) := by decide +kernel
theorem dX7_watches_22 : decode cX7_watches 22 = .ok (.aload_n 0, 1) := by decide +kernel
theorem dX7_watches_23 : decode cX7_watches 23 = .ok (.getfield 45, 3) := by decide +kernel
theorem dX7_watches_26 : decode cX7_watches 26 = .ok (.iload_n 1, 1) := by decide +kernel
theorem dX7_watches_27 : decode cX7_watches 27 = .ok (.iaload, 1) := by decide +kernel
theorem dX7_watches_28 : decode cX7_watches 28 = .ok (.if_icmp .lt 7, 3) := by decide +kernel
theorem dX7_watches_31 : decode cX7_watches 31 = .ok (.iconst 1, 1) := by decide +kernel
theorem dX7_watches_32 : decode cX7_watches 32 = .ok (.goto 22, 3) := by decide +kernel
theorem dX7_watches_35 : decode cX7_watches 35 = .ok (.iconst 0, 1) := by decide +kernel
theorem dX7_watches_36 : decode cX7_watches 36 = .ok (.goto 18, 3) := by decide +kernel
theorem dX7_watches_39 : decode cX7_watches 39 = .ok (.iload_n 2, 1) := by decide +kernel
theorem dX7_watches_40 : decode cX7_watches 40 = .ok (.aload_n 0, 1) := by decide +kernel
theorem dX7_watches_41 : decode cX7_watches 41 = .ok (.getfield 45, 3) := by decide +kernel
theorem dX7_watches_44 : decode cX7_watches 44 = .ok (.iload_n 1, 1) := by decide +kernel
theorem dX7_watches_45 : decode cX7_watches 45 = .ok (.iaload, 1) := by decide +kernel
theorem dX7_watches_46 : decode cX7_watches 46 = .ok (.if_icmp .gt 7, 3) := by decide +kernel
theorem dX7_watches_49 : decode cX7_watches 49 = .ok (.iconst 1, 1) := by decide +kernel
theorem dX7_watches_50 : decode cX7_watches 50 = .ok (.goto 4, 3) := by decide +kernel
theorem dX7_watches_53 : decode cX7_watches 53 = .ok (.iconst 0, 1) := by decide +kernel
theorem dX7_watches_54 : decode cX7_watches 54 = .ok (.istore_n 3, 1) := by decide +kernel
theorem dX7_watches_55 : decode cX7_watches 55 = .ok (.iload_n 3, 1) := by decide +kernel
theorem dX7_watches_56 : decode cX7_watches 56 = .ok (.ifCond .ne 11, 3) := by decide +kernel
theorem dX7_watches_59 : decode cX7_watches 59 = .ok (.aload_n 0, 1) := by decide +kernel
theorem dX7_watches_60 : decode cX7_watches 60 = .ok (.getfield 57, 3) := by decide +kernel
theorem dX7_watches_63 : decode cX7_watches 63 = .ok (.iload_n 1, 1) := by decide +kernel
theorem dX7_watches_64 : decode cX7_watches 64 = .ok (.iconst 0, 1) := by decide +kernel
theorem dX7_watches_65 : decode cX7_watches 65 = .ok (.iastore, 1) := by decide +kernel
theorem dX7_watches_66 : decode cX7_watches 66 = .ok (.return_, 1) := by decide +kernel
theorem dX7_watches_67 : decode cX7_watches 67 = .ok (.aload_n 0, 1) := by decide +kernel
theorem dX7_watches_68 : decode cX7_watches 68 = .ok (.getfield 57, 3) := by decide +kernel
theorem dX7_watches_71 : decode cX7_watches 71 = .ok (.iload_n 1, 1) := by decide +kernel
theorem dX7_watches_72 : decode cX7_watches 72 = .ok (.iaload, 1) := by decide +kernel
theorem dX7_watches_73 : decode cX7_watches 73 = .ok (.iconst 1, 1) := by decide +kernel
theorem dX7_watches_74 : decode cX7_watches 74 = .ok (.if_icmp .ne 4, 3) := by decide +kernel
theorem dX7_watches_77 : decode cX7_watches 77 = .ok (.return_, 1) := by decide +kernel
theorem dX7_watches_78 : decode cX7_watches 78 = .ok (.aload_n 0, 1) := by decide +kernel
theorem dX7_watches_79 : decode cX7_watches 79 = .ok (.getfield 57, 3) := by decide +kernel
theorem dX7_watches_82 : decode cX7_watches 82 = .ok (.iload_n 1, 1) := by decide +kernel
theorem dX7_watches_83 : decode cX7_watches 83 = .ok (.iaload, 1) := by decide +kernel
theorem dX7_watches_84 : decode cX7_watches 84 = .ok (.ifCond .ne 10, 3) := by decide +kernel
theorem dX7_watches_87 : decode cX7_watches 87 = .ok (.aload_n 0, 1) := by decide +kernel
theorem dX7_watches_88 : decode cX7_watches 88 = .ok (.iconst 3, 1) := by decide +kernel
theorem dX7_watches_89 : decode cX7_watches 89 = .ok (.iconst (-1), 1) := by decide +kernel
theorem dX7_watches_90 : decode cX7_watches 90 = .ok (.iload_n 1, 1) := by decide +kernel
theorem dX7_watches_91 : decode cX7_watches 91 = .ok (.invokevirtual 102, 3) := by decide +kernel
theorem dX7_watches_94 : decode cX7_watches 94 = .ok (.aload_n 0, 1) := by decide +kernel
theorem dX7_watches_95 : decode cX7_watches 95 = .ok (.getfield 57, 3) := by decide +kernel
theorem dX7_watches_98 : decode cX7_watches 98 = .ok (.iload_n 1, 1) := by decide +kernel
theorem dX7_watches_99 : decode cX7_watches 99 = .ok (.iconst 2, 1) := by decide +kernel
theorem dX7_watches_100 : decode cX7_watches 100 = .ok (.iastore, 1) := by decide +kernel
theorem dX7_watches_101 : decode cX7_watches 101 = .ok (.aload_n 0, 1) := by decide +kernel
theorem dX7_watches_102 : decode cX7_watches 102 = .ok (.aload_n 0, 1) := by decide +kernel
theorem dX7_watches_103 : decode cX7_watches 103 = .ok (.getfield 51, 3) := by decide +kernel
theorem dX7_watches_106 : decode cX7_watches 106 = .ok (.iload_n 1, 1) := by decide +kernel
theorem dX7_watches_107 : decode cX7_watches 107 = .ok (.iaload, 1) := by decide +kernel
theorem dX7_watches_108 : decode cX7_watches 108 = .ok (.invokevirtual 109, 3) := by decide +kernel
theorem dX7_watches_111 : decode cX7_watches 111 = .ok (.ifCond .ne 28, 3) := by decide +kernel
theorem dX7_watches_114 : decode cX7_watches 114 = .ok (.aload_n 0, 1) := by decide +kernel
theorem dX7_watches_115 : decode cX7_watches 115 = .ok (.iconst (-1), 1) := by decide +kernel
theorem dX7_watches_116 : decode cX7_watches 116 = .ok (.aload_n 0, 1) := by decide +kernel
theorem dX7_watches_117 : decode cX7_watches 117 = .ok (.getfield 51, 3) := by decide +kernel
theorem dX7_watches_120 : decode cX7_watches 120 = .ok (.iload_n 1, 1) := by decide +kernel
theorem dX7_watches_121 : decode cX7_watches 121 = .ok (.iaload, 1) := by decide +kernel
theorem dX7_watches_122 : decode cX7_watches 122 = .ok (.aload_n 0, 1) := by decide +kernel
theorem dX7_watches_123 : decode cX7_watches 123 = .ok (.getfield 54, 3) := by decide +kernel
theorem dX7_watches_126 : decode cX7_watches 126 = .ok (.iload_n 1, 1) := by decide +kernel
theorem dX7_watches_127 : decode cX7_watches 127 = .ok (.baload, 1) := by decide +kernel
theorem dX7_watches_128 : decode cX7_watches 128 = .ok (.invokevirtual 127, 3) := by decide +kernel
theorem dX7_watches_131 : decode cX7_watches 131 = .ok (.pop, 1) := by decide +kernel
theorem dX7_watches_132 : decode cX7_watches 132 = .ok (.aload_n 0, 1) := by decide +kernel
theorem dX7_watches_133 : decode cX7_watches 133 = .ok (.getfield 57, 3) := by decide +kernel
theorem dX7_watches_136 : decode cX7_watches 136 = .ok (.iload_n 1, 1) := by decide +kernel
theorem dX7_watches_137 : decode cX7_watches 137 = .ok (.iconst 1, 1) := by decide +kernel
theorem dX7_watches_138 : decode cX7_watches 138 = .ok (.iastore, 1) := by decide +kernel
theorem dX7_watches_139 : decode cX7_watches 139 = .ok (.return_, 1) := by decide +kernel
set_option maxRecDepth 20000 in
theorem ggX7_ends_X7_leads : GoodIn wsX7_ends wsX7_leads := goodIn_r _ [10, 11, 12, 13, 14, 41, 42, 43, 44, 45, 46, 47, 48, 49, 50, 51, 52, 53, 54, 55, 56, 57, 58, 59, 60, 61, 62, 63, 64, 65, 66, 67, 68, 69, 70, 71, 72] (by decide +kernel) (by decide +kernel)
set_option maxRecDepth 20000 in
theorem gX7_ends_X7_leads : GoodIn wsX7_ends (wsV RX7 140 RX7 yX7_leads wsX7_leads) := goodIn_app (goodIn_of _ (by decide +kernel)) ggX7_ends_X7_leads
set_option maxRecDepth 20000 in
theorem ggX7_ends_X7_watches : GoodIn wsX7_ends wsX7_watches := goodIn_r _ [18, 12, 19, 20, 21, 22, 23, 24, 25, 26, 27, 9, 28, 29, 3, 4, 30, 31, 32, 33, 34, 35, 36, 37, 38, 39, 40, 1, 41, 42, 43, 44, 45, 46, 47, 48, 49, 50, 51, 52, 53, 54, 55, 56, 57, 58, 59, 60, 61, 62, 63, 64, 65, 66, 67, 68, 69, 70, 71, 72] (by decide +kernel) (by decide +kernel)
set_option maxRecDepth 20000 in
theorem gX7_ends_X7_watches : GoodIn wsX7_ends (wsV RX7 147 RX7 yX7_watches wsX7_watches) := goodIn_app (goodIn_of _ (by decide +kernel)) ggX7_ends_X7_watches
theorem dX7_ends_0 : decode cX7_ends 0 = .ok (.iconst 0, 1) := by decide +kernel
theorem dX7_ends_1 : decode cX7_ends 1 = .ok (.istore_n 1, 1) := by decide +kernel
theorem dX7_ends_2 : decode cX7_ends 2 = .ok (.iload_n 1, 1) := by decide +kernel
theorem dX7_ends_3 : decode cX7_ends 3 = .ok (.bipush 8, 2) := by decide +kernel
theorem dX7_ends_5 : decode cX7_ends 5 = .ok (.if_icmp .ge 23, 3) := by decide +kernel
theorem dX7_ends_8 : decode cX7_ends 8 = .ok (.aload_n 0, 1) := by decide +kernel
theorem dX7_ends_9 : decode cX7_ends 9 = .ok (.getfield 21, 3) := by decide +kernel
theorem dX7_ends_12 : decode cX7_ends 12 = .ok (.iload_n 1, 1) := by decide +kernel
theorem dX7_ends_13 : decode cX7_ends 13 = .ok (.baload, 1) := by decide +kernel
theorem dX7_ends_14 : decode cX7_ends 14 = .ok (.ifCond .eq 8, 3) := by decide +kernel
theorem dX7_ends_17 : decode cX7_ends 17 = .ok (.aload_n 0, 1) := by decide +kernel
theorem dX7_ends_18 : decode cX7_ends 18 = .ok (.iload_n 1, 1) := by decide +kernel
theorem dX7_ends_19 : decode cX7_ends 19 = .ok (.invokevirtual 140, 3) := by decide +kernel
theorem dX7_ends_22 : decode cX7_ends 22 = .ok (.iinc 1 1, 3) := by decide +kernel
theorem dX7_ends_25 : decode cX7_ends 25 = .ok (.goto (-23), 3) := by decide +kernel
theorem dX7_ends_28 : decode cX7_ends 28 = .ok (.iconst 0, 1) := by decide +kernel
theorem dX7_ends_29 : decode cX7_ends 29 = .ok (.istore_n 1, 1) := by decide +kernel
theorem dX7_ends_30 : decode cX7_ends 30 = .ok (.iload_n 1, 1) := by decide +kernel
theorem dX7_ends_31 : decode cX7_ends 31 = .ok (.aload_n 0, 1) := by decide +kernel
theorem dX7_ends_32 : decode cX7_ends 32 = .ok (.getfield 144, 3) := by decide +kernel
theorem dX7_ends_35 : decode cX7_ends 35 = .ok (.if_icmp .ge 14, 3) := by decide +kernel
theorem dX7_ends_38 : decode cX7_ends 38 = .ok (.aload_n 0, 1) := by decide +kernel
theorem dX7_ends_39 : decode cX7_ends 39 = .ok (.iload_n 1, 1) := by decide +kernel
theorem dX7_ends_40 : decode cX7_ends 40 = .ok (.invokevirtual 147, 3) := by decide +kernel
theorem dX7_ends_43 : decode cX7_ends 43 = .ok (.iinc 1 1, 3) := by decide +kernel
theorem dX7_ends_46 : decode cX7_ends 46 = .ok (.goto (-16), 3) := by decide +kernel
theorem dX7_ends_49 : decode cX7_ends 49 = .ok (.aload_n 0, 1) := by decide +kernel
theorem dX7_ends_50 : decode cX7_ends 50 = .ok (.dup, 1) := by decide +kernel
theorem dX7_ends_51 : decode cX7_ends 51 = .ok (.getfield 89, 3) := by decide +kernel
theorem dX7_ends_54 : decode cX7_ends 54 = .ok (.iconst 1, 1) := by decide +kernel
theorem dX7_ends_55 : decode cX7_ends 55 = .ok (.iadd, 1) := by decide +kernel
theorem dX7_ends_56 : decode cX7_ends 56 = .ok (.putfield 89, 3) := by decide +kernel
theorem dX7_ends_59 : decode cX7_ends 59 = .ok (.aload_n 0, 1) := by decide +kernel
theorem dX7_ends_60 : decode cX7_ends 60 = .ok (.aload_n 0, 1) := by decide +kernel
theorem dX7_ends_61 : decode cX7_ends 61 = .ok (.getfield 89, 3) := by decide +kernel
theorem dX7_ends_64 : decode cX7_ends 64 = .ok (.bipush 8, 2) := by decide +kernel
theorem dX7_ends_66 : decode cX7_ends 66 = .ok (.irem, 1) := by decide +kernel
theorem dX7_ends_67 : decode cX7_ends 67 = .ok (.ifCond .ne 10, 3) := by decide +kernel
theorem dX7_ends_70 : decode cX7_ends 70 = .ok (.aload_n 0, 1) := by decide +kernel
theorem dX7_ends_71 : decode cX7_ends 71 = .ok (.getfield 92, 3) := by decide +kernel
theorem dX7_ends_74 : decode cX7_ends 74 = .ok (.goto 7, 3) := by decide +kernel
theorem dX7_ends_77 : decode cX7_ends 77 = .ok (.aload_n 0, 1) := by decide +kernel
theorem dX7_ends_78 : decode cX7_ends 78 = .ok (.getfield 99, 3) := by decide +kernel
theorem dX7_ends_81 : decode cX7_ends 81 = .ok (.putfield 99, 3) := by decide +kernel
theorem dX7_ends_84 : decode cX7_ends 84 = .ok (.return_, 1) := by decide +kernel
set_option maxRecDepth 20000 in
theorem ggX7_advance_X7_in : GoodIn wsX7_advance wsX7_in := goodIn_r _ [6] (by decide +kernel) (by decide +kernel)
set_option maxRecDepth 20000 in
theorem gX7_advance_X7_in : GoodIn wsX7_advance (va_wsS RX7 80 yX7_in wsX7_in) := goodIn_app (goodIn_of _ (by decide +kernel)) ggX7_advance_X7_in
set_option maxRecDepth 20000 in
theorem ggX7_advance_X7_ends : GoodIn wsX7_advance wsX7_ends := goodIn_r _ [10, 11, 12, 1, 13, 14, 15, 16, 17, 5, 18, 19, 20, 21, 22, 23, 24, 25, 26, 27, 28, 29, 30, 31, 32, 33, 34, 35, 36, 37, 38, 39, 40, 41, 42, 43, 44, 45, 46, 47, 48, 49, 50, 51, 52, 53, 54, 55, 56, 57, 58, 59, 60, 61, 62, 63, 64, 65, 66, 67, 68, 69, 70, 71, 72, 73, 74, 75, 76, 77, 78, 79, 80] (by decide +kernel) (by decide +kernel)
set_option maxRecDepth 20000 in
theorem gX7_advance_X7_ends : GoodIn wsX7_advance (wsV RX7 150 RX7 yX7_ends wsX7_ends) := goodIn_app (goodIn_of _ (by decide +kernel)) ggX7_advance_X7_ends
theorem dX7_advance_0 : decode cX7_advance 0 = .ok (.aload_n 0, 1) := by decide +kernel
theorem dX7_advance_1 : decode cX7_advance 1 = .ok (.iload_n 1, 1) := by decide +kernel
theorem dX7_advance_2 : decode cX7_advance 2 = .ok (.iconst 1, 1) := by decide +kernel
theorem dX7_advance_3 : decode cX7_advance 3 = .ok (.bipush 100, 2) := by decide +kernel
theorem dX7_advance_5 : decode cX7_advance 5 = .ok (.invokestatic 80, 3) := by decide +kernel
theorem dX7_advance_8 : decode cX7_advance 8 = .ok (.ifCond .ne 7, 3) := by decide +kernel
theorem dX7_advance_11 : decode cX7_advance 11 = .ok (.iconst 1, 1) := by decide +kernel
theorem dX7_advance_12 : decode cX7_advance 12 = .ok (.goto 20, 3) := by decide +kernel
theorem dX7_advance_15 : decode cX7_advance 15 = .ok (.aload_n 0, 1) := by decide +kernel
theorem dX7_advance_16 : decode cX7_advance 16 = .ok (.getfield 89, 3) := by decide +kernel
theorem dX7_advance_19 : decode cX7_advance 19 = .ok (.iload_n 1, 1) := by decide +kernel
theorem dX7_advance_20 : decode cX7_advance 20 = .ok (.iadd, 1) := by decide +kernel
theorem dX7_advance_21 : decode cX7_advance 21 = .ok (.sipush 2000, 3) := by decide +kernel
theorem dX7_advance_24 : decode cX7_advance 24 = .ok (.if_icmp .le 7, 3) := by decide +kernel
theorem dX7_advance_27 : decode cX7_advance 27 = .ok (.iconst 2, 1) := by decide +kernel
theorem dX7_advance_28 : decode cX7_advance 28 = .ok (.goto 4, 3) := by decide +kernel
theorem dX7_advance_31 : decode cX7_advance 31 = .ok (.iconst 0, 1) := by decide +kernel
theorem dX7_advance_32 : decode cX7_advance 32 = .ok (.putfield 76, 3) := by decide +kernel
theorem dX7_advance_35 : decode cX7_advance 35 = .ok (.aload_n 0, 1) := by decide +kernel
theorem dX7_advance_36 : decode cX7_advance 36 = .ok (.getfield 76, 3) := by decide +kernel
theorem dX7_advance_39 : decode cX7_advance 39 = .ok (.ifCond .le 5, 3) := by decide +kernel
theorem dX7_advance_42 : decode cX7_advance 42 = .ok (.iconst 0, 1) := by decide +kernel
theorem dX7_advance_43 : decode cX7_advance 43 = .ok (.ireturn, 1) := by decide +kernel
theorem dX7_advance_44 : decode cX7_advance 44 = .ok (.iconst 0, 1) := by decide +kernel
theorem dX7_advance_45 : decode cX7_advance 45 = .ok (.istore_n 2, 1) := by decide +kernel
theorem dX7_advance_46 : decode cX7_advance 46 = .ok (.iload_n 2, 1) := by decide +kernel
theorem dX7_advance_47 : decode cX7_advance 47 = .ok (.iload_n 1, 1) := by decide +kernel
theorem dX7_advance_48 : decode cX7_advance 48 = .ok (.if_icmp .ge 13, 3) := by decide +kernel
theorem dX7_advance_51 : decode cX7_advance 51 = .ok (.aload_n 0, 1) := by decide +kernel
theorem dX7_advance_52 : decode cX7_advance 52 = .ok (.invokevirtual 150, 3) := by decide +kernel
theorem dX7_advance_55 : decode cX7_advance 55 = .ok (.iinc 2 1, 3) := by decide +kernel
theorem dX7_advance_58 : decode cX7_advance 58 = .ok (.goto (-12), 3) := by decide +kernel
theorem dX7_advance_61 : decode cX7_advance 61 = .ok (.aload_n 0, 1) := by decide +kernel
theorem dX7_advance_62 : decode cX7_advance 62 = .ok (.getfield 89, 3) := by decide +kernel
theorem dX7_advance_65 : decode cX7_advance 65 = .ok (.ireturn, 1) := by decide +kernel
theorem dX7_hour_0 : decode cX7_hour 0 = .ok (.aload_n 0, 1) := by decide +kernel
theorem dX7_hour_1 : decode cX7_hour 1 = .ok (.iconst 0, 1) := by decide +kernel
theorem dX7_hour_2 : decode cX7_hour 2 = .ok (.putfield 76, 3) := by decide +kernel
theorem dX7_hour_5 : decode cX7_hour 5 = .ok (.aload_n 0, 1) := by decide +kernel
theorem dX7_hour_6 : decode cX7_hour 6 = .ok (.getfield 89, 3) := by decide +kernel
theorem dX7_hour_9 : decode cX7_hour 9 = .ok (.ireturn, 1) := by decide +kernel
theorem dX7_entries_0 : decode cX7_entries 0 = .ok (.aload_n 0, 1) := by decide +kernel
theorem dX7_entries_1 : decode cX7_entries 1 = .ok (.iconst 0, 1) := by decide +kernel
theorem dX7_entries_2 : decode cX7_entries 2 = .ok (.putfield 76, 3) := by decide +kernel
theorem dX7_entries_5 : decode cX7_entries 5 = .ok (.aload_n 0, 1) := by decide +kernel
theorem dX7_entries_6 : decode cX7_entries 6 = .ok (.getfield 92, 3) := by decide +kernel
theorem dX7_entries_9 : decode cX7_entries 9 = .ok (.ireturn, 1) := by decide +kernel
set_option maxRecDepth 20000 in
theorem ggX7_entryAt_X7_in : GoodIn wsX7_entryAt wsX7_in := goodIn_r _ [8] (by decide +kernel) (by decide +kernel)
set_option maxRecDepth 20000 in
theorem gX7_entryAt_X7_in : GoodIn wsX7_entryAt (va_wsS RX7 80 yX7_in wsX7_in) := goodIn_app (goodIn_of _ (by decide +kernel)) ggX7_entryAt_X7_in
theorem dX7_entryAt_0 : decode cX7_entryAt 0 = .ok (.aload_n 0, 1) := by decide +kernel
theorem dX7_entryAt_1 : decode cX7_entryAt 1 = .ok (.iload_n 1, 1) := by decide +kernel
theorem dX7_entryAt_2 : decode cX7_entryAt 2 = .ok (.iconst 0, 1) := by decide +kernel
theorem dX7_entryAt_3 : decode cX7_entryAt 3 = .ok (.aload_n 0, 1) := by decide +kernel
theorem dX7_entryAt_4 : decode cX7_entryAt 4 = .ok (.getfield 92, 3) := by decide +kernel
theorem dX7_entryAt_7 : decode cX7_entryAt 7 = .ok (.iconst 1, 1) := by decide +kernel
theorem dX7_entryAt_8 : decode cX7_entryAt 8 = .ok (.isub, 1) := by decide +kernel
theorem dX7_entryAt_9 : decode cX7_entryAt 9 = .ok (.invokestatic 80, 3) := by decide +kernel
theorem dX7_entryAt_12 : decode cX7_entryAt 12 = .ok (.ifCond .eq 7, 3) := by decide +kernel
theorem dX7_entryAt_15 : decode cX7_entryAt 15 = .ok (.iconst 0, 1) := by decide +kernel
theorem dX7_entryAt_16 : decode cX7_entryAt 16 = .ok (.goto 4, 3) := by decide +kernel
theorem dX7_entryAt_19 : decode cX7_entryAt 19 = .ok (.iconst 1, 1) := by decide +kernel
theorem dX7_entryAt_20 : decode cX7_entryAt 20 = .ok (.putfield 76, 3) := by decide +kernel
theorem dX7_entryAt_23 : decode cX7_entryAt 23 = .ok (.aload_n 0, 1) := by decide +kernel
theorem dX7_entryAt_24 : decode cX7_entryAt 24 = .ok (.getfield 76, 3) := by decide +kernel
theorem dX7_entryAt_27 : decode cX7_entryAt 27 = .ok (.ifCond .le 7, 3) := by decide +kernel
theorem dX7_entryAt_30 : decode cX7_entryAt 30 = .ok (.iconst 0, 1) := by decide +kernel
theorem dX7_entryAt_31 : decode cX7_entryAt 31 = .ok (.goto 23, 3) := by decide +kernel
theorem dX7_entryAt_34 : decode cX7_entryAt 34 = .ok (.aload_n 0, 1) := by decide +kernel
theorem dX7_entryAt_35 : decode cX7_entryAt 35 = .ok (.getfield 7, 3) := by decide +kernel
theorem dX7_entryAt_38 : decode cX7_entryAt 38 = .ok (.iload_n 1, 1) := by decide +kernel
theorem dX7_entryAt_39 : decode cX7_entryAt 39 = .ok (.iconst 2, 1) := by decide +kernel
theorem dX7_entryAt_40 : decode cX7_entryAt 40 = .ok (.idiv, 1) := by decide +kernel
theorem dX7_entryAt_41 : decode cX7_entryAt 41 = .ok (.laload, 1) := by decide +kernel
theorem dX7_entryAt_42 : decode cX7_entryAt 42 = .ok (.bipush 32, 2) := by decide +kernel
theorem dX7_entryAt_44 : decode cX7_entryAt 44 = .ok (.iload_n 1, 1) := by decide +kernel
theorem dX7_entryAt_45 : decode cX7_entryAt 45 = .ok (.iconst 2, 1) := by decide +kernel
theorem dX7_entryAt_46 : decode cX7_entryAt 46 = .ok (.irem, 1) := by decide +kernel
theorem dX7_entryAt_47 : decode cX7_entryAt 47 = .ok (.imul, 1) := by decide +kernel
theorem dX7_entryAt_48 : decode cX7_entryAt 48 = .ok (.lshr, 1) := by decide +kernel
theorem dX7_entryAt_49 : decode cX7_entryAt 49 = .ok (.ldc2_w 153, 3) := by decide +kernel
theorem dX7_entryAt_52 : decode cX7_entryAt 52 = .ok (.land, 1) := by decide +kernel
theorem dX7_entryAt_53 : decode cX7_entryAt 53 = .ok (.l2i, 1) := by decide +kernel
theorem dX7_entryAt_54 : decode cX7_entryAt 54 = .ok (.ireturn, 1) := by decide +kernel
set_option maxRecDepth 20000 in
theorem ggX7_alarm_X7_isVessel : GoodIn wsX7_alarm wsX7_isVessel := goodIn_r _ [11, 12, 13, 10, 14] (by decide +kernel) (by decide +kernel)
set_option maxRecDepth 20000 in
theorem gX7_alarm_X7_isVessel : GoodIn wsX7_alarm (va_wsS RX7 131 yX7_isVessel wsX7_isVessel) := goodIn_app (goodIn_of _ (by decide +kernel)) ggX7_alarm_X7_isVessel
set_option maxRecDepth 20000 in
theorem ggX7_alarm_X7_isValve : GoodIn wsX7_alarm wsX7_isValve := goodIn_r _ [17, 12, 13, 10, 14] (by decide +kernel) (by decide +kernel)
set_option maxRecDepth 20000 in
theorem gX7_alarm_X7_isValve : GoodIn wsX7_alarm (va_wsS RX7 106 yX7_isValve wsX7_isValve) := goodIn_app (goodIn_of _ (by decide +kernel)) ggX7_alarm_X7_isValve
set_option maxRecDepth 20000 in
theorem ggX7_alarm_X7_in : GoodIn wsX7_alarm wsX7_in := goodIn_r _ [14] (by decide +kernel) (by decide +kernel)
set_option maxRecDepth 20000 in
theorem gX7_alarm_X7_in : GoodIn wsX7_alarm (va_wsS RX7 80 yX7_in wsX7_in) := goodIn_app (goodIn_of _ (by decide +kernel)) ggX7_alarm_X7_in
theorem dX7_alarm_0 : decode cX7_alarm 0 = .ok (.aload_n 0, 1) := by decide +kernel
theorem dX7_alarm_1 : decode cX7_alarm 1 = .ok (.iload_n 1, 1) := by decide +kernel
theorem dX7_alarm_2 : decode cX7_alarm 2 = .ok (.invokestatic 131, 3) := by decide +kernel
theorem dX7_alarm_5 : decode cX7_alarm 5 = .ok (.ifCond .eq 11, 3) := by decide +kernel
theorem dX7_alarm_8 : decode cX7_alarm 8 = .ok (.iload 4, 2) := by decide +kernel
theorem dX7_alarm_10 : decode cX7_alarm 10 = .ok (.invokestatic 106, 3) := by decide +kernel
theorem dX7_alarm_13 : decode cX7_alarm 13 = .ok (.ifCond .ne 7, 3) := by decide +kernel
theorem dX7_alarm_16 : decode cX7_alarm 16 = .ok (.iconst 1, 1) := by decide +kernel
theorem dX7_alarm_17 : decode cX7_alarm 17 = .ok (.goto 32, 3) := by decide +kernel
theorem dX7_alarm_20 : decode cX7_alarm 20 = .ok (.iload_n 2, 1) := by decide +kernel
theorem dX7_alarm_21 : decode cX7_alarm 21 = .ok (.iconst 0, 1) := by decide +kernel
theorem dX7_alarm_22 : decode cX7_alarm 22 = .ok (.sipush 1000, 3) := by decide +kernel
theorem dX7_alarm_25 : decode cX7_alarm 25 = .ok (.invokestatic 80, 3) := by decide +kernel
theorem dX7_alarm_28 : decode cX7_alarm 28 = .ok (.ifCond .ne 7, 3) := by decide +kernel
theorem dX7_alarm_31 : decode cX7_alarm 31 = .ok (.iconst 2, 1) := by decide +kernel
theorem dX7_alarm_32 : decode cX7_alarm 32 = .ok (.goto 17, 3) := by decide +kernel
theorem dX7_alarm_35 : decode cX7_alarm 35 = .ok (.aload_n 0, 1) := by decide +kernel
theorem dX7_alarm_36 : decode cX7_alarm 36 = .ok (.getfield 144, 3) := by decide +kernel
theorem dX7_alarm_39 : decode cX7_alarm 39 = .ok (.bipush 10, 2) := by decide +kernel
theorem dX7_alarm_41 : decode cX7_alarm 41 = .ok (.if_icmp .ne 7, 3) := by decide +kernel
theorem dX7_alarm_44 : decode cX7_alarm 44 = .ok (.iconst 3, 1) := by decide +kernel
theorem dX7_alarm_45 : decode cX7_alarm 45 = .ok (.goto 4, 3) := by decide +kernel
theorem dX7_alarm_48 : decode cX7_alarm 48 = .ok (.iconst 0, 1) := by decide +kernel
theorem dX7_alarm_49 : decode cX7_alarm 49 = .ok (.putfield 76, 3) := by decide +kernel
theorem dX7_alarm_52 : decode cX7_alarm 52 = .ok (.aload_n 0, 1) := by decide +kernel
theorem dX7_alarm_53 : decode cX7_alarm 53 = .ok (.getfield 76, 3) := by decide +kernel
theorem dX7_alarm_56 : decode cX7_alarm 56 = .ok (.ifCond .le 5, 3) := by decide +kernel
theorem dX7_alarm_59 : decode cX7_alarm 59 = .ok (.iconst 0, 1) := by decide +kernel
theorem dX7_alarm_60 : decode cX7_alarm 60 = .ok (.ireturn, 1) := by decide +kernel
theorem dX7_alarm_61 : decode cX7_alarm 61 = .ok (.aload_n 0, 1) := by decide +kernel
theorem dX7_alarm_62 : decode cX7_alarm 62 = .ok (.getfield 42, 3) := by decide +kernel
theorem dX7_alarm_65 : decode cX7_alarm 65 = .ok (.aload_n 0, 1) := by decide +kernel
theorem dX7_alarm_66 : decode cX7_alarm 66 = .ok (.getfield 144, 3) := by decide +kernel
theorem dX7_alarm_69 : decode cX7_alarm 69 = .ok (.iload_n 1, 1) := by decide +kernel
theorem dX7_alarm_70 : decode cX7_alarm 70 = .ok (.iastore, 1) := by decide +kernel
theorem dX7_alarm_71 : decode cX7_alarm 71 = .ok (.aload_n 0, 1) := by decide +kernel
theorem dX7_alarm_72 : decode cX7_alarm 72 = .ok (.getfield 45, 3) := by decide +kernel
theorem dX7_alarm_75 : decode cX7_alarm 75 = .ok (.aload_n 0, 1) := by decide +kernel
theorem dX7_alarm_76 : decode cX7_alarm 76 = .ok (.getfield 144, 3) := by decide +kernel
theorem dX7_alarm_79 : decode cX7_alarm 79 = .ok (.iload_n 2, 1) := by decide +kernel
theorem dX7_alarm_80 : decode cX7_alarm 80 = .ok (.iastore, 1) := by decide +kernel
theorem dX7_alarm_81 : decode cX7_alarm 81 = .ok (.aload_n 0, 1) := by decide +kernel
theorem dX7_alarm_82 : decode cX7_alarm 82 = .ok (.getfield 48, 3) := by decide +kernel
theorem dX7_alarm_85 : decode cX7_alarm 85 = .ok (.aload_n 0, 1) := by decide +kernel
theorem dX7_alarm_86 : decode cX7_alarm 86 = .ok (.getfield 144, 3) := by decide +kernel
theorem dX7_alarm_89 : decode cX7_alarm 89 = .ok (.iload_n 3, 1) := by decide +kernel
theorem dX7_alarm_90 : decode cX7_alarm 90 = .ok (.bastore, 1) := by decide +kernel
theorem dX7_alarm_91 : decode cX7_alarm 91 = .ok (.aload_n 0, 1) := by decide +kernel
theorem dX7_alarm_92 : decode cX7_alarm 92 = .ok (.getfield 51, 3) := by decide +kernel
theorem dX7_alarm_95 : decode cX7_alarm 95 = .ok (.aload_n 0, 1) := by decide +kernel
theorem dX7_alarm_96 : decode cX7_alarm 96 = .ok (.getfield 144, 3) := by decide +kernel
theorem dX7_alarm_99 : decode cX7_alarm 99 = .ok (.iload 4, 2) := by decide +kernel
theorem dX7_alarm_101 : decode cX7_alarm 101 = .ok (.iastore, 1) := by decide +kernel
theorem dX7_alarm_102 : decode cX7_alarm 102 = .ok (.aload_n 0, 1) := by decide +kernel
theorem dX7_alarm_103 : decode cX7_alarm 103 = .ok (.getfield 54, 3) := by decide +kernel
theorem dX7_alarm_106 : decode cX7_alarm 106 = .ok (.aload_n 0, 1) := by decide +kernel
theorem dX7_alarm_107 : decode cX7_alarm 107 = .ok (.getfield 144, 3) := by decide +kernel
theorem dX7_alarm_110 : decode cX7_alarm 110 = .ok (.iload 5, 2) := by decide +kernel
theorem dX7_alarm_112 : decode cX7_alarm 112 = .ok (.bastore, 1) := by decide +kernel
theorem dX7_alarm_113 : decode cX7_alarm 113 = .ok (.aload_n 0, 1) := by decide +kernel
theorem dX7_alarm_114 : decode cX7_alarm 114 = .ok (.dup, 1) := by decide +kernel
theorem dX7_alarm_115 : decode cX7_alarm 115 = .ok (.getfield 144, 3) := by decide +kernel
theorem dX7_alarm_118 : decode cX7_alarm 118 = .ok (.iconst 1, 1) := by decide +kernel
theorem dX7_alarm_119 : decode cX7_alarm 119 = .ok (.iadd, 1) := by decide +kernel
theorem dX7_alarm_120 : decode cX7_alarm 120 = .ok (.putfield 144, 3) := by decide +kernel
theorem dX7_alarm_123 : decode cX7_alarm 123 = .ok (.aload_n 0, 1) := by decide +kernel
theorem dX7_alarm_124 : decode cX7_alarm 124 = .ok (.getfield 144, 3) := by decide +kernel
theorem dX7_alarm_127 : decode cX7_alarm 127 = .ok (.iconst 1, 1) := by decide +kernel
theorem dX7_alarm_128 : decode cX7_alarm 128 = .ok (.isub, 1) := by decide +kernel
theorem dX7_alarm_129 : decode cX7_alarm 129 = .ok (.ireturn, 1) := by decide +kernel
set_option maxRecDepth 20000 in
theorem ggX7_stateOf_X7_in : GoodIn wsX7_stateOf wsX7_in := goodIn_r _ [7] (by decide +kernel) (by decide +kernel)
set_option maxRecDepth 20000 in
theorem gX7_stateOf_X7_in : GoodIn wsX7_stateOf (va_wsS RX7 80 yX7_in wsX7_in) := goodIn_app (goodIn_of _ (by decide +kernel)) ggX7_stateOf_X7_in
theorem dX7_stateOf_0 : decode cX7_stateOf 0 = .ok (.aload_n 0, 1) := by decide +kernel
theorem dX7_stateOf_1 : decode cX7_stateOf 1 = .ok (.iload_n 1, 1) := by decide +kernel
theorem dX7_stateOf_2 : decode cX7_stateOf 2 = .ok (.iconst 0, 1) := by decide +kernel
theorem dX7_stateOf_3 : decode cX7_stateOf 3 = .ok (.aload_n 0, 1) := by decide +kernel
theorem dX7_stateOf_4 : decode cX7_stateOf 4 = .ok (.getfield 144, 3) := by decide +kernel
theorem dX7_stateOf_7 : decode cX7_stateOf 7 = .ok (.iconst 1, 1) := by decide +kernel
theorem dX7_stateOf_8 : decode cX7_stateOf 8 = .ok (.isub, 1) := by decide +kernel
theorem dX7_stateOf_9 : decode cX7_stateOf 9 = .ok (.invokestatic 80, 3) := by decide +kernel
theorem dX7_stateOf_12 : decode cX7_stateOf 12 = .ok (.ifCond .eq 7, 3) := by decide +kernel
theorem dX7_stateOf_15 : decode cX7_stateOf 15 = .ok (.iconst 0, 1) := by decide +kernel
theorem dX7_stateOf_16 : decode cX7_stateOf 16 = .ok (.goto 4, 3) := by decide +kernel
theorem dX7_stateOf_19 : decode cX7_stateOf 19 = .ok (.iconst 1, 1) := by decide +kernel
theorem dX7_stateOf_20 : decode cX7_stateOf 20 = .ok (.putfield 76, 3) := by decide +kernel
theorem dX7_stateOf_23 : decode cX7_stateOf 23 = .ok (.aload_n 0, 1) := by decide +kernel
theorem dX7_stateOf_24 : decode cX7_stateOf 24 = .ok (.getfield 76, 3) := by decide +kernel
theorem dX7_stateOf_27 : decode cX7_stateOf 27 = .ok (.ifCond .le 7, 3) := by decide +kernel
theorem dX7_stateOf_30 : decode cX7_stateOf 30 = .ok (.iconst 0, 1) := by decide +kernel
theorem dX7_stateOf_31 : decode cX7_stateOf 31 = .ok (.goto 9, 3) := by decide +kernel
theorem dX7_stateOf_34 : decode cX7_stateOf 34 = .ok (.aload_n 0, 1) := by decide +kernel
theorem dX7_stateOf_35 : decode cX7_stateOf 35 = .ok (.getfield 57, 3) := by decide +kernel
theorem dX7_stateOf_38 : decode cX7_stateOf 38 = .ok (.iload_n 1, 1) := by decide +kernel
theorem dX7_stateOf_39 : decode cX7_stateOf 39 = .ok (.iaload, 1) := by decide +kernel
theorem dX7_stateOf_40 : decode cX7_stateOf 40 = .ok (.ireturn, 1) := by decide +kernel
set_option maxRecDepth 20000 in
theorem ggX7_insert_X7_in : GoodIn wsX7_insert wsX7_in := goodIn_r _ [7] (by decide +kernel) (by decide +kernel)
set_option maxRecDepth 20000 in
theorem gX7_insert_X7_in : GoodIn wsX7_insert (va_wsS RX7 80 yX7_in wsX7_in) := goodIn_app (goodIn_of _ (by decide +kernel)) ggX7_insert_X7_in
theorem dX7_insert_0 : decode cX7_insert 0 = .ok (.aload_n 0, 1) := by decide +kernel
theorem dX7_insert_1 : decode cX7_insert 1 = .ok (.iload_n 1, 1) := by decide +kernel
theorem dX7_insert_2 : decode cX7_insert 2 = .ok (.iconst 0, 1) := by decide +kernel
theorem dX7_insert_3 : decode cX7_insert 3 = .ok (.aload_n 0, 1) := by decide +kernel
theorem dX7_insert_4 : decode cX7_insert 4 = .ok (.getfield 155, 3) := by decide +kernel
theorem dX7_insert_7 : decode cX7_insert 7 = .ok (.invokestatic 80, 3) := by decide +kernel
theorem dX7_insert_10 : decode cX7_insert 10 = .ok (.ifCond .ne 7, 3) := by decide +kernel
theorem dX7_insert_13 : decode cX7_insert 13 = .ok (.iconst 1, 1) := by decide +kernel
theorem dX7_insert_14 : decode cX7_insert 14 = .ok (.goto 17, 3) := by decide +kernel
theorem dX7_insert_17 : decode cX7_insert 17 = .ok (.aload_n 0, 1) := by decide +kernel
theorem dX7_insert_18 : decode cX7_insert 18 = .ok (.getfield 155, 3) := by decide +kernel
theorem dX7_insert_21 : decode cX7_insert 21 = .ok (.bipush 40, 2) := by decide +kernel
theorem dX7_insert_23 : decode cX7_insert 23 = .ok (.if_icmp .ne 7, 3) := by decide +kernel
theorem dX7_insert_26 : decode cX7_insert 26 = .ok (.iconst 2, 1) := by decide +kernel
theorem dX7_insert_27 : decode cX7_insert 27 = .ok (.goto 4, 3) := by decide +kernel
theorem dX7_insert_30 : decode cX7_insert 30 = .ok (.iconst 0, 1) := by decide +kernel
theorem dX7_insert_31 : decode cX7_insert 31 = .ok (.putfield 76, 3) := by decide +kernel
theorem dX7_insert_34 : decode cX7_insert 34 = .ok (.aload_n 0, 1) := by decide +kernel
theorem dX7_insert_35 : decode cX7_insert 35 = .ok (.getfield 76, 3) := by decide +kernel
theorem dX7_insert_38 : decode cX7_insert 38 = .ok (.ifCond .le 5, 3) := by decide +kernel
theorem dX7_insert_41 : decode cX7_insert 41 = .ok (.iconst 0, 1) := by decide +kernel
theorem dX7_insert_42 : decode cX7_insert 42 = .ok (.ireturn, 1) := by decide +kernel
theorem dX7_insert_43 : decode cX7_insert 43 = .ok (.aload_n 0, 1) := by decide +kernel
theorem dX7_insert_44 : decode cX7_insert 44 = .ok (.getfield 155, 3) := by decide +kernel
theorem dX7_insert_47 : decode cX7_insert 47 = .ok (.istore_n 3, 1) := by decide +kernel
theorem dX7_insert_48 : decode cX7_insert 48 = .ok (.iload_n 3, 1) := by decide +kernel
theorem dX7_insert_49 : decode cX7_insert 49 = .ok (.iload_n 1, 1) := by decide +kernel
theorem dX7_insert_50 : decode cX7_insert 50 = .ok (.if_icmp .le 23, 3) := by decide +kernel
theorem dX7_insert_53 : decode cX7_insert 53 = .ok (.aload_n 0, 1) := by decide +kernel
theorem dX7_insert_54 : decode cX7_insert 54 = .ok (.getfield 60, 3) := by decide +kernel
theorem dX7_insert_57 : decode cX7_insert 57 = .ok (.iload_n 3, 1) := by decide +kernel
theorem dX7_insert_58 : decode cX7_insert 58 = .ok (.aload_n 0, 1) := by decide +kernel
theorem dX7_insert_59 : decode cX7_insert 59 = .ok (.getfield 60, 3) := by decide +kernel
theorem dX7_insert_62 : decode cX7_insert 62 = .ok (.iload_n 3, 1) := by decide +kernel
theorem dX7_insert_63 : decode cX7_insert 63 = .ok (.iconst 1, 1) := by decide +kernel
theorem dX7_insert_64 : decode cX7_insert 64 = .ok (.isub, 1) := by decide +kernel
theorem dX7_insert_65 : decode cX7_insert 65 = .ok (.caload, 1) := by decide +kernel
theorem dX7_insert_66 : decode cX7_insert 66 = .ok (.castore, 1) := by decide +kernel
theorem dX7_insert_67 : decode cX7_insert 67 = .ok (.iinc 3 (-1), 3) := by decide +kernel
theorem dX7_insert_70 : decode cX7_insert 70 = .ok (.goto (-22), 3) := by decide +kernel
theorem dX7_insert_73 : decode cX7_insert 73 = .ok (.aload_n 0, 1) := by decide +kernel
theorem dX7_insert_74 : decode cX7_insert 74 = .ok (.getfield 60, 3) := by decide +kernel
theorem dX7_insert_77 : decode cX7_insert 77 = .ok (.iload_n 1, 1) := by decide +kernel
theorem dX7_insert_78 : decode cX7_insert 78 = .ok (.iload_n 2, 1) := by decide +kernel
theorem dX7_insert_79 : decode cX7_insert 79 = .ok (.castore, 1) := by decide +kernel
theorem dX7_insert_80 : decode cX7_insert 80 = .ok (.aload_n 0, 1) := by decide +kernel
theorem dX7_insert_81 : decode cX7_insert 81 = .ok (.dup, 1) := by decide +kernel
theorem dX7_insert_82 : decode cX7_insert 82 = .ok (.getfield 155, 3) := by decide +kernel
theorem dX7_insert_85 : decode cX7_insert 85 = .ok (.iconst 1, 1) := by decide +kernel
theorem dX7_insert_86 : decode cX7_insert 86 = .ok (.iadd, 1) := by decide +kernel
theorem dX7_insert_87 : decode cX7_insert 87 = .ok (.putfield 155, 3) := by decide +kernel
theorem dX7_insert_90 : decode cX7_insert 90 = .ok (.aload_n 0, 1) := by decide +kernel
theorem dX7_insert_91 : decode cX7_insert 91 = .ok (.getfield 155, 3) := by decide +kernel
theorem dX7_insert_94 : decode cX7_insert 94 = .ok (.ireturn, 1) := by decide +kernel
theorem dX7_clear_0 : decode cX7_clear 0 = .ok (.aload_n 0, 1) := by decide +kernel
theorem dX7_clear_1 : decode cX7_clear 1 = .ok (.iconst 0, 1) := by decide +kernel
theorem dX7_clear_2 : decode cX7_clear 2 = .ok (.putfield 76, 3) := by decide +kernel
theorem dX7_clear_5 : decode cX7_clear 5 = .ok (.aload_n 0, 1) := by decide +kernel
theorem dX7_clear_6 : decode cX7_clear 6 = .ok (.getfield 155, 3) := by decide +kernel
theorem dX7_clear_9 : decode cX7_clear 9 = .ok (.istore_n 1, 1) := by decide +kernel
theorem dX7_clear_10 : decode cX7_clear 10 = .ok (.aload_n 0, 1) := by decide +kernel
theorem dX7_clear_11 : decode cX7_clear 11 = .ok (.iconst 0, 1) := by decide +kernel
theorem dX7_clear_12 : decode cX7_clear 12 = .ok (.putfield 155, 3) := by decide +kernel
theorem dX7_clear_15 : decode cX7_clear 15 = .ok (.iload_n 1, 1) := by decide +kernel
theorem dX7_clear_16 : decode cX7_clear 16 = .ok (.ireturn, 1) := by decide +kernel
theorem dX7_isHighOne_0 : decode cX7_isHighOne 0 = .ok (.iload_n 0, 1) := by decide +kernel
theorem dX7_isHighOne_1 : decode cX7_isHighOne 1 = .ok (.ldc 158, 2) := by decide +kernel
theorem dX7_isHighOne_3 : decode cX7_isHighOne 3 = .ok (.if_icmp .lt 13, 3) := by decide +kernel
theorem dX7_isHighOne_6 : decode cX7_isHighOne 6 = .ok (.iload_n 0, 1) := by decide +kernel
theorem dX7_isHighOne_7 : decode cX7_isHighOne 7 = .ok (.ldc 159, 2) := by decide +kernel
theorem dX7_isHighOne_9 : decode cX7_isHighOne 9 = .ok (.if_icmp .gt 7, 3) := by decide +kernel
theorem dX7_isHighOne_12 : decode cX7_isHighOne 12 = .ok (.iconst 1, 1) := by decide +kernel
theorem dX7_isHighOne_13 : decode cX7_isHighOne 13 = .ok (.goto 4, 3) := by decide +kernel
theorem dX7_isHighOne_16 : decode cX7_isHighOne 16 = .ok (.iconst 0, 1) := by decide +kernel
theorem dX7_isHighOne_17 : decode cX7_isHighOne 17 = .ok (.ireturn, 1) := by decide +kernel
theorem dX7_isLowOne_0 : decode cX7_isLowOne 0 = .ok (.iload_n 0, 1) := by decide +kernel
theorem dX7_isLowOne_1 : decode cX7_isLowOne 1 = .ok (.ldc 160, 2) := by decide +kernel
theorem dX7_isLowOne_3 : decode cX7_isLowOne 3 = .ok (.if_icmp .lt 13, 3) := by decide +kernel
theorem dX7_isLowOne_6 : decode cX7_isLowOne 6 = .ok (.iload_n 0, 1) := by decide +kernel
theorem dX7_isLowOne_7 : decode cX7_isLowOne 7 = .ok (.ldc 161, 2) := by decide +kernel
theorem dX7_isLowOne_9 : decode cX7_isLowOne 9 = .ok (.if_icmp .gt 7, 3) := by decide +kernel
theorem dX7_isLowOne_12 : decode cX7_isLowOne 12 = .ok (.iconst 1, 1) := by decide +kernel
theorem dX7_isLowOne_13 : decode cX7_isLowOne 13 = .ok (.goto 4, 3) := by decide +kernel
theorem dX7_isLowOne_16 : decode cX7_isLowOne 16 = .ok (.iconst 0, 1) := by decide +kernel
theorem dX7_isLowOne_17 : decode cX7_isLowOne 17 = .ok (.ireturn, 1) := by decide +kernel
set_option maxRecDepth 20000 in
theorem ggX7_isGood_X7_isLowOne : GoodIn wsX7_isGood wsX7_isLowOne := goodIn_r _ [6, 7, 8] (by decide +kernel) (by decide +kernel)
set_option maxRecDepth 20000 in
theorem gX7_isGood_X7_isLowOne : GoodIn wsX7_isGood (va_wsS RX7 162 yX7_isLowOne wsX7_isLowOne) := goodIn_app (goodIn_of _ (by decide +kernel)) ggX7_isGood_X7_isLowOne
set_option maxRecDepth 20000 in
theorem ggX7_isGood_X7_isHighOne : GoodIn wsX7_isGood wsX7_isHighOne := goodIn_r _ [11, 12, 13] (by decide +kernel) (by decide +kernel)
set_option maxRecDepth 20000 in
theorem gX7_isGood_X7_isHighOne : GoodIn wsX7_isGood (va_wsS RX7 166 yX7_isHighOne wsX7_isHighOne) := goodIn_app (goodIn_of _ (by decide +kernel)) ggX7_isGood_X7_isHighOne
theorem dX7_isGood_0 : decode cX7_isGood 0 = .ok (.aload_n 0, 1) := by decide +kernel
theorem dX7_isGood_1 : decode cX7_isGood 1 = .ok (.getfield 155, 3) := by decide +kernel
theorem dX7_isGood_4 : decode cX7_isGood 4 = .ok (.ifCond .le 7, 3) := by decide +kernel
theorem dX7_isGood_7 : decode cX7_isGood 7 = .ok (.iconst 1, 1) := by decide +kernel
theorem dX7_isGood_8 : decode cX7_isGood 8 = .ok (.goto 4, 3) := by decide +kernel
theorem dX7_isGood_11 : decode cX7_isGood 11 = .ok (.iconst 0, 1) := by decide +kernel
theorem dX7_isGood_12 : decode cX7_isGood 12 = .ok (.istore_n 1, 1) := by decide +kernel
theorem dX7_isGood_13 : decode cX7_isGood 13 = .ok (.iconst 0, 1) := by decide +kernel
theorem dX7_isGood_14 : decode cX7_isGood 14 = .ok (.istore_n 2, 1) := by decide +kernel
theorem dX7_isGood_15 : decode cX7_isGood 15 = .ok (.iconst 0, 1) := by decide +kernel
theorem dX7_isGood_16 : decode cX7_isGood 16 = .ok (.istore_n 3, 1) := by decide +kernel
theorem dX7_isGood_17 : decode cX7_isGood 17 = .ok (.iload_n 3, 1) := by decide +kernel
theorem dX7_isGood_18 : decode cX7_isGood 18 = .ok (.aload_n 0, 1) := by decide +kernel
theorem dX7_isGood_19 : decode cX7_isGood 19 = .ok (.getfield 155, 3) := by decide +kernel
theorem dX7_isGood_22 : decode cX7_isGood 22 = .ok (.if_icmp .ge 42, 3) := by decide +kernel
theorem dX7_isGood_25 : decode cX7_isGood 25 = .ok (.iload_n 1, 1) := by decide +kernel
theorem dX7_isGood_26 : decode cX7_isGood 26 = .ok (.ifCond .eq 20, 3) := by decide +kernel
theorem dX7_isGood_29 : decode cX7_isGood 29 = .ok (.aload_n 0, 1) := by decide +kernel
theorem dX7_isGood_30 : decode cX7_isGood 30 = .ok (.getfield 60, 3) := by decide +kernel
theorem dX7_isGood_33 : decode cX7_isGood 33 = .ok (.iload_n 3, 1) := by decide +kernel
theorem dX7_isGood_34 : decode cX7_isGood 34 = .ok (.caload, 1) := by decide +kernel
theorem dX7_isGood_35 : decode cX7_isGood 35 = .ok (.invokestatic 162, 3) := by decide +kernel
theorem dX7_isGood_38 : decode cX7_isGood 38 = .ok (.iload_n 2, 1) := by decide +kernel
theorem dX7_isGood_39 : decode cX7_isGood 39 = .ok (.if_icmp .ne 7, 3) := by decide +kernel
theorem dX7_isGood_42 : decode cX7_isGood 42 = .ok (.iconst 1, 1) := by decide +kernel
theorem dX7_isGood_43 : decode cX7_isGood 43 = .ok (.goto 4, 3) := by decide +kernel
theorem dX7_isGood_46 : decode cX7_isGood 46 = .ok (.iconst 0, 1) := by decide +kernel
theorem dX7_isGood_47 : decode cX7_isGood 47 = .ok (.istore_n 1, 1) := by decide +kernel
theorem dX7_isGood_48 : decode cX7_isGood 48 = .ok (.aload_n 0, 1) := by decide +kernel
theorem dX7_isGood_49 : decode cX7_isGood 49 = .ok (.getfield 60, 3) := by decide +kernel
theorem dX7_isGood_52 : decode cX7_isGood 52 = .ok (.iload_n 3, 1) := by decide +kernel
theorem dX7_isGood_53 : decode cX7_isGood 53 = .ok (.caload, 1) := by decide +kernel
theorem dX7_isGood_54 : decode cX7_isGood 54 = .ok (.invokestatic 166, 3) := by decide +kernel
theorem dX7_isGood_57 : decode cX7_isGood 57 = .ok (.istore_n 2, 1) := by decide +kernel
theorem dX7_isGood_58 : decode cX7_isGood 58 = .ok (.iinc 3 1, 3) := by decide +kernel
theorem dX7_isGood_61 : decode cX7_isGood 61 = .ok (.goto (-44), 3) := by decide +kernel
theorem dX7_isGood_64 : decode cX7_isGood 64 = .ok (.iload_n 1, 1) := by decide +kernel
theorem dX7_isGood_65 : decode cX7_isGood 65 = .ok (.ifCond .eq 11, 3) := by decide +kernel
theorem dX7_isGood_68 : decode cX7_isGood 68 = .ok (.iload_n 2, 1) := by decide +kernel
theorem dX7_isGood_69 : decode cX7_isGood 69 = .ok (.ifCond .ne 7, 3) := by decide +kernel
theorem dX7_isGood_72 : decode cX7_isGood 72 = .ok (.iconst 1, 1) := by decide +kernel
theorem dX7_isGood_73 : decode cX7_isGood 73 = .ok (.goto 4, 3) := by decide +kernel
theorem dX7_isGood_76 : decode cX7_isGood 76 = .ok (.iconst 0, 1) := by decide +kernel
theorem dX7_isGood_77 : decode cX7_isGood 77 = .ok (.ireturn, 1) := by decide +kernel
set_option maxRecDepth 20000 in
theorem ggX7_isWhole_X7_isGood : GoodIn wsX7_isWhole wsX7_isGood := goodIn_r _ [6, 7, 8, 9, 10, 5, 11, 12, 13, 14, 15, 16, 17, 18, 19, 20, 21, 22, 23, 24, 25, 26, 27, 28, 29, 30, 31, 32, 33, 34, 35, 36, 37, 38, 39, 40, 41, 42, 43, 44, 45, 46, 47, 48, 49, 50] (by decide +kernel) (by decide +kernel)
set_option maxRecDepth 20000 in
theorem gX7_isWhole_X7_isGood : GoodIn wsX7_isWhole (wsV RX7 169 RX7 yX7_isGood wsX7_isGood) := goodIn_app (goodIn_of _ (by decide +kernel)) ggX7_isWhole_X7_isGood
theorem dX7_isWhole_0 : decode cX7_isWhole 0 = .ok (.aload_n 0, 1) := by decide +kernel
theorem dX7_isWhole_1 : decode cX7_isWhole 1 = .ok (.iconst 0, 1) := by decide +kernel
theorem dX7_isWhole_2 : decode cX7_isWhole 2 = .ok (.putfield 76, 3) := by decide +kernel
theorem dX7_isWhole_5 : decode cX7_isWhole 5 = .ok (.aload_n 0, 1) := by decide +kernel
theorem dX7_isWhole_6 : decode cX7_isWhole 6 = .ok (.invokevirtual 169, 3) := by decide +kernel
theorem dX7_isWhole_9 : decode cX7_isWhole 9 = .ok (.ireturn, 1) := by decide +kernel
set_option maxRecDepth 20000 in
theorem ggX7_isThread_X7_in : GoodIn wsX7_isThread wsX7_in := goodIn_r _ [5] (by decide +kernel) (by decide +kernel)
set_option maxRecDepth 20000 in
theorem gX7_isThread_X7_in : GoodIn wsX7_isThread (va_wsS RX7 80 yX7_in wsX7_in) := goodIn_app (goodIn_of _ (by decide +kernel)) ggX7_isThread_X7_in
theorem dX7_isThread_0 : decode cX7_isThread 0 = .ok (.iload_n 1, 1) := by decide +kernel
theorem dX7_isThread_1 : decode cX7_isThread 1 = .ok (.iconst 0, 1) := by decide +kernel
theorem dX7_isThread_2 : decode cX7_isThread 2 = .ok (.aload_n 0, 1) := by decide +kernel
theorem dX7_isThread_3 : decode cX7_isThread 3 = .ok (.getfield 173, 3) := by decide +kernel
theorem dX7_isThread_6 : decode cX7_isThread 6 = .ok (.iconst 1, 1) := by decide +kernel
theorem dX7_isThread_7 : decode cX7_isThread 7 = .ok (.isub, 1) := by decide +kernel
theorem dX7_isThread_8 : decode cX7_isThread 8 = .ok (.invokestatic 80, 3) := by decide +kernel
theorem dX7_isThread_11 : decode cX7_isThread 11 = .ok (.ireturn, 1) := by decide +kernel
theorem dX7_meant_0 : decode cX7_meant 0 = .ok (.iconst (-1), 1) := by decide +kernel
theorem dX7_meant_1 : decode cX7_meant 1 = .ok (.istore_n 1, 1) := by decide +kernel
theorem dX7_meant_2 : decode cX7_meant 2 = .ok (.iconst 0, 1) := by decide +kernel
theorem dX7_meant_3 : decode cX7_meant 3 = .ok (.istore_n 2, 1) := by decide +kernel
theorem dX7_meant_4 : decode cX7_meant 4 = .ok (.iload_n 2, 1) := by decide +kernel
theorem dX7_meant_5 : decode cX7_meant 5 = .ok (.iconst 1, 1) := by decide +kernel
theorem dX7_meant_6 : decode cX7_meant 6 = .ok (.iadd, 1) := by decide +kernel
theorem dX7_meant_7 : decode cX7_meant 7 = .ok (.aload_n 0, 1) := by decide +kernel
theorem dX7_meant_8 : decode cX7_meant 8 = .ok (.getfield 155, 3) := by decide +kernel
theorem dX7_meant_11 : decode cX7_meant 11 = .ok (.if_icmp .ge 72, 3) := by decide +kernel
theorem dX7_meant_14 : decode cX7_meant 14 = .ok (.aload_n 0, 1) := by decide +kernel
theorem dX7_meant_15 : decode cX7_meant 15 = .ok (.getfield 60, 3) := by decide +kernel
theorem dX7_meant_18 : decode cX7_meant 18 = .ok (.iload_n 2, 1) := by decide +kernel
theorem dX7_meant_19 : decode cX7_meant 19 = .ok (.caload, 1) := by decide +kernel
theorem dX7_meant_20 : decode cX7_meant 20 = .ok (.bipush 64, 2) := by decide +kernel
theorem dX7_meant_22 : decode cX7_meant 22 = .ok (.if_icmp .ne 33, 3) := by decide +kernel
theorem dX7_meant_25 : decode cX7_meant 25 = .ok (.aload_n 0, 1) := by decide +kernel
theorem dX7_meant_26 : decode cX7_meant 26 = .ok (.getfield 60, 3) := by decide +kernel
theorem dX7_meant_29 : decode cX7_meant 29 = .ok (.iload_n 2, 1) := by decide +kernel
theorem dX7_meant_30 : decode cX7_meant 30 = .ok (.iconst 1, 1) := by decide +kernel
theorem dX7_meant_31 : decode cX7_meant 31 = .ok (.iadd, 1) := by decide +kernel
theorem dX7_meant_32 : decode cX7_meant 32 = .ok (.caload, 1) := by decide +kernel
theorem dX7_meant_33 : decode cX7_meant 33 = .ok (.bipush 48, 2) := by decide +kernel
theorem dX7_meant_35 : decode cX7_meant 35 = .ok (.if_icmp .lt 20, 3) := by decide +kernel
theorem dX7_meant_38 : decode cX7_meant 38 = .ok (.aload_n 0, 1) := by decide +kernel
theorem dX7_meant_39 : decode cX7_meant 39 = .ok (.getfield 60, 3) := by decide +kernel
theorem dX7_meant_42 : decode cX7_meant 42 = .ok (.iload_n 2, 1) := by decide +kernel
theorem dX7_meant_43 : decode cX7_meant 43 = .ok (.iconst 1, 1) := by decide +kernel
theorem dX7_meant_44 : decode cX7_meant 44 = .ok (.iadd, 1) := by decide +kernel
theorem dX7_meant_45 : decode cX7_meant 45 = .ok (.caload, 1) := by decide +kernel
theorem dX7_meant_46 : decode cX7_meant 46 = .ok (.bipush 56, 2) := by decide +kernel
theorem dX7_meant_48 : decode cX7_meant 48 = .ok (.if_icmp .gt 7, 3) := by decide +kernel
theorem dX7_meant_51 : decode cX7_meant 51 = .ok (.iconst 1, 1) := by decide +kernel
theorem dX7_meant_52 : decode cX7_meant 52 = .ok (.goto 4, 3) := by decide +kernel
theorem dX7_meant_55 : decode cX7_meant 55 = .ok (.iconst 0, 1) := by decide +kernel
theorem dX7_meant_56 : decode cX7_meant 56 = .ok (.istore_n 3, 1) := by decide +kernel
theorem dX7_meant_57 : decode cX7_meant 57 = .ok (.iload_n 3, 1) := by decide +kernel
theorem dX7_meant_58 : decode cX7_meant 58 = .ok (.ifCond .eq 17, 3) := by decide +kernel
theorem dX7_meant_61 : decode cX7_meant 61 = .ok (.aload_n 0, 1) := by decide +kernel
theorem dX7_meant_62 : decode cX7_meant 62 = .ok (.getfield 60, 3) := by decide +kernel
theorem dX7_meant_65 : decode cX7_meant 65 = .ok (.iload_n 2, 1) := by decide +kernel
theorem dX7_meant_66 : decode cX7_meant 66 = .ok (.iconst 1, 1) := by decide +kernel
theorem dX7_meant_67 : decode cX7_meant 67 = .ok (.iadd, 1) := by decide +kernel
theorem dX7_meant_68 : decode cX7_meant 68 = .ok (.caload, 1) := by decide +kernel
theorem dX7_meant_69 : decode cX7_meant 69 = .ok (.bipush 48, 2) := by decide +kernel
theorem dX7_meant_71 : decode cX7_meant 71 = .ok (.isub, 1) := by decide +kernel
theorem dX7_meant_72 : decode cX7_meant 72 = .ok (.goto 4, 3) := by decide +kernel
theorem dX7_meant_75 : decode cX7_meant 75 = .ok (.iload_n 1, 1) := by decide +kernel
theorem dX7_meant_76 : decode cX7_meant 76 = .ok (.istore_n 1, 1) := by decide +kernel
theorem dX7_meant_77 : decode cX7_meant 77 = .ok (.iinc 2 1, 3) := by decide +kernel
theorem dX7_meant_80 : decode cX7_meant 80 = .ok (.goto (-76), 3) := by decide +kernel
theorem dX7_meant_83 : decode cX7_meant 83 = .ok (.iload_n 1, 1) := by decide +kernel
theorem dX7_meant_84 : decode cX7_meant 84 = .ok (.ireturn, 1) := by decide +kernel
set_option maxRecDepth 20000 in
theorem ggX7_post_X7_isPerson : GoodIn wsX7_post wsX7_isPerson := goodIn_r _ [13, 14, 15, 12, 16] (by decide +kernel) (by decide +kernel)
set_option maxRecDepth 20000 in
theorem gX7_post_X7_isPerson : GoodIn wsX7_post (va_wsS RX7 120 yX7_isPerson wsX7_isPerson) := goodIn_app (goodIn_of _ (by decide +kernel)) ggX7_post_X7_isPerson
set_option maxRecDepth 20000 in
theorem ggX7_post_X7_isThread : GoodIn wsX7_post wsX7_isThread := goodIn_r _ [20, 4, 14, 15, 12, 16, 47, 48, 49, 50, 51, 52, 53, 54, 55, 56, 57, 58, 59, 60, 61, 62, 63, 64, 65, 66, 67, 68, 69, 70, 71, 72, 73, 74, 75, 76, 77, 78] (by decide +kernel) (by decide +kernel)
set_option maxRecDepth 20000 in
theorem gX7_post_X7_isThread : GoodIn wsX7_post (wsV RX7 176 RX7 yX7_isThread wsX7_isThread) := goodIn_app (goodIn_of _ (by decide +kernel)) ggX7_post_X7_isThread
set_option maxRecDepth 20000 in
theorem ggX7_post_X7_isGood : GoodIn wsX7_post wsX7_isGood := goodIn_r _ [24, 7, 9, 25, 26, 12, 27, 28, 29, 30, 31, 32, 33, 34, 47, 48, 49, 50, 51, 52, 53, 54, 55, 56, 57, 58, 59, 60, 61, 62, 63, 64, 65, 66, 67, 68, 69, 70, 71, 72, 73, 74, 75, 76, 77, 78] (by decide +kernel) (by decide +kernel)
set_option maxRecDepth 20000 in
theorem gX7_post_X7_isGood : GoodIn wsX7_post (wsV RX7 169 RX7 yX7_isGood wsX7_isGood) := goodIn_app (goodIn_of _ (by decide +kernel)) ggX7_post_X7_isGood
set_option maxRecDepth 20000 in
theorem ggX7_post_X7_meant : GoodIn wsX7_post wsX7_meant := goodIn_r _ [38, 7, 9, 47, 48, 49, 50, 51, 52, 53, 54, 55, 56, 57, 58, 59, 60, 61, 62, 63, 64, 65, 66, 67, 68, 69, 70, 71, 72, 73, 74, 75, 76, 77, 78] (by decide +kernel) (by decide +kernel)
set_option maxRecDepth 20000 in
theorem gX7_post_X7_meant : GoodIn wsX7_post (wsV RX7 182 RX7 yX7_meant wsX7_meant) := goodIn_app (goodIn_of _ (by decide +kernel)) ggX7_post_X7_meant
set_option maxRecDepth 20000 in
theorem ggX7_post_X7_notes : GoodIn wsX7_post wsX7_notes := goodIn_r _ [42, 43, 44, 45, 46, 47, 48, 49, 50, 51, 52, 53, 54, 55, 56, 57, 58, 59, 60, 61, 62, 63, 64, 65, 66, 67, 68, 69, 70, 71, 72, 73, 74, 75, 76, 77, 78] (by decide +kernel) (by decide +kernel)
set_option maxRecDepth 20000 in
theorem gX7_post_X7_notes : GoodIn wsX7_post (wsV RX7 102 RX7 yX7_notes wsX7_notes) := goodIn_app (goodIn_of _ (by decide +kernel)) ggX7_post_X7_notes
theorem dX7_post_0 : decode cX7_post 0 = .ok (.aload_n 0, 1) := by decide +kernel
theorem dX7_post_1 : decode cX7_post 1 = .ok (.iload_n 1, 1) := by decide +kernel
theorem dX7_post_2 : decode cX7_post 2 = .ok (.invokestatic 120, 3) := by decide +kernel
theorem dX7_post_5 : decode cX7_post 5 = .ok (.ifCond .eq 16, 3) := by decide +kernel
theorem dX7_post_8 : decode cX7_post 8 = .ok (.iload_n 2, 1) := by decide +kernel
theorem dX7_post_9 : decode cX7_post 9 = .ok (.iconst (-1), 1) := by decide +kernel
theorem dX7_post_10 : decode cX7_post 10 = .ok (.if_icmp .eq 15, 3) := by decide +kernel
theorem dX7_post_13 : decode cX7_post 13 = .ok (.aload_n 0, 1) := by decide +kernel
theorem dX7_post_14 : decode cX7_post 14 = .ok (.iload_n 2, 1) := by decide +kernel
theorem dX7_post_15 : decode cX7_post 15 = .ok (.invokevirtual 176, 3) := by decide +kernel
theorem dX7_post_18 : decode cX7_post 18 = .ok (.ifCond .ne 7, 3) := by decide +kernel
theorem dX7_post_21 : decode cX7_post 21 = .ok (.iconst 1, 1) := by decide +kernel
theorem dX7_post_22 : decode cX7_post 22 = .ok (.goto 33, 3) := by decide +kernel
theorem dX7_post_25 : decode cX7_post 25 = .ok (.aload_n 0, 1) := by decide +kernel
theorem dX7_post_26 : decode cX7_post 26 = .ok (.getfield 17, 3) := by decide +kernel
theorem dX7_post_29 : decode cX7_post 29 = .ok (.iload_n 1, 1) := by decide +kernel
theorem dX7_post_30 : decode cX7_post 30 = .ok (.baload, 1) := by decide +kernel
theorem dX7_post_31 : decode cX7_post 31 = .ok (.ifCond .ne 19, 3) := by decide +kernel
theorem dX7_post_34 : decode cX7_post 34 = .ok (.aload_n 0, 1) := by decide +kernel
theorem dX7_post_35 : decode cX7_post 35 = .ok (.invokevirtual 169, 3) := by decide +kernel
theorem dX7_post_38 : decode cX7_post 38 = .ok (.ifCond .eq 12, 3) := by decide +kernel
theorem dX7_post_41 : decode cX7_post 41 = .ok (.aload_n 0, 1) := by decide +kernel
theorem dX7_post_42 : decode cX7_post 42 = .ok (.getfield 179, 3) := by decide +kernel
theorem dX7_post_45 : decode cX7_post 45 = .ok (.bipush 60, 2) := by decide +kernel
theorem dX7_post_47 : decode cX7_post 47 = .ok (.if_icmp .ne 7, 3) := by decide +kernel
theorem dX7_post_50 : decode cX7_post 50 = .ok (.iconst 2, 1) := by decide +kernel
theorem dX7_post_51 : decode cX7_post 51 = .ok (.goto 4, 3) := by decide +kernel
theorem dX7_post_54 : decode cX7_post 54 = .ok (.iconst 0, 1) := by decide +kernel
theorem dX7_post_55 : decode cX7_post 55 = .ok (.putfield 76, 3) := by decide +kernel
theorem dX7_post_58 : decode cX7_post 58 = .ok (.aload_n 0, 1) := by decide +kernel
theorem dX7_post_59 : decode cX7_post 59 = .ok (.getfield 76, 3) := by decide +kernel
theorem dX7_post_62 : decode cX7_post 62 = .ok (.ifCond .le 5, 3) := by decide +kernel
theorem dX7_post_65 : decode cX7_post 65 = .ok (.iconst 0, 1) := by decide +kernel
theorem dX7_post_66 : decode cX7_post 66 = .ok (.ireturn, 1) := by decide +kernel
theorem dX7_post_67 : decode cX7_post 67 = .ok (.iload_n 2, 1) := by decide +kernel
theorem dX7_post_68 : decode cX7_post 68 = .ok (.istore_n 3, 1) := by decide +kernel
theorem dX7_post_69 : decode cX7_post 69 = .ok (.iload_n 2, 1) := by decide +kernel
theorem dX7_post_70 : decode cX7_post 70 = .ok (.iconst (-1), 1) := by decide +kernel
theorem dX7_post_71 : decode cX7_post 71 = .ok (.if_icmp .ne 28, 3) := by decide +kernel
theorem dX7_post_74 : decode cX7_post 74 = .ok (.aload_n 0, 1) := by decide +kernel
theorem dX7_post_75 : decode cX7_post 75 = .ok (.getfield 173, 3) := by decide +kernel
theorem dX7_post_78 : decode cX7_post 78 = .ok (.istore_n 3, 1) := by decide +kernel
theorem dX7_post_79 : decode cX7_post 79 = .ok (.aload_n 0, 1) := by decide +kernel
theorem dX7_post_80 : decode cX7_post 80 = .ok (.getfield 70, 3) := by decide +kernel
theorem dX7_post_83 : decode cX7_post 83 = .ok (.aload_n 0, 1) := by decide +kernel
theorem dX7_post_84 : decode cX7_post 84 = .ok (.getfield 173, 3) := by decide +kernel
theorem dX7_post_87 : decode cX7_post 87 = .ok (.iconst (-1), 1) := by decide +kernel
theorem dX7_post_88 : decode cX7_post 88 = .ok (.iastore, 1) := by decide +kernel
theorem dX7_post_89 : decode cX7_post 89 = .ok (.aload_n 0, 1) := by decide +kernel
theorem dX7_post_90 : decode cX7_post 90 = .ok (.dup, 1) := by decide +kernel
theorem dX7_post_91 : decode cX7_post 91 = .ok (.getfield 173, 3) := by decide +kernel
theorem dX7_post_94 : decode cX7_post 94 = .ok (.iconst 1, 1) := by decide +kernel
theorem dX7_post_95 : decode cX7_post 95 = .ok (.iadd, 1) := by decide +kernel
theorem dX7_post_96 : decode cX7_post 96 = .ok (.putfield 173, 3) := by decide +kernel
theorem dX7_post_99 : decode cX7_post 99 = .ok (.aload_n 0, 1) := by decide +kernel
theorem dX7_post_100 : decode cX7_post 100 = .ok (.getfield 64, 3) := by decide +kernel
theorem dX7_post_103 : decode cX7_post 103 = .ok (.aload_n 0, 1) := by decide +kernel
theorem dX7_post_104 : decode cX7_post 104 = .ok (.getfield 179, 3) := by decide +kernel
theorem dX7_post_107 : decode cX7_post 107 = .ok (.aload_n 0, 1) := by decide +kernel
theorem dX7_post_108 : decode cX7_post 108 = .ok (.getfield 155, 3) := by decide +kernel
theorem dX7_post_111 : decode cX7_post 111 = .ok (.iastore, 1) := by decide +kernel
theorem dX7_post_112 : decode cX7_post 112 = .ok (.iconst 0, 1) := by decide +kernel
theorem dX7_post_113 : decode cX7_post 113 = .ok (.istore 4, 2) := by decide +kernel
theorem dX7_post_115 : decode cX7_post 115 = .ok (.iload 4, 2) := by decide +kernel
theorem dX7_post_117 : decode cX7_post 117 = .ok (.aload_n 0, 1) := by decide +kernel
theorem dX7_post_118 : decode cX7_post 118 = .ok (.getfield 155, 3) := by decide +kernel
theorem dX7_post_121 : decode cX7_post 121 = .ok (.if_icmp .ge 31, 3) := by decide +kernel
theorem dX7_post_124 : decode cX7_post 124 = .ok (.aload_n 0, 1) := by decide +kernel
theorem dX7_post_125 : decode cX7_post 125 = .ok (.getfield 67, 3) := by decide +kernel
theorem dX7_post_128 : decode cX7_post 128 = .ok (.bipush 40, 2) := by decide +kernel
theorem dX7_post_130 : decode cX7_post 130 = .ok (.aload_n 0, 1) := by decide +kernel
theorem dX7_post_131 : decode cX7_post 131 = .ok (.getfield 179, 3) := by decide +kernel
theorem dX7_post_134 : decode cX7_post 134 = .ok (.imul, 1) := by decide +kernel
theorem dX7_post_135 : decode cX7_post 135 = .ok (.iload 4, 2) := by decide +kernel
theorem dX7_post_137 : decode cX7_post 137 = .ok (.iadd, 1) := by decide +kernel
theorem dX7_post_138 : decode cX7_post 138 = .ok (.aload_n 0, 1) := by decide +kernel
theorem dX7_post_139 : decode cX7_post 139 = .ok (.getfield 60, 3) := by decide +kernel
theorem dX7_post_142 : decode cX7_post 142 = .ok (.iload 4, 2) := by decide +kernel
theorem dX7_post_144 : decode cX7_post 144 = .ok (.caload, 1) := by decide +kernel
theorem dX7_post_145 : decode cX7_post 145 = .ok (.castore, 1) := by decide +kernel
theorem dX7_post_146 : decode cX7_post 146 = .ok (.iinc 4 1, 3) := by decide +kernel
theorem dX7_post_149 : decode cX7_post 149 = .ok (.goto (-34), 3) := by decide +kernel
theorem dX7_post_152 : decode cX7_post 152 = .ok (.aload_n 0, 1) := by decide +kernel
theorem dX7_post_153 : decode cX7_post 153 = .ok (.dup, 1) := by decide +kernel
theorem dX7_post_154 : decode cX7_post 154 = .ok (.getfield 179, 3) := by decide +kernel
theorem dX7_post_157 : decode cX7_post 157 = .ok (.iconst 1, 1) := by decide +kernel
theorem dX7_post_158 : decode cX7_post 158 = .ok (.iadd, 1) := by decide +kernel
theorem dX7_post_159 : decode cX7_post 159 = .ok (.putfield 179, 3) := by decide +kernel
theorem dX7_post_162 : decode cX7_post 162 = .ok (.aload_n 0, 1) := by decide +kernel
theorem dX7_post_163 : decode cX7_post 163 = .ok (.invokevirtual 182, 3) := by decide +kernel
theorem dX7_post_166 : decode cX7_post 166 = .ok (.istore 4, 2) := by decide +kernel
theorem dX7_post_168 : decode cX7_post 168 = .ok (.iload 4, 2) := by decide +kernel
theorem dX7_post_170 : decode cX7_post 170 = .ok (.iconst (-1), 1) := by decide +kernel
theorem dX7_post_171 : decode cX7_post 171 = .ok (.if_icmp .eq 19, 3) := by decide +kernel
theorem dX7_post_174 : decode cX7_post 174 = .ok (.aload_n 0, 1) := by decide +kernel
theorem dX7_post_175 : decode cX7_post 175 = .ok (.getfield 70, 3) := by decide +kernel
theorem dX7_post_178 : decode cX7_post 178 = .ok (.iload_n 3, 1) := by decide +kernel
theorem dX7_post_179 : decode cX7_post 179 = .ok (.iload 4, 2) := by decide +kernel
theorem dX7_post_181 : decode cX7_post 181 = .ok (.iastore, 1) := by decide +kernel
theorem dX7_post_182 : decode cX7_post 182 = .ok (.aload_n 0, 1) := by decide +kernel
theorem dX7_post_183 : decode cX7_post 183 = .ok (.iconst 5, 1) := by decide +kernel
theorem dX7_post_184 : decode cX7_post 184 = .ok (.iload 4, 2) := by decide +kernel
theorem dX7_post_186 : decode cX7_post 186 = .ok (.iload_n 3, 1) := by decide +kernel
theorem dX7_post_187 : decode cX7_post 187 = .ok (.invokevirtual 102, 3) := by decide +kernel
theorem dX7_post_190 : decode cX7_post 190 = .ok (.aload_n 0, 1) := by decide +kernel
theorem dX7_post_191 : decode cX7_post 191 = .ok (.iconst 0, 1) := by decide +kernel
theorem dX7_post_192 : decode cX7_post 192 = .ok (.putfield 155, 3) := by decide +kernel
theorem dX7_post_195 : decode cX7_post 195 = .ok (.iload_n 3, 1) := by decide +kernel
theorem dX7_post_196 : decode cX7_post 196 = .ok (.ireturn, 1) := by decide +kernel
set_option maxRecDepth 20000 in
theorem ggX7_finish_X7_isPerson : GoodIn wsX7_finish wsX7_isPerson := goodIn_r _ [7, 8, 9, 6, 10] (by decide +kernel) (by decide +kernel)
set_option maxRecDepth 20000 in
theorem gX7_finish_X7_isPerson : GoodIn wsX7_finish (va_wsS RX7 120 yX7_isPerson wsX7_isPerson) := goodIn_app (goodIn_of _ (by decide +kernel)) ggX7_finish_X7_isPerson
set_option maxRecDepth 20000 in
theorem ggX7_finish_X7_isThread : GoodIn wsX7_finish wsX7_isThread := goodIn_r _ [14, 15, 8, 9, 6, 10, 24, 25, 26, 27, 28, 29, 30, 31, 32, 33, 34, 35, 36, 37, 38, 39, 40, 41, 42, 43, 44, 45, 46, 47, 48, 49, 50, 51, 52, 53, 54, 55] (by decide +kernel) (by decide +kernel)
set_option maxRecDepth 20000 in
theorem gX7_finish_X7_isThread : GoodIn wsX7_finish (wsV RX7 176 RX7 yX7_isThread wsX7_isThread) := goodIn_app (goodIn_of _ (by decide +kernel)) ggX7_finish_X7_isThread
set_option maxRecDepth 20000 in
theorem ggX7_finish_X7_notes : GoodIn wsX7_finish wsX7_notes := goodIn_r _ [19, 20, 21, 22, 23, 24, 25, 26, 27, 28, 29, 30, 31, 32, 33, 34, 35, 36, 37, 38, 39, 40, 41, 42, 43, 44, 45, 46, 47, 48, 49, 50, 51, 52, 53, 54, 55] (by decide +kernel) (by decide +kernel)
set_option maxRecDepth 20000 in
theorem gX7_finish_X7_notes : GoodIn wsX7_finish (wsV RX7 102 RX7 yX7_notes wsX7_notes) := goodIn_app (goodIn_of _ (by decide +kernel)) ggX7_finish_X7_notes
theorem dX7_finish_0 : decode cX7_finish 0 = .ok (.aload_n 0, 1) := by decide +kernel
theorem dX7_finish_1 : decode cX7_finish 1 = .ok (.iload_n 1, 1) := by decide +kernel
theorem dX7_finish_2 : decode cX7_finish 2 = .ok (.invokestatic 120, 3) := by decide +kernel
theorem dX7_finish_5 : decode cX7_finish 5 = .ok (.ifCond .eq 11, 3) := by decide +kernel
theorem dX7_finish_8 : decode cX7_finish 8 = .ok (.aload_n 0, 1) := by decide +kernel
theorem dX7_finish_9 : decode cX7_finish 9 = .ok (.iload_n 2, 1) := by decide +kernel
theorem dX7_finish_10 : decode cX7_finish 10 = .ok (.invokevirtual 176, 3) := by decide +kernel
theorem dX7_finish_13 : decode cX7_finish 13 = .ok (.ifCond .ne 7, 3) := by decide +kernel
theorem dX7_finish_16 : decode cX7_finish 16 = .ok (.iconst 1, 1) := by decide +kernel
theorem dX7_finish_17 : decode cX7_finish 17 = .ok (.goto 27, 3) := by decide +kernel
theorem dX7_finish_20 : decode cX7_finish 20 = .ok (.aload_n 0, 1) := by decide +kernel
theorem dX7_finish_21 : decode cX7_finish 21 = .ok (.getfield 70, 3) := by decide +kernel
theorem dX7_finish_24 : decode cX7_finish 24 = .ok (.iload_n 2, 1) := by decide +kernel
theorem dX7_finish_25 : decode cX7_finish 25 = .ok (.iaload, 1) := by decide +kernel
theorem dX7_finish_26 : decode cX7_finish 26 = .ok (.iload_n 1, 1) := by decide +kernel
theorem dX7_finish_27 : decode cX7_finish 27 = .ok (.if_icmp .ne 12, 3) := by decide +kernel
theorem dX7_finish_30 : decode cX7_finish 30 = .ok (.aload_n 0, 1) := by decide +kernel
theorem dX7_finish_31 : decode cX7_finish 31 = .ok (.getfield 17, 3) := by decide +kernel
theorem dX7_finish_34 : decode cX7_finish 34 = .ok (.iload_n 1, 1) := by decide +kernel
theorem dX7_finish_35 : decode cX7_finish 35 = .ok (.baload, 1) := by decide +kernel
theorem dX7_finish_36 : decode cX7_finish 36 = .ok (.ifCond .eq 7, 3) := by decide +kernel
theorem dX7_finish_39 : decode cX7_finish 39 = .ok (.iconst 2, 1) := by decide +kernel
theorem dX7_finish_40 : decode cX7_finish 40 = .ok (.goto 4, 3) := by decide +kernel
theorem dX7_finish_43 : decode cX7_finish 43 = .ok (.iconst 0, 1) := by decide +kernel
theorem dX7_finish_44 : decode cX7_finish 44 = .ok (.putfield 76, 3) := by decide +kernel
theorem dX7_finish_47 : decode cX7_finish 47 = .ok (.aload_n 0, 1) := by decide +kernel
theorem dX7_finish_48 : decode cX7_finish 48 = .ok (.getfield 76, 3) := by decide +kernel
theorem dX7_finish_51 : decode cX7_finish 51 = .ok (.ifCond .ne 18, 3) := by decide +kernel
theorem dX7_finish_54 : decode cX7_finish 54 = .ok (.aload_n 0, 1) := by decide +kernel
theorem dX7_finish_55 : decode cX7_finish 55 = .ok (.getfield 70, 3) := by decide +kernel
theorem dX7_finish_58 : decode cX7_finish 58 = .ok (.iload_n 2, 1) := by decide +kernel
theorem dX7_finish_59 : decode cX7_finish 59 = .ok (.iconst (-1), 1) := by decide +kernel
theorem dX7_finish_60 : decode cX7_finish 60 = .ok (.iastore, 1) := by decide +kernel
theorem dX7_finish_61 : decode cX7_finish 61 = .ok (.aload_n 0, 1) := by decide +kernel
theorem dX7_finish_62 : decode cX7_finish 62 = .ok (.bipush 6, 2) := by decide +kernel
theorem dX7_finish_64 : decode cX7_finish 64 = .ok (.iload_n 1, 1) := by decide +kernel
theorem dX7_finish_65 : decode cX7_finish 65 = .ok (.iload_n 2, 1) := by decide +kernel
theorem dX7_finish_66 : decode cX7_finish 66 = .ok (.invokevirtual 102, 3) := by decide +kernel
theorem dX7_finish_69 : decode cX7_finish 69 = .ok (.return_, 1) := by decide +kernel
set_option maxRecDepth 20000 in
theorem ggX7_taskOf_X7_isThread : GoodIn wsX7_taskOf wsX7_isThread := goodIn_r _ [7, 8, 9, 10, 6, 11, 12, 13, 14, 15, 16, 17, 18, 19, 20, 21, 22, 23, 24, 25, 26, 27, 28, 29, 30, 31, 32, 33, 34, 35, 36, 37, 38, 39, 40, 41, 42, 43] (by decide +kernel) (by decide +kernel)
set_option maxRecDepth 20000 in
theorem gX7_taskOf_X7_isThread : GoodIn wsX7_taskOf (wsV RX7 176 RX7 yX7_isThread wsX7_isThread) := goodIn_app (goodIn_of _ (by decide +kernel)) ggX7_taskOf_X7_isThread
theorem dX7_taskOf_0 : decode cX7_taskOf 0 = .ok (.aload_n 0, 1) := by decide +kernel
theorem dX7_taskOf_1 : decode cX7_taskOf 1 = .ok (.aload_n 0, 1) := by decide +kernel
theorem dX7_taskOf_2 : decode cX7_taskOf 2 = .ok (.iload_n 1, 1) := by decide +kernel
theorem dX7_taskOf_3 : decode cX7_taskOf 3 = .ok (.invokevirtual 176, 3) := by decide +kernel
theorem dX7_taskOf_6 : decode cX7_taskOf 6 = .ok (.ifCond .eq 7, 3) := by decide +kernel
theorem dX7_taskOf_9 : decode cX7_taskOf 9 = .ok (.iconst 0, 1) := by decide +kernel
theorem dX7_taskOf_10 : decode cX7_taskOf 10 = .ok (.goto 4, 3) := by decide +kernel
theorem dX7_taskOf_13 : decode cX7_taskOf 13 = .ok (.iconst 1, 1) := by decide +kernel
theorem dX7_taskOf_14 : decode cX7_taskOf 14 = .ok (.putfield 76, 3) := by decide +kernel
theorem dX7_taskOf_17 : decode cX7_taskOf 17 = .ok (.aload_n 0, 1) := by decide +kernel
theorem dX7_taskOf_18 : decode cX7_taskOf 18 = .ok (.getfield 76, 3) := by decide +kernel
theorem dX7_taskOf_21 : decode cX7_taskOf 21 = .ok (.ifCond .le 7, 3) := by decide +kernel
theorem dX7_taskOf_24 : decode cX7_taskOf 24 = .ok (.iconst 0, 1) := by decide +kernel
theorem dX7_taskOf_25 : decode cX7_taskOf 25 = .ok (.goto 9, 3) := by decide +kernel
theorem dX7_taskOf_28 : decode cX7_taskOf 28 = .ok (.aload_n 0, 1) := by decide +kernel
theorem dX7_taskOf_29 : decode cX7_taskOf 29 = .ok (.getfield 70, 3) := by decide +kernel
theorem dX7_taskOf_32 : decode cX7_taskOf 32 = .ok (.iload_n 1, 1) := by decide +kernel
theorem dX7_taskOf_33 : decode cX7_taskOf 33 = .ok (.iaload, 1) := by decide +kernel
theorem dX7_taskOf_34 : decode cX7_taskOf 34 = .ok (.ireturn, 1) := by decide +kernel
theorem dX7_messages_0 : decode cX7_messages 0 = .ok (.aload_n 0, 1) := by decide +kernel
theorem dX7_messages_1 : decode cX7_messages 1 = .ok (.iconst 0, 1) := by decide +kernel
theorem dX7_messages_2 : decode cX7_messages 2 = .ok (.putfield 76, 3) := by decide +kernel
theorem dX7_messages_5 : decode cX7_messages 5 = .ok (.aload_n 0, 1) := by decide +kernel
theorem dX7_messages_6 : decode cX7_messages 6 = .ok (.getfield 179, 3) := by decide +kernel
theorem dX7_messages_9 : decode cX7_messages 9 = .ok (.ireturn, 1) := by decide +kernel
set_option maxRecDepth 20000 in
theorem ggX7_laysSigns_X7_isHighOne : GoodIn wsX7_laysSigns wsX7_isHighOne := goodIn_r _ [11, 5, 12] (by decide +kernel) (by decide +kernel)
set_option maxRecDepth 20000 in
theorem gX7_laysSigns_X7_isHighOne : GoodIn wsX7_laysSigns (va_wsS RX7 166 yX7_isHighOne wsX7_isHighOne) := goodIn_app (goodIn_of _ (by decide +kernel)) ggX7_laysSigns_X7_isHighOne
theorem dX7_laysSigns_0 : decode cX7_laysSigns 0 = .ok (.aload_n 0, 1) := by decide +kernel
theorem dX7_laysSigns_1 : decode cX7_laysSigns 1 = .ok (.iconst 0, 1) := by decide +kernel
theorem dX7_laysSigns_2 : decode cX7_laysSigns 2 = .ok (.putfield 186, 3) := by decide +kernel
theorem dX7_laysSigns_5 : decode cX7_laysSigns 5 = .ok (.iconst 0, 1) := by decide +kernel
theorem dX7_laysSigns_6 : decode cX7_laysSigns 6 = .ok (.istore_n 2, 1) := by decide +kernel
theorem dX7_laysSigns_7 : decode cX7_laysSigns 7 = .ok (.iload_n 2, 1) := by decide +kernel
theorem dX7_laysSigns_8 : decode cX7_laysSigns 8 = .ok (.aload_n 0, 1) := by decide +kernel
theorem dX7_laysSigns_9 : decode cX7_laysSigns 9 = .ok (.getfield 64, 3) := by decide +kernel
theorem dX7_laysSigns_12 : decode cX7_laysSigns 12 = .ok (.iload_n 1, 1) := by decide +kernel
theorem dX7_laysSigns_13 : decode cX7_laysSigns 13 = .ok (.iaload, 1) := by decide +kernel
theorem dX7_laysSigns_14 : decode cX7_laysSigns 14 = .ok (.if_icmp .ge 88, 3) := by decide +kernel
theorem dX7_laysSigns_17 : decode cX7_laysSigns 17 = .ok (.aload_n 0, 1) := by decide +kernel
theorem dX7_laysSigns_18 : decode cX7_laysSigns 18 = .ok (.getfield 67, 3) := by decide +kernel
theorem dX7_laysSigns_21 : decode cX7_laysSigns 21 = .ok (.bipush 40, 2) := by decide +kernel
theorem dX7_laysSigns_23 : decode cX7_laysSigns 23 = .ok (.iload_n 1, 1) := by decide +kernel
theorem dX7_laysSigns_24 : decode cX7_laysSigns 24 = .ok (.imul, 1) := by decide +kernel
theorem dX7_laysSigns_25 : decode cX7_laysSigns 25 = .ok (.iload_n 2, 1) := by decide +kernel
theorem dX7_laysSigns_26 : decode cX7_laysSigns 26 = .ok (.iadd, 1) := by decide +kernel
theorem dX7_laysSigns_27 : decode cX7_laysSigns 27 = .ok (.caload, 1) := by decide +kernel
theorem dX7_laysSigns_28 : decode cX7_laysSigns 28 = .ok (.istore_n 3, 1) := by decide +kernel
theorem dX7_laysSigns_29 : decode cX7_laysSigns 29 = .ok (.aload_n 0, 1) := by decide +kernel
theorem dX7_laysSigns_30 : decode cX7_laysSigns 30 = .ok (.getfield 67, 3) := by decide +kernel
theorem dX7_laysSigns_33 : decode cX7_laysSigns 33 = .ok (.bipush 40, 2) := by decide +kernel
theorem dX7_laysSigns_35 : decode cX7_laysSigns 35 = .ok (.iload_n 1, 1) := by decide +kernel
theorem dX7_laysSigns_36 : decode cX7_laysSigns 36 = .ok (.imul, 1) := by decide +kernel
theorem dX7_laysSigns_37 : decode cX7_laysSigns 37 = .ok (.iload_n 2, 1) := by decide +kernel
theorem dX7_laysSigns_38 : decode cX7_laysSigns 38 = .ok (.iadd, 1) := by decide +kernel
theorem dX7_laysSigns_39 : decode cX7_laysSigns 39 = .ok (.caload, 1) := by decide +kernel
theorem dX7_laysSigns_40 : decode cX7_laysSigns 40 = .ok (.invokestatic 166, 3) := by decide +kernel
theorem dX7_laysSigns_43 : decode cX7_laysSigns 43 = .ok (.ifCond .eq 33, 3) := by decide +kernel
theorem dX7_laysSigns_46 : decode cX7_laysSigns 46 = .ok (.iinc 2 1, 3) := by decide +kernel
theorem dX7_laysSigns_49 : decode cX7_laysSigns 49 = .ok (.ldc 189, 2) := by decide +kernel
theorem dX7_laysSigns_51 : decode cX7_laysSigns 51 = .ok (.iload_n 3, 1) := by decide +kernel
theorem dX7_laysSigns_52 : decode cX7_laysSigns 52 = .ok (.ldc 158, 2) := by decide +kernel
theorem dX7_laysSigns_54 : decode cX7_laysSigns 54 = .ok (.isub, 1) := by decide +kernel
theorem dX7_laysSigns_55 : decode cX7_laysSigns 55 = .ok (.sipush 1024, 3) := by decide +kernel
theorem dX7_laysSigns_58 : decode cX7_laysSigns 58 = .ok (.imul, 1) := by decide +kernel
theorem dX7_laysSigns_59 : decode cX7_laysSigns 59 = .ok (.iadd, 1) := by decide +kernel
theorem dX7_laysSigns_60 : decode cX7_laysSigns 60 = .ok (.aload_n 0, 1) := by decide +kernel
theorem dX7_laysSigns_61 : decode cX7_laysSigns 61 = .ok (.getfield 67, 3) := by decide +kernel
theorem dX7_laysSigns_64 : decode cX7_laysSigns 64 = .ok (.bipush 40, 2) := by decide +kernel
theorem dX7_laysSigns_66 : decode cX7_laysSigns 66 = .ok (.iload_n 1, 1) := by decide +kernel
theorem dX7_laysSigns_67 : decode cX7_laysSigns 67 = .ok (.imul, 1) := by decide +kernel
theorem dX7_laysSigns_68 : decode cX7_laysSigns 68 = .ok (.iload_n 2, 1) := by decide +kernel
theorem dX7_laysSigns_69 : decode cX7_laysSigns 69 = .ok (.iadd, 1) := by decide +kernel
theorem dX7_laysSigns_70 : decode cX7_laysSigns 70 = .ok (.caload, 1) := by decide +kernel
theorem dX7_laysSigns_71 : decode cX7_laysSigns 71 = .ok (.iadd, 1) := by decide +kernel
theorem dX7_laysSigns_72 : decode cX7_laysSigns 72 = .ok (.ldc 160, 2) := by decide +kernel
theorem dX7_laysSigns_74 : decode cX7_laysSigns 74 = .ok (.isub, 1) := by decide +kernel
theorem dX7_laysSigns_75 : decode cX7_laysSigns 75 = .ok (.istore_n 3, 1) := by decide +kernel
theorem dX7_laysSigns_76 : decode cX7_laysSigns 76 = .ok (.aload_n 0, 1) := by decide +kernel
theorem dX7_laysSigns_77 : decode cX7_laysSigns 77 = .ok (.getfield 73, 3) := by decide +kernel
theorem dX7_laysSigns_80 : decode cX7_laysSigns 80 = .ok (.aload_n 0, 1) := by decide +kernel
theorem dX7_laysSigns_81 : decode cX7_laysSigns 81 = .ok (.getfield 186, 3) := by decide +kernel
theorem dX7_laysSigns_84 : decode cX7_laysSigns 84 = .ok (.iload_n 3, 1) := by decide +kernel
theorem dX7_laysSigns_85 : decode cX7_laysSigns 85 = .ok (.iastore, 1) := by decide +kernel
theorem dX7_laysSigns_86 : decode cX7_laysSigns 86 = .ok (.aload_n 0, 1) := by decide +kernel
theorem dX7_laysSigns_87 : decode cX7_laysSigns 87 = .ok (.dup, 1) := by decide +kernel
theorem dX7_laysSigns_88 : decode cX7_laysSigns 88 = .ok (.getfield 186, 3) := by decide +kernel
theorem dX7_laysSigns_91 : decode cX7_laysSigns 91 = .ok (.iconst 1, 1) := by decide +kernel
theorem dX7_laysSigns_92 : decode cX7_laysSigns 92 = .ok (.iadd, 1) := by decide +kernel
theorem dX7_laysSigns_93 : decode cX7_laysSigns 93 = .ok (.putfield 186, 3) := by decide +kernel
theorem dX7_laysSigns_96 : decode cX7_laysSigns 96 = .ok (.iinc 2 1, 3) := by decide +kernel
theorem dX7_laysSigns_99 : decode cX7_laysSigns 99 = .ok (.goto (-92), 3) := by decide +kernel
theorem dX7_laysSigns_102 : decode cX7_laysSigns 102 = .ok (.return_, 1) := by decide +kernel
set_option maxRecDepth 20000 in
theorem ggX7_asksMessage_X7_in : GoodIn wsX7_asksMessage wsX7_in := goodIn_r _ [6] (by decide +kernel) (by decide +kernel)
set_option maxRecDepth 20000 in
theorem gX7_asksMessage_X7_in : GoodIn wsX7_asksMessage (va_wsS RX7 80 yX7_in wsX7_in) := goodIn_app (goodIn_of _ (by decide +kernel)) ggX7_asksMessage_X7_in
set_option maxRecDepth 20000 in
theorem ggX7_asksMessage_X7_laysSigns : GoodIn wsX7_asksMessage wsX7_laysSigns := goodIn_r _ [10, 11, 12, 13, 14, 15, 16, 17, 18, 19, 5, 20, 21, 22, 23, 24, 25, 26, 27, 28, 29, 30, 31, 32, 33, 34, 35, 36, 37, 38, 39, 40, 41, 42, 43, 44, 45, 46, 47, 48, 49, 50, 51, 52, 53] (by decide +kernel) (by decide +kernel)
set_option maxRecDepth 20000 in
theorem gX7_asksMessage_X7_laysSigns : GoodIn wsX7_asksMessage (wsV RX7 190 RX7 yX7_laysSigns wsX7_laysSigns) := goodIn_app (goodIn_of _ (by decide +kernel)) ggX7_asksMessage_X7_laysSigns
theorem dX7_asksMessage_0 : decode cX7_asksMessage 0 = .ok (.aload_n 0, 1) := by decide +kernel
theorem dX7_asksMessage_1 : decode cX7_asksMessage 1 = .ok (.iload_n 1, 1) := by decide +kernel
theorem dX7_asksMessage_2 : decode cX7_asksMessage 2 = .ok (.iconst 0, 1) := by decide +kernel
theorem dX7_asksMessage_3 : decode cX7_asksMessage 3 = .ok (.aload_n 0, 1) := by decide +kernel
theorem dX7_asksMessage_4 : decode cX7_asksMessage 4 = .ok (.getfield 179, 3) := by decide +kernel
theorem dX7_asksMessage_7 : decode cX7_asksMessage 7 = .ok (.iconst 1, 1) := by decide +kernel
theorem dX7_asksMessage_8 : decode cX7_asksMessage 8 = .ok (.isub, 1) := by decide +kernel
theorem dX7_asksMessage_9 : decode cX7_asksMessage 9 = .ok (.invokestatic 80, 3) := by decide +kernel
theorem dX7_asksMessage_12 : decode cX7_asksMessage 12 = .ok (.ifCond .eq 7, 3) := by decide +kernel
theorem dX7_asksMessage_15 : decode cX7_asksMessage 15 = .ok (.iconst 0, 1) := by decide +kernel
theorem dX7_asksMessage_16 : decode cX7_asksMessage 16 = .ok (.goto 4, 3) := by decide +kernel
theorem dX7_asksMessage_19 : decode cX7_asksMessage 19 = .ok (.iconst 1, 1) := by decide +kernel
theorem dX7_asksMessage_20 : decode cX7_asksMessage 20 = .ok (.putfield 76, 3) := by decide +kernel
theorem dX7_asksMessage_23 : decode cX7_asksMessage 23 = .ok (.aload_n 0, 1) := by decide +kernel
theorem dX7_asksMessage_24 : decode cX7_asksMessage 24 = .ok (.getfield 76, 3) := by decide +kernel
theorem dX7_asksMessage_27 : decode cX7_asksMessage 27 = .ok (.ifCond .ne 8, 3) := by decide +kernel
theorem dX7_asksMessage_30 : decode cX7_asksMessage 30 = .ok (.aload_n 0, 1) := by decide +kernel
theorem dX7_asksMessage_31 : decode cX7_asksMessage 31 = .ok (.iload_n 1, 1) := by decide +kernel
theorem dX7_asksMessage_32 : decode cX7_asksMessage 32 = .ok (.invokevirtual 190, 3) := by decide +kernel
theorem dX7_asksMessage_35 : decode cX7_asksMessage 35 = .ok (.aload_n 0, 1) := by decide +kernel
theorem dX7_asksMessage_36 : decode cX7_asksMessage 36 = .ok (.getfield 76, 3) := by decide +kernel
theorem dX7_asksMessage_39 : decode cX7_asksMessage 39 = .ok (.ifCond .ne 7, 3) := by decide +kernel
theorem dX7_asksMessage_42 : decode cX7_asksMessage 42 = .ok (.iconst 1, 1) := by decide +kernel
theorem dX7_asksMessage_43 : decode cX7_asksMessage 43 = .ok (.goto 4, 3) := by decide +kernel
theorem dX7_asksMessage_46 : decode cX7_asksMessage 46 = .ok (.iconst 0, 1) := by decide +kernel
theorem dX7_asksMessage_47 : decode cX7_asksMessage 47 = .ok (.ireturn, 1) := by decide +kernel
set_option maxRecDepth 20000 in
theorem ggX7_signs_X7_asksMessage : GoodIn wsX7_signs wsX7_asksMessage := goodIn_r _ [6, 7, 8, 9, 10, 5, 11, 12, 13, 14, 15, 1, 16, 17, 18, 19, 20, 21, 22, 23, 24, 25, 26, 27, 28, 29, 30, 31, 32, 33, 34, 35, 36, 37, 38, 39, 40, 41, 42, 43, 44, 45, 46, 47, 48, 49, 50, 51, 52, 53, 54, 55, 56, 57] (by decide +kernel) (by decide +kernel)
set_option maxRecDepth 20000 in
theorem gX7_signs_X7_asksMessage : GoodIn wsX7_signs (wsV RX7 193 RX7 yX7_asksMessage wsX7_asksMessage) := goodIn_app (goodIn_of _ (by decide +kernel)) ggX7_signs_X7_asksMessage
theorem dX7_signs_0 : decode cX7_signs 0 = .ok (.aload_n 0, 1) := by decide +kernel
theorem dX7_signs_1 : decode cX7_signs 1 = .ok (.iload_n 1, 1) := by decide +kernel
theorem dX7_signs_2 : decode cX7_signs 2 = .ok (.invokevirtual 193, 3) := by decide +kernel
theorem dX7_signs_5 : decode cX7_signs 5 = .ok (.ifCond .eq 10, 3) := by decide +kernel
theorem dX7_signs_8 : decode cX7_signs 8 = .ok (.aload_n 0, 1) := by decide +kernel
theorem dX7_signs_9 : decode cX7_signs 9 = .ok (.getfield 186, 3) := by decide +kernel
theorem dX7_signs_12 : decode cX7_signs 12 = .ok (.goto 4, 3) := by decide +kernel
theorem dX7_signs_15 : decode cX7_signs 15 = .ok (.iconst 0, 1) := by decide +kernel
theorem dX7_signs_16 : decode cX7_signs 16 = .ok (.ireturn, 1) := by decide +kernel
set_option maxRecDepth 20000 in
theorem ggX7_signOf_X7_asksMessage : GoodIn wsX7_signOf wsX7_asksMessage := goodIn_r _ [8, 9, 1, 10, 11, 7, 12, 13, 14, 15, 16, 2, 17, 18, 19, 20, 21, 3, 22, 23, 24, 25, 26, 27, 28, 29, 30, 31, 32, 33, 34, 35, 36, 37, 38, 39, 40, 41, 42, 43, 44, 45, 46, 47, 48, 49, 50, 51, 52, 53, 54, 55, 56, 57] (by decide +kernel) (by decide +kernel)
set_option maxRecDepth 20000 in
theorem gX7_signOf_X7_asksMessage : GoodIn wsX7_signOf (wsV RX7 193 RX7 yX7_asksMessage wsX7_asksMessage) := goodIn_app (goodIn_of _ (by decide +kernel)) ggX7_signOf_X7_asksMessage
theorem dX7_signOf_0 : decode cX7_signOf 0 = .ok (.aload_n 0, 1) := by decide +kernel
theorem dX7_signOf_1 : decode cX7_signOf 1 = .ok (.iload_n 1, 1) := by decide +kernel
theorem dX7_signOf_2 : decode cX7_signOf 2 = .ok (.invokevirtual 193, 3) := by decide +kernel
theorem dX7_signOf_5 : decode cX7_signOf 5 = .ok (.ifCond .eq 11, 3) := by decide +kernel
theorem dX7_signOf_8 : decode cX7_signOf 8 = .ok (.iload_n 2, 1) := by decide +kernel
theorem dX7_signOf_9 : decode cX7_signOf 9 = .ok (.ifCond .lt 7, 3) := by decide +kernel
theorem dX7_signOf_12 : decode cX7_signOf 12 = .ok (.iconst 1, 1) := by decide +kernel
theorem dX7_signOf_13 : decode cX7_signOf 13 = .ok (.goto 4, 3) := by decide +kernel
theorem dX7_signOf_16 : decode cX7_signOf 16 = .ok (.iconst 0, 1) := by decide +kernel
theorem dX7_signOf_17 : decode cX7_signOf 17 = .ok (.istore 4, 2) := by decide +kernel
theorem dX7_signOf_19 : decode cX7_signOf 19 = .ok (.aload_n 0, 1) := by decide +kernel
theorem dX7_signOf_20 : decode cX7_signOf 20 = .ok (.iload 4, 2) := by decide +kernel
theorem dX7_signOf_22 : decode cX7_signOf 22 = .ok (.ifCond .eq 7, 3) := by decide +kernel
theorem dX7_signOf_25 : decode cX7_signOf 25 = .ok (.iconst 0, 1) := by decide +kernel
theorem dX7_signOf_26 : decode cX7_signOf 26 = .ok (.goto 4, 3) := by decide +kernel
theorem dX7_signOf_29 : decode cX7_signOf 29 = .ok (.iconst 1, 1) := by decide +kernel
theorem dX7_signOf_30 : decode cX7_signOf 30 = .ok (.putfield 76, 3) := by decide +kernel
theorem dX7_signOf_33 : decode cX7_signOf 33 = .ok (.iload 4, 2) := by decide +kernel
theorem dX7_signOf_35 : decode cX7_signOf 35 = .ok (.ifCond .ne 7, 3) := by decide +kernel
theorem dX7_signOf_38 : decode cX7_signOf 38 = .ok (.iconst 0, 1) := by decide +kernel
theorem dX7_signOf_39 : decode cX7_signOf 39 = .ok (.goto 36, 3) := by decide +kernel
theorem dX7_signOf_42 : decode cX7_signOf 42 = .ok (.iload_n 2, 1) := by decide +kernel
theorem dX7_signOf_43 : decode cX7_signOf 43 = .ok (.aload_n 0, 1) := by decide +kernel
theorem dX7_signOf_44 : decode cX7_signOf 44 = .ok (.getfield 186, 3) := by decide +kernel
theorem dX7_signOf_47 : decode cX7_signOf 47 = .ok (.if_icmp .lt 7, 3) := by decide +kernel
theorem dX7_signOf_50 : decode cX7_signOf 50 = .ok (.iconst (-1), 1) := by decide +kernel
theorem dX7_signOf_51 : decode cX7_signOf 51 = .ok (.goto 24, 3) := by decide +kernel
theorem dX7_signOf_54 : decode cX7_signOf 54 = .ok (.aload_n 0, 1) := by decide +kernel
theorem dX7_signOf_55 : decode cX7_signOf 55 = .ok (.getfield 73, 3) := by decide +kernel
theorem dX7_signOf_58 : decode cX7_signOf 58 = .ok (.iload_n 3, 1) := by decide +kernel
theorem dX7_signOf_59 : decode cX7_signOf 59 = .ok (.ifCond .eq 14, 3) := by decide +kernel
theorem dX7_signOf_62 : decode cX7_signOf 62 = .ok (.aload_n 0, 1) := by decide +kernel
theorem dX7_signOf_63 : decode cX7_signOf 63 = .ok (.getfield 186, 3) := by decide +kernel
theorem dX7_signOf_66 : decode cX7_signOf 66 = .ok (.iconst 1, 1) := by decide +kernel
theorem dX7_signOf_67 : decode cX7_signOf 67 = .ok (.isub, 1) := by decide +kernel
theorem dX7_signOf_68 : decode cX7_signOf 68 = .ok (.iload_n 2, 1) := by decide +kernel
theorem dX7_signOf_69 : decode cX7_signOf 69 = .ok (.isub, 1) := by decide +kernel
theorem dX7_signOf_70 : decode cX7_signOf 70 = .ok (.goto 4, 3) := by decide +kernel
theorem dX7_signOf_73 : decode cX7_signOf 73 = .ok (.iload_n 2, 1) := by decide +kernel
theorem dX7_signOf_74 : decode cX7_signOf 74 = .ok (.iaload, 1) := by decide +kernel
theorem dX7_signOf_75 : decode cX7_signOf 75 = .ok (.ireturn, 1) := by decide +kernel
set_option maxRecDepth 20000 in
theorem ggX7_signAt_X7_signOf : GoodIn wsX7_signAt wsX7_signOf := goodIn_r _ [5, 6, 7, 8, 9, 10, 11, 4, 12, 13, 14, 15, 16, 17, 18, 19, 20, 21, 22, 23, 24, 25, 26, 27, 28, 29, 30, 31, 32, 33, 34, 35, 36, 37, 38, 39, 40, 41, 42, 43, 44, 45, 46, 47, 48, 49, 50, 51, 52, 53, 54, 55, 56, 57, 58, 59, 60, 61] (by decide +kernel) (by decide +kernel)
set_option maxRecDepth 20000 in
theorem gX7_signAt_X7_signOf : GoodIn wsX7_signAt (wsV RX7 196 RX7 yX7_signOf wsX7_signOf) := goodIn_app (goodIn_of _ (by decide +kernel)) ggX7_signAt_X7_signOf
theorem dX7_signAt_0 : decode cX7_signAt 0 = .ok (.aload_n 0, 1) := by decide +kernel
theorem dX7_signAt_1 : decode cX7_signAt 1 = .ok (.iload_n 1, 1) := by decide +kernel
theorem dX7_signAt_2 : decode cX7_signAt 2 = .ok (.iload_n 2, 1) := by decide +kernel
theorem dX7_signAt_3 : decode cX7_signAt 3 = .ok (.iconst 0, 1) := by decide +kernel
theorem dX7_signAt_4 : decode cX7_signAt 4 = .ok (.invokevirtual 196, 3) := by decide +kernel
theorem dX7_signAt_7 : decode cX7_signAt 7 = .ok (.ireturn, 1) := by decide +kernel
set_option maxRecDepth 20000 in
theorem ggX7_signBack_X7_signOf : GoodIn wsX7_signBack wsX7_signOf := goodIn_r _ [5, 6, 7, 8, 9, 10, 11, 4, 12, 13, 14, 15, 16, 17, 18, 19, 20, 21, 22, 23, 24, 25, 26, 27, 28, 29, 30, 31, 32, 33, 34, 35, 36, 37, 38, 39, 40, 41, 42, 43, 44, 45, 46, 47, 48, 49, 50, 51, 52, 53, 54, 55, 56, 57, 58, 59, 60, 61] (by decide +kernel) (by decide +kernel)
set_option maxRecDepth 20000 in
theorem gX7_signBack_X7_signOf : GoodIn wsX7_signBack (wsV RX7 196 RX7 yX7_signOf wsX7_signOf) := goodIn_app (goodIn_of _ (by decide +kernel)) ggX7_signBack_X7_signOf
theorem dX7_signBack_0 : decode cX7_signBack 0 = .ok (.aload_n 0, 1) := by decide +kernel
theorem dX7_signBack_1 : decode cX7_signBack 1 = .ok (.iload_n 1, 1) := by decide +kernel
theorem dX7_signBack_2 : decode cX7_signBack 2 = .ok (.iload_n 2, 1) := by decide +kernel
theorem dX7_signBack_3 : decode cX7_signBack 3 = .ok (.iconst 1, 1) := by decide +kernel
theorem dX7_signBack_4 : decode cX7_signBack 4 = .ok (.invokevirtual 196, 3) := by decide +kernel
theorem dX7_signBack_7 : decode cX7_signBack 7 = .ok (.ireturn, 1) := by decide +kernel
theorem dJ9_max_7cf53_0 : decode cJ9_max_7cf53 0 = .ok (.iload_n 0, 1) := by decide +kernel
theorem dJ9_max_7cf53_1 : decode cJ9_max_7cf53 1 = .ok (.iload_n 1, 1) := by decide +kernel
theorem dJ9_max_7cf53_2 : decode cJ9_max_7cf53 2 = .ok (.if_icmp .lt 7, 3) := by decide +kernel
theorem dJ9_max_7cf53_5 : decode cJ9_max_7cf53 5 = .ok (.iload_n 0, 1) := by decide +kernel
theorem dJ9_max_7cf53_6 : decode cJ9_max_7cf53 6 = .ok (.goto 4, 3) := by decide +kernel
theorem dJ9_max_7cf53_9 : decode cJ9_max_7cf53 9 = .ok (.iload_n 1, 1) := by decide +kernel
theorem dJ9_max_7cf53_10 : decode cJ9_max_7cf53 10 = .ok (.ireturn, 1) := by decide +kernel
theorem dJ9_min_7cf53_0 : decode cJ9_min_7cf53 0 = .ok (.iload_n 0, 1) := by decide +kernel
theorem dJ9_min_7cf53_1 : decode cJ9_min_7cf53 1 = .ok (.iload_n 1, 1) := by decide +kernel
theorem dJ9_min_7cf53_2 : decode cJ9_min_7cf53 2 = .ok (.if_icmp .gt 7, 3) := by decide +kernel
theorem dJ9_min_7cf53_5 : decode cJ9_min_7cf53 5 = .ok (.iload_n 0, 1) := by decide +kernel
theorem dJ9_min_7cf53_6 : decode cJ9_min_7cf53 6 = .ok (.goto 4, 3) := by decide +kernel
theorem dJ9_min_7cf53_9 : decode cJ9_min_7cf53 9 = .ok (.iload_n 1, 1) := by decide +kernel
theorem dJ9_min_7cf53_10 : decode cJ9_min_7cf53 10 = .ok (.ireturn, 1) := by decide +kernel
theorem dJxa1e45_init_da8c8_0 : decode cJxa1e45_init_da8c8 0 = .ok (.aload_n 0, 1) := by decide +kernel
theorem dJxa1e45_init_da8c8_1 : decode cJxa1e45_init_da8c8 1 = .ok (.invokespecial 1, 3) := by decide +kernel
theorem dJxa1e45_init_da8c8_4 : decode cJxa1e45_init_da8c8 4 = .ok (.return_, 1) := by decide +kernel
set_option maxRecDepth 20000 in
theorem ggJxc12de_init_da8c8_Jxa1e45_init_da8c8 : GoodIn wsJxc12de_init_da8c8 wsJxa1e45_init_da8c8 := goodIn_r _ [5, 6, 7, 8] (by decide +kernel) (by decide +kernel)
set_option maxRecDepth 20000 in
theorem gJxc12de_init_da8c8_Jxa1e45_init_da8c8 : GoodIn wsJxc12de_init_da8c8 (wsJxa1e45_init_da8c8) := ggJxc12de_init_da8c8_Jxa1e45_init_da8c8
theorem dJxc12de_init_da8c8_0 : decode cJxc12de_init_da8c8 0 = .ok (.aload_n 0, 1) := by decide +kernel
theorem dJxc12de_init_da8c8_1 : decode cJxc12de_init_da8c8 1 = .ok (.invokespecial 1, 3) := by decide +kernel
theorem dJxc12de_init_da8c8_4 : decode cJxc12de_init_da8c8 4 = .ok (.aload_n 0, 1) := by decide +kernel
theorem dJxc12de_init_da8c8_5 : decode cJxc12de_init_da8c8 5 = .ok (.iconst 0, 1) := by decide +kernel
theorem dJxc12de_init_da8c8_6 : decode cJxc12de_init_da8c8 6 = .ok (.putfield 7, 3) := by decide +kernel
theorem dJxc12de_init_da8c8_9 : decode cJxc12de_init_da8c8 9 = .ok (.return_, 1) := by decide +kernel
set_option maxRecDepth 20000 in
theorem ggJx4a65c_init_da8c8_Jxc12de_init_da8c8 : GoodIn wsJx4a65c_init_da8c8 wsJxc12de_init_da8c8 := goodIn_r _ [6, 7, 8, 9, 10, 11, 12, 13, 14, 15, 16, 17] (by decide +kernel) (by decide +kernel)
set_option maxRecDepth 20000 in
theorem gJx4a65c_init_da8c8_Jxc12de_init_da8c8 : GoodIn wsJx4a65c_init_da8c8 (wsJxc12de_init_da8c8) := ggJx4a65c_init_da8c8_Jxc12de_init_da8c8
theorem dJx4a65c_init_da8c8_0 : decode cJx4a65c_init_da8c8 0 = .ok (.aload_n 0, 1) := by decide +kernel
theorem dJx4a65c_init_da8c8_1 : decode cJx4a65c_init_da8c8 1 = .ok (.invokespecial 1, 3) := by decide +kernel
theorem dJx4a65c_init_da8c8_4 : decode cJx4a65c_init_da8c8 4 = .ok (.aload_n 0, 1) := by decide +kernel
theorem dJx4a65c_init_da8c8_5 : decode cJx4a65c_init_da8c8 5 = .ok (.getstatic 39, 3) := by decide +kernel
theorem dJx4a65c_init_da8c8_8 : decode cJx4a65c_init_da8c8 8 = .ok (.putfield 9, 3) := by decide +kernel
theorem dJx4a65c_init_da8c8_11 : decode cJx4a65c_init_da8c8 11 = .ok (.return_, 1) := by decide +kernel
set_option maxRecDepth 20000 in
theorem ggJx4a65c_grow_92f84_J8_newLength_cabcc : GoodIn wsJx4a65c_grow_92f84 wsJ8_newLength_cabcc := goodIn_r _ [11, 12, 4, 5, 6, 13, 14, 15, 10, 16] (by decide +kernel) (by decide +kernel)
set_option maxRecDepth 20000 in
theorem gJx4a65c_grow_92f84_J8_newLength_cabcc : GoodIn wsJx4a65c_grow_92f84 (va_wsS RJx4a65c 73 yJ8_newLength_cabcc wsJ8_newLength_cabcc) := goodIn_app (goodIn_of _ (by decide +kernel)) ggJx4a65c_grow_92f84_J8_newLength_cabcc
set_option maxRecDepth 20000 in
theorem ggJx4a65c_grow_92f84_J7_copyOf_1904c : GoodIn wsJx4a65c_grow_92f84 wsJ7_copyOf_1904c := goodIn_r _ [20, 21, 22, 23, 24, 25, 26, 19, 27, 28, 29, 30, 31, 5, 32, 33, 34, 35, 36] (by decide +kernel) (by decide +kernel)
set_option maxRecDepth 20000 in
theorem gJx4a65c_grow_92f84_J7_copyOf_1904c : GoodIn wsJx4a65c_grow_92f84 (va_wsS RJx4a65c 66 yJ7_copyOf_1904c wsJ7_copyOf_1904c) := goodIn_app (goodIn_of _ (by decide +kernel)) ggJx4a65c_grow_92f84_J7_copyOf_1904c
theorem dJx4a65c_grow_92f84_0 : decode cJx4a65c_grow_92f84 0 = .ok (.aload_n 0, 1) := by decide +kernel
theorem dJx4a65c_grow_92f84_1 : decode cJx4a65c_grow_92f84 1 = .ok (.getfield 9, 3) := by decide +kernel
theorem dJx4a65c_grow_92f84_4 : decode cJx4a65c_grow_92f84 4 = .ok (.arraylength, 1) := by decide +kernel
theorem dJx4a65c_grow_92f84_5 : decode cJx4a65c_grow_92f84 5 = .ok (.istore_n 2, 1) := by decide +kernel
theorem dJx4a65c_grow_92f84_6 : decode cJx4a65c_grow_92f84 6 = .ok (.iload_n 2, 1) := by decide +kernel
theorem dJx4a65c_grow_92f84_7 : decode cJx4a65c_grow_92f84 7 = .ok (.ifCond .gt 13, 3) := by decide +kernel
theorem dJx4a65c_grow_92f84_10 : decode cJx4a65c_grow_92f84 10 = .ok (.aload_n 0, 1) := by decide +kernel
theorem dJx4a65c_grow_92f84_11 : decode cJx4a65c_grow_92f84 11 = .ok (.getfield 9, 3) := by decide +kernel
theorem dJx4a65c_grow_92f84_14 : decode cJx4a65c_grow_92f84 14 = .ok (.getstatic 39, 3) := by decide +kernel
theorem dJx4a65c_grow_92f84_17 : decode cJx4a65c_grow_92f84 17 = .ok (.if_acmp .eq 28, 3) := by decide +kernel
theorem dJx4a65c_grow_92f84_20 : decode cJx4a65c_grow_92f84 20 = .ok (.iload_n 2, 1) := by decide +kernel
theorem dJx4a65c_grow_92f84_21 : decode cJx4a65c_grow_92f84 21 = .ok (.iload_n 1, 1) := by decide +kernel
theorem dJx4a65c_grow_92f84_22 : decode cJx4a65c_grow_92f84 22 = .ok (.iload_n 2, 1) := by decide +kernel
theorem dJx4a65c_grow_92f84_23 : decode cJx4a65c_grow_92f84 23 = .ok (.isub, 1) := by decide +kernel
theorem dJx4a65c_grow_92f84_24 : decode cJx4a65c_grow_92f84 24 = .ok (.iload_n 2, 1) := by decide +kernel
theorem dJx4a65c_grow_92f84_25 : decode cJx4a65c_grow_92f84 25 = .ok (.iconst 1, 1) := by decide +kernel
theorem dJx4a65c_grow_92f84_26 : decode cJx4a65c_grow_92f84 26 = .ok (.ishr, 1) := by decide +kernel
theorem dJx4a65c_grow_92f84_27 : decode cJx4a65c_grow_92f84 27 = .ok (.invokestatic 73, 3) := by decide +kernel
theorem dJx4a65c_grow_92f84_30 : decode cJx4a65c_grow_92f84 30 = .ok (.istore_n 3, 1) := by decide +kernel
theorem dJx4a65c_grow_92f84_31 : decode cJx4a65c_grow_92f84 31 = .ok (.aload_n 0, 1) := by decide +kernel
theorem dJx4a65c_grow_92f84_32 : decode cJx4a65c_grow_92f84 32 = .ok (.aload_n 0, 1) := by decide +kernel
theorem dJx4a65c_grow_92f84_33 : decode cJx4a65c_grow_92f84 33 = .ok (.getfield 9, 3) := by decide +kernel
theorem dJx4a65c_grow_92f84_36 : decode cJx4a65c_grow_92f84 36 = .ok (.iload_n 3, 1) := by decide +kernel
theorem dJx4a65c_grow_92f84_37 : decode cJx4a65c_grow_92f84 37 = .ok (.invokestatic 66, 3) := by decide +kernel
theorem dJx4a65c_grow_92f84_40 : decode cJx4a65c_grow_92f84 40 = .ok (.dup_x1, 1) := by decide +kernel
theorem dJx4a65c_grow_92f84_41 : decode cJx4a65c_grow_92f84 41 = .ok (.putfield 9, 3) := by decide +kernel
theorem dJx4a65c_grow_92f84_44 : decode cJx4a65c_grow_92f84 44 = .ok (.areturn, 1) := by decide +kernel
theorem dJx4a65c_grow_92f84_45 : decode cJx4a65c_grow_92f84 45 = .ok (.aload_n 0, 1) := by decide +kernel
theorem dJx4a65c_grow_92f84_46 : decode cJx4a65c_grow_92f84 46 = .ok (.bipush 10, 2) := by decide +kernel
theorem dJx4a65c_grow_92f84_48 : decode cJx4a65c_grow_92f84 48 = .ok (.iload_n 1, 1) := by decide +kernel
theorem dJx4a65c_grow_92f84_49 : decode cJx4a65c_grow_92f84 49 = .ok (.invokestatic 79, 3) := by decide +kernel
theorem dJx4a65c_grow_92f84_52 : decode cJx4a65c_grow_92f84 52 = .ok (.anewarray 7, 3) := by decide +kernel
theorem dJx4a65c_grow_92f84_55 : decode cJx4a65c_grow_92f84 55 = .ok (.dup_x1, 1) := by decide +kernel
theorem dJx4a65c_grow_92f84_56 : decode cJx4a65c_grow_92f84 56 = .ok (.putfield 9, 3) := by decide +kernel
theorem dJx4a65c_grow_92f84_59 : decode cJx4a65c_grow_92f84 59 = .ok (.areturn, 1) := by decide +kernel
set_option maxRecDepth 20000 in
theorem ggJx4a65c_grow_d5877_Jx4a65c_grow_92f84 : GoodIn wsJx4a65c_grow_d5877 wsJx4a65c_grow_92f84 := goodIn_r _ [6, 7, 8, 9, 10, 11, 12, 13, 14, 15, 16, 17, 18, 19, 20, 21, 22, 23, 24, 25, 26, 27, 28, 29, 30, 31, 32, 33, 34, 35, 36, 37, 38, 39, 40, 41, 42, 43, 44, 45] (by decide +kernel) (by decide +kernel)
set_option maxRecDepth 20000 in
theorem gJx4a65c_grow_d5877_Jx4a65c_grow_92f84 : GoodIn wsJx4a65c_grow_d5877 (wsV RJx4a65c 69 RJx4a65c yJx4a65c_grow_92f84 wsJx4a65c_grow_92f84) := goodIn_app (goodIn_of _ (by decide +kernel)) ggJx4a65c_grow_d5877_Jx4a65c_grow_92f84
theorem dJx4a65c_grow_d5877_0 : decode cJx4a65c_grow_d5877 0 = .ok (.aload_n 0, 1) := by decide +kernel
theorem dJx4a65c_grow_d5877_1 : decode cJx4a65c_grow_d5877 1 = .ok (.aload_n 0, 1) := by decide +kernel
theorem dJx4a65c_grow_d5877_2 : decode cJx4a65c_grow_d5877 2 = .ok (.getfield 48, 3) := by decide +kernel
theorem dJx4a65c_grow_d5877_5 : decode cJx4a65c_grow_d5877 5 = .ok (.iconst 1, 1) := by decide +kernel
theorem dJx4a65c_grow_d5877_6 : decode cJx4a65c_grow_d5877 6 = .ok (.iadd, 1) := by decide +kernel
theorem dJx4a65c_grow_d5877_7 : decode cJx4a65c_grow_d5877 7 = .ok (.invokevirtual 69, 3) := by decide +kernel
theorem dJx4a65c_grow_d5877_10 : decode cJx4a65c_grow_d5877 10 = .ok (.areturn, 1) := by decide +kernel
theorem dJx4a65c_size_8abf5_0 : decode cJx4a65c_size_8abf5 0 = .ok (.aload_n 0, 1) := by decide +kernel
theorem dJx4a65c_size_8abf5_1 : decode cJx4a65c_size_8abf5 1 = .ok (.getfield 48, 3) := by decide +kernel
theorem dJx4a65c_size_8abf5_4 : decode cJx4a65c_size_8abf5 4 = .ok (.ireturn, 1) := by decide +kernel
theorem dJx4a65c_elementData_915e3_0 : decode cJx4a65c_elementData_915e3 0 = .ok (.aload_n 0, 1) := by decide +kernel
theorem dJx4a65c_elementData_915e3_1 : decode cJx4a65c_elementData_915e3 1 = .ok (.getfield 9, 3) := by decide +kernel
theorem dJx4a65c_elementData_915e3_4 : decode cJx4a65c_elementData_915e3 4 = .ok (.iload_n 1, 1) := by decide +kernel
theorem dJx4a65c_elementData_915e3_5 : decode cJx4a65c_elementData_915e3 5 = .ok (.aaload, 1) := by decide +kernel
theorem dJx4a65c_elementData_915e3_6 : decode cJx4a65c_elementData_915e3 6 = .ok (.areturn, 1) := by decide +kernel
set_option maxRecDepth 20000 in
theorem ggJx4a65c_get_915e3_J15_checkIndex_7cf53 : GoodIn wsJx4a65c_get_915e3 wsJ15_checkIndex_7cf53 := goodIn_r _ [5, 6, 7, 8, 9] (by decide +kernel) (by decide +kernel)
set_option maxRecDepth 20000 in
theorem gJx4a65c_get_915e3_J15_checkIndex_7cf53 : GoodIn wsJx4a65c_get_915e3 (va_wsS RJx4a65c 118 yJ15_checkIndex_7cf53 wsJ15_checkIndex_7cf53) := goodIn_app (goodIn_of _ (by decide +kernel)) ggJx4a65c_get_915e3_J15_checkIndex_7cf53
set_option maxRecDepth 20000 in
theorem ggJx4a65c_get_915e3_Jx4a65c_elementData_915e3 : GoodIn wsJx4a65c_get_915e3 wsJx4a65c_elementData_915e3 := goodIn_r _ [14, 15, 16, 17, 18] (by decide +kernel) (by decide +kernel)
set_option maxRecDepth 20000 in
theorem gJx4a65c_get_915e3_Jx4a65c_elementData_915e3 : GoodIn wsJx4a65c_get_915e3 (wsV RJx4a65c 123 RJx4a65c yJx4a65c_elementData_915e3 wsJx4a65c_elementData_915e3) := goodIn_app (goodIn_of _ (by decide +kernel)) ggJx4a65c_get_915e3_Jx4a65c_elementData_915e3
theorem dJx4a65c_get_915e3_0 : decode cJx4a65c_get_915e3 0 = .ok (.iload_n 1, 1) := by decide +kernel
theorem dJx4a65c_get_915e3_1 : decode cJx4a65c_get_915e3 1 = .ok (.aload_n 0, 1) := by decide +kernel
theorem dJx4a65c_get_915e3_2 : decode cJx4a65c_get_915e3 2 = .ok (.getfield 48, 3) := by decide +kernel
theorem dJx4a65c_get_915e3_5 : decode cJx4a65c_get_915e3 5 = .ok (.invokestatic 118, 3) := by decide +kernel
theorem dJx4a65c_get_915e3_8 : decode cJx4a65c_get_915e3 8 = .ok (.pop, 1) := by decide +kernel
theorem dJx4a65c_get_915e3_9 : decode cJx4a65c_get_915e3 9 = .ok (.aload_n 0, 1) := by decide +kernel
theorem dJx4a65c_get_915e3_10 : decode cJx4a65c_get_915e3 10 = .ok (.iload_n 1, 1) := by decide +kernel
theorem dJx4a65c_get_915e3_11 : decode cJx4a65c_get_915e3 11 = .ok (.invokevirtual 123, 3) := by decide +kernel
theorem dJx4a65c_get_915e3_14 : decode cJx4a65c_get_915e3 14 = .ok (.areturn, 1) := by decide +kernel
set_option maxRecDepth 20000 in
theorem ggJx4a65c_add_72be8_Jx4a65c_grow_d5877 : GoodIn wsJx4a65c_add_72be8 wsJx4a65c_grow_d5877 := goodIn_r _ [6, 1, 7, 8, 9, 5, 10, 11, 12, 13, 14, 15, 16, 17, 18, 19, 20, 21, 22, 23, 24, 25, 26, 27, 28, 29, 30, 31, 32, 33, 34, 35, 36, 37, 38, 39, 40, 41, 42, 43, 44, 45, 46, 47, 48, 49] (by decide +kernel) (by decide +kernel)
set_option maxRecDepth 20000 in
theorem gJx4a65c_add_72be8_Jx4a65c_grow_d5877 : GoodIn wsJx4a65c_add_72be8 (wsV RJx4a65c 129 RJx4a65c yJx4a65c_grow_d5877 wsJx4a65c_grow_d5877) := goodIn_app (goodIn_of _ (by decide +kernel)) ggJx4a65c_add_72be8_Jx4a65c_grow_d5877
theorem dJx4a65c_add_72be8_0 : decode cJx4a65c_add_72be8 0 = .ok (.iload_n 3, 1) := by decide +kernel
theorem dJx4a65c_add_72be8_1 : decode cJx4a65c_add_72be8 1 = .ok (.aload_n 2, 1) := by decide +kernel
theorem dJx4a65c_add_72be8_2 : decode cJx4a65c_add_72be8 2 = .ok (.arraylength, 1) := by decide +kernel
theorem dJx4a65c_add_72be8_3 : decode cJx4a65c_add_72be8 3 = .ok (.if_icmp .ne 8, 3) := by decide +kernel
theorem dJx4a65c_add_72be8_6 : decode cJx4a65c_add_72be8 6 = .ok (.aload_n 0, 1) := by decide +kernel
theorem dJx4a65c_add_72be8_7 : decode cJx4a65c_add_72be8 7 = .ok (.invokevirtual 129, 3) := by decide +kernel
theorem dJx4a65c_add_72be8_10 : decode cJx4a65c_add_72be8 10 = .ok (.astore_n 2, 1) := by decide +kernel
theorem dJx4a65c_add_72be8_11 : decode cJx4a65c_add_72be8 11 = .ok (.aload_n 2, 1) := by decide +kernel
theorem dJx4a65c_add_72be8_12 : decode cJx4a65c_add_72be8 12 = .ok (.iload_n 3, 1) := by decide +kernel
theorem dJx4a65c_add_72be8_13 : decode cJx4a65c_add_72be8 13 = .ok (.aload_n 1, 1) := by decide +kernel
theorem dJx4a65c_add_72be8_14 : decode cJx4a65c_add_72be8 14 = .ok (.aastore, 1) := by decide +kernel
theorem dJx4a65c_add_72be8_15 : decode cJx4a65c_add_72be8 15 = .ok (.aload_n 0, 1) := by decide +kernel
theorem dJx4a65c_add_72be8_16 : decode cJx4a65c_add_72be8 16 = .ok (.iload_n 3, 1) := by decide +kernel
theorem dJx4a65c_add_72be8_17 : decode cJx4a65c_add_72be8 17 = .ok (.iconst 1, 1) := by decide +kernel
theorem dJx4a65c_add_72be8_18 : decode cJx4a65c_add_72be8 18 = .ok (.iadd, 1) := by decide +kernel
theorem dJx4a65c_add_72be8_19 : decode cJx4a65c_add_72be8 19 = .ok (.putfield 48, 3) := by decide +kernel
theorem dJx4a65c_add_72be8_22 : decode cJx4a65c_add_72be8 22 = .ok (.return_, 1) := by decide +kernel
set_option maxRecDepth 20000 in
theorem ggJx4a65c_add_9ea2d_Jx4a65c_add_72be8 : GoodIn wsJx4a65c_add_9ea2d wsJx4a65c_add_72be8 := goodIn_r _ [9, 4, 10, 11, 12, 8, 13, 14, 15, 16, 17, 3, 18, 19, 20, 21, 22, 23, 24, 25, 26, 27, 28, 29, 30, 31, 32, 33, 34, 35, 36, 37, 38, 39, 40, 41, 42, 43, 44, 45, 46, 47, 48, 49, 50, 51, 52, 53, 54, 55] (by decide +kernel) (by decide +kernel)
set_option maxRecDepth 20000 in
theorem gJx4a65c_add_9ea2d_Jx4a65c_add_72be8 : GoodIn wsJx4a65c_add_9ea2d (wsV RJx4a65c 131 RJx4a65c yJx4a65c_add_72be8 wsJx4a65c_add_72be8) := goodIn_app (goodIn_of _ (by decide +kernel)) ggJx4a65c_add_9ea2d_Jx4a65c_add_72be8
theorem dJx4a65c_add_9ea2d_0 : decode cJx4a65c_add_9ea2d 0 = .ok (.aload_n 0, 1) := by decide +kernel
theorem dJx4a65c_add_9ea2d_1 : decode cJx4a65c_add_9ea2d 1 = .ok (.dup, 1) := by decide +kernel
theorem dJx4a65c_add_9ea2d_2 : decode cJx4a65c_add_9ea2d 2 = .ok (.getfield 63, 3) := by decide +kernel
theorem dJx4a65c_add_9ea2d_5 : decode cJx4a65c_add_9ea2d 5 = .ok (.iconst 1, 1) := by decide +kernel
theorem dJx4a65c_add_9ea2d_6 : decode cJx4a65c_add_9ea2d 6 = .ok (.iadd, 1) := by decide +kernel
theorem dJx4a65c_add_9ea2d_7 : decode cJx4a65c_add_9ea2d 7 = .ok (.putfield 63, 3) := by decide +kernel
theorem dJx4a65c_add_9ea2d_10 : decode cJx4a65c_add_9ea2d 10 = .ok (.aload_n 0, 1) := by decide +kernel
theorem dJx4a65c_add_9ea2d_11 : decode cJx4a65c_add_9ea2d 11 = .ok (.aload_n 1, 1) := by decide +kernel
theorem dJx4a65c_add_9ea2d_12 : decode cJx4a65c_add_9ea2d 12 = .ok (.aload_n 0, 1) := by decide +kernel
theorem dJx4a65c_add_9ea2d_13 : decode cJx4a65c_add_9ea2d 13 = .ok (.getfield 9, 3) := by decide +kernel
theorem dJx4a65c_add_9ea2d_16 : decode cJx4a65c_add_9ea2d 16 = .ok (.aload_n 0, 1) := by decide +kernel
theorem dJx4a65c_add_9ea2d_17 : decode cJx4a65c_add_9ea2d 17 = .ok (.getfield 48, 3) := by decide +kernel
theorem dJx4a65c_add_9ea2d_20 : decode cJx4a65c_add_9ea2d 20 = .ok (.invokevirtual 131, 3) := by decide +kernel
theorem dJx4a65c_add_9ea2d_23 : decode cJx4a65c_add_9ea2d 23 = .ok (.iconst 1, 1) := by decide +kernel
theorem dJx4a65c_add_9ea2d_24 : decode cJx4a65c_add_9ea2d 24 = .ok (.ireturn, 1) := by decide +kernel
theorem dJ7_fill_53178_0 : decode cJ7_fill_53178 0 = .ok (.iconst 0, 1) := by decide +kernel
theorem dJ7_fill_53178_1 : decode cJ7_fill_53178 1 = .ok (.istore_n 2, 1) := by decide +kernel
theorem dJ7_fill_53178_2 : decode cJ7_fill_53178 2 = .ok (.aload_n 0, 1) := by decide +kernel
theorem dJ7_fill_53178_3 : decode cJ7_fill_53178 3 = .ok (.arraylength, 1) := by decide +kernel
theorem dJ7_fill_53178_4 : decode cJ7_fill_53178 4 = .ok (.istore_n 3, 1) := by decide +kernel
theorem dJ7_fill_53178_5 : decode cJ7_fill_53178 5 = .ok (.iload_n 2, 1) := by decide +kernel
theorem dJ7_fill_53178_6 : decode cJ7_fill_53178 6 = .ok (.iload_n 3, 1) := by decide +kernel
theorem dJ7_fill_53178_7 : decode cJ7_fill_53178 7 = .ok (.if_icmp .ge 13, 3) := by decide +kernel
theorem dJ7_fill_53178_10 : decode cJ7_fill_53178 10 = .ok (.aload_n 0, 1) := by decide +kernel
theorem dJ7_fill_53178_11 : decode cJ7_fill_53178 11 = .ok (.iload_n 2, 1) := by decide +kernel
theorem dJ7_fill_53178_12 : decode cJ7_fill_53178 12 = .ok (.iload_n 1, 1) := by decide +kernel
theorem dJ7_fill_53178_13 : decode cJ7_fill_53178 13 = .ok (.iastore, 1) := by decide +kernel
theorem dJ7_fill_53178_14 : decode cJ7_fill_53178 14 = .ok (.iinc 2 1, 3) := by decide +kernel
theorem dJ7_fill_53178_17 : decode cJ7_fill_53178 17 = .ok (.goto (-12), 3) := by decide +kernel
theorem dJ7_fill_53178_20 : decode cJ7_fill_53178 20 = .ok (.return_, 1) := by decide +kernel
set_option maxRecDepth 20000 in
theorem ggJ7_copyOf_1904c_J7_copyOf_6403c : GoodIn wsJ7_copyOf_1904c wsJ7_copyOf_6403c := goodIn_r _ [8, 9, 10, 11, 12, 13, 14, 15, 16, 17, 18] (by decide +kernel) (by decide +kernel)
set_option maxRecDepth 20000 in
theorem gJ7_copyOf_1904c_J7_copyOf_6403c : GoodIn wsJ7_copyOf_1904c (va_wsS RJ7 300 yJ7_copyOf_6403c wsJ7_copyOf_6403c) := goodIn_app (goodIn_of _ (by decide +kernel)) ggJ7_copyOf_1904c_J7_copyOf_6403c
theorem dJ7_copyOf_1904c_0 : decode cJ7_copyOf_1904c 0 = .ok (.aload_n 0, 1) := by decide +kernel
theorem dJ7_copyOf_1904c_1 : decode cJ7_copyOf_1904c 1 = .ok (.iload_n 1, 1) := by decide +kernel
theorem dJ7_copyOf_1904c_2 : decode cJ7_copyOf_1904c 2 = .ok (.aload_n 0, 1) := by decide +kernel
theorem dJ7_copyOf_1904c_3 : decode cJ7_copyOf_1904c 3 = .ok (.invokevirtual 86, 3) := by decide +kernel
theorem dJ7_copyOf_1904c_6 : decode cJ7_copyOf_1904c 6 = .ok (.invokestatic 300, 3) := by decide +kernel
theorem dJ7_copyOf_1904c_9 : decode cJ7_copyOf_1904c 9 = .ok (.areturn, 1) := by decide +kernel
theorem dJ7_copyOf_6403c_0 : decode cJ7_copyOf_6403c 0 = .ok (.aload_n 2, 1) := by decide +kernel
theorem dJ7_copyOf_6403c_1 : decode cJ7_copyOf_6403c 1 = .ok (.ldc 110, 2) := by decide +kernel
theorem dJ7_copyOf_6403c_3 : decode cJ7_copyOf_6403c 3 = .ok (.if_acmp .ne 10, 3) := by decide +kernel
theorem dJ7_copyOf_6403c_6 : decode cJ7_copyOf_6403c 6 = .ok (.iload_n 1, 1) := by decide +kernel
theorem dJ7_copyOf_6403c_7 : decode cJ7_copyOf_6403c 7 = .ok (.anewarray 2, 3) := by decide +kernel
theorem dJ7_copyOf_6403c_10 : decode cJ7_copyOf_6403c 10 = .ok (.goto 14, 3) := by decide +kernel
theorem dJ7_copyOf_6403c_13 : decode cJ7_copyOf_6403c 13 = .ok (.aload_n 2, 1) := by decide +kernel
theorem dJ7_copyOf_6403c_14 : decode cJ7_copyOf_6403c 14 = .ok (.invokevirtual 90, 3) := by decide +kernel
theorem dJ7_copyOf_6403c_17 : decode cJ7_copyOf_6403c 17 = .ok (.iload_n 1, 1) := by decide +kernel
theorem dJ7_copyOf_6403c_18 : decode cJ7_copyOf_6403c 18 = .ok (.invokestatic 95, 3) := by decide +kernel
theorem dJ7_copyOf_6403c_21 : decode cJ7_copyOf_6403c 21 = .ok (.checkcast 110, 3) := by decide +kernel
theorem dJ7_copyOf_6403c_24 : decode cJ7_copyOf_6403c 24 = .ok (.astore_n 3, 1) := by decide +kernel
theorem dJ7_copyOf_6403c_25 : decode cJ7_copyOf_6403c 25 = .ok (.aload_n 0, 1) := by decide +kernel
theorem dJ7_copyOf_6403c_26 : decode cJ7_copyOf_6403c 26 = .ok (.iconst 0, 1) := by decide +kernel
theorem dJ7_copyOf_6403c_27 : decode cJ7_copyOf_6403c 27 = .ok (.aload_n 3, 1) := by decide +kernel
theorem dJ7_copyOf_6403c_28 : decode cJ7_copyOf_6403c 28 = .ok (.iconst 0, 1) := by decide +kernel
theorem dJ7_copyOf_6403c_29 : decode cJ7_copyOf_6403c 29 = .ok (.aload_n 0, 1) := by decide +kernel
theorem dJ7_copyOf_6403c_30 : decode cJ7_copyOf_6403c 30 = .ok (.arraylength, 1) := by decide +kernel
theorem dJ7_copyOf_6403c_31 : decode cJ7_copyOf_6403c 31 = .ok (.iload_n 1, 1) := by decide +kernel
theorem dJ7_copyOf_6403c_32 : decode cJ7_copyOf_6403c 32 = .ok (.invokestatic 304, 3) := by decide +kernel
theorem dJ7_copyOf_6403c_35 : decode cJ7_copyOf_6403c 35 = .ok (.invokestatic 150, 3) := by decide +kernel
theorem dJ7_copyOf_6403c_38 : decode cJ7_copyOf_6403c 38 = .ok (.aload_n 3, 1) := by decide +kernel
theorem dJ7_copyOf_6403c_39 : decode cJ7_copyOf_6403c 39 = .ok (.areturn, 1) := by decide +kernel
theorem dJ7_copyOf_59c91_0 : decode cJ7_copyOf_59c91 0 = .ok (.iload_n 1, 1) := by decide +kernel
theorem dJ7_copyOf_59c91_1 : decode cJ7_copyOf_59c91 1 = .ok (.aload_n 0, 1) := by decide +kernel
theorem dJ7_copyOf_59c91_2 : decode cJ7_copyOf_59c91 2 = .ok (.arraylength, 1) := by decide +kernel
theorem dJ7_copyOf_59c91_3 : decode cJ7_copyOf_59c91 3 = .ok (.if_icmp .ne 11, 3) := by decide +kernel
theorem dJ7_copyOf_59c91_6 : decode cJ7_copyOf_59c91 6 = .ok (.aload_n 0, 1) := by decide +kernel
theorem dJ7_copyOf_59c91_7 : decode cJ7_copyOf_59c91 7 = .ok (.invokevirtual 316, 3) := by decide +kernel
theorem dJ7_copyOf_59c91_10 : decode cJ7_copyOf_59c91 10 = .ok (.checkcast 317, 3) := by decide +kernel
theorem dJ7_copyOf_59c91_13 : decode cJ7_copyOf_59c91 13 = .ok (.areturn, 1) := by decide +kernel
theorem dJ7_copyOf_59c91_14 : decode cJ7_copyOf_59c91 14 = .ok (.iload_n 1, 1) := by decide +kernel
theorem dJ7_copyOf_59c91_15 : decode cJ7_copyOf_59c91 15 = .ok (.newarray .int, 2) := by decide +kernel
theorem dJ7_copyOf_59c91_17 : decode cJ7_copyOf_59c91 17 = .ok (.astore_n 2, 1) := by decide +kernel
theorem dJ7_copyOf_59c91_18 : decode cJ7_copyOf_59c91 18 = .ok (.aload_n 0, 1) := by decide +kernel
theorem dJ7_copyOf_59c91_19 : decode cJ7_copyOf_59c91 19 = .ok (.iconst 0, 1) := by decide +kernel
theorem dJ7_copyOf_59c91_20 : decode cJ7_copyOf_59c91 20 = .ok (.aload_n 2, 1) := by decide +kernel
theorem dJ7_copyOf_59c91_21 : decode cJ7_copyOf_59c91 21 = .ok (.iconst 0, 1) := by decide +kernel
theorem dJ7_copyOf_59c91_22 : decode cJ7_copyOf_59c91 22 = .ok (.aload_n 0, 1) := by decide +kernel
theorem dJ7_copyOf_59c91_23 : decode cJ7_copyOf_59c91 23 = .ok (.arraylength, 1) := by decide +kernel
theorem dJ7_copyOf_59c91_24 : decode cJ7_copyOf_59c91 24 = .ok (.iload_n 1, 1) := by decide +kernel
theorem dJ7_copyOf_59c91_25 : decode cJ7_copyOf_59c91 25 = .ok (.invokestatic 304, 3) := by decide +kernel
theorem dJ7_copyOf_59c91_28 : decode cJ7_copyOf_59c91 28 = .ok (.invokestatic 150, 3) := by decide +kernel
theorem dJ7_copyOf_59c91_31 : decode cJ7_copyOf_59c91 31 = .ok (.aload_n 2, 1) := by decide +kernel
theorem dJ7_copyOf_59c91_32 : decode cJ7_copyOf_59c91 32 = .ok (.areturn, 1) := by decide +kernel
set_option maxRecDepth 20000 in
theorem ggJ15_checkIndex_7cf53_J3_checkIndex_8e157 : GoodIn wsJ15_checkIndex_7cf53 wsJ3_checkIndex_8e157 := goodIn_r _ [4] (by decide +kernel) (by decide +kernel)
set_option maxRecDepth 20000 in
theorem gJ15_checkIndex_7cf53_J3_checkIndex_8e157 : GoodIn wsJ15_checkIndex_7cf53 (va_wsS RJ15 105 yJ3_checkIndex_8e157 wsJ3_checkIndex_8e157) := goodIn_app (goodIn_of _ (by decide +kernel)) ggJ15_checkIndex_7cf53_J3_checkIndex_8e157
theorem dJ15_checkIndex_7cf53_0 : decode cJ15_checkIndex_7cf53 0 = .ok (.iload_n 0, 1) := by decide +kernel
theorem dJ15_checkIndex_7cf53_1 : decode cJ15_checkIndex_7cf53 1 = .ok (.iload_n 1, 1) := by decide +kernel
theorem dJ15_checkIndex_7cf53_2 : decode cJ15_checkIndex_7cf53 2 = .ok (.aconst_null, 1) := by decide +kernel
theorem dJ15_checkIndex_7cf53_3 : decode cJ15_checkIndex_7cf53 3 = .ok (.invokestatic 105, 3) := by decide +kernel
theorem dJ15_checkIndex_7cf53_6 : decode cJ15_checkIndex_7cf53 6 = .ok (.ireturn, 1) := by decide +kernel
set_option maxRecDepth 20000 in
theorem ggJ8_newLength_cabcc_J8_hugeLength_7cf53 : GoodIn wsJ8_newLength_cabcc wsJ8_hugeLength_7cf53 := goodIn_r _ [9, 5] (by decide +kernel) (by decide +kernel)
set_option maxRecDepth 20000 in
theorem gJ8_newLength_cabcc_J8_hugeLength_7cf53 : GoodIn wsJ8_newLength_cabcc (va_wsS RJ8 201 yJ8_hugeLength_7cf53 wsJ8_hugeLength_7cf53) := goodIn_app (goodIn_of _ (by decide +kernel)) ggJ8_newLength_cabcc_J8_hugeLength_7cf53
theorem dJ8_newLength_cabcc_0 : decode cJ8_newLength_cabcc 0 = .ok (.iload_n 0, 1) := by decide +kernel
theorem dJ8_newLength_cabcc_1 : decode cJ8_newLength_cabcc 1 = .ok (.iload_n 1, 1) := by decide +kernel
theorem dJ8_newLength_cabcc_2 : decode cJ8_newLength_cabcc 2 = .ok (.iload_n 2, 1) := by decide +kernel
theorem dJ8_newLength_cabcc_3 : decode cJ8_newLength_cabcc 3 = .ok (.invokestatic 194, 3) := by decide +kernel
theorem dJ8_newLength_cabcc_6 : decode cJ8_newLength_cabcc 6 = .ok (.iadd, 1) := by decide +kernel
theorem dJ8_newLength_cabcc_7 : decode cJ8_newLength_cabcc 7 = .ok (.istore_n 3, 1) := by decide +kernel
theorem dJ8_newLength_cabcc_8 : decode cJ8_newLength_cabcc 8 = .ok (.iconst 0, 1) := by decide +kernel
theorem dJ8_newLength_cabcc_9 : decode cJ8_newLength_cabcc 9 = .ok (.iload_n 3, 1) := by decide +kernel
theorem dJ8_newLength_cabcc_10 : decode cJ8_newLength_cabcc 10 = .ok (.if_icmp .ge 11, 3) := by decide +kernel
theorem dJ8_newLength_cabcc_13 : decode cJ8_newLength_cabcc 13 = .ok (.iload_n 3, 1) := by decide +kernel
theorem dJ8_newLength_cabcc_14 : decode cJ8_newLength_cabcc 14 = .ok (.ldc 200, 2) := by decide +kernel
theorem dJ8_newLength_cabcc_16 : decode cJ8_newLength_cabcc 16 = .ok (.if_icmp .gt 5, 3) := by decide +kernel
theorem dJ8_newLength_cabcc_19 : decode cJ8_newLength_cabcc 19 = .ok (.iload_n 3, 1) := by decide +kernel
theorem dJ8_newLength_cabcc_20 : decode cJ8_newLength_cabcc 20 = .ok (.ireturn, 1) := by decide +kernel
theorem dJ8_newLength_cabcc_21 : decode cJ8_newLength_cabcc 21 = .ok (.iload_n 0, 1) := by decide +kernel
theorem dJ8_newLength_cabcc_22 : decode cJ8_newLength_cabcc 22 = .ok (.iload_n 1, 1) := by decide +kernel
theorem dJ8_newLength_cabcc_23 : decode cJ8_newLength_cabcc 23 = .ok (.invokestatic 201, 3) := by decide +kernel
theorem dJ8_newLength_cabcc_26 : decode cJ8_newLength_cabcc 26 = .ok (.ireturn, 1) := by decide +kernel
theorem dJ8_hugeLength_7cf53_0 : decode cJ8_hugeLength_7cf53 0 = .ok (.iload_n 0, 1) := by decide +kernel
theorem dJ8_hugeLength_7cf53_1 : decode cJ8_hugeLength_7cf53 1 = .ok (.iload_n 1, 1) := by decide +kernel
theorem dJ8_hugeLength_7cf53_2 : decode cJ8_hugeLength_7cf53 2 = .ok (.iadd, 1) := by decide +kernel
theorem dJ8_hugeLength_7cf53_3 : decode cJ8_hugeLength_7cf53 3 = .ok (.istore_n 2, 1) := by decide +kernel
theorem dJ8_hugeLength_7cf53_4 : decode cJ8_hugeLength_7cf53 4 = .ok (.iload_n 2, 1) := by decide +kernel
theorem dJ8_hugeLength_7cf53_5 : decode cJ8_hugeLength_7cf53 5 = .ok (.ifCond .ge 44, 3) := by decide +kernel
theorem dJ8_hugeLength_7cf53_8 : decode cJ8_hugeLength_7cf53 8 = .ok (.new 204, 3) := by decide +kernel
theorem dJ8_hugeLength_7cf53_11 : decode cJ8_hugeLength_7cf53 11 = .ok (.dup, 1) := by decide +kernel
theorem dJ8_hugeLength_7cf53_12 : decode cJ8_hugeLength_7cf53 12 = .ok (.new 89, 3) := by decide +kernel
theorem dJ8_hugeLength_7cf53_15 : decode cJ8_hugeLength_7cf53 15 = .ok (.dup, 1) := by decide +kernel
theorem dJ8_hugeLength_7cf53_16 : decode cJ8_hugeLength_7cf53 16 = .ok (.invokespecial 91, 3) := by decide +kernel
theorem dJ8_hugeLength_7cf53_19 : decode cJ8_hugeLength_7cf53 19 = .ok (.ldc 206, 2) := by decide +kernel
theorem dJ8_hugeLength_7cf53_21 : decode cJ8_hugeLength_7cf53 21 = .ok (.invokevirtual 94, 3) := by decide +kernel
theorem dJ8_hugeLength_7cf53_24 : decode cJ8_hugeLength_7cf53 24 = .ok (.iload_n 0, 1) := by decide +kernel
theorem dJ8_hugeLength_7cf53_25 : decode cJ8_hugeLength_7cf53 25 = .ok (.invokevirtual 98, 3) := by decide +kernel
theorem dJ8_hugeLength_7cf53_28 : decode cJ8_hugeLength_7cf53 28 = .ok (.ldc 208, 2) := by decide +kernel
theorem dJ8_hugeLength_7cf53_30 : decode cJ8_hugeLength_7cf53 30 = .ok (.invokevirtual 94, 3) := by decide +kernel
theorem dJ8_hugeLength_7cf53_33 : decode cJ8_hugeLength_7cf53 33 = .ok (.iload_n 1, 1) := by decide +kernel
theorem dJ8_hugeLength_7cf53_34 : decode cJ8_hugeLength_7cf53 34 = .ok (.invokevirtual 98, 3) := by decide +kernel
theorem dJ8_hugeLength_7cf53_37 : decode cJ8_hugeLength_7cf53 37 = .ok (.ldc 210, 2) := by decide +kernel
theorem dJ8_hugeLength_7cf53_39 : decode cJ8_hugeLength_7cf53 39 = .ok (.invokevirtual 94, 3) := by decide +kernel
theorem dJ8_hugeLength_7cf53_42 : decode cJ8_hugeLength_7cf53 42 = .ok (.invokevirtual 101, 3) := by decide +kernel
theorem dJ8_hugeLength_7cf53_45 : decode cJ8_hugeLength_7cf53 45 = .ok (.invokespecial 212, 3) := by decide +kernel
theorem dJ8_hugeLength_7cf53_48 : decode cJ8_hugeLength_7cf53 48 = .ok (.athrow, 1) := by decide +kernel
theorem dJ8_hugeLength_7cf53_49 : decode cJ8_hugeLength_7cf53 49 = .ok (.iload_n 2, 1) := by decide +kernel
theorem dJ8_hugeLength_7cf53_50 : decode cJ8_hugeLength_7cf53 50 = .ok (.ldc 200, 2) := by decide +kernel
theorem dJ8_hugeLength_7cf53_52 : decode cJ8_hugeLength_7cf53 52 = .ok (.if_icmp .gt 6, 3) := by decide +kernel
theorem dJ8_hugeLength_7cf53_55 : decode cJ8_hugeLength_7cf53 55 = .ok (.ldc 200, 2) := by decide +kernel
theorem dJ8_hugeLength_7cf53_57 : decode cJ8_hugeLength_7cf53 57 = .ok (.ireturn, 1) := by decide +kernel
theorem dJ8_hugeLength_7cf53_58 : decode cJ8_hugeLength_7cf53 58 = .ok (.iload_n 2, 1) := by decide +kernel
theorem dJ8_hugeLength_7cf53_59 : decode cJ8_hugeLength_7cf53 59 = .ok (.ireturn, 1) := by decide +kernel
theorem dJ3_checkIndex_8e157_0 : decode cJ3_checkIndex_8e157 0 = .ok (.iload_n 0, 1) := by decide +kernel
theorem dJ3_checkIndex_8e157_1 : decode cJ3_checkIndex_8e157 1 = .ok (.ifCond .lt 8, 3) := by decide +kernel
theorem dJ3_checkIndex_8e157_4 : decode cJ3_checkIndex_8e157 4 = .ok (.iload_n 0, 1) := by decide +kernel
theorem dJ3_checkIndex_8e157_5 : decode cJ3_checkIndex_8e157 5 = .ok (.iload_n 1, 1) := by decide +kernel
theorem dJ3_checkIndex_8e157_6 : decode cJ3_checkIndex_8e157 6 = .ok (.if_icmp .lt 10, 3) := by decide +kernel
theorem dJ3_checkIndex_8e157_9 : decode cJ3_checkIndex_8e157 9 = .ok (.aload_n 2, 1) := by decide +kernel
theorem dJ3_checkIndex_8e157_10 : decode cJ3_checkIndex_8e157 10 = .ok (.iload_n 0, 1) := by decide +kernel
theorem dJ3_checkIndex_8e157_11 : decode cJ3_checkIndex_8e157 11 = .ok (.iload_n 1, 1) := by decide +kernel
theorem dJ3_checkIndex_8e157_12 : decode cJ3_checkIndex_8e157 12 = .ok (.invokestatic 95, 3) := by decide +kernel
theorem dJ3_checkIndex_8e157_15 : decode cJ3_checkIndex_8e157 15 = .ok (.athrow, 1) := by decide +kernel
theorem dJ3_checkIndex_8e157_16 : decode cJ3_checkIndex_8e157 16 = .ok (.iload_n 0, 1) := by decide +kernel
theorem dJ3_checkIndex_8e157_17 : decode cJ3_checkIndex_8e157 17 = .ok (.ireturn, 1) := by decide +kernel
