theorem dX0_init_0 : decode cX0_init 0 = .ok (.aload_n 0, 1) := by decide +kernel
theorem dX0_init_1 : decode cX0_init 1 = .ok (.invokespecial 1, 3) := by decide +kernel
theorem dX0_init_4 : decode cX0_init 4 = .ok (.aload_n 0, 1) := by decide +kernel
theorem dX0_init_5 : decode cX0_init 5 = .ok (.iload_n 1, 1) := by decide +kernel
theorem dX0_init_6 : decode cX0_init 6 = .ok (.putfield 7, 3) := by decide +kernel
theorem dX0_init_9 : decode cX0_init 9 = .ok (.aload_n 0, 1) := by decide +kernel
theorem dX0_init_10 : decode cX0_init 10 = .ok (.iload_n 2, 1) := by decide +kernel
theorem dX0_init_11 : decode cX0_init 11 = .ok (.putfield 13, 3) := by decide +kernel
theorem dX0_init_14 : decode cX0_init 14 = .ok (.aload_n 0, 1) := by decide +kernel
theorem dX0_init_15 : decode cX0_init 15 = .ok (.iload_n 3, 1) := by decide +kernel
theorem dX0_init_16 : decode cX0_init 16 = .ok (.putfield 16, 3) := by decide +kernel
theorem dX0_init_19 : decode cX0_init 19 = .ok (.aload_n 0, 1) := by decide +kernel
theorem dX0_init_20 : decode cX0_init 20 = .ok (.iload 4, 2) := by decide +kernel
theorem dX0_init_22 : decode cX0_init 22 = .ok (.putfield 19, 3) := by decide +kernel
theorem dX0_init_25 : decode cX0_init 25 = .ok (.aload_n 0, 1) := by decide +kernel
theorem dX0_init_26 : decode cX0_init 26 = .ok (.iload 5, 2) := by decide +kernel
theorem dX0_init_28 : decode cX0_init 28 = .ok (.putfield 22, 3) := by decide +kernel
theorem dX0_init_31 : decode cX0_init 31 = .ok (.return_, 1) := by decide +kernel
theorem dX1_init_0 : decode cX1_init 0 = .ok (.aload_n 0, 1) := by decide +kernel
theorem dX1_init_1 : decode cX1_init 1 = .ok (.invokespecial 3, 3) := by decide +kernel
theorem dX1_init_4 : decode cX1_init 4 = .ok (.aload_n 0, 1) := by decide +kernel
theorem dX1_init_5 : decode cX1_init 5 = .ok (.bipush 10, 2) := by decide +kernel
theorem dX1_init_7 : decode cX1_init 7 = .ok (.newarray .int, 2) := by decide +kernel
theorem dX1_init_9 : decode cX1_init 9 = .ok (.putfield 9, 3) := by decide +kernel
theorem dX1_init_12 : decode cX1_init 12 = .ok (.aload_n 0, 1) := by decide +kernel
theorem dX1_init_13 : decode cX1_init 13 = .ok (.bipush 10, 2) := by decide +kernel
theorem dX1_init_15 : decode cX1_init 15 = .ok (.newarray .int, 2) := by decide +kernel
theorem dX1_init_17 : decode cX1_init 17 = .ok (.putfield 15, 3) := by decide +kernel
theorem dX1_init_20 : decode cX1_init 20 = .ok (.aload_n 0, 1) := by decide +kernel
theorem dX1_init_21 : decode cX1_init 21 = .ok (.bipush 10, 2) := by decide +kernel
theorem dX1_init_23 : decode cX1_init 23 = .ok (.newarray .int, 2) := by decide +kernel
theorem dX1_init_25 : decode cX1_init 25 = .ok (.putfield 18, 3) := by decide +kernel
theorem dX1_init_28 : decode cX1_init 28 = .ok (.aload_n 0, 1) := by decide +kernel
theorem dX1_init_29 : decode cX1_init 29 = .ok (.bipush 10, 2) := by decide +kernel
theorem dX1_init_31 : decode cX1_init 31 = .ok (.newarray .int, 2) := by decide +kernel
theorem dX1_init_33 : decode cX1_init 33 = .ok (.putfield 21, 3) := by decide +kernel
theorem dX1_init_36 : decode cX1_init 36 = .ok (.aload_n 0, 1) := by decide +kernel
theorem dX1_init_37 : decode cX1_init 37 = .ok (.bipush 10, 2) := by decide +kernel
theorem dX1_init_39 : decode cX1_init 39 = .ok (.newarray .long, 2) := by decide +kernel
theorem dX1_init_41 : decode cX1_init 41 = .ok (.putfield 24, 3) := by decide +kernel
theorem dX1_init_44 : decode cX1_init 44 = .ok (.aload_n 0, 1) := by decide +kernel
theorem dX1_init_45 : decode cX1_init 45 = .ok (.lconst 0, 1) := by decide +kernel
theorem dX1_init_46 : decode cX1_init 46 = .ok (.putfield 28, 3) := by decide +kernel
theorem dX1_init_49 : decode cX1_init 49 = .ok (.aload_n 0, 1) := by decide +kernel
theorem dX1_init_50 : decode cX1_init 50 = .ok (.lconst 0, 1) := by decide +kernel
theorem dX1_init_51 : decode cX1_init 51 = .ok (.putfield 32, 3) := by decide +kernel
theorem dX1_init_54 : decode cX1_init 54 = .ok (.return_, 1) := by decide +kernel
theorem dX1_forget_0 : decode cX1_forget 0 = .ok (.iconst 0, 1) := by decide +kernel
theorem dX1_forget_1 : decode cX1_forget 1 = .ok (.istore_n 1, 1) := by decide +kernel
theorem dX1_forget_2 : decode cX1_forget 2 = .ok (.iload_n 1, 1) := by decide +kernel
theorem dX1_forget_3 : decode cX1_forget 3 = .ok (.bipush 10, 2) := by decide +kernel
theorem dX1_forget_5 : decode cX1_forget 5 = .ok (.if_icmp .ge 44, 3) := by decide +kernel
theorem dX1_forget_8 : decode cX1_forget 8 = .ok (.aload_n 0, 1) := by decide +kernel
theorem dX1_forget_9 : decode cX1_forget 9 = .ok (.getfield 9, 3) := by decide +kernel
theorem dX1_forget_12 : decode cX1_forget 12 = .ok (.iload_n 1, 1) := by decide +kernel
theorem dX1_forget_13 : decode cX1_forget 13 = .ok (.iconst 0, 1) := by decide +kernel
theorem dX1_forget_14 : decode cX1_forget 14 = .ok (.iastore, 1) := by decide +kernel
theorem dX1_forget_15 : decode cX1_forget 15 = .ok (.aload_n 0, 1) := by decide +kernel
theorem dX1_forget_16 : decode cX1_forget 16 = .ok (.getfield 15, 3) := by decide +kernel
theorem dX1_forget_19 : decode cX1_forget 19 = .ok (.iload_n 1, 1) := by decide +kernel
theorem dX1_forget_20 : decode cX1_forget 20 = .ok (.iconst 0, 1) := by decide +kernel
theorem dX1_forget_21 : decode cX1_forget 21 = .ok (.iastore, 1) := by decide +kernel
theorem dX1_forget_22 : decode cX1_forget 22 = .ok (.aload_n 0, 1) := by decide +kernel
theorem dX1_forget_23 : decode cX1_forget 23 = .ok (.getfield 18, 3) := by decide +kernel
theorem dX1_forget_26 : decode cX1_forget 26 = .ok (.iload_n 1, 1) := by decide +kernel
theorem dX1_forget_27 : decode cX1_forget 27 = .ok (.iconst 0, 1) := by decide +kernel
theorem dX1_forget_28 : decode cX1_forget 28 = .ok (.iastore, 1) := by decide +kernel
theorem dX1_forget_29 : decode cX1_forget 29 = .ok (.aload_n 0, 1) := by decide +kernel
theorem dX1_forget_30 : decode cX1_forget 30 = .ok (.getfield 21, 3) := by decide +kernel
theorem dX1_forget_33 : decode cX1_forget 33 = .ok (.iload_n 1, 1) := by decide +kernel
theorem dX1_forget_34 : decode cX1_forget 34 = .ok (.iconst 0, 1) := by decide +kernel
theorem dX1_forget_35 : decode cX1_forget 35 = .ok (.iastore, 1) := by decide +kernel
theorem dX1_forget_36 : decode cX1_forget 36 = .ok (.aload_n 0, 1) := by decide +kernel
theorem dX1_forget_37 : decode cX1_forget 37 = .ok (.getfield 24, 3) := by decide +kernel
theorem dX1_forget_40 : decode cX1_forget 40 = .ok (.iload_n 1, 1) := by decide +kernel
theorem dX1_forget_41 : decode cX1_forget 41 = .ok (.lconst 0, 1) := by decide +kernel
theorem dX1_forget_42 : decode cX1_forget 42 = .ok (.lastore, 1) := by decide +kernel
theorem dX1_forget_43 : decode cX1_forget 43 = .ok (.iinc 1 1, 3) := by decide +kernel
theorem dX1_forget_46 : decode cX1_forget 46 = .ok (.goto (-44), 3) := by decide +kernel
theorem dX1_forget_49 : decode cX1_forget 49 = .ok (.aload_n 0, 1) := by decide +kernel
theorem dX1_forget_50 : decode cX1_forget 50 = .ok (.lconst 0, 1) := by decide +kernel
theorem dX1_forget_51 : decode cX1_forget 51 = .ok (.putfield 28, 3) := by decide +kernel
theorem dX1_forget_54 : decode cX1_forget 54 = .ok (.aload_n 0, 1) := by decide +kernel
theorem dX1_forget_55 : decode cX1_forget 55 = .ok (.lconst 0, 1) := by decide +kernel
theorem dX1_forget_56 : decode cX1_forget 56 = .ok (.putfield 32, 3) := by decide +kernel
theorem dX1_forget_59 : decode cX1_forget 59 = .ok (.return_, 1) := by decide +kernel
set_option maxRecDepth 1000000 in
theorem ggX1_learn_X1_learnFollow : GoodIn wsX1_learn wsX1_learnFollow := goodIn_r _ [15, 4, 16, 17, 18, 14, 19, 20, 21, 22, 23, 24, 25, 26, 27, 5, 28, 29, 55, 56, 57, 58, 59, 60, 61] rfl (by decide +kernel)
set_option maxRecDepth 20000 in
theorem gX1_learn_X1_learnFollow : GoodIn wsX1_learn (wsV RX1 47 RX1 yX1_learnFollow wsX1_learnFollow) := goodIn_app (goodIn_of _ (by decide +kernel)) ggX1_learn_X1_learnFollow
set_option maxRecDepth 1000000 in
theorem ggX1_learn_X1_learnAccept : GoodIn wsX1_learn wsX1_learnAccept := goodIn_r _ [33, 34, 35, 36, 14, 37, 4, 21, 22, 23, 38, 39, 40, 41, 20, 28, 29, 55, 56, 57, 58, 59, 60, 61] rfl (by decide +kernel)
set_option maxRecDepth 20000 in
theorem gX1_learn_X1_learnAccept : GoodIn wsX1_learn (wsV RX1 51 RX1 yX1_learnAccept wsX1_learnAccept) := goodIn_app (goodIn_of _ (by decide +kernel)) ggX1_learn_X1_learnAccept
set_option maxRecDepth 1000000 in
theorem ggX1_learn_X4_bit : GoodIn wsX1_learn wsX4_bit := goodIn_r _ [29] rfl (by decide +kernel)
set_option maxRecDepth 20000 in
theorem gX1_learn_X4_bit_n54 : GoodIn wsX1_learn (wsX4_bit) := ggX1_learn_X4_bit
set_option maxRecDepth 1000000 in
theorem ggX1_learn_X1_part : GoodIn wsX1_learn wsX1_part := goodIn_r _ [45, 4, 20, 28, 22, 29, 55, 56, 57, 58, 59, 60, 61] rfl (by decide +kernel)
set_option maxRecDepth 20000 in
theorem gX1_learn_X1_part : GoodIn wsX1_learn (wsV RX1 58 RX1 yX1_part wsX1_part) := goodIn_app (goodIn_of _ (by decide +kernel)) ggX1_learn_X1_part
set_option maxRecDepth 1000000 in
theorem ggX1_learn_X1_learnMove : GoodIn wsX1_learn wsX1_learnMove := goodIn_r _ [49, 20, 21, 22, 23, 28, 29, 24, 25, 26, 14, 27, 5, 38, 39, 40, 41, 4, 55, 56, 57, 58, 59, 60, 61] rfl (by decide +kernel)
set_option maxRecDepth 20000 in
theorem gX1_learn_X1_learnMove : GoodIn wsX1_learn (wsV RX1 64 RX1 yX1_learnMove wsX1_learnMove) := goodIn_app (goodIn_of _ (by decide +kernel)) ggX1_learn_X1_learnMove
theorem dX1_learn_0 : decode cX1_learn 0 = .ok (.aload_n 1, 1) := by decide +kernel
theorem dX1_learn_1 : decode cX1_learn 1 = .ok (.getfield 35, 3) := by decide +kernel
theorem dX1_learn_4 : decode cX1_learn 4 = .ok (.tableswitch 309 0 10 #[60, 75, 90, 114, 129, 175, 199, 218, 237, 255, 273], 60) := by decide +kernel
theorem dX1_learn_64 : decode cX1_learn 64 = .ok (.aload_n 0, 1) := by decide +kernel
theorem dX1_learn_65 : decode cX1_learn 65 = .ok (.aload_n 1, 1) := by decide +kernel
theorem dX1_learn_66 : decode cX1_learn 66 = .ok (.getfield 41, 3) := by decide +kernel
theorem dX1_learn_69 : decode cX1_learn 69 = .ok (.aload_n 1, 1) := by decide +kernel
theorem dX1_learn_70 : decode cX1_learn 70 = .ok (.getfield 44, 3) := by decide +kernel
theorem dX1_learn_73 : decode cX1_learn 73 = .ok (.invokevirtual 47, 3) := by decide +kernel
theorem dX1_learn_76 : decode cX1_learn 76 = .ok (.goto 237, 3) := by decide +kernel
theorem dX1_learn_79 : decode cX1_learn 79 = .ok (.aload_n 0, 1) := by decide +kernel
theorem dX1_learn_80 : decode cX1_learn 80 = .ok (.aload_n 1, 1) := by decide +kernel
theorem dX1_learn_81 : decode cX1_learn 81 = .ok (.getfield 41, 3) := by decide +kernel
theorem dX1_learn_84 : decode cX1_learn 84 = .ok (.aload_n 1, 1) := by decide +kernel
theorem dX1_learn_85 : decode cX1_learn 85 = .ok (.getfield 44, 3) := by decide +kernel
theorem dX1_learn_88 : decode cX1_learn 88 = .ok (.invokevirtual 51, 3) := by decide +kernel
theorem dX1_learn_91 : decode cX1_learn 91 = .ok (.goto 222, 3) := by decide +kernel
theorem dX1_learn_94 : decode cX1_learn 94 = .ok (.aload_n 0, 1) := by decide +kernel
theorem dX1_learn_95 : decode cX1_learn 95 = .ok (.getfield 9, 3) := by decide +kernel
theorem dX1_learn_98 : decode cX1_learn 98 = .ok (.aload_n 1, 1) := by decide +kernel
theorem dX1_learn_99 : decode cX1_learn 99 = .ok (.getfield 44, 3) := by decide +kernel
theorem dX1_learn_102 : decode cX1_learn 102 = .ok (.dup2, 1) := by decide +kernel
theorem dX1_learn_103 : decode cX1_learn 103 = .ok (.iaload, 1) := by decide +kernel
theorem dX1_learn_104 : decode cX1_learn 104 = .ok (.aload_n 1, 1) := by decide +kernel
theorem dX1_learn_105 : decode cX1_learn 105 = .ok (.getfield 41, 3) := by decide +kernel
theorem dX1_learn_108 : decode cX1_learn 108 = .ok (.invokestatic 54, 3) := by decide +kernel
theorem dX1_learn_111 : decode cX1_learn 111 = .ok (.iconst (-1), 1) := by decide +kernel
theorem dX1_learn_112 : decode cX1_learn 112 = .ok (.ixor, 1) := by decide +kernel
theorem dX1_learn_113 : decode cX1_learn 113 = .ok (.iand, 1) := by decide +kernel
theorem dX1_learn_114 : decode cX1_learn 114 = .ok (.iastore, 1) := by decide +kernel
theorem dX1_learn_115 : decode cX1_learn 115 = .ok (.goto 198, 3) := by decide +kernel
theorem dX1_learn_118 : decode cX1_learn 118 = .ok (.aload_n 0, 1) := by decide +kernel
theorem dX1_learn_119 : decode cX1_learn 119 = .ok (.aload_n 1, 1) := by decide +kernel
theorem dX1_learn_120 : decode cX1_learn 120 = .ok (.getfield 41, 3) := by decide +kernel
theorem dX1_learn_123 : decode cX1_learn 123 = .ok (.aload_n 1, 1) := by decide +kernel
theorem dX1_learn_124 : decode cX1_learn 124 = .ok (.getfield 44, 3) := by decide +kernel
theorem dX1_learn_127 : decode cX1_learn 127 = .ok (.invokevirtual 58, 3) := by decide +kernel
theorem dX1_learn_130 : decode cX1_learn 130 = .ok (.goto 183, 3) := by decide +kernel
theorem dX1_learn_133 : decode cX1_learn 133 = .ok (.aload_n 0, 1) := by decide +kernel
theorem dX1_learn_134 : decode cX1_learn 134 = .ok (.aload_n 1, 1) := by decide +kernel
theorem dX1_learn_135 : decode cX1_learn 135 = .ok (.getfield 41, 3) := by decide +kernel
theorem dX1_learn_138 : decode cX1_learn 138 = .ok (.aload_n 1, 1) := by decide +kernel
theorem dX1_learn_139 : decode cX1_learn 139 = .ok (.getfield 44, 3) := by decide +kernel
theorem dX1_learn_142 : decode cX1_learn 142 = .ok (.invokevirtual 58, 3) := by decide +kernel
theorem dX1_learn_145 : decode cX1_learn 145 = .ok (.aload_n 0, 1) := by decide +kernel
theorem dX1_learn_146 : decode cX1_learn 146 = .ok (.aload_n 1, 1) := by decide +kernel
theorem dX1_learn_147 : decode cX1_learn 147 = .ok (.getfield 44, 3) := by decide +kernel
theorem dX1_learn_150 : decode cX1_learn 150 = .ok (.aload_n 1, 1) := by decide +kernel
theorem dX1_learn_151 : decode cX1_learn 151 = .ok (.getfield 41, 3) := by decide +kernel
theorem dX1_learn_154 : decode cX1_learn 154 = .ok (.invokevirtual 58, 3) := by decide +kernel
theorem dX1_learn_157 : decode cX1_learn 157 = .ok (.aload_n 0, 1) := by decide +kernel
theorem dX1_learn_158 : decode cX1_learn 158 = .ok (.getfield 18, 3) := by decide +kernel
theorem dX1_learn_161 : decode cX1_learn 161 = .ok (.aload_n 1, 1) := by decide +kernel
theorem dX1_learn_162 : decode cX1_learn 162 = .ok (.getfield 41, 3) := by decide +kernel
theorem dX1_learn_165 : decode cX1_learn 165 = .ok (.dup2, 1) := by decide +kernel
theorem dX1_learn_166 : decode cX1_learn 166 = .ok (.iaload, 1) := by decide +kernel
theorem dX1_learn_167 : decode cX1_learn 167 = .ok (.aload_n 1, 1) := by decide +kernel
theorem dX1_learn_168 : decode cX1_learn 168 = .ok (.getfield 44, 3) := by decide +kernel
theorem dX1_learn_171 : decode cX1_learn 171 = .ok (.invokestatic 54, 3) := by decide +kernel
theorem dX1_learn_174 : decode cX1_learn 174 = .ok (.ior, 1) := by decide +kernel
theorem dX1_learn_175 : decode cX1_learn 175 = .ok (.iastore, 1) := by decide +kernel
theorem dX1_learn_176 : decode cX1_learn 176 = .ok (.goto 137, 3) := by decide +kernel
theorem dX1_learn_179 : decode cX1_learn 179 = .ok (.aload_n 0, 1) := by decide +kernel
theorem dX1_learn_180 : decode cX1_learn 180 = .ok (.getfield 18, 3) := by decide +kernel
theorem dX1_learn_183 : decode cX1_learn 183 = .ok (.aload_n 1, 1) := by decide +kernel
theorem dX1_learn_184 : decode cX1_learn 184 = .ok (.getfield 41, 3) := by decide +kernel
theorem dX1_learn_187 : decode cX1_learn 187 = .ok (.dup2, 1) := by decide +kernel
theorem dX1_learn_188 : decode cX1_learn 188 = .ok (.iaload, 1) := by decide +kernel
theorem dX1_learn_189 : decode cX1_learn 189 = .ok (.aload_n 1, 1) := by decide +kernel
theorem dX1_learn_190 : decode cX1_learn 190 = .ok (.getfield 44, 3) := by decide +kernel
theorem dX1_learn_193 : decode cX1_learn 193 = .ok (.invokestatic 54, 3) := by decide +kernel
theorem dX1_learn_196 : decode cX1_learn 196 = .ok (.iconst (-1), 1) := by decide +kernel
theorem dX1_learn_197 : decode cX1_learn 197 = .ok (.ixor, 1) := by decide +kernel
theorem dX1_learn_198 : decode cX1_learn 198 = .ok (.iand, 1) := by decide +kernel
theorem dX1_learn_199 : decode cX1_learn 199 = .ok (.iastore, 1) := by decide +kernel
theorem dX1_learn_200 : decode cX1_learn 200 = .ok (.goto 113, 3) := by decide +kernel
theorem dX1_learn_203 : decode cX1_learn 203 = .ok (.aload_n 0, 1) := by decide +kernel
theorem dX1_learn_204 : decode cX1_learn 204 = .ok (.getfield 21, 3) := by decide +kernel
theorem dX1_learn_207 : decode cX1_learn 207 = .ok (.aload_n 1, 1) := by decide +kernel
theorem dX1_learn_208 : decode cX1_learn 208 = .ok (.getfield 41, 3) := by decide +kernel
theorem dX1_learn_211 : decode cX1_learn 211 = .ok (.aload_n 1, 1) := by decide +kernel
theorem dX1_learn_212 : decode cX1_learn 212 = .ok (.getfield 44, 3) := by decide +kernel
theorem dX1_learn_215 : decode cX1_learn 215 = .ok (.invokestatic 54, 3) := by decide +kernel
theorem dX1_learn_218 : decode cX1_learn 218 = .ok (.iastore, 1) := by decide +kernel
theorem dX1_learn_219 : decode cX1_learn 219 = .ok (.goto 94, 3) := by decide +kernel
theorem dX1_learn_222 : decode cX1_learn 222 = .ok (.aload_n 0, 1) := by decide +kernel
theorem dX1_learn_223 : decode cX1_learn 223 = .ok (.aload_n 1, 1) := by decide +kernel
theorem dX1_learn_224 : decode cX1_learn 224 = .ok (.getfield 41, 3) := by decide +kernel
theorem dX1_learn_227 : decode cX1_learn 227 = .ok (.aload_n 1, 1) := by decide +kernel
theorem dX1_learn_228 : decode cX1_learn 228 = .ok (.getfield 44, 3) := by decide +kernel
theorem dX1_learn_231 : decode cX1_learn 231 = .ok (.aload_n 1, 1) := by decide +kernel
theorem dX1_learn_232 : decode cX1_learn 232 = .ok (.getfield 61, 3) := by decide +kernel
theorem dX1_learn_235 : decode cX1_learn 235 = .ok (.invokevirtual 64, 3) := by decide +kernel
theorem dX1_learn_238 : decode cX1_learn 238 = .ok (.goto 75, 3) := by decide +kernel
theorem dX1_learn_241 : decode cX1_learn 241 = .ok (.aload_n 0, 1) := by decide +kernel
theorem dX1_learn_242 : decode cX1_learn 242 = .ok (.dup, 1) := by decide +kernel
theorem dX1_learn_243 : decode cX1_learn 243 = .ok (.getfield 28, 3) := by decide +kernel
theorem dX1_learn_246 : decode cX1_learn 246 = .ok (.lconst 1, 1) := by decide +kernel
theorem dX1_learn_247 : decode cX1_learn 247 = .ok (.aload_n 1, 1) := by decide +kernel
theorem dX1_learn_248 : decode cX1_learn 248 = .ok (.getfield 44, 3) := by decide +kernel
theorem dX1_learn_251 : decode cX1_learn 251 = .ok (.lshl, 1) := by decide +kernel
theorem dX1_learn_252 : decode cX1_learn 252 = .ok (.lor, 1) := by decide +kernel
theorem dX1_learn_253 : decode cX1_learn 253 = .ok (.putfield 28, 3) := by decide +kernel
theorem dX1_learn_256 : decode cX1_learn 256 = .ok (.goto 57, 3) := by decide +kernel
theorem dX1_learn_259 : decode cX1_learn 259 = .ok (.aload_n 0, 1) := by decide +kernel
theorem dX1_learn_260 : decode cX1_learn 260 = .ok (.dup, 1) := by decide +kernel
theorem dX1_learn_261 : decode cX1_learn 261 = .ok (.getfield 32, 3) := by decide +kernel
theorem dX1_learn_264 : decode cX1_learn 264 = .ok (.lconst 1, 1) := by decide +kernel
theorem dX1_learn_265 : decode cX1_learn 265 = .ok (.aload_n 1, 1) := by decide +kernel
theorem dX1_learn_266 : decode cX1_learn 266 = .ok (.getfield 44, 3) := by decide +kernel
theorem dX1_learn_269 : decode cX1_learn 269 = .ok (.lshl, 1) := by decide +kernel
theorem dX1_learn_270 : decode cX1_learn 270 = .ok (.lor, 1) := by decide +kernel
theorem dX1_learn_271 : decode cX1_learn 271 = .ok (.putfield 32, 3) := by decide +kernel
theorem dX1_learn_274 : decode cX1_learn 274 = .ok (.goto 39, 3) := by decide +kernel
theorem dX1_learn_277 : decode cX1_learn 277 = .ok (.aload_n 0, 1) := by decide +kernel
theorem dX1_learn_278 : decode cX1_learn 278 = .ok (.dup, 1) := by decide +kernel
theorem dX1_learn_279 : decode cX1_learn 279 = .ok (.getfield 28, 3) := by decide +kernel
theorem dX1_learn_282 : decode cX1_learn 282 = .ok (.lconst 1, 1) := by decide +kernel
theorem dX1_learn_283 : decode cX1_learn 283 = .ok (.aload_n 1, 1) := by decide +kernel
theorem dX1_learn_284 : decode cX1_learn 284 = .ok (.getfield 44, 3) := by decide +kernel
theorem dX1_learn_287 : decode cX1_learn 287 = .ok (.lshl, 1) := by decide +kernel
theorem dX1_learn_288 : decode cX1_learn 288 = .ok (.lor, 1) := by decide +kernel
theorem dX1_learn_289 : decode cX1_learn 289 = .ok (.putfield 28, 3) := by decide +kernel
theorem dX1_learn_292 : decode cX1_learn 292 = .ok (.aload_n 0, 1) := by decide +kernel
theorem dX1_learn_293 : decode cX1_learn 293 = .ok (.getfield 24, 3) := by decide +kernel
theorem dX1_learn_296 : decode cX1_learn 296 = .ok (.aload_n 1, 1) := by decide +kernel
theorem dX1_learn_297 : decode cX1_learn 297 = .ok (.getfield 41, 3) := by decide +kernel
theorem dX1_learn_300 : decode cX1_learn 300 = .ok (.dup2, 1) := by decide +kernel
theorem dX1_learn_301 : decode cX1_learn 301 = .ok (.laload, 1) := by decide +kernel
theorem dX1_learn_302 : decode cX1_learn 302 = .ok (.lconst 1, 1) := by decide +kernel
theorem dX1_learn_303 : decode cX1_learn 303 = .ok (.aload_n 1, 1) := by decide +kernel
theorem dX1_learn_304 : decode cX1_learn 304 = .ok (.getfield 44, 3) := by decide +kernel
theorem dX1_learn_307 : decode cX1_learn 307 = .ok (.lshl, 1) := by decide +kernel
theorem dX1_learn_308 : decode cX1_learn 308 = .ok (.lor, 1) := by decide +kernel
theorem dX1_learn_309 : decode cX1_learn 309 = .ok (.lastore, 1) := by decide +kernel
theorem dX1_learn_310 : decode cX1_learn 310 = .ok (.goto 3, 3) := by decide +kernel
theorem dX1_learn_313 : decode cX1_learn 313 = .ok (.return_, 1) := by decide +kernel
set_option maxRecDepth 1000000 in
theorem ggX1_learnFollow_X1_isFollowing : GoodIn wsX1_learnFollow wsX1_isFollowing := goodIn_r _ [6, 7, 8, 9, 10, 18, 19, 20, 21, 22, 23, 24] rfl (by decide +kernel)
set_option maxRecDepth 20000 in
theorem gX1_learnFollow_X1_isFollowing : GoodIn wsX1_learnFollow (wsV RX1 68 RX1 yX1_isFollowing wsX1_isFollowing) := goodIn_app (goodIn_of _ (by decide +kernel)) ggX1_learnFollow_X1_isFollowing
set_option maxRecDepth 1000000 in
theorem ggX1_learnFollow_X1_isBlockBetween : GoodIn wsX1_learnFollow wsX1_isBlockBetween := goodIn_r _ [14, 15, 8, 9, 10, 18, 19, 20, 21, 22, 23, 24] rfl (by decide +kernel)
set_option maxRecDepth 20000 in
theorem gX1_learnFollow_X1_isBlockBetween : GoodIn wsX1_learnFollow (wsV RX1 72 RX1 yX1_isBlockBetween wsX1_isBlockBetween) := goodIn_app (goodIn_of _ (by decide +kernel)) ggX1_learnFollow_X1_isBlockBetween
set_option maxRecDepth 1000000 in
theorem ggX1_learnFollow_X4_bit : GoodIn wsX1_learnFollow wsX4_bit := goodIn_r _ [17] rfl (by decide +kernel)
set_option maxRecDepth 20000 in
theorem gX1_learnFollow_X4_bit_n54 : GoodIn wsX1_learnFollow (wsX4_bit) := ggX1_learnFollow_X4_bit
theorem dX1_learnFollow_0 : decode cX1_learnFollow 0 = .ok (.aload_n 0, 1) := by decide +kernel
theorem dX1_learnFollow_1 : decode cX1_learnFollow 1 = .ok (.iload_n 1, 1) := by decide +kernel
theorem dX1_learnFollow_2 : decode cX1_learnFollow 2 = .ok (.iload_n 2, 1) := by decide +kernel
theorem dX1_learnFollow_3 : decode cX1_learnFollow 3 = .ok (.invokevirtual 68, 3) := by decide +kernel
theorem dX1_learnFollow_6 : decode cX1_learnFollow 6 = .ok (.ifCond .ne 25, 3) := by decide +kernel
theorem dX1_learnFollow_9 : decode cX1_learnFollow 9 = .ok (.aload_n 0, 1) := by decide +kernel
theorem dX1_learnFollow_10 : decode cX1_learnFollow 10 = .ok (.iload_n 1, 1) := by decide +kernel
theorem dX1_learnFollow_11 : decode cX1_learnFollow 11 = .ok (.iload_n 2, 1) := by decide +kernel
theorem dX1_learnFollow_12 : decode cX1_learnFollow 12 = .ok (.invokevirtual 72, 3) := by decide +kernel
theorem dX1_learnFollow_15 : decode cX1_learnFollow 15 = .ok (.ifCond .ne 16, 3) := by decide +kernel
theorem dX1_learnFollow_18 : decode cX1_learnFollow 18 = .ok (.aload_n 0, 1) := by decide +kernel
theorem dX1_learnFollow_19 : decode cX1_learnFollow 19 = .ok (.getfield 9, 3) := by decide +kernel
theorem dX1_learnFollow_22 : decode cX1_learnFollow 22 = .ok (.iload_n 1, 1) := by decide +kernel
theorem dX1_learnFollow_23 : decode cX1_learnFollow 23 = .ok (.dup2, 1) := by decide +kernel
theorem dX1_learnFollow_24 : decode cX1_learnFollow 24 = .ok (.iaload, 1) := by decide +kernel
theorem dX1_learnFollow_25 : decode cX1_learnFollow 25 = .ok (.iload_n 2, 1) := by decide +kernel
theorem dX1_learnFollow_26 : decode cX1_learnFollow 26 = .ok (.invokestatic 54, 3) := by decide +kernel
theorem dX1_learnFollow_29 : decode cX1_learnFollow 29 = .ok (.ior, 1) := by decide +kernel
theorem dX1_learnFollow_30 : decode cX1_learnFollow 30 = .ok (.iastore, 1) := by decide +kernel
theorem dX1_learnFollow_31 : decode cX1_learnFollow 31 = .ok (.return_, 1) := by decide +kernel
set_option maxRecDepth 1000000 in
theorem ggX1_learnAccept_X1_isAsking : GoodIn wsX1_learnAccept wsX1_isAsking := goodIn_r _ [5, 6, 7, 8, 9, 17, 18, 19, 20, 21, 22, 23] rfl (by decide +kernel)
set_option maxRecDepth 20000 in
theorem gX1_learnAccept_X1_isAsking : GoodIn wsX1_learnAccept (wsV RX1 75 RX1 yX1_isAsking wsX1_isAsking) := goodIn_app (goodIn_of _ (by decide +kernel)) ggX1_learnAccept_X1_isAsking
set_option maxRecDepth 1000000 in
theorem ggX1_learnAccept_X1_startFollowing : GoodIn wsX1_learnAccept wsX1_startFollowing := goodIn_r _ [13, 6, 14, 15, 8, 16, 17, 18, 19, 20, 21, 22, 23] rfl (by decide +kernel)
set_option maxRecDepth 20000 in
theorem gX1_learnAccept_X1_startFollowing : GoodIn wsX1_learnAccept (wsV RX1 78 RX1 yX1_startFollowing wsX1_startFollowing) := goodIn_app (goodIn_of _ (by decide +kernel)) ggX1_learnAccept_X1_startFollowing
theorem dX1_learnAccept_0 : decode cX1_learnAccept 0 = .ok (.aload_n 0, 1) := by decide +kernel
theorem dX1_learnAccept_1 : decode cX1_learnAccept 1 = .ok (.iload_n 2, 1) := by decide +kernel
theorem dX1_learnAccept_2 : decode cX1_learnAccept 2 = .ok (.iload_n 1, 1) := by decide +kernel
theorem dX1_learnAccept_3 : decode cX1_learnAccept 3 = .ok (.invokevirtual 75, 3) := by decide +kernel
theorem dX1_learnAccept_6 : decode cX1_learnAccept 6 = .ok (.ifCond .eq 9, 3) := by decide +kernel
theorem dX1_learnAccept_9 : decode cX1_learnAccept 9 = .ok (.aload_n 0, 1) := by decide +kernel
theorem dX1_learnAccept_10 : decode cX1_learnAccept 10 = .ok (.iload_n 2, 1) := by decide +kernel
theorem dX1_learnAccept_11 : decode cX1_learnAccept 11 = .ok (.iload_n 1, 1) := by decide +kernel
theorem dX1_learnAccept_12 : decode cX1_learnAccept 12 = .ok (.invokevirtual 78, 3) := by decide +kernel
theorem dX1_learnAccept_15 : decode cX1_learnAccept 15 = .ok (.return_, 1) := by decide +kernel
set_option maxRecDepth 1000000 in
theorem ggX1_learnMove_X4_has : GoodIn wsX1_learnMove wsX4_has := goodIn_r _ [4] rfl (by decide +kernel)
set_option maxRecDepth 20000 in
theorem gX1_learnMove_X4_has_n81 : GoodIn wsX1_learnMove (wsX4_has) := ggX1_learnMove_X4_has
set_option maxRecDepth 1000000 in
theorem ggX1_learnMove_X4_bit : GoodIn wsX1_learnMove wsX4_bit := goodIn_r _ [6] rfl (by decide +kernel)
set_option maxRecDepth 20000 in
theorem gX1_learnMove_X4_bit_n54 : GoodIn wsX1_learnMove (wsX4_bit) := ggX1_learnMove_X4_bit
set_option maxRecDepth 1000000 in
theorem ggX1_learnMove_X1_isBlockBetween : GoodIn wsX1_learnMove wsX1_isBlockBetween := goodIn_r _ [11, 12, 2, 3, 4, 18, 19, 20, 21, 22, 23, 24] rfl (by decide +kernel)
set_option maxRecDepth 20000 in
theorem gX1_learnMove_X1_isBlockBetween : GoodIn wsX1_learnMove (wsV RX1 72 RX1 yX1_isBlockBetween wsX1_isBlockBetween) := goodIn_app (goodIn_of _ (by decide +kernel)) ggX1_learnMove_X1_isBlockBetween
set_option maxRecDepth 1000000 in
theorem ggX1_learnMove_X1_startFollowing : GoodIn wsX1_learnMove wsX1_startFollowing := goodIn_r _ [16, 17, 1, 5, 3, 6, 18, 19, 20, 21, 22, 23, 24] rfl (by decide +kernel)
set_option maxRecDepth 20000 in
theorem gX1_learnMove_X1_startFollowing : GoodIn wsX1_learnMove (wsV RX1 78 RX1 yX1_startFollowing wsX1_startFollowing) := goodIn_app (goodIn_of _ (by decide +kernel)) ggX1_learnMove_X1_startFollowing
theorem dX1_learnMove_0 : decode cX1_learnMove 0 = .ok (.iconst 0, 1) := by decide +kernel
theorem dX1_learnMove_1 : decode cX1_learnMove 1 = .ok (.istore 4, 2) := by decide +kernel
theorem dX1_learnMove_3 : decode cX1_learnMove 3 = .ok (.iload 4, 2) := by decide +kernel
theorem dX1_learnMove_5 : decode cX1_learnMove 5 = .ok (.bipush 10, 2) := by decide +kernel
theorem dX1_learnMove_7 : decode cX1_learnMove 7 = .ok (.if_icmp .ge 57, 3) := by decide +kernel
theorem dX1_learnMove_10 : decode cX1_learnMove 10 = .ok (.iload_n 3, 1) := by decide +kernel
theorem dX1_learnMove_11 : decode cX1_learnMove 11 = .ok (.iload 4, 2) := by decide +kernel
theorem dX1_learnMove_13 : decode cX1_learnMove 13 = .ok (.invokestatic 81, 3) := by decide +kernel
theorem dX1_learnMove_16 : decode cX1_learnMove 16 = .ok (.ifCond .eq 42, 3) := by decide +kernel
theorem dX1_learnMove_19 : decode cX1_learnMove 19 = .ok (.aload_n 0, 1) := by decide +kernel
theorem dX1_learnMove_20 : decode cX1_learnMove 20 = .ok (.getfield 15, 3) := by decide +kernel
theorem dX1_learnMove_23 : decode cX1_learnMove 23 = .ok (.iload 4, 2) := by decide +kernel
theorem dX1_learnMove_25 : decode cX1_learnMove 25 = .ok (.dup2, 1) := by decide +kernel
theorem dX1_learnMove_26 : decode cX1_learnMove 26 = .ok (.iaload, 1) := by decide +kernel
theorem dX1_learnMove_27 : decode cX1_learnMove 27 = .ok (.iload_n 1, 1) := by decide +kernel
theorem dX1_learnMove_28 : decode cX1_learnMove 28 = .ok (.invokestatic 54, 3) := by decide +kernel
theorem dX1_learnMove_31 : decode cX1_learnMove 31 = .ok (.iconst (-1), 1) := by decide +kernel
theorem dX1_learnMove_32 : decode cX1_learnMove 32 = .ok (.ixor, 1) := by decide +kernel
theorem dX1_learnMove_33 : decode cX1_learnMove 33 = .ok (.iand, 1) := by decide +kernel
theorem dX1_learnMove_34 : decode cX1_learnMove 34 = .ok (.iastore, 1) := by decide +kernel
theorem dX1_learnMove_35 : decode cX1_learnMove 35 = .ok (.iload 4, 2) := by decide +kernel
theorem dX1_learnMove_37 : decode cX1_learnMove 37 = .ok (.iload_n 2, 1) := by decide +kernel
theorem dX1_learnMove_38 : decode cX1_learnMove 38 = .ok (.if_icmp .eq 20, 3) := by decide +kernel
theorem dX1_learnMove_41 : decode cX1_learnMove 41 = .ok (.aload_n 0, 1) := by decide +kernel
theorem dX1_learnMove_42 : decode cX1_learnMove 42 = .ok (.iload 4, 2) := by decide +kernel
theorem dX1_learnMove_44 : decode cX1_learnMove 44 = .ok (.iload_n 2, 1) := by decide +kernel
theorem dX1_learnMove_45 : decode cX1_learnMove 45 = .ok (.invokevirtual 72, 3) := by decide +kernel
theorem dX1_learnMove_48 : decode cX1_learnMove 48 = .ok (.ifCond .ne 10, 3) := by decide +kernel
theorem dX1_learnMove_51 : decode cX1_learnMove 51 = .ok (.aload_n 0, 1) := by decide +kernel
theorem dX1_learnMove_52 : decode cX1_learnMove 52 = .ok (.iload 4, 2) := by decide +kernel
theorem dX1_learnMove_54 : decode cX1_learnMove 54 = .ok (.iload_n 2, 1) := by decide +kernel
theorem dX1_learnMove_55 : decode cX1_learnMove 55 = .ok (.invokevirtual 78, 3) := by decide +kernel
theorem dX1_learnMove_58 : decode cX1_learnMove 58 = .ok (.iinc 4 1, 3) := by decide +kernel
theorem dX1_learnMove_61 : decode cX1_learnMove 61 = .ok (.goto (-58), 3) := by decide +kernel
theorem dX1_learnMove_64 : decode cX1_learnMove 64 = .ok (.return_, 1) := by decide +kernel
set_option maxRecDepth 1000000 in
theorem ggX1_startFollowing_X4_bit : GoodIn wsX1_startFollowing wsX4_bit := goodIn_r _ [5] rfl (by decide +kernel)
set_option maxRecDepth 20000 in
theorem gX1_startFollowing_X4_bit_n54 : GoodIn wsX1_startFollowing (wsX4_bit) := ggX1_startFollowing_X4_bit
theorem dX1_startFollowing_0 : decode cX1_startFollowing 0 = .ok (.aload_n 0, 1) := by decide +kernel
theorem dX1_startFollowing_1 : decode cX1_startFollowing 1 = .ok (.getfield 9, 3) := by decide +kernel
theorem dX1_startFollowing_4 : decode cX1_startFollowing 4 = .ok (.iload_n 1, 1) := by decide +kernel
theorem dX1_startFollowing_5 : decode cX1_startFollowing 5 = .ok (.dup2, 1) := by decide +kernel
theorem dX1_startFollowing_6 : decode cX1_startFollowing 6 = .ok (.iaload, 1) := by decide +kernel
theorem dX1_startFollowing_7 : decode cX1_startFollowing 7 = .ok (.iload_n 2, 1) := by decide +kernel
theorem dX1_startFollowing_8 : decode cX1_startFollowing 8 = .ok (.invokestatic 54, 3) := by decide +kernel
theorem dX1_startFollowing_11 : decode cX1_startFollowing 11 = .ok (.iconst (-1), 1) := by decide +kernel
theorem dX1_startFollowing_12 : decode cX1_startFollowing 12 = .ok (.ixor, 1) := by decide +kernel
theorem dX1_startFollowing_13 : decode cX1_startFollowing 13 = .ok (.iand, 1) := by decide +kernel
theorem dX1_startFollowing_14 : decode cX1_startFollowing 14 = .ok (.iastore, 1) := by decide +kernel
theorem dX1_startFollowing_15 : decode cX1_startFollowing 15 = .ok (.aload_n 0, 1) := by decide +kernel
theorem dX1_startFollowing_16 : decode cX1_startFollowing 16 = .ok (.getfield 15, 3) := by decide +kernel
theorem dX1_startFollowing_19 : decode cX1_startFollowing 19 = .ok (.iload_n 1, 1) := by decide +kernel
theorem dX1_startFollowing_20 : decode cX1_startFollowing 20 = .ok (.dup2, 1) := by decide +kernel
theorem dX1_startFollowing_21 : decode cX1_startFollowing 21 = .ok (.iaload, 1) := by decide +kernel
theorem dX1_startFollowing_22 : decode cX1_startFollowing 22 = .ok (.iload_n 2, 1) := by decide +kernel
theorem dX1_startFollowing_23 : decode cX1_startFollowing 23 = .ok (.invokestatic 54, 3) := by decide +kernel
theorem dX1_startFollowing_26 : decode cX1_startFollowing 26 = .ok (.ior, 1) := by decide +kernel
theorem dX1_startFollowing_27 : decode cX1_startFollowing 27 = .ok (.iastore, 1) := by decide +kernel
theorem dX1_startFollowing_28 : decode cX1_startFollowing 28 = .ok (.return_, 1) := by decide +kernel
set_option maxRecDepth 1000000 in
theorem ggX1_part_X4_bit : GoodIn wsX1_part wsX4_bit := goodIn_r _ [5] rfl (by decide +kernel)
set_option maxRecDepth 20000 in
theorem gX1_part_X4_bit_n54 : GoodIn wsX1_part (wsX4_bit) := ggX1_part_X4_bit
theorem dX1_part_0 : decode cX1_part 0 = .ok (.aload_n 0, 1) := by decide +kernel
theorem dX1_part_1 : decode cX1_part 1 = .ok (.getfield 9, 3) := by decide +kernel
theorem dX1_part_4 : decode cX1_part 4 = .ok (.iload_n 1, 1) := by decide +kernel
theorem dX1_part_5 : decode cX1_part 5 = .ok (.dup2, 1) := by decide +kernel
theorem dX1_part_6 : decode cX1_part 6 = .ok (.iaload, 1) := by decide +kernel
theorem dX1_part_7 : decode cX1_part 7 = .ok (.iload_n 2, 1) := by decide +kernel
theorem dX1_part_8 : decode cX1_part 8 = .ok (.invokestatic 54, 3) := by decide +kernel
theorem dX1_part_11 : decode cX1_part 11 = .ok (.iconst (-1), 1) := by decide +kernel
theorem dX1_part_12 : decode cX1_part 12 = .ok (.ixor, 1) := by decide +kernel
theorem dX1_part_13 : decode cX1_part 13 = .ok (.iand, 1) := by decide +kernel
theorem dX1_part_14 : decode cX1_part 14 = .ok (.iastore, 1) := by decide +kernel
theorem dX1_part_15 : decode cX1_part 15 = .ok (.aload_n 0, 1) := by decide +kernel
theorem dX1_part_16 : decode cX1_part 16 = .ok (.getfield 15, 3) := by decide +kernel
theorem dX1_part_19 : decode cX1_part 19 = .ok (.iload_n 1, 1) := by decide +kernel
theorem dX1_part_20 : decode cX1_part 20 = .ok (.dup2, 1) := by decide +kernel
theorem dX1_part_21 : decode cX1_part 21 = .ok (.iaload, 1) := by decide +kernel
theorem dX1_part_22 : decode cX1_part 22 = .ok (.iload_n 2, 1) := by decide +kernel
theorem dX1_part_23 : decode cX1_part 23 = .ok (.invokestatic 54, 3) := by decide +kernel
theorem dX1_part_26 : decode cX1_part 26 = .ok (.iconst (-1), 1) := by decide +kernel
theorem dX1_part_27 : decode cX1_part 27 = .ok (.ixor, 1) := by decide +kernel
theorem dX1_part_28 : decode cX1_part 28 = .ok (.iand, 1) := by decide +kernel
theorem dX1_part_29 : decode cX1_part 29 = .ok (.iastore, 1) := by decide +kernel
theorem dX1_part_30 : decode cX1_part 30 = .ok (.return_, 1) := by decide +kernel
set_option maxRecDepth 1000000 in
theorem ggX1_isAsking_X4_has : GoodIn wsX1_isAsking wsX4_has := goodIn_r _ [4] rfl (by decide +kernel)
set_option maxRecDepth 20000 in
theorem gX1_isAsking_X4_has_n81 : GoodIn wsX1_isAsking (wsX4_has) := ggX1_isAsking_X4_has
theorem dX1_isAsking_0 : decode cX1_isAsking 0 = .ok (.aload_n 0, 1) := by decide +kernel
theorem dX1_isAsking_1 : decode cX1_isAsking 1 = .ok (.getfield 9, 3) := by decide +kernel
theorem dX1_isAsking_4 : decode cX1_isAsking 4 = .ok (.iload_n 1, 1) := by decide +kernel
theorem dX1_isAsking_5 : decode cX1_isAsking 5 = .ok (.iaload, 1) := by decide +kernel
theorem dX1_isAsking_6 : decode cX1_isAsking 6 = .ok (.iload_n 2, 1) := by decide +kernel
theorem dX1_isAsking_7 : decode cX1_isAsking 7 = .ok (.invokestatic 81, 3) := by decide +kernel
theorem dX1_isAsking_10 : decode cX1_isAsking 10 = .ok (.ireturn, 1) := by decide +kernel
set_option maxRecDepth 1000000 in
theorem ggX1_isFollowing_X4_has : GoodIn wsX1_isFollowing wsX4_has := goodIn_r _ [4] rfl (by decide +kernel)
set_option maxRecDepth 20000 in
theorem gX1_isFollowing_X4_has_n81 : GoodIn wsX1_isFollowing (wsX4_has) := ggX1_isFollowing_X4_has
theorem dX1_isFollowing_0 : decode cX1_isFollowing 0 = .ok (.aload_n 0, 1) := by decide +kernel
theorem dX1_isFollowing_1 : decode cX1_isFollowing 1 = .ok (.getfield 15, 3) := by decide +kernel
theorem dX1_isFollowing_4 : decode cX1_isFollowing 4 = .ok (.iload_n 1, 1) := by decide +kernel
theorem dX1_isFollowing_5 : decode cX1_isFollowing 5 = .ok (.iaload, 1) := by decide +kernel
theorem dX1_isFollowing_6 : decode cX1_isFollowing 6 = .ok (.iload_n 2, 1) := by decide +kernel
theorem dX1_isFollowing_7 : decode cX1_isFollowing 7 = .ok (.invokestatic 81, 3) := by decide +kernel
theorem dX1_isFollowing_10 : decode cX1_isFollowing 10 = .ok (.ireturn, 1) := by decide +kernel
set_option maxRecDepth 1000000 in
theorem ggX1_isBlocking_X4_has : GoodIn wsX1_isBlocking wsX4_has := goodIn_r _ [4] rfl (by decide +kernel)
set_option maxRecDepth 20000 in
theorem gX1_isBlocking_X4_has_n81 : GoodIn wsX1_isBlocking (wsX4_has) := ggX1_isBlocking_X4_has
theorem dX1_isBlocking_0 : decode cX1_isBlocking 0 = .ok (.aload_n 0, 1) := by decide +kernel
theorem dX1_isBlocking_1 : decode cX1_isBlocking 1 = .ok (.getfield 18, 3) := by decide +kernel
theorem dX1_isBlocking_4 : decode cX1_isBlocking 4 = .ok (.iload_n 1, 1) := by decide +kernel
theorem dX1_isBlocking_5 : decode cX1_isBlocking 5 = .ok (.iaload, 1) := by decide +kernel
theorem dX1_isBlocking_6 : decode cX1_isBlocking 6 = .ok (.iload_n 2, 1) := by decide +kernel
theorem dX1_isBlocking_7 : decode cX1_isBlocking 7 = .ok (.invokestatic 81, 3) := by decide +kernel
theorem dX1_isBlocking_10 : decode cX1_isBlocking 10 = .ok (.ireturn, 1) := by decide +kernel
set_option maxRecDepth 1000000 in
theorem ggX1_isBlockBetween_X4_has : GoodIn wsX1_isBlockBetween wsX4_has := goodIn_r _ [4] rfl (by decide +kernel)
set_option maxRecDepth 20000 in
theorem gX1_isBlockBetween_X4_has_n81 : GoodIn wsX1_isBlockBetween (wsX4_has) := ggX1_isBlockBetween_X4_has
theorem dX1_isBlockBetween_0 : decode cX1_isBlockBetween 0 = .ok (.aload_n 0, 1) := by decide +kernel
theorem dX1_isBlockBetween_1 : decode cX1_isBlockBetween 1 = .ok (.getfield 18, 3) := by decide +kernel
theorem dX1_isBlockBetween_4 : decode cX1_isBlockBetween 4 = .ok (.iload_n 1, 1) := by decide +kernel
theorem dX1_isBlockBetween_5 : decode cX1_isBlockBetween 5 = .ok (.iaload, 1) := by decide +kernel
theorem dX1_isBlockBetween_6 : decode cX1_isBlockBetween 6 = .ok (.iload_n 2, 1) := by decide +kernel
theorem dX1_isBlockBetween_7 : decode cX1_isBlockBetween 7 = .ok (.invokestatic 81, 3) := by decide +kernel
theorem dX1_isBlockBetween_10 : decode cX1_isBlockBetween 10 = .ok (.ifCond .ne 16, 3) := by decide +kernel
theorem dX1_isBlockBetween_13 : decode cX1_isBlockBetween 13 = .ok (.aload_n 0, 1) := by decide +kernel
theorem dX1_isBlockBetween_14 : decode cX1_isBlockBetween 14 = .ok (.getfield 18, 3) := by decide +kernel
theorem dX1_isBlockBetween_17 : decode cX1_isBlockBetween 17 = .ok (.iload_n 2, 1) := by decide +kernel
theorem dX1_isBlockBetween_18 : decode cX1_isBlockBetween 18 = .ok (.iaload, 1) := by decide +kernel
theorem dX1_isBlockBetween_19 : decode cX1_isBlockBetween 19 = .ok (.iload_n 1, 1) := by decide +kernel
theorem dX1_isBlockBetween_20 : decode cX1_isBlockBetween 20 = .ok (.invokestatic 81, 3) := by decide +kernel
theorem dX1_isBlockBetween_23 : decode cX1_isBlockBetween 23 = .ok (.ifCond .eq 7, 3) := by decide +kernel
theorem dX1_isBlockBetween_26 : decode cX1_isBlockBetween 26 = .ok (.iconst 1, 1) := by decide +kernel
theorem dX1_isBlockBetween_27 : decode cX1_isBlockBetween 27 = .ok (.goto 4, 3) := by decide +kernel
theorem dX1_isBlockBetween_30 : decode cX1_isBlockBetween 30 = .ok (.iconst 0, 1) := by decide +kernel
theorem dX1_isBlockBetween_31 : decode cX1_isBlockBetween 31 = .ok (.ireturn, 1) := by decide +kernel
set_option maxRecDepth 1000000 in
theorem ggX1_isAlias_X4_has : GoodIn wsX1_isAlias wsX4_has := goodIn_r _ [4] rfl (by decide +kernel)
set_option maxRecDepth 20000 in
theorem gX1_isAlias_X4_has_n81 : GoodIn wsX1_isAlias (wsX4_has) := ggX1_isAlias_X4_has
theorem dX1_isAlias_0 : decode cX1_isAlias 0 = .ok (.aload_n 0, 1) := by decide +kernel
theorem dX1_isAlias_1 : decode cX1_isAlias 1 = .ok (.getfield 21, 3) := by decide +kernel
theorem dX1_isAlias_4 : decode cX1_isAlias 4 = .ok (.iload_n 1, 1) := by decide +kernel
theorem dX1_isAlias_5 : decode cX1_isAlias 5 = .ok (.iaload, 1) := by decide +kernel
theorem dX1_isAlias_6 : decode cX1_isAlias 6 = .ok (.iload_n 2, 1) := by decide +kernel
theorem dX1_isAlias_7 : decode cX1_isAlias 7 = .ok (.invokestatic 81, 3) := by decide +kernel
theorem dX1_isAlias_10 : decode cX1_isAlias 10 = .ok (.ireturn, 1) := by decide +kernel
set_option maxRecDepth 1000000 in
theorem ggX1_isBoosting_X4_hasPost : GoodIn wsX1_isBoosting wsX4_hasPost := goodIn_r _ [4] rfl (by decide +kernel)
set_option maxRecDepth 20000 in
theorem gX1_isBoosting_X4_hasPost_n84 : GoodIn wsX1_isBoosting (wsX4_hasPost) := ggX1_isBoosting_X4_hasPost
theorem dX1_isBoosting_0 : decode cX1_isBoosting 0 = .ok (.aload_n 0, 1) := by decide +kernel
theorem dX1_isBoosting_1 : decode cX1_isBoosting 1 = .ok (.getfield 24, 3) := by decide +kernel
theorem dX1_isBoosting_4 : decode cX1_isBoosting 4 = .ok (.iload_n 1, 1) := by decide +kernel
theorem dX1_isBoosting_5 : decode cX1_isBoosting 5 = .ok (.laload, 1) := by decide +kernel
theorem dX1_isBoosting_6 : decode cX1_isBoosting 6 = .ok (.iload_n 2, 1) := by decide +kernel
theorem dX1_isBoosting_7 : decode cX1_isBoosting 7 = .ok (.invokestatic 84, 3) := by decide +kernel
theorem dX1_isBoosting_10 : decode cX1_isBoosting 10 = .ok (.ireturn, 1) := by decide +kernel
set_option maxRecDepth 1000000 in
theorem ggX1_isMarked_X4_hasPost : GoodIn wsX1_isMarked wsX4_hasPost := goodIn_r _ [4] rfl (by decide +kernel)
set_option maxRecDepth 20000 in
theorem gX1_isMarked_X4_hasPost_n84 : GoodIn wsX1_isMarked (wsX4_hasPost) := ggX1_isMarked_X4_hasPost
theorem dX1_isMarked_0 : decode cX1_isMarked 0 = .ok (.aload_n 0, 1) := by decide +kernel
theorem dX1_isMarked_1 : decode cX1_isMarked 1 = .ok (.getfield 32, 3) := by decide +kernel
theorem dX1_isMarked_4 : decode cX1_isMarked 4 = .ok (.iload_n 1, 1) := by decide +kernel
theorem dX1_isMarked_5 : decode cX1_isMarked 5 = .ok (.invokestatic 84, 3) := by decide +kernel
theorem dX1_isMarked_8 : decode cX1_isMarked 8 = .ok (.ireturn, 1) := by decide +kernel
set_option maxRecDepth 1000000 in
theorem ggX1_followersOf_X1_isFollowing : GoodIn wsX1_followersOf wsX1_isFollowing := goodIn_r _ [5, 6, 7, 8, 9, 12, 13, 14, 15, 16, 17, 18] rfl (by decide +kernel)
set_option maxRecDepth 20000 in
theorem gX1_followersOf_X1_isFollowing : GoodIn wsX1_followersOf (wsV RX1 68 RX1 yX1_isFollowing wsX1_isFollowing) := goodIn_app (goodIn_of _ (by decide +kernel)) ggX1_followersOf_X1_isFollowing
set_option maxRecDepth 1000000 in
theorem ggX1_followersOf_X4_bit : GoodIn wsX1_followersOf wsX4_bit := goodIn_r _ [11] rfl (by decide +kernel)
set_option maxRecDepth 20000 in
theorem gX1_followersOf_X4_bit_n54 : GoodIn wsX1_followersOf (wsX4_bit) := ggX1_followersOf_X4_bit
theorem dX1_followersOf_0 : decode cX1_followersOf 0 = .ok (.iconst 0, 1) := by decide +kernel
theorem dX1_followersOf_1 : decode cX1_followersOf 1 = .ok (.istore_n 2, 1) := by decide +kernel
theorem dX1_followersOf_2 : decode cX1_followersOf 2 = .ok (.iconst 0, 1) := by decide +kernel
theorem dX1_followersOf_3 : decode cX1_followersOf 3 = .ok (.istore_n 3, 1) := by decide +kernel
theorem dX1_followersOf_4 : decode cX1_followersOf 4 = .ok (.iload_n 3, 1) := by decide +kernel
theorem dX1_followersOf_5 : decode cX1_followersOf 5 = .ok (.bipush 10, 2) := by decide +kernel
theorem dX1_followersOf_7 : decode cX1_followersOf 7 = .ok (.if_icmp .ge 25, 3) := by decide +kernel
theorem dX1_followersOf_10 : decode cX1_followersOf 10 = .ok (.aload_n 0, 1) := by decide +kernel
theorem dX1_followersOf_11 : decode cX1_followersOf 11 = .ok (.iload_n 3, 1) := by decide +kernel
theorem dX1_followersOf_12 : decode cX1_followersOf 12 = .ok (.iload_n 1, 1) := by decide +kernel
theorem dX1_followersOf_13 : decode cX1_followersOf 13 = .ok (.invokevirtual 68, 3) := by decide +kernel
theorem dX1_followersOf_16 : decode cX1_followersOf 16 = .ok (.ifCond .eq 10, 3) := by decide +kernel
theorem dX1_followersOf_19 : decode cX1_followersOf 19 = .ok (.iload_n 2, 1) := by decide +kernel
theorem dX1_followersOf_20 : decode cX1_followersOf 20 = .ok (.iload_n 3, 1) := by decide +kernel
theorem dX1_followersOf_21 : decode cX1_followersOf 21 = .ok (.invokestatic 54, 3) := by decide +kernel
theorem dX1_followersOf_24 : decode cX1_followersOf 24 = .ok (.ior, 1) := by decide +kernel
theorem dX1_followersOf_25 : decode cX1_followersOf 25 = .ok (.istore_n 2, 1) := by decide +kernel
theorem dX1_followersOf_26 : decode cX1_followersOf 26 = .ok (.iinc 3 1, 3) := by decide +kernel
theorem dX1_followersOf_29 : decode cX1_followersOf 29 = .ok (.goto (-25), 3) := by decide +kernel
theorem dX1_followersOf_32 : decode cX1_followersOf 32 = .ok (.iload_n 2, 1) := by decide +kernel
theorem dX1_followersOf_33 : decode cX1_followersOf 33 = .ok (.ireturn, 1) := by decide +kernel
set_option maxRecDepth 1000000 in
theorem ggX1_isSeenBy_X4_hasPost : GoodIn wsX1_isSeenBy wsX4_hasPost := goodIn_r _ [9] rfl (by decide +kernel)
set_option maxRecDepth 20000 in
theorem gX1_isSeenBy_X4_hasPost_n84 : GoodIn wsX1_isSeenBy (wsX4_hasPost) := ggX1_isSeenBy_X4_hasPost
set_option maxRecDepth 1000000 in
theorem ggX1_isSeenBy_X1_isBlockBetween : GoodIn wsX1_isSeenBy wsX1_isBlockBetween := goodIn_r _ [14, 15, 16, 8, 17, 23, 24, 25, 26, 27, 28, 29] rfl (by decide +kernel)
set_option maxRecDepth 20000 in
theorem gX1_isSeenBy_X1_isBlockBetween : GoodIn wsX1_isSeenBy (wsV RX1 72 RX1 yX1_isBlockBetween wsX1_isBlockBetween) := goodIn_app (goodIn_of _ (by decide +kernel)) ggX1_isSeenBy_X1_isBlockBetween
set_option maxRecDepth 1000000 in
theorem ggX1_isSeenBy_X4_has : GoodIn wsX1_isSeenBy wsX4_has := goodIn_r _ [17] rfl (by decide +kernel)
set_option maxRecDepth 20000 in
theorem gX1_isSeenBy_X4_has_n81 : GoodIn wsX1_isSeenBy (wsX4_has) := ggX1_isSeenBy_X4_has
set_option maxRecDepth 1000000 in
theorem ggX1_isSeenBy_X1_isFollowing : GoodIn wsX1_isSeenBy wsX1_isFollowing := goodIn_r _ [21, 22, 16, 8, 17, 23, 24, 25, 26, 27, 28, 29] rfl (by decide +kernel)
set_option maxRecDepth 20000 in
theorem gX1_isSeenBy_X1_isFollowing : GoodIn wsX1_isSeenBy (wsV RX1 68 RX1 yX1_isFollowing wsX1_isFollowing) := goodIn_app (goodIn_of _ (by decide +kernel)) ggX1_isSeenBy_X1_isFollowing
theorem dX1_isSeenBy_0 : decode cX1_isSeenBy 0 = .ok (.aload_n 0, 1) := by decide +kernel
theorem dX1_isSeenBy_1 : decode cX1_isSeenBy 1 = .ok (.getfield 28, 3) := by decide +kernel
theorem dX1_isSeenBy_4 : decode cX1_isSeenBy 4 = .ok (.aload_n 0, 1) := by decide +kernel
theorem dX1_isSeenBy_5 : decode cX1_isSeenBy 5 = .ok (.getfield 32, 3) := by decide +kernel
theorem dX1_isSeenBy_8 : decode cX1_isSeenBy 8 = .ok (.ldc2_w 88, 3) := by decide +kernel
theorem dX1_isSeenBy_11 : decode cX1_isSeenBy 11 = .ok (.lxor, 1) := by decide +kernel
theorem dX1_isSeenBy_12 : decode cX1_isSeenBy 12 = .ok (.land, 1) := by decide +kernel
theorem dX1_isSeenBy_13 : decode cX1_isSeenBy 13 = .ok (.iload_n 2, 1) := by decide +kernel
theorem dX1_isSeenBy_14 : decode cX1_isSeenBy 14 = .ok (.invokestatic 84, 3) := by decide +kernel
theorem dX1_isSeenBy_17 : decode cX1_isSeenBy 17 = .ok (.ifCond .eq 15, 3) := by decide +kernel
theorem dX1_isSeenBy_20 : decode cX1_isSeenBy 20 = .ok (.aload_n 0, 1) := by decide +kernel
theorem dX1_isSeenBy_21 : decode cX1_isSeenBy 21 = .ok (.iload_n 1, 1) := by decide +kernel
theorem dX1_isSeenBy_22 : decode cX1_isSeenBy 22 = .ok (.aload_n 3, 1) := by decide +kernel
theorem dX1_isSeenBy_23 : decode cX1_isSeenBy 23 = .ok (.getfield 90, 3) := by decide +kernel
theorem dX1_isSeenBy_26 : decode cX1_isSeenBy 26 = .ok (.invokevirtual 72, 3) := by decide +kernel
theorem dX1_isSeenBy_29 : decode cX1_isSeenBy 29 = .ok (.ifCond .eq 5, 3) := by decide +kernel
theorem dX1_isSeenBy_32 : decode cX1_isSeenBy 32 = .ok (.iconst 0, 1) := by decide +kernel
theorem dX1_isSeenBy_33 : decode cX1_isSeenBy 33 = .ok (.ireturn, 1) := by decide +kernel
theorem dX1_isSeenBy_34 : decode cX1_isSeenBy 34 = .ok (.aload_n 3, 1) := by decide +kernel
theorem dX1_isSeenBy_35 : decode cX1_isSeenBy 35 = .ok (.getfield 90, 3) := by decide +kernel
theorem dX1_isSeenBy_38 : decode cX1_isSeenBy 38 = .ok (.iload_n 1, 1) := by decide +kernel
theorem dX1_isSeenBy_39 : decode cX1_isSeenBy 39 = .ok (.if_icmp .eq 41, 3) := by decide +kernel
theorem dX1_isSeenBy_42 : decode cX1_isSeenBy 42 = .ok (.aload_n 3, 1) := by decide +kernel
theorem dX1_isSeenBy_43 : decode cX1_isSeenBy 43 = .ok (.getfield 95, 3) := by decide +kernel
theorem dX1_isSeenBy_46 : decode cX1_isSeenBy 46 = .ok (.iload_n 1, 1) := by decide +kernel
theorem dX1_isSeenBy_47 : decode cX1_isSeenBy 47 = .ok (.invokestatic 81, 3) := by decide +kernel
theorem dX1_isSeenBy_50 : decode cX1_isSeenBy 50 = .ok (.ifCond .ne 30, 3) := by decide +kernel
theorem dX1_isSeenBy_53 : decode cX1_isSeenBy 53 = .ok (.aload_n 3, 1) := by decide +kernel
theorem dX1_isSeenBy_54 : decode cX1_isSeenBy 54 = .ok (.getfield 98, 3) := by decide +kernel
theorem dX1_isSeenBy_57 : decode cX1_isSeenBy 57 = .ok (.ifCond .eq 23, 3) := by decide +kernel
theorem dX1_isSeenBy_60 : decode cX1_isSeenBy 60 = .ok (.aload_n 3, 1) := by decide +kernel
theorem dX1_isSeenBy_61 : decode cX1_isSeenBy 61 = .ok (.getfield 98, 3) := by decide +kernel
theorem dX1_isSeenBy_64 : decode cX1_isSeenBy 64 = .ok (.iconst 1, 1) := by decide +kernel
theorem dX1_isSeenBy_65 : decode cX1_isSeenBy 65 = .ok (.if_icmp .ne 19, 3) := by decide +kernel
theorem dX1_isSeenBy_68 : decode cX1_isSeenBy 68 = .ok (.aload_n 0, 1) := by decide +kernel
theorem dX1_isSeenBy_69 : decode cX1_isSeenBy 69 = .ok (.iload_n 1, 1) := by decide +kernel
theorem dX1_isSeenBy_70 : decode cX1_isSeenBy 70 = .ok (.aload_n 3, 1) := by decide +kernel
theorem dX1_isSeenBy_71 : decode cX1_isSeenBy 71 = .ok (.getfield 90, 3) := by decide +kernel
theorem dX1_isSeenBy_74 : decode cX1_isSeenBy 74 = .ok (.invokevirtual 68, 3) := by decide +kernel
theorem dX1_isSeenBy_77 : decode cX1_isSeenBy 77 = .ok (.ifCond .eq 7, 3) := by decide +kernel
theorem dX1_isSeenBy_80 : decode cX1_isSeenBy 80 = .ok (.iconst 1, 1) := by decide +kernel
theorem dX1_isSeenBy_81 : decode cX1_isSeenBy 81 = .ok (.goto 4, 3) := by decide +kernel
theorem dX1_isSeenBy_84 : decode cX1_isSeenBy 84 = .ok (.iconst 0, 1) := by decide +kernel
theorem dX1_isSeenBy_85 : decode cX1_isSeenBy 85 = .ok (.ireturn, 1) := by decide +kernel
set_option maxRecDepth 1000000 in
theorem ggX1_isAtHomeOf_X1_isSeenBy : GoodIn wsX1_isAtHomeOf wsX1_isSeenBy := goodIn_r _ [7, 8, 9, 10, 1, 2, 11, 12, 13, 14, 15, 16, 17, 6, 18, 19, 20, 21, 22, 23, 24, 25, 26, 42, 43, 44, 45, 46, 47, 48, 36, 37, 38, 39, 40, 41] rfl (by decide +kernel)
set_option maxRecDepth 20000 in
theorem gX1_isAtHomeOf_X1_isSeenBy : GoodIn wsX1_isAtHomeOf (wsV RX1 99 RX1 yX1_isSeenBy wsX1_isSeenBy) := goodIn_app (goodIn_of _ (by decide +kernel)) ggX1_isAtHomeOf_X1_isSeenBy
set_option maxRecDepth 1000000 in
theorem ggX1_isAtHomeOf_X4_has : GoodIn wsX1_isAtHomeOf wsX4_has := goodIn_r _ [21] rfl (by decide +kernel)
set_option maxRecDepth 20000 in
theorem gX1_isAtHomeOf_X4_has_n81 : GoodIn wsX1_isAtHomeOf (wsX4_has) := ggX1_isAtHomeOf_X4_has
set_option maxRecDepth 1000000 in
theorem ggX1_isAtHomeOf_X1_isFollowing : GoodIn wsX1_isAtHomeOf wsX1_isFollowing := goodIn_r _ [25, 26, 20, 13, 21, 42, 43, 44, 45, 46, 47, 48] rfl (by decide +kernel)
set_option maxRecDepth 20000 in
theorem gX1_isAtHomeOf_X1_isFollowing : GoodIn wsX1_isAtHomeOf (wsV RX1 68 RX1 yX1_isFollowing wsX1_isFollowing) := goodIn_app (goodIn_of _ (by decide +kernel)) ggX1_isAtHomeOf_X1_isFollowing
set_option maxRecDepth 1000000 in
theorem ggX1_isAtHomeOf_X1_isBoostedFor : GoodIn wsX1_isAtHomeOf wsX1_isBoostedFor := goodIn_r _ [30, 22, 23, 24, 6, 25, 26, 20, 13, 21, 31, 32, 33, 34, 35, 12, 14, 42, 43, 44, 45, 46, 47, 48] rfl (by decide +kernel)
set_option maxRecDepth 20000 in
theorem gX1_isAtHomeOf_X1_isBoostedFor : GoodIn wsX1_isAtHomeOf (wsV RX1 103 RX1 yX1_isBoostedFor wsX1_isBoostedFor) := goodIn_app (goodIn_of _ (by decide +kernel)) ggX1_isAtHomeOf_X1_isBoostedFor
theorem dX1_isAtHomeOf_0 : decode cX1_isAtHomeOf 0 = .ok (.aload_n 0, 1) := by decide +kernel
theorem dX1_isAtHomeOf_1 : decode cX1_isAtHomeOf 1 = .ok (.iload_n 1, 1) := by decide +kernel
theorem dX1_isAtHomeOf_2 : decode cX1_isAtHomeOf 2 = .ok (.iload_n 2, 1) := by decide +kernel
theorem dX1_isAtHomeOf_3 : decode cX1_isAtHomeOf 3 = .ok (.aload_n 3, 1) := by decide +kernel
theorem dX1_isAtHomeOf_4 : decode cX1_isAtHomeOf 4 = .ok (.invokevirtual 99, 3) := by decide +kernel
theorem dX1_isAtHomeOf_7 : decode cX1_isAtHomeOf 7 = .ok (.ifCond .ne 5, 3) := by decide +kernel
theorem dX1_isAtHomeOf_10 : decode cX1_isAtHomeOf 10 = .ok (.iconst 0, 1) := by decide +kernel
theorem dX1_isAtHomeOf_11 : decode cX1_isAtHomeOf 11 = .ok (.ireturn, 1) := by decide +kernel
theorem dX1_isAtHomeOf_12 : decode cX1_isAtHomeOf 12 = .ok (.aload_n 3, 1) := by decide +kernel
theorem dX1_isAtHomeOf_13 : decode cX1_isAtHomeOf 13 = .ok (.getfield 90, 3) := by decide +kernel
theorem dX1_isAtHomeOf_16 : decode cX1_isAtHomeOf 16 = .ok (.iload_n 1, 1) := by decide +kernel
theorem dX1_isAtHomeOf_17 : decode cX1_isAtHomeOf 17 = .ok (.if_icmp .eq 35, 3) := by decide +kernel
theorem dX1_isAtHomeOf_20 : decode cX1_isAtHomeOf 20 = .ok (.aload_n 3, 1) := by decide +kernel
theorem dX1_isAtHomeOf_21 : decode cX1_isAtHomeOf 21 = .ok (.getfield 95, 3) := by decide +kernel
theorem dX1_isAtHomeOf_24 : decode cX1_isAtHomeOf 24 = .ok (.iload_n 1, 1) := by decide +kernel
theorem dX1_isAtHomeOf_25 : decode cX1_isAtHomeOf 25 = .ok (.invokestatic 81, 3) := by decide +kernel
theorem dX1_isAtHomeOf_28 : decode cX1_isAtHomeOf 28 = .ok (.ifCond .ne 24, 3) := by decide +kernel
theorem dX1_isAtHomeOf_31 : decode cX1_isAtHomeOf 31 = .ok (.aload_n 0, 1) := by decide +kernel
theorem dX1_isAtHomeOf_32 : decode cX1_isAtHomeOf 32 = .ok (.iload_n 1, 1) := by decide +kernel
theorem dX1_isAtHomeOf_33 : decode cX1_isAtHomeOf 33 = .ok (.aload_n 3, 1) := by decide +kernel
theorem dX1_isAtHomeOf_34 : decode cX1_isAtHomeOf 34 = .ok (.getfield 90, 3) := by decide +kernel
theorem dX1_isAtHomeOf_37 : decode cX1_isAtHomeOf 37 = .ok (.invokevirtual 68, 3) := by decide +kernel
theorem dX1_isAtHomeOf_40 : decode cX1_isAtHomeOf 40 = .ok (.ifCond .ne 12, 3) := by decide +kernel
theorem dX1_isAtHomeOf_43 : decode cX1_isAtHomeOf 43 = .ok (.aload_n 0, 1) := by decide +kernel
theorem dX1_isAtHomeOf_44 : decode cX1_isAtHomeOf 44 = .ok (.iload_n 1, 1) := by decide +kernel
theorem dX1_isAtHomeOf_45 : decode cX1_isAtHomeOf 45 = .ok (.iload_n 2, 1) := by decide +kernel
theorem dX1_isAtHomeOf_46 : decode cX1_isAtHomeOf 46 = .ok (.invokevirtual 103, 3) := by decide +kernel
theorem dX1_isAtHomeOf_49 : decode cX1_isAtHomeOf 49 = .ok (.ifCond .eq 7, 3) := by decide +kernel
theorem dX1_isAtHomeOf_52 : decode cX1_isAtHomeOf 52 = .ok (.iconst 1, 1) := by decide +kernel
theorem dX1_isAtHomeOf_53 : decode cX1_isAtHomeOf 53 = .ok (.goto 4, 3) := by decide +kernel
theorem dX1_isAtHomeOf_56 : decode cX1_isAtHomeOf 56 = .ok (.iconst 0, 1) := by decide +kernel
theorem dX1_isAtHomeOf_57 : decode cX1_isAtHomeOf 57 = .ok (.ireturn, 1) := by decide +kernel
set_option maxRecDepth 1000000 in
theorem ggX1_isBoostedFor_X1_isFollowing : GoodIn wsX1_isBoostedFor wsX1_isFollowing := goodIn_r _ [5, 6, 7, 8, 9, 17, 18, 19, 20, 21, 22, 23] rfl (by decide +kernel)
set_option maxRecDepth 20000 in
theorem gX1_isBoostedFor_X1_isFollowing : GoodIn wsX1_isBoostedFor (wsV RX1 68 RX1 yX1_isFollowing wsX1_isFollowing) := goodIn_app (goodIn_of _ (by decide +kernel)) ggX1_isBoostedFor_X1_isFollowing
set_option maxRecDepth 1000000 in
theorem ggX1_isBoostedFor_X1_isBoosting : GoodIn wsX1_isBoostedFor wsX1_isBoosting := goodIn_r _ [13, 14, 15, 8, 16, 17, 18, 19, 20, 21, 22, 23] rfl (by decide +kernel)
set_option maxRecDepth 20000 in
theorem gX1_isBoostedFor_X1_isBoosting : GoodIn wsX1_isBoostedFor (wsV RX1 106 RX1 yX1_isBoosting wsX1_isBoosting) := goodIn_app (goodIn_of _ (by decide +kernel)) ggX1_isBoostedFor_X1_isBoosting
theorem dX1_isBoostedFor_0 : decode cX1_isBoostedFor 0 = .ok (.iconst 0, 1) := by decide +kernel
theorem dX1_isBoostedFor_1 : decode cX1_isBoostedFor 1 = .ok (.istore_n 3, 1) := by decide +kernel
theorem dX1_isBoostedFor_2 : decode cX1_isBoostedFor 2 = .ok (.iload_n 3, 1) := by decide +kernel
theorem dX1_isBoostedFor_3 : decode cX1_isBoostedFor 3 = .ok (.bipush 10, 2) := by decide +kernel
theorem dX1_isBoostedFor_5 : decode cX1_isBoostedFor 5 = .ok (.if_icmp .ge 29, 3) := by decide +kernel
theorem dX1_isBoostedFor_8 : decode cX1_isBoostedFor 8 = .ok (.aload_n 0, 1) := by decide +kernel
theorem dX1_isBoostedFor_9 : decode cX1_isBoostedFor 9 = .ok (.iload_n 1, 1) := by decide +kernel
theorem dX1_isBoostedFor_10 : decode cX1_isBoostedFor 10 = .ok (.iload_n 3, 1) := by decide +kernel
theorem dX1_isBoostedFor_11 : decode cX1_isBoostedFor 11 = .ok (.invokevirtual 68, 3) := by decide +kernel
theorem dX1_isBoostedFor_14 : decode cX1_isBoostedFor 14 = .ok (.ifCond .eq 14, 3) := by decide +kernel
theorem dX1_isBoostedFor_17 : decode cX1_isBoostedFor 17 = .ok (.aload_n 0, 1) := by decide +kernel
theorem dX1_isBoostedFor_18 : decode cX1_isBoostedFor 18 = .ok (.iload_n 3, 1) := by decide +kernel
theorem dX1_isBoostedFor_19 : decode cX1_isBoostedFor 19 = .ok (.iload_n 2, 1) := by decide +kernel
theorem dX1_isBoostedFor_20 : decode cX1_isBoostedFor 20 = .ok (.invokevirtual 106, 3) := by decide +kernel
theorem dX1_isBoostedFor_23 : decode cX1_isBoostedFor 23 = .ok (.ifCond .eq 5, 3) := by decide +kernel
theorem dX1_isBoostedFor_26 : decode cX1_isBoostedFor 26 = .ok (.iconst 1, 1) := by decide +kernel
theorem dX1_isBoostedFor_27 : decode cX1_isBoostedFor 27 = .ok (.ireturn, 1) := by decide +kernel
theorem dX1_isBoostedFor_28 : decode cX1_isBoostedFor 28 = .ok (.iinc 3 1, 3) := by decide +kernel
theorem dX1_isBoostedFor_31 : decode cX1_isBoostedFor 31 = .ok (.goto (-29), 3) := by decide +kernel
theorem dX1_isBoostedFor_34 : decode cX1_isBoostedFor 34 = .ok (.iconst 0, 1) := by decide +kernel
theorem dX1_isBoostedFor_35 : decode cX1_isBoostedFor 35 = .ok (.ireturn, 1) := by decide +kernel
set_option maxRecDepth 1000000 in
theorem ggX1_countKnown_J13_bitCount_95d88 : GoodIn wsX1_countKnown wsJ13_bitCount_95d88 := goodIn_r _ [7, 8, 9, 10] rfl (by decide +kernel)
set_option maxRecDepth 20000 in
theorem gX1_countKnown_J13_bitCount_95d88 : GoodIn wsX1_countKnown (va_wsS RX1 109 yJ13_bitCount_95d88 wsJ13_bitCount_95d88) := goodIn_app (goodIn_of _ (by decide +kernel)) ggX1_countKnown_J13_bitCount_95d88
theorem dX1_countKnown_0 : decode cX1_countKnown 0 = .ok (.aload_n 0, 1) := by decide +kernel
theorem dX1_countKnown_1 : decode cX1_countKnown 1 = .ok (.getfield 28, 3) := by decide +kernel
theorem dX1_countKnown_4 : decode cX1_countKnown 4 = .ok (.aload_n 0, 1) := by decide +kernel
theorem dX1_countKnown_5 : decode cX1_countKnown 5 = .ok (.getfield 32, 3) := by decide +kernel
theorem dX1_countKnown_8 : decode cX1_countKnown 8 = .ok (.ldc2_w 88, 3) := by decide +kernel
theorem dX1_countKnown_11 : decode cX1_countKnown 11 = .ok (.lxor, 1) := by decide +kernel
theorem dX1_countKnown_12 : decode cX1_countKnown 12 = .ok (.land, 1) := by decide +kernel
theorem dX1_countKnown_13 : decode cX1_countKnown 13 = .ok (.invokestatic 109, 3) := by decide +kernel
theorem dX1_countKnown_16 : decode cX1_countKnown 16 = .ok (.ireturn, 1) := by decide +kernel
set_option maxRecDepth 1000000 in
theorem ggX1_countMarked_J13_bitCount_95d88 : GoodIn wsX1_countMarked wsJ13_bitCount_95d88 := goodIn_r _ [5, 6, 7, 8] rfl (by decide +kernel)
set_option maxRecDepth 20000 in
theorem gX1_countMarked_J13_bitCount_95d88 : GoodIn wsX1_countMarked (va_wsS RX1 109 yJ13_bitCount_95d88 wsJ13_bitCount_95d88) := goodIn_app (goodIn_of _ (by decide +kernel)) ggX1_countMarked_J13_bitCount_95d88
theorem dX1_countMarked_0 : decode cX1_countMarked 0 = .ok (.aload_n 0, 1) := by decide +kernel
theorem dX1_countMarked_1 : decode cX1_countMarked 1 = .ok (.getfield 32, 3) := by decide +kernel
theorem dX1_countMarked_4 : decode cX1_countMarked 4 = .ok (.invokestatic 109, 3) := by decide +kernel
theorem dX1_countMarked_7 : decode cX1_countMarked 7 = .ok (.ireturn, 1) := by decide +kernel
set_option maxRecDepth 1000000 in
theorem ggX1_countFollows_X1_sizeOf : GoodIn wsX1_countFollows wsX1_sizeOf := goodIn_r _ [5, 6, 7, 8, 9, 10, 11, 12] rfl (by decide +kernel)
set_option maxRecDepth 20000 in
theorem gX1_countFollows_X1_sizeOf : GoodIn wsX1_countFollows (va_wsS RX1 115 yX1_sizeOf wsX1_sizeOf) := goodIn_app (goodIn_of _ (by decide +kernel)) ggX1_countFollows_X1_sizeOf
theorem dX1_countFollows_0 : decode cX1_countFollows 0 = .ok (.aload_n 0, 1) := by decide +kernel
theorem dX1_countFollows_1 : decode cX1_countFollows 1 = .ok (.getfield 15, 3) := by decide +kernel
theorem dX1_countFollows_4 : decode cX1_countFollows 4 = .ok (.invokestatic 115, 3) := by decide +kernel
theorem dX1_countFollows_7 : decode cX1_countFollows 7 = .ok (.ireturn, 1) := by decide +kernel
set_option maxRecDepth 1000000 in
theorem ggX1_countAsks_X1_sizeOf : GoodIn wsX1_countAsks wsX1_sizeOf := goodIn_r _ [5, 6, 7, 8, 9, 10, 11, 12] rfl (by decide +kernel)
set_option maxRecDepth 20000 in
theorem gX1_countAsks_X1_sizeOf : GoodIn wsX1_countAsks (va_wsS RX1 115 yX1_sizeOf wsX1_sizeOf) := goodIn_app (goodIn_of _ (by decide +kernel)) ggX1_countAsks_X1_sizeOf
theorem dX1_countAsks_0 : decode cX1_countAsks 0 = .ok (.aload_n 0, 1) := by decide +kernel
theorem dX1_countAsks_1 : decode cX1_countAsks 1 = .ok (.getfield 9, 3) := by decide +kernel
theorem dX1_countAsks_4 : decode cX1_countAsks 4 = .ok (.invokestatic 115, 3) := by decide +kernel
theorem dX1_countAsks_7 : decode cX1_countAsks 7 = .ok (.ireturn, 1) := by decide +kernel
set_option maxRecDepth 1000000 in
theorem ggX1_sizeOf_J6_bitCount_0f7a4 : GoodIn wsX1_sizeOf wsJ6_bitCount_0f7a4 := goodIn_r _ [4, 5, 6, 7] rfl (by decide +kernel)
set_option maxRecDepth 20000 in
theorem gX1_sizeOf_J6_bitCount_0f7a4 : GoodIn wsX1_sizeOf (va_wsS RX1 119 yJ6_bitCount_0f7a4 wsJ6_bitCount_0f7a4) := goodIn_app (goodIn_of _ (by decide +kernel)) ggX1_sizeOf_J6_bitCount_0f7a4
theorem dX1_sizeOf_0 : decode cX1_sizeOf 0 = .ok (.iconst 0, 1) := by decide +kernel
theorem dX1_sizeOf_1 : decode cX1_sizeOf 1 = .ok (.istore_n 1, 1) := by decide +kernel
theorem dX1_sizeOf_2 : decode cX1_sizeOf 2 = .ok (.iconst 0, 1) := by decide +kernel
theorem dX1_sizeOf_3 : decode cX1_sizeOf 3 = .ok (.istore_n 2, 1) := by decide +kernel
theorem dX1_sizeOf_4 : decode cX1_sizeOf 4 = .ok (.iload_n 2, 1) := by decide +kernel
theorem dX1_sizeOf_5 : decode cX1_sizeOf 5 = .ok (.aload_n 0, 1) := by decide +kernel
theorem dX1_sizeOf_6 : decode cX1_sizeOf 6 = .ok (.arraylength, 1) := by decide +kernel
theorem dX1_sizeOf_7 : decode cX1_sizeOf 7 = .ok (.if_icmp .ge 18, 3) := by decide +kernel
theorem dX1_sizeOf_10 : decode cX1_sizeOf 10 = .ok (.iload_n 1, 1) := by decide +kernel
theorem dX1_sizeOf_11 : decode cX1_sizeOf 11 = .ok (.aload_n 0, 1) := by decide +kernel
theorem dX1_sizeOf_12 : decode cX1_sizeOf 12 = .ok (.iload_n 2, 1) := by decide +kernel
theorem dX1_sizeOf_13 : decode cX1_sizeOf 13 = .ok (.iaload, 1) := by decide +kernel
theorem dX1_sizeOf_14 : decode cX1_sizeOf 14 = .ok (.invokestatic 119, 3) := by decide +kernel
theorem dX1_sizeOf_17 : decode cX1_sizeOf 17 = .ok (.iadd, 1) := by decide +kernel
theorem dX1_sizeOf_18 : decode cX1_sizeOf 18 = .ok (.istore_n 1, 1) := by decide +kernel
theorem dX1_sizeOf_19 : decode cX1_sizeOf 19 = .ok (.iinc 2 1, 3) := by decide +kernel
theorem dX1_sizeOf_22 : decode cX1_sizeOf 22 = .ok (.goto (-18), 3) := by decide +kernel
theorem dX1_sizeOf_25 : decode cX1_sizeOf 25 = .ok (.iload_n 1, 1) := by decide +kernel
theorem dX1_sizeOf_26 : decode cX1_sizeOf 26 = .ok (.ireturn, 1) := by decide +kernel
theorem dX2_init_0 : decode cX2_init 0 = .ok (.aload_n 0, 1) := by decide +kernel
theorem dX2_init_1 : decode cX2_init 1 = .ok (.invokespecial 1, 3) := by decide +kernel
theorem dX2_init_4 : decode cX2_init 4 = .ok (.aload_n 0, 1) := by decide +kernel
theorem dX2_init_5 : decode cX2_init 5 = .ok (.iconst 0, 1) := by decide +kernel
theorem dX2_init_6 : decode cX2_init 6 = .ok (.putfield 7, 3) := by decide +kernel
theorem dX2_init_9 : decode cX2_init 9 = .ok (.aload_n 0, 1) := by decide +kernel
theorem dX2_init_10 : decode cX2_init 10 = .ok (.iload_n 1, 1) := by decide +kernel
theorem dX2_init_11 : decode cX2_init 11 = .ok (.putfield 13, 3) := by decide +kernel
theorem dX2_init_14 : decode cX2_init 14 = .ok (.aload_n 0, 1) := by decide +kernel
theorem dX2_init_15 : decode cX2_init 15 = .ok (.iload_n 2, 1) := by decide +kernel
theorem dX2_init_16 : decode cX2_init 16 = .ok (.putfield 16, 3) := by decide +kernel
theorem dX2_init_19 : decode cX2_init 19 = .ok (.aload_n 0, 1) := by decide +kernel
theorem dX2_init_20 : decode cX2_init 20 = .ok (.iload_n 3, 1) := by decide +kernel
theorem dX2_init_21 : decode cX2_init 21 = .ok (.putfield 19, 3) := by decide +kernel
theorem dX2_init_24 : decode cX2_init 24 = .ok (.aload_n 0, 1) := by decide +kernel
theorem dX2_init_25 : decode cX2_init 25 = .ok (.iload 4, 2) := by decide +kernel
theorem dX2_init_27 : decode cX2_init 27 = .ok (.putfield 22, 3) := by decide +kernel
theorem dX2_init_30 : decode cX2_init 30 = .ok (.aload_n 0, 1) := by decide +kernel
theorem dX2_init_31 : decode cX2_init 31 = .ok (.iload 5, 2) := by decide +kernel
theorem dX2_init_33 : decode cX2_init 33 = .ok (.putfield 25, 3) := by decide +kernel
theorem dX2_init_36 : decode cX2_init 36 = .ok (.return_, 1) := by decide +kernel
set_option maxRecDepth 1000000 in
theorem ggX3_init_X1_init : GoodIn wsX3_init wsX1_init := goodIn_r _ [17, 18, 2, 3, 19, 20, 21, 22, 23, 24, 25, 26, 27, 43, 44, 45, 46, 47, 48, 49] rfl (by decide +kernel)
set_option maxRecDepth 20000 in
theorem gX3_init_X1_init_n11 : GoodIn wsX3_init (wsX1_init) := ggX3_init_X1_init
set_option maxRecDepth 1000000 in
theorem ggX3_init_Jx4a65c_init_da8c8 : GoodIn wsX3_init wsJx4a65c_init_da8c8 := goodIn_r _ [30, 31, 32, 33, 34, 35, 36, 37, 38, 39, 40, 41, 42, 2, 3, 55, 56, 57] rfl (by decide +kernel)
set_option maxRecDepth 20000 in
theorem gX3_init_Jx4a65c_init_da8c8 : GoodIn wsX3_init (wsJx4a65c_init_da8c8) := ggX3_init_Jx4a65c_init_da8c8
theorem dX3_init_0 : decode cX3_init 0 = .ok (.aload_n 0, 1) := by decide +kernel
theorem dX3_init_1 : decode cX3_init 1 = .ok (.invokespecial 3, 3) := by decide +kernel
theorem dX3_init_4 : decode cX3_init 4 = .ok (.aload_n 0, 1) := by decide +kernel
theorem dX3_init_5 : decode cX3_init 5 = .ok (.new 9, 3) := by decide +kernel
theorem dX3_init_8 : decode cX3_init 8 = .ok (.dup, 1) := by decide +kernel
theorem dX3_init_9 : decode cX3_init 9 = .ok (.invokespecial 11, 3) := by decide +kernel
theorem dX3_init_12 : decode cX3_init 12 = .ok (.putfield 12, 3) := by decide +kernel
theorem dX3_init_15 : decode cX3_init 15 = .ok (.aload_n 0, 1) := by decide +kernel
theorem dX3_init_16 : decode cX3_init 16 = .ok (.new 18, 3) := by decide +kernel
theorem dX3_init_19 : decode cX3_init 19 = .ok (.dup, 1) := by decide +kernel
theorem dX3_init_20 : decode cX3_init 20 = .ok (.invokespecial 20, 3) := by decide +kernel
theorem dX3_init_23 : decode cX3_init 23 = .ok (.putfield 21, 3) := by decide +kernel
theorem dX3_init_26 : decode cX3_init 26 = .ok (.aload_n 0, 1) := by decide +kernel
theorem dX3_init_27 : decode cX3_init 27 = .ok (.new 18, 3) := by decide +kernel
theorem dX3_init_30 : decode cX3_init 30 = .ok (.dup, 1) := by decide +kernel
theorem dX3_init_31 : decode cX3_init 31 = .ok (.invokespecial 20, 3) := by decide +kernel
theorem dX3_init_34 : decode cX3_init 34 = .ok (.putfield 25, 3) := by decide +kernel
theorem dX3_init_37 : decode cX3_init 37 = .ok (.aload_n 0, 1) := by decide +kernel
theorem dX3_init_38 : decode cX3_init 38 = .ok (.sipush 512, 3) := by decide +kernel
theorem dX3_init_41 : decode cX3_init 41 = .ok (.newarray .boolean, 2) := by decide +kernel
theorem dX3_init_43 : decode cX3_init 43 = .ok (.putfield 28, 3) := by decide +kernel
theorem dX3_init_46 : decode cX3_init 46 = .ok (.aload_n 0, 1) := by decide +kernel
theorem dX3_init_47 : decode cX3_init 47 = .ok (.iconst 0, 1) := by decide +kernel
theorem dX3_init_48 : decode cX3_init 48 = .ok (.putfield 32, 3) := by decide +kernel
theorem dX3_init_51 : decode cX3_init 51 = .ok (.return_, 1) := by decide +kernel
set_option maxRecDepth 1000000 in
theorem ggX3_waiting_Jx4a65c_size_8abf5 : GoodIn wsX3_waiting wsJx4a65c_size_8abf5 := goodIn_r _ [7, 8, 14, 15, 16] rfl (by decide +kernel)
set_option maxRecDepth 20000 in
theorem gX3_waiting_Jx4a65c_size_8abf5 : GoodIn wsX3_waiting (wsV RX3 36 RJx4a65c yJx4a65c_size_8abf5 wsJx4a65c_size_8abf5) := goodIn_app (goodIn_of _ (by decide +kernel)) ggX3_waiting_Jx4a65c_size_8abf5
theorem dX3_waiting_0 : decode cX3_waiting 0 = .ok (.aload_n 0, 1) := by decide +kernel
theorem dX3_waiting_1 : decode cX3_waiting 1 = .ok (.getfield 25, 3) := by decide +kernel
theorem dX3_waiting_4 : decode cX3_waiting 4 = .ok (.invokevirtual 36, 3) := by decide +kernel
theorem dX3_waiting_7 : decode cX3_waiting 7 = .ok (.aload_n 0, 1) := by decide +kernel
theorem dX3_waiting_8 : decode cX3_waiting 8 = .ok (.getfield 32, 3) := by decide +kernel
theorem dX3_waiting_11 : decode cX3_waiting 11 = .ok (.isub, 1) := by decide +kernel
theorem dX3_waiting_12 : decode cX3_waiting 12 = .ok (.ireturn, 1) := by decide +kernel
