theorem dX5_init_0 : decode cX5_init 0 = .ok (.aload_n 0, 1) := by decide +kernel
theorem dX5_init_1 : decode cX5_init 1 = .ok (.invokespecial 1, 3) := by decide +kernel
theorem dX5_init_4 : decode cX5_init 4 = .ok (.aload_n 0, 1) := by decide +kernel
theorem dX5_init_5 : decode cX5_init 5 = .ok (.bipush 10, 2) := by decide +kernel
theorem dX5_init_7 : decode cX5_init 7 = .ok (.newarray .int, 2) := by decide +kernel
theorem dX5_init_9 : decode cX5_init 9 = .ok (.putfield 7, 3) := by decide +kernel
theorem dX5_init_12 : decode cX5_init 12 = .ok (.aload_n 0, 1) := by decide +kernel
theorem dX5_init_13 : decode cX5_init 13 = .ok (.sipush 400, 3) := by decide +kernel
theorem dX5_init_16 : decode cX5_init 16 = .ok (.newarray .boolean, 2) := by decide +kernel
theorem dX5_init_18 : decode cX5_init 18 = .ok (.putfield 13, 3) := by decide +kernel
theorem dX5_init_21 : decode cX5_init 21 = .ok (.aload_n 0, 1) := by decide +kernel
theorem dX5_init_22 : decode cX5_init 22 = .ok (.sipush 400, 3) := by decide +kernel
theorem dX5_init_25 : decode cX5_init 25 = .ok (.newarray .boolean, 2) := by decide +kernel
theorem dX5_init_27 : decode cX5_init 27 = .ok (.putfield 17, 3) := by decide +kernel
theorem dX5_init_30 : decode cX5_init 30 = .ok (.aload_n 0, 1) := by decide +kernel
theorem dX5_init_31 : decode cX5_init 31 = .ok (.sipush 400, 3) := by decide +kernel
theorem dX5_init_34 : decode cX5_init 34 = .ok (.newarray .boolean, 2) := by decide +kernel
theorem dX5_init_36 : decode cX5_init 36 = .ok (.putfield 20, 3) := by decide +kernel
theorem dX5_init_39 : decode cX5_init 39 = .ok (.aload_n 0, 1) := by decide +kernel
theorem dX5_init_40 : decode cX5_init 40 = .ok (.bipush 40, 2) := by decide +kernel
theorem dX5_init_42 : decode cX5_init 42 = .ok (.newarray .int, 2) := by decide +kernel
theorem dX5_init_44 : decode cX5_init 44 = .ok (.putfield 23, 3) := by decide +kernel
theorem dX5_init_47 : decode cX5_init 47 = .ok (.aload_n 0, 1) := by decide +kernel
theorem dX5_init_48 : decode cX5_init 48 = .ok (.sipush 200, 3) := by decide +kernel
theorem dX5_init_51 : decode cX5_init 51 = .ok (.newarray .boolean, 2) := by decide +kernel
theorem dX5_init_53 : decode cX5_init 53 = .ok (.putfield 26, 3) := by decide +kernel
theorem dX5_init_56 : decode cX5_init 56 = .ok (.aload_n 0, 1) := by decide +kernel
theorem dX5_init_57 : decode cX5_init 57 = .ok (.sipush 200, 3) := by decide +kernel
theorem dX5_init_60 : decode cX5_init 60 = .ok (.newarray .boolean, 2) := by decide +kernel
theorem dX5_init_62 : decode cX5_init 62 = .ok (.putfield 29, 3) := by decide +kernel
theorem dX5_init_65 : decode cX5_init 65 = .ok (.aload_n 0, 1) := by decide +kernel
theorem dX5_init_66 : decode cX5_init 66 = .ok (.sipush 200, 3) := by decide +kernel
theorem dX5_init_69 : decode cX5_init 69 = .ok (.newarray .int, 2) := by decide +kernel
theorem dX5_init_71 : decode cX5_init 71 = .ok (.putfield 32, 3) := by decide +kernel
theorem dX5_init_74 : decode cX5_init 74 = .ok (.aload_n 0, 1) := by decide +kernel
theorem dX5_init_75 : decode cX5_init 75 = .ok (.sipush 2000, 3) := by decide +kernel
theorem dX5_init_78 : decode cX5_init 78 = .ok (.newarray .boolean, 2) := by decide +kernel
theorem dX5_init_80 : decode cX5_init 80 = .ok (.putfield 35, 3) := by decide +kernel
theorem dX5_init_83 : decode cX5_init 83 = .ok (.aload_n 0, 1) := by decide +kernel
theorem dX5_init_84 : decode cX5_init 84 = .ok (.bipush 50, 2) := by decide +kernel
theorem dX5_init_86 : decode cX5_init 86 = .ok (.newarray .int, 2) := by decide +kernel
theorem dX5_init_88 : decode cX5_init 88 = .ok (.putfield 38, 3) := by decide +kernel
theorem dX5_init_91 : decode cX5_init 91 = .ok (.aload_n 0, 1) := by decide +kernel
theorem dX5_init_92 : decode cX5_init 92 = .ok (.bipush 50, 2) := by decide +kernel
theorem dX5_init_94 : decode cX5_init 94 = .ok (.newarray .int, 2) := by decide +kernel
theorem dX5_init_96 : decode cX5_init 96 = .ok (.putfield 41, 3) := by decide +kernel
theorem dX5_init_99 : decode cX5_init 99 = .ok (.aload_n 0, 1) := by decide +kernel
theorem dX5_init_100 : decode cX5_init 100 = .ok (.bipush 50, 2) := by decide +kernel
theorem dX5_init_102 : decode cX5_init 102 = .ok (.newarray .int, 2) := by decide +kernel
theorem dX5_init_104 : decode cX5_init 104 = .ok (.putfield 44, 3) := by decide +kernel
theorem dX5_init_107 : decode cX5_init 107 = .ok (.aload_n 0, 1) := by decide +kernel
theorem dX5_init_108 : decode cX5_init 108 = .ok (.bipush 50, 2) := by decide +kernel
theorem dX5_init_110 : decode cX5_init 110 = .ok (.newarray .int, 2) := by decide +kernel
theorem dX5_init_112 : decode cX5_init 112 = .ok (.putfield 47, 3) := by decide +kernel
theorem dX5_init_115 : decode cX5_init 115 = .ok (.aload_n 0, 1) := by decide +kernel
theorem dX5_init_116 : decode cX5_init 116 = .ok (.bipush 50, 2) := by decide +kernel
theorem dX5_init_118 : decode cX5_init 118 = .ok (.newarray .int, 2) := by decide +kernel
theorem dX5_init_120 : decode cX5_init 120 = .ok (.putfield 50, 3) := by decide +kernel
theorem dX5_init_123 : decode cX5_init 123 = .ok (.aload_n 0, 1) := by decide +kernel
theorem dX5_init_124 : decode cX5_init 124 = .ok (.sipush 600, 3) := by decide +kernel
theorem dX5_init_127 : decode cX5_init 127 = .ok (.newarray .int, 2) := by decide +kernel
theorem dX5_init_129 : decode cX5_init 129 = .ok (.putfield 53, 3) := by decide +kernel
theorem dX5_init_132 : decode cX5_init 132 = .ok (.aload_n 0, 1) := by decide +kernel
theorem dX5_init_133 : decode cX5_init 133 = .ok (.sipush 600, 3) := by decide +kernel
theorem dX5_init_136 : decode cX5_init 136 = .ok (.newarray .int, 2) := by decide +kernel
theorem dX5_init_138 : decode cX5_init 138 = .ok (.putfield 56, 3) := by decide +kernel
theorem dX5_init_141 : decode cX5_init 141 = .ok (.aload_n 0, 1) := by decide +kernel
theorem dX5_init_142 : decode cX5_init 142 = .ok (.sipush 600, 3) := by decide +kernel
theorem dX5_init_145 : decode cX5_init 145 = .ok (.newarray .int, 2) := by decide +kernel
theorem dX5_init_147 : decode cX5_init 147 = .ok (.putfield 59, 3) := by decide +kernel
theorem dX5_init_150 : decode cX5_init 150 = .ok (.aload_n 0, 1) := by decide +kernel
theorem dX5_init_151 : decode cX5_init 151 = .ok (.sipush 600, 3) := by decide +kernel
theorem dX5_init_154 : decode cX5_init 154 = .ok (.newarray .int, 2) := by decide +kernel
theorem dX5_init_156 : decode cX5_init 156 = .ok (.putfield 62, 3) := by decide +kernel
theorem dX5_init_159 : decode cX5_init 159 = .ok (.aload_n 0, 1) := by decide +kernel
theorem dX5_init_160 : decode cX5_init 160 = .ok (.sipush 2400, 3) := by decide +kernel
theorem dX5_init_163 : decode cX5_init 163 = .ok (.newarray .boolean, 2) := by decide +kernel
theorem dX5_init_165 : decode cX5_init 165 = .ok (.putfield 65, 3) := by decide +kernel
theorem dX5_init_168 : decode cX5_init 168 = .ok (.aload_n 0, 1) := by decide +kernel
theorem dX5_init_169 : decode cX5_init 169 = .ok (.sipush 4800, 3) := by decide +kernel
theorem dX5_init_172 : decode cX5_init 172 = .ok (.newarray .int, 2) := by decide +kernel
theorem dX5_init_174 : decode cX5_init 174 = .ok (.putfield 68, 3) := by decide +kernel
theorem dX5_init_177 : decode cX5_init 177 = .ok (.aload_n 0, 1) := by decide +kernel
theorem dX5_init_178 : decode cX5_init 178 = .ok (.iconst 4, 1) := by decide +kernel
theorem dX5_init_179 : decode cX5_init 179 = .ok (.newarray .int, 2) := by decide +kernel
theorem dX5_init_181 : decode cX5_init 181 = .ok (.putfield 71, 3) := by decide +kernel
theorem dX5_init_184 : decode cX5_init 184 = .ok (.aload_n 0, 1) := by decide +kernel
theorem dX5_init_185 : decode cX5_init 185 = .ok (.iconst 4, 1) := by decide +kernel
theorem dX5_init_186 : decode cX5_init 186 = .ok (.newarray .int, 2) := by decide +kernel
theorem dX5_init_188 : decode cX5_init 188 = .ok (.putfield 74, 3) := by decide +kernel
theorem dX5_init_191 : decode cX5_init 191 = .ok (.return_, 1) := by decide +kernel
theorem dX5_thrown_0 : decode cX5_thrown 0 = .ok (.aload_n 0, 1) := by decide +kernel
theorem dX5_thrown_1 : decode cX5_thrown 1 = .ok (.getfield 77, 3) := by decide +kernel
theorem dX5_thrown_4 : decode cX5_thrown 4 = .ok (.ireturn, 1) := by decide +kernel
theorem dX5_in_0 : decode cX5_in 0 = .ok (.iload_n 0, 1) := by decide +kernel
theorem dX5_in_1 : decode cX5_in 1 = .ok (.iload_n 1, 1) := by decide +kernel
theorem dX5_in_2 : decode cX5_in 2 = .ok (.if_icmp .lt 12, 3) := by decide +kernel
theorem dX5_in_5 : decode cX5_in 5 = .ok (.iload_n 0, 1) := by decide +kernel
theorem dX5_in_6 : decode cX5_in 6 = .ok (.iload_n 2, 1) := by decide +kernel
theorem dX5_in_7 : decode cX5_in 7 = .ok (.if_icmp .gt 7, 3) := by decide +kernel
theorem dX5_in_10 : decode cX5_in 10 = .ok (.iconst 1, 1) := by decide +kernel
theorem dX5_in_11 : decode cX5_in 11 = .ok (.goto 4, 3) := by decide +kernel
theorem dX5_in_14 : decode cX5_in 14 = .ok (.iconst 0, 1) := by decide +kernel
theorem dX5_in_15 : decode cX5_in 15 = .ok (.ireturn, 1) := by decide +kernel
set_option maxRecDepth 1000000 in
theorem ggX5_isOne_X5_in : GoodIn wsX5_isOne wsX5_in := goodIn_r _ [5] rfl (by decide +kernel)
set_option maxRecDepth 20000 in
theorem gX5_isOne_X5_in : GoodIn wsX5_isOne (va_wsS RX5 84 yX5_in wsX5_in) := goodIn_app (goodIn_of _ (by decide +kernel)) ggX5_isOne_X5_in
theorem dX5_isOne_0 : decode cX5_isOne 0 = .ok (.iload_n 1, 1) := by decide +kernel
theorem dX5_isOne_1 : decode cX5_isOne 1 = .ok (.iconst 0, 1) := by decide +kernel
theorem dX5_isOne_2 : decode cX5_isOne 2 = .ok (.aload_n 0, 1) := by decide +kernel
theorem dX5_isOne_3 : decode cX5_isOne 3 = .ok (.getfield 81, 3) := by decide +kernel
theorem dX5_isOne_6 : decode cX5_isOne 6 = .ok (.iconst 1, 1) := by decide +kernel
theorem dX5_isOne_7 : decode cX5_isOne 7 = .ok (.isub, 1) := by decide +kernel
theorem dX5_isOne_8 : decode cX5_isOne 8 = .ok (.invokestatic 84, 3) := by decide +kernel
theorem dX5_isOne_11 : decode cX5_isOne 11 = .ok (.ireturn, 1) := by decide +kernel
theorem dX5_at_0 : decode cX5_at 0 = .ok (.bipush 100, 2) := by decide +kernel
theorem dX5_at_2 : decode cX5_at 2 = .ok (.iload_n 0, 1) := by decide +kernel
theorem dX5_at_3 : decode cX5_at 3 = .ok (.imul, 1) := by decide +kernel
theorem dX5_at_4 : decode cX5_at 4 = .ok (.bipush 10, 2) := by decide +kernel
theorem dX5_at_6 : decode cX5_at 6 = .ok (.iload_n 1, 1) := by decide +kernel
theorem dX5_at_7 : decode cX5_at 7 = .ok (.imul, 1) := by decide +kernel
theorem dX5_at_8 : decode cX5_at 8 = .ok (.iadd, 1) := by decide +kernel
theorem dX5_at_9 : decode cX5_at 9 = .ok (.iload_n 2, 1) := by decide +kernel
theorem dX5_at_10 : decode cX5_at 10 = .ok (.iadd, 1) := by decide +kernel
theorem dX5_at_11 : decode cX5_at 11 = .ok (.ireturn, 1) := by decide +kernel
set_option maxRecDepth 1000000 in
theorem ggX5_isApart_X5_at : GoodIn wsX5_isApart wsX5_at := goodIn_r _ [5] rfl (by decide +kernel)
set_option maxRecDepth 20000 in
theorem gX5_isApart_X5_at : GoodIn wsX5_isApart (va_wsS RX5 88 yX5_at wsX5_at) := goodIn_app (goodIn_of _ (by decide +kernel)) ggX5_isApart_X5_at
theorem dX5_isApart_0 : decode cX5_isApart 0 = .ok (.aload_n 0, 1) := by decide +kernel
theorem dX5_isApart_1 : decode cX5_isApart 1 = .ok (.getfield 20, 3) := by decide +kernel
theorem dX5_isApart_4 : decode cX5_isApart 4 = .ok (.iload_n 1, 1) := by decide +kernel
theorem dX5_isApart_5 : decode cX5_isApart 5 = .ok (.iload_n 2, 1) := by decide +kernel
theorem dX5_isApart_6 : decode cX5_isApart 6 = .ok (.iload_n 3, 1) := by decide +kernel
theorem dX5_isApart_7 : decode cX5_isApart 7 = .ok (.invokestatic 88, 3) := by decide +kernel
theorem dX5_isApart_10 : decode cX5_isApart 10 = .ok (.baload, 1) := by decide +kernel
theorem dX5_isApart_11 : decode cX5_isApart 11 = .ok (.ifCond .ne 17, 3) := by decide +kernel
theorem dX5_isApart_14 : decode cX5_isApart 14 = .ok (.aload_n 0, 1) := by decide +kernel
theorem dX5_isApart_15 : decode cX5_isApart 15 = .ok (.getfield 20, 3) := by decide +kernel
theorem dX5_isApart_18 : decode cX5_isApart 18 = .ok (.iload_n 1, 1) := by decide +kernel
theorem dX5_isApart_19 : decode cX5_isApart 19 = .ok (.iload_n 3, 1) := by decide +kernel
theorem dX5_isApart_20 : decode cX5_isApart 20 = .ok (.iload_n 2, 1) := by decide +kernel
theorem dX5_isApart_21 : decode cX5_isApart 21 = .ok (.invokestatic 88, 3) := by decide +kernel
theorem dX5_isApart_24 : decode cX5_isApart 24 = .ok (.baload, 1) := by decide +kernel
theorem dX5_isApart_25 : decode cX5_isApart 25 = .ok (.ifCond .eq 7, 3) := by decide +kernel
theorem dX5_isApart_28 : decode cX5_isApart 28 = .ok (.iconst 1, 1) := by decide +kernel
theorem dX5_isApart_29 : decode cX5_isApart 29 = .ok (.goto 4, 3) := by decide +kernel
theorem dX5_isApart_32 : decode cX5_isApart 32 = .ok (.iconst 0, 1) := by decide +kernel
theorem dX5_isApart_33 : decode cX5_isApart 33 = .ok (.ireturn, 1) := by decide +kernel
theorem dX5_sends_0 : decode cX5_sends 0 = .ok (.iconst 0, 1) := by decide +kernel
theorem dX5_sends_1 : decode cX5_sends 1 = .ok (.istore_n 3, 1) := by decide +kernel
theorem dX5_sends_2 : decode cX5_sends 2 = .ok (.iload_n 3, 1) := by decide +kernel
theorem dX5_sends_3 : decode cX5_sends 3 = .ok (.iconst 4, 1) := by decide +kernel
theorem dX5_sends_4 : decode cX5_sends 4 = .ok (.if_icmp .ge 46, 3) := by decide +kernel
theorem dX5_sends_7 : decode cX5_sends 7 = .ok (.iload_n 2, 1) := by decide +kernel
theorem dX5_sends_8 : decode cX5_sends 8 = .ok (.iload_n 3, 1) := by decide +kernel
theorem dX5_sends_9 : decode cX5_sends 9 = .ok (.ishr, 1) := by decide +kernel
theorem dX5_sends_10 : decode cX5_sends 10 = .ok (.iconst 1, 1) := by decide +kernel
theorem dX5_sends_11 : decode cX5_sends 11 = .ok (.iand, 1) := by decide +kernel
theorem dX5_sends_12 : decode cX5_sends 12 = .ok (.iconst 1, 1) := by decide +kernel
theorem dX5_sends_13 : decode cX5_sends 13 = .ok (.if_icmp .ne 31, 3) := by decide +kernel
theorem dX5_sends_16 : decode cX5_sends 16 = .ok (.aload_n 0, 1) := by decide +kernel
theorem dX5_sends_17 : decode cX5_sends 17 = .ok (.getfield 68, 3) := by decide +kernel
theorem dX5_sends_20 : decode cX5_sends 20 = .ok (.sipush 1200, 3) := by decide +kernel
theorem dX5_sends_23 : decode cX5_sends 23 = .ok (.iload_n 3, 1) := by decide +kernel
theorem dX5_sends_24 : decode cX5_sends 24 = .ok (.imul, 1) := by decide +kernel
theorem dX5_sends_25 : decode cX5_sends 25 = .ok (.aload_n 0, 1) := by decide +kernel
theorem dX5_sends_26 : decode cX5_sends 26 = .ok (.getfield 74, 3) := by decide +kernel
theorem dX5_sends_29 : decode cX5_sends 29 = .ok (.iload_n 3, 1) := by decide +kernel
theorem dX5_sends_30 : decode cX5_sends 30 = .ok (.iaload, 1) := by decide +kernel
theorem dX5_sends_31 : decode cX5_sends 31 = .ok (.iadd, 1) := by decide +kernel
theorem dX5_sends_32 : decode cX5_sends 32 = .ok (.iload_n 1, 1) := by decide +kernel
theorem dX5_sends_33 : decode cX5_sends 33 = .ok (.iastore, 1) := by decide +kernel
theorem dX5_sends_34 : decode cX5_sends 34 = .ok (.aload_n 0, 1) := by decide +kernel
theorem dX5_sends_35 : decode cX5_sends 35 = .ok (.getfield 74, 3) := by decide +kernel
theorem dX5_sends_38 : decode cX5_sends 38 = .ok (.iload_n 3, 1) := by decide +kernel
theorem dX5_sends_39 : decode cX5_sends 39 = .ok (.dup2, 1) := by decide +kernel
theorem dX5_sends_40 : decode cX5_sends 40 = .ok (.iaload, 1) := by decide +kernel
theorem dX5_sends_41 : decode cX5_sends 41 = .ok (.iconst 1, 1) := by decide +kernel
theorem dX5_sends_42 : decode cX5_sends 42 = .ok (.iadd, 1) := by decide +kernel
theorem dX5_sends_43 : decode cX5_sends 43 = .ok (.iastore, 1) := by decide +kernel
theorem dX5_sends_44 : decode cX5_sends 44 = .ok (.iinc 3 1, 3) := by decide +kernel
theorem dX5_sends_47 : decode cX5_sends 47 = .ok (.goto (-45), 3) := by decide +kernel
theorem dX5_sends_50 : decode cX5_sends 50 = .ok (.return_, 1) := by decide +kernel
set_option maxRecDepth 1000000 in
theorem ggX5_servers_X5_at : GoodIn wsX5_servers wsX5_at := goodIn_r _ [7] rfl (by decide +kernel)
set_option maxRecDepth 20000 in
theorem gX5_servers_X5_at : GoodIn wsX5_servers (va_wsS RX5 88 yX5_at wsX5_at) := goodIn_app (goodIn_of _ (by decide +kernel)) ggX5_servers_X5_at
theorem dX5_servers_0 : decode cX5_servers 0 = .ok (.iconst 0, 1) := by decide +kernel
theorem dX5_servers_1 : decode cX5_servers 1 = .ok (.istore_n 3, 1) := by decide +kernel
theorem dX5_servers_2 : decode cX5_servers 2 = .ok (.iconst 0, 1) := by decide +kernel
theorem dX5_servers_3 : decode cX5_servers 3 = .ok (.istore 4, 2) := by decide +kernel
theorem dX5_servers_5 : decode cX5_servers 5 = .ok (.iload 4, 2) := by decide +kernel
theorem dX5_servers_7 : decode cX5_servers 7 = .ok (.aload_n 0, 1) := by decide +kernel
theorem dX5_servers_8 : decode cX5_servers 8 = .ok (.getfield 81, 3) := by decide +kernel
theorem dX5_servers_11 : decode cX5_servers 11 = .ok (.if_icmp .ge 40, 3) := by decide +kernel
theorem dX5_servers_14 : decode cX5_servers 14 = .ok (.iload_n 3, 1) := by decide +kernel
theorem dX5_servers_15 : decode cX5_servers 15 = .ok (.aload_n 0, 1) := by decide +kernel
theorem dX5_servers_16 : decode cX5_servers 16 = .ok (.getfield 17, 3) := by decide +kernel
theorem dX5_servers_19 : decode cX5_servers 19 = .ok (.iload_n 1, 1) := by decide +kernel
theorem dX5_servers_20 : decode cX5_servers 20 = .ok (.iload 4, 2) := by decide +kernel
theorem dX5_servers_22 : decode cX5_servers 22 = .ok (.iload_n 2, 1) := by decide +kernel
theorem dX5_servers_23 : decode cX5_servers 23 = .ok (.invokestatic 88, 3) := by decide +kernel
theorem dX5_servers_26 : decode cX5_servers 26 = .ok (.baload, 1) := by decide +kernel
theorem dX5_servers_27 : decode cX5_servers 27 = .ok (.ifCond .eq 15, 3) := by decide +kernel
theorem dX5_servers_30 : decode cX5_servers 30 = .ok (.iconst 1, 1) := by decide +kernel
theorem dX5_servers_31 : decode cX5_servers 31 = .ok (.aload_n 0, 1) := by decide +kernel
theorem dX5_servers_32 : decode cX5_servers 32 = .ok (.getfield 7, 3) := by decide +kernel
theorem dX5_servers_35 : decode cX5_servers 35 = .ok (.iload 4, 2) := by decide +kernel
theorem dX5_servers_37 : decode cX5_servers 37 = .ok (.iaload, 1) := by decide +kernel
theorem dX5_servers_38 : decode cX5_servers 38 = .ok (.ishl, 1) := by decide +kernel
theorem dX5_servers_39 : decode cX5_servers 39 = .ok (.goto 4, 3) := by decide +kernel
theorem dX5_servers_42 : decode cX5_servers 42 = .ok (.iconst 0, 1) := by decide +kernel
theorem dX5_servers_43 : decode cX5_servers 43 = .ok (.ior, 1) := by decide +kernel
theorem dX5_servers_44 : decode cX5_servers 44 = .ok (.istore_n 3, 1) := by decide +kernel
theorem dX5_servers_45 : decode cX5_servers 45 = .ok (.iinc 4 1, 3) := by decide +kernel
theorem dX5_servers_48 : decode cX5_servers 48 = .ok (.goto (-43), 3) := by decide +kernel
theorem dX5_servers_51 : decode cX5_servers 51 = .ok (.iload_n 3, 1) := by decide +kernel
theorem dX5_servers_52 : decode cX5_servers 52 = .ok (.iconst 1, 1) := by decide +kernel
theorem dX5_servers_53 : decode cX5_servers 53 = .ok (.iload_n 1, 1) := by decide +kernel
theorem dX5_servers_54 : decode cX5_servers 54 = .ok (.ishl, 1) := by decide +kernel
theorem dX5_servers_55 : decode cX5_servers 55 = .ok (.iconst (-1), 1) := by decide +kernel
theorem dX5_servers_56 : decode cX5_servers 56 = .ok (.ixor, 1) := by decide +kernel
theorem dX5_servers_57 : decode cX5_servers 57 = .ok (.iand, 1) := by decide +kernel
theorem dX5_servers_58 : decode cX5_servers 58 = .ok (.ireturn, 1) := by decide +kernel
set_option maxRecDepth 1000000 in
theorem ggX5_follows_X5_at : GoodIn wsX5_follows wsX5_at := goodIn_r _ [6] rfl (by decide +kernel)
set_option maxRecDepth 20000 in
theorem gX5_follows_X5_at : GoodIn wsX5_follows (va_wsS RX5 88 yX5_at wsX5_at) := goodIn_app (goodIn_of _ (by decide +kernel)) ggX5_follows_X5_at
theorem dX5_follows_0 : decode cX5_follows 0 = .ok (.aload_n 0, 1) := by decide +kernel
theorem dX5_follows_1 : decode cX5_follows 1 = .ok (.getfield 17, 3) := by decide +kernel
theorem dX5_follows_4 : decode cX5_follows 4 = .ok (.iload_n 1, 1) := by decide +kernel
theorem dX5_follows_5 : decode cX5_follows 5 = .ok (.iload_n 2, 1) := by decide +kernel
theorem dX5_follows_6 : decode cX5_follows 6 = .ok (.iload_n 3, 1) := by decide +kernel
theorem dX5_follows_7 : decode cX5_follows 7 = .ok (.invokestatic 88, 3) := by decide +kernel
theorem dX5_follows_10 : decode cX5_follows 10 = .ok (.iconst 1, 1) := by decide +kernel
theorem dX5_follows_11 : decode cX5_follows 11 = .ok (.bastore, 1) := by decide +kernel
theorem dX5_follows_12 : decode cX5_follows 12 = .ok (.aload_n 0, 1) := by decide +kernel
theorem dX5_follows_13 : decode cX5_follows 13 = .ok (.getfield 13, 3) := by decide +kernel
theorem dX5_follows_16 : decode cX5_follows 16 = .ok (.iload_n 1, 1) := by decide +kernel
theorem dX5_follows_17 : decode cX5_follows 17 = .ok (.iload_n 2, 1) := by decide +kernel
theorem dX5_follows_18 : decode cX5_follows 18 = .ok (.iload_n 3, 1) := by decide +kernel
theorem dX5_follows_19 : decode cX5_follows 19 = .ok (.invokestatic 88, 3) := by decide +kernel
theorem dX5_follows_22 : decode cX5_follows 22 = .ok (.iconst 0, 1) := by decide +kernel
theorem dX5_follows_23 : decode cX5_follows 23 = .ok (.bastore, 1) := by decide +kernel
theorem dX5_follows_24 : decode cX5_follows 24 = .ok (.return_, 1) := by decide +kernel
set_option maxRecDepth 1000000 in
theorem ggX5_parts_X5_at : GoodIn wsX5_parts wsX5_at := goodIn_r _ [6] rfl (by decide +kernel)
set_option maxRecDepth 20000 in
theorem gX5_parts_X5_at : GoodIn wsX5_parts (va_wsS RX5 88 yX5_at wsX5_at) := goodIn_app (goodIn_of _ (by decide +kernel)) ggX5_parts_X5_at
theorem dX5_parts_0 : decode cX5_parts 0 = .ok (.aload_n 0, 1) := by decide +kernel
theorem dX5_parts_1 : decode cX5_parts 1 = .ok (.getfield 17, 3) := by decide +kernel
theorem dX5_parts_4 : decode cX5_parts 4 = .ok (.iload_n 1, 1) := by decide +kernel
theorem dX5_parts_5 : decode cX5_parts 5 = .ok (.iload_n 2, 1) := by decide +kernel
theorem dX5_parts_6 : decode cX5_parts 6 = .ok (.iload_n 3, 1) := by decide +kernel
theorem dX5_parts_7 : decode cX5_parts 7 = .ok (.invokestatic 88, 3) := by decide +kernel
theorem dX5_parts_10 : decode cX5_parts 10 = .ok (.iconst 0, 1) := by decide +kernel
theorem dX5_parts_11 : decode cX5_parts 11 = .ok (.bastore, 1) := by decide +kernel
theorem dX5_parts_12 : decode cX5_parts 12 = .ok (.aload_n 0, 1) := by decide +kernel
theorem dX5_parts_13 : decode cX5_parts 13 = .ok (.getfield 13, 3) := by decide +kernel
theorem dX5_parts_16 : decode cX5_parts 16 = .ok (.iload_n 1, 1) := by decide +kernel
theorem dX5_parts_17 : decode cX5_parts 17 = .ok (.iload_n 2, 1) := by decide +kernel
theorem dX5_parts_18 : decode cX5_parts 18 = .ok (.iload_n 3, 1) := by decide +kernel
theorem dX5_parts_19 : decode cX5_parts 19 = .ok (.invokestatic 88, 3) := by decide +kernel
theorem dX5_parts_22 : decode cX5_parts 22 = .ok (.iconst 0, 1) := by decide +kernel
theorem dX5_parts_23 : decode cX5_parts 23 = .ok (.bastore, 1) := by decide +kernel
theorem dX5_parts_24 : decode cX5_parts 24 = .ok (.return_, 1) := by decide +kernel
set_option maxRecDepth 1000000 in
theorem ggX5_moves_X5_at : GoodIn wsX5_moves wsX5_at := goodIn_r _ [6] rfl (by decide +kernel)
set_option maxRecDepth 20000 in
theorem gX5_moves_X5_at : GoodIn wsX5_moves (va_wsS RX5 88 yX5_at wsX5_at) := goodIn_app (goodIn_of _ (by decide +kernel)) ggX5_moves_X5_at
set_option maxRecDepth 1000000 in
theorem ggX5_moves_X5_isApart : GoodIn wsX5_moves wsX5_isApart := goodIn_r _ [10, 11, 3, 4, 5, 6, 17, 18, 19, 20, 21, 22, 23, 24, 25, 26, 27, 28, 29, 30, 31, 32, 33, 34, 35, 36, 37, 38, 39, 40, 41, 42] rfl (by decide +kernel)
set_option maxRecDepth 20000 in
theorem gX5_moves_X5_isApart : GoodIn wsX5_moves (wsV RX5 92 RX5 yX5_isApart wsX5_isApart) := goodIn_app (goodIn_of _ (by decide +kernel)) ggX5_moves_X5_isApart
set_option maxRecDepth 1000000 in
theorem ggX5_moves_X5_follows : GoodIn wsX5_moves wsX5_follows := goodIn_r _ [15, 2, 16, 3, 4, 5, 6, 17, 18, 19, 20, 21, 22, 23, 24, 25, 26, 27, 28, 29, 30, 31, 32, 33, 34, 35, 36, 37, 38, 39, 40, 41, 42] rfl (by decide +kernel)
set_option maxRecDepth 20000 in
theorem gX5_moves_X5_follows : GoodIn wsX5_moves (wsV RX5 95 RX5 yX5_follows wsX5_follows) := goodIn_app (goodIn_of _ (by decide +kernel)) ggX5_moves_X5_follows
theorem dX5_moves_0 : decode cX5_moves 0 = .ok (.iconst 0, 1) := by decide +kernel
theorem dX5_moves_1 : decode cX5_moves 1 = .ok (.istore 5, 2) := by decide +kernel
theorem dX5_moves_3 : decode cX5_moves 3 = .ok (.iload 5, 2) := by decide +kernel
theorem dX5_moves_5 : decode cX5_moves 5 = .ok (.aload_n 0, 1) := by decide +kernel
theorem dX5_moves_6 : decode cX5_moves 6 = .ok (.getfield 81, 3) := by decide +kernel
theorem dX5_moves_9 : decode cX5_moves 9 = .ok (.if_icmp .ge 58, 3) := by decide +kernel
theorem dX5_moves_12 : decode cX5_moves 12 = .ok (.iload 4, 2) := by decide +kernel
theorem dX5_moves_14 : decode cX5_moves 14 = .ok (.iload 5, 2) := by decide +kernel
theorem dX5_moves_16 : decode cX5_moves 16 = .ok (.ishr, 1) := by decide +kernel
theorem dX5_moves_17 : decode cX5_moves 17 = .ok (.iconst 1, 1) := by decide +kernel
theorem dX5_moves_18 : decode cX5_moves 18 = .ok (.iand, 1) := by decide +kernel
theorem dX5_moves_19 : decode cX5_moves 19 = .ok (.iconst 1, 1) := by decide +kernel
theorem dX5_moves_20 : decode cX5_moves 20 = .ok (.if_icmp .ne 41, 3) := by decide +kernel
theorem dX5_moves_23 : decode cX5_moves 23 = .ok (.aload_n 0, 1) := by decide +kernel
theorem dX5_moves_24 : decode cX5_moves 24 = .ok (.getfield 17, 3) := by decide +kernel
theorem dX5_moves_27 : decode cX5_moves 27 = .ok (.iload_n 1, 1) := by decide +kernel
theorem dX5_moves_28 : decode cX5_moves 28 = .ok (.iload 5, 2) := by decide +kernel
theorem dX5_moves_30 : decode cX5_moves 30 = .ok (.iload_n 2, 1) := by decide +kernel
theorem dX5_moves_31 : decode cX5_moves 31 = .ok (.invokestatic 88, 3) := by decide +kernel
theorem dX5_moves_34 : decode cX5_moves 34 = .ok (.iconst 0, 1) := by decide +kernel
theorem dX5_moves_35 : decode cX5_moves 35 = .ok (.bastore, 1) := by decide +kernel
theorem dX5_moves_36 : decode cX5_moves 36 = .ok (.iload 5, 2) := by decide +kernel
theorem dX5_moves_38 : decode cX5_moves 38 = .ok (.iload_n 3, 1) := by decide +kernel
theorem dX5_moves_39 : decode cX5_moves 39 = .ok (.if_icmp .eq 22, 3) := by decide +kernel
theorem dX5_moves_42 : decode cX5_moves 42 = .ok (.aload_n 0, 1) := by decide +kernel
theorem dX5_moves_43 : decode cX5_moves 43 = .ok (.iload_n 1, 1) := by decide +kernel
theorem dX5_moves_44 : decode cX5_moves 44 = .ok (.iload 5, 2) := by decide +kernel
theorem dX5_moves_46 : decode cX5_moves 46 = .ok (.iload_n 3, 1) := by decide +kernel
theorem dX5_moves_47 : decode cX5_moves 47 = .ok (.invokevirtual 92, 3) := by decide +kernel
theorem dX5_moves_50 : decode cX5_moves 50 = .ok (.ifCond .ne 11, 3) := by decide +kernel
theorem dX5_moves_53 : decode cX5_moves 53 = .ok (.aload_n 0, 1) := by decide +kernel
theorem dX5_moves_54 : decode cX5_moves 54 = .ok (.iload_n 1, 1) := by decide +kernel
theorem dX5_moves_55 : decode cX5_moves 55 = .ok (.iload 5, 2) := by decide +kernel
theorem dX5_moves_57 : decode cX5_moves 57 = .ok (.iload_n 3, 1) := by decide +kernel
theorem dX5_moves_58 : decode cX5_moves 58 = .ok (.invokevirtual 95, 3) := by decide +kernel
theorem dX5_moves_61 : decode cX5_moves 61 = .ok (.iinc 5 1, 3) := by decide +kernel
theorem dX5_moves_64 : decode cX5_moves 64 = .ok (.goto (-61), 3) := by decide +kernel
theorem dX5_moves_67 : decode cX5_moves 67 = .ok (.return_, 1) := by decide +kernel
set_option maxRecDepth 1000000 in
theorem ggX5_sendsOn_X5_servers : GoodIn wsX5_sendsOn wsX5_servers := goodIn_r _ [11, 12, 13, 3, 14, 15, 10, 16, 23, 24, 25, 26, 27, 28, 29, 30, 31, 32, 33, 34, 35, 36, 37, 38, 39, 40, 41, 42, 43, 44, 45, 46, 47, 48] rfl (by decide +kernel)
set_option maxRecDepth 20000 in
theorem gX5_sendsOn_X5_servers : GoodIn wsX5_sendsOn (wsV RX5 98 RX5 yX5_servers wsX5_servers) := goodIn_app (goodIn_of _ (by decide +kernel)) ggX5_sendsOn_X5_servers
set_option maxRecDepth 1000000 in
theorem ggX5_sendsOn_X5_sends : GoodIn wsX5_sendsOn wsX5_sends := goodIn_r _ [20, 21, 22, 23, 24, 25, 26, 27, 28, 29, 30, 31, 32, 33, 34, 35, 36, 37, 38, 39, 40, 41, 42, 43, 44, 45, 46, 47, 48] rfl (by decide +kernel)
set_option maxRecDepth 20000 in
theorem gX5_sendsOn_X5_sends : GoodIn wsX5_sendsOn (wsV RX5 102 RX5 yX5_sends wsX5_sends) := goodIn_app (goodIn_of _ (by decide +kernel)) ggX5_sendsOn_X5_sends
theorem dX5_sendsOn_0 : decode cX5_sendsOn 0 = .ok (.aload_n 0, 1) := by decide +kernel
theorem dX5_sendsOn_1 : decode cX5_sendsOn 1 = .ok (.getfield 41, 3) := by decide +kernel
theorem dX5_sendsOn_4 : decode cX5_sendsOn 4 = .ok (.iload_n 3, 1) := by decide +kernel
theorem dX5_sendsOn_5 : decode cX5_sendsOn 5 = .ok (.iaload, 1) := by decide +kernel
theorem dX5_sendsOn_6 : decode cX5_sendsOn 6 = .ok (.ifCond .ne 32, 3) := by decide +kernel
theorem dX5_sendsOn_9 : decode cX5_sendsOn 9 = .ok (.aload_n 0, 1) := by decide +kernel
theorem dX5_sendsOn_10 : decode cX5_sendsOn 10 = .ok (.getfield 47, 3) := by decide +kernel
theorem dX5_sendsOn_13 : decode cX5_sendsOn 13 = .ok (.iload_n 3, 1) := by decide +kernel
theorem dX5_sendsOn_14 : decode cX5_sendsOn 14 = .ok (.iaload, 1) := by decide +kernel
theorem dX5_sendsOn_15 : decode cX5_sendsOn 15 = .ok (.ifCond .lt 23, 3) := by decide +kernel
theorem dX5_sendsOn_18 : decode cX5_sendsOn 18 = .ok (.aload_n 0, 1) := by decide +kernel
theorem dX5_sendsOn_19 : decode cX5_sendsOn 19 = .ok (.getfield 7, 3) := by decide +kernel
theorem dX5_sendsOn_22 : decode cX5_sendsOn 22 = .ok (.aload_n 0, 1) := by decide +kernel
theorem dX5_sendsOn_23 : decode cX5_sendsOn 23 = .ok (.getfield 38, 3) := by decide +kernel
theorem dX5_sendsOn_26 : decode cX5_sendsOn 26 = .ok (.aload_n 0, 1) := by decide +kernel
theorem dX5_sendsOn_27 : decode cX5_sendsOn 27 = .ok (.getfield 47, 3) := by decide +kernel
theorem dX5_sendsOn_30 : decode cX5_sendsOn 30 = .ok (.iload_n 3, 1) := by decide +kernel
theorem dX5_sendsOn_31 : decode cX5_sendsOn 31 = .ok (.iaload, 1) := by decide +kernel
theorem dX5_sendsOn_32 : decode cX5_sendsOn 32 = .ok (.iaload, 1) := by decide +kernel
theorem dX5_sendsOn_33 : decode cX5_sendsOn 33 = .ok (.iaload, 1) := by decide +kernel
theorem dX5_sendsOn_34 : decode cX5_sendsOn 34 = .ok (.iload_n 1, 1) := by decide +kernel
theorem dX5_sendsOn_35 : decode cX5_sendsOn 35 = .ok (.if_icmp .eq 4, 3) := by decide +kernel
theorem dX5_sendsOn_38 : decode cX5_sendsOn 38 = .ok (.return_, 1) := by decide +kernel
theorem dX5_sendsOn_39 : decode cX5_sendsOn 39 = .ok (.aload_n 0, 1) := by decide +kernel
theorem dX5_sendsOn_40 : decode cX5_sendsOn 40 = .ok (.getfield 7, 3) := by decide +kernel
theorem dX5_sendsOn_43 : decode cX5_sendsOn 43 = .ok (.aload_n 0, 1) := by decide +kernel
theorem dX5_sendsOn_44 : decode cX5_sendsOn 44 = .ok (.getfield 38, 3) := by decide +kernel
theorem dX5_sendsOn_47 : decode cX5_sendsOn 47 = .ok (.iload_n 3, 1) := by decide +kernel
theorem dX5_sendsOn_48 : decode cX5_sendsOn 48 = .ok (.iaload, 1) := by decide +kernel
theorem dX5_sendsOn_49 : decode cX5_sendsOn 49 = .ok (.iaload, 1) := by decide +kernel
theorem dX5_sendsOn_50 : decode cX5_sendsOn 50 = .ok (.istore 4, 2) := by decide +kernel
theorem dX5_sendsOn_52 : decode cX5_sendsOn 52 = .ok (.aload_n 0, 1) := by decide +kernel
theorem dX5_sendsOn_53 : decode cX5_sendsOn 53 = .ok (.iload_n 1, 1) := by decide +kernel
theorem dX5_sendsOn_54 : decode cX5_sendsOn 54 = .ok (.aload_n 0, 1) := by decide +kernel
theorem dX5_sendsOn_55 : decode cX5_sendsOn 55 = .ok (.getfield 38, 3) := by decide +kernel
theorem dX5_sendsOn_58 : decode cX5_sendsOn 58 = .ok (.aload_n 0, 1) := by decide +kernel
theorem dX5_sendsOn_59 : decode cX5_sendsOn 59 = .ok (.getfield 47, 3) := by decide +kernel
theorem dX5_sendsOn_62 : decode cX5_sendsOn 62 = .ok (.iload_n 3, 1) := by decide +kernel
theorem dX5_sendsOn_63 : decode cX5_sendsOn 63 = .ok (.iaload, 1) := by decide +kernel
theorem dX5_sendsOn_64 : decode cX5_sendsOn 64 = .ok (.iaload, 1) := by decide +kernel
theorem dX5_sendsOn_65 : decode cX5_sendsOn 65 = .ok (.invokevirtual 98, 3) := by decide +kernel
theorem dX5_sendsOn_68 : decode cX5_sendsOn 68 = .ok (.iconst 1, 1) := by decide +kernel
theorem dX5_sendsOn_69 : decode cX5_sendsOn 69 = .ok (.iload 4, 2) := by decide +kernel
theorem dX5_sendsOn_71 : decode cX5_sendsOn 71 = .ok (.ishl, 1) := by decide +kernel
theorem dX5_sendsOn_72 : decode cX5_sendsOn 72 = .ok (.iconst (-1), 1) := by decide +kernel
theorem dX5_sendsOn_73 : decode cX5_sendsOn 73 = .ok (.ixor, 1) := by decide +kernel
theorem dX5_sendsOn_74 : decode cX5_sendsOn 74 = .ok (.iand, 1) := by decide +kernel
theorem dX5_sendsOn_75 : decode cX5_sendsOn 75 = .ok (.iload 4, 2) := by decide +kernel
theorem dX5_sendsOn_77 : decode cX5_sendsOn 77 = .ok (.iload_n 1, 1) := by decide +kernel
theorem dX5_sendsOn_78 : decode cX5_sendsOn 78 = .ok (.if_icmp .ne 12, 3) := by decide +kernel
theorem dX5_sendsOn_81 : decode cX5_sendsOn 81 = .ok (.aload_n 0, 1) := by decide +kernel
theorem dX5_sendsOn_82 : decode cX5_sendsOn 82 = .ok (.getfield 50, 3) := by decide +kernel
theorem dX5_sendsOn_85 : decode cX5_sendsOn 85 = .ok (.iload_n 3, 1) := by decide +kernel
theorem dX5_sendsOn_86 : decode cX5_sendsOn 86 = .ok (.iaload, 1) := by decide +kernel
theorem dX5_sendsOn_87 : decode cX5_sendsOn 87 = .ok (.goto 4, 3) := by decide +kernel
theorem dX5_sendsOn_90 : decode cX5_sendsOn 90 = .ok (.iconst 0, 1) := by decide +kernel
theorem dX5_sendsOn_91 : decode cX5_sendsOn 91 = .ok (.iconst (-1), 1) := by decide +kernel
theorem dX5_sendsOn_92 : decode cX5_sendsOn 92 = .ok (.ixor, 1) := by decide +kernel
theorem dX5_sendsOn_93 : decode cX5_sendsOn 93 = .ok (.iand, 1) := by decide +kernel
theorem dX5_sendsOn_94 : decode cX5_sendsOn 94 = .ok (.istore 5, 2) := by decide +kernel
theorem dX5_sendsOn_96 : decode cX5_sendsOn 96 = .ok (.aload_n 0, 1) := by decide +kernel
theorem dX5_sendsOn_97 : decode cX5_sendsOn 97 = .ok (.getfield 32, 3) := by decide +kernel
theorem dX5_sendsOn_100 : decode cX5_sendsOn 100 = .ok (.bipush 50, 2) := by decide +kernel
theorem dX5_sendsOn_102 : decode cX5_sendsOn 102 = .ok (.iload_n 1, 1) := by decide +kernel
theorem dX5_sendsOn_103 : decode cX5_sendsOn 103 = .ok (.imul, 1) := by decide +kernel
theorem dX5_sendsOn_104 : decode cX5_sendsOn 104 = .ok (.iload_n 3, 1) := by decide +kernel
theorem dX5_sendsOn_105 : decode cX5_sendsOn 105 = .ok (.iadd, 1) := by decide +kernel
theorem dX5_sendsOn_106 : decode cX5_sendsOn 106 = .ok (.iload 5, 2) := by decide +kernel
theorem dX5_sendsOn_108 : decode cX5_sendsOn 108 = .ok (.iastore, 1) := by decide +kernel
theorem dX5_sendsOn_109 : decode cX5_sendsOn 109 = .ok (.aload_n 0, 1) := by decide +kernel
theorem dX5_sendsOn_110 : decode cX5_sendsOn 110 = .ok (.iload_n 2, 1) := by decide +kernel
theorem dX5_sendsOn_111 : decode cX5_sendsOn 111 = .ok (.iload 5, 2) := by decide +kernel
theorem dX5_sendsOn_113 : decode cX5_sendsOn 113 = .ok (.invokevirtual 102, 3) := by decide +kernel
theorem dX5_sendsOn_116 : decode cX5_sendsOn 116 = .ok (.return_, 1) := by decide +kernel
set_option maxRecDepth 1000000 in
theorem ggX5_doesPost_X5_sendsOn : GoodIn wsX5_doesPost wsX5_sendsOn := goodIn_r _ [14, 15, 16, 5, 6, 17, 7, 18, 19, 20, 13, 21, 22, 23, 24, 25, 26, 27, 28, 29, 30, 31, 32, 33, 34, 35, 36, 37, 38, 39, 40, 41, 42, 43, 44, 45, 46, 47, 48, 49, 50, 51, 52, 53, 54, 55, 56, 57, 58] rfl (by decide +kernel)
set_option maxRecDepth 20000 in
theorem gX5_doesPost_X5_sendsOn : GoodIn wsX5_doesPost (wsV RX5 106 RX5 yX5_sendsOn wsX5_sendsOn) := goodIn_app (goodIn_of _ (by decide +kernel)) ggX5_doesPost_X5_sendsOn
set_option maxRecDepth 1000000 in
theorem ggX5_doesPost_X5_sends : GoodIn wsX5_doesPost wsX5_sends := goodIn_r _ [30, 31, 32, 33, 34, 35, 36, 37, 38, 39, 40, 41, 42, 43, 44, 45, 46, 47, 48, 49, 50, 51, 52, 53, 54, 55, 56, 57, 58] rfl (by decide +kernel)
set_option maxRecDepth 20000 in
theorem gX5_doesPost_X5_sends : GoodIn wsX5_doesPost (wsV RX5 102 RX5 yX5_sends wsX5_sends) := goodIn_app (goodIn_of _ (by decide +kernel)) ggX5_doesPost_X5_sends
theorem dX5_doesPost_0 : decode cX5_doesPost 0 = .ok (.aload_n 0, 1) := by decide +kernel
theorem dX5_doesPost_1 : decode cX5_doesPost 1 = .ok (.getfield 59, 3) := by decide +kernel
theorem dX5_doesPost_4 : decode cX5_doesPost 4 = .ok (.iload_n 2, 1) := by decide +kernel
theorem dX5_doesPost_5 : decode cX5_doesPost 5 = .ok (.iaload, 1) := by decide +kernel
theorem dX5_doesPost_6 : decode cX5_doesPost 6 = .ok (.istore_n 3, 1) := by decide +kernel
theorem dX5_doesPost_7 : decode cX5_doesPost 7 = .ok (.aload_n 0, 1) := by decide +kernel
theorem dX5_doesPost_8 : decode cX5_doesPost 8 = .ok (.getfield 53, 3) := by decide +kernel
theorem dX5_doesPost_11 : decode cX5_doesPost 11 = .ok (.iload_n 2, 1) := by decide +kernel
theorem dX5_doesPost_12 : decode cX5_doesPost 12 = .ok (.iaload, 1) := by decide +kernel
theorem dX5_doesPost_13 : decode cX5_doesPost 13 = .ok (.bipush 8, 2) := by decide +kernel
theorem dX5_doesPost_15 : decode cX5_doesPost 15 = .ok (.if_icmp .ne 43, 3) := by decide +kernel
theorem dX5_doesPost_18 : decode cX5_doesPost 18 = .ok (.aload_n 0, 1) := by decide +kernel
theorem dX5_doesPost_19 : decode cX5_doesPost 19 = .ok (.getfield 26, 3) := by decide +kernel
theorem dX5_doesPost_22 : decode cX5_doesPost 22 = .ok (.bipush 50, 2) := by decide +kernel
theorem dX5_doesPost_24 : decode cX5_doesPost 24 = .ok (.iload_n 1, 1) := by decide +kernel
theorem dX5_doesPost_25 : decode cX5_doesPost 25 = .ok (.imul, 1) := by decide +kernel
theorem dX5_doesPost_26 : decode cX5_doesPost 26 = .ok (.iload_n 3, 1) := by decide +kernel
theorem dX5_doesPost_27 : decode cX5_doesPost 27 = .ok (.iadd, 1) := by decide +kernel
theorem dX5_doesPost_28 : decode cX5_doesPost 28 = .ok (.aload_n 0, 1) := by decide +kernel
theorem dX5_doesPost_29 : decode cX5_doesPost 29 = .ok (.getfield 29, 3) := by decide +kernel
theorem dX5_doesPost_32 : decode cX5_doesPost 32 = .ok (.bipush 50, 2) := by decide +kernel
theorem dX5_doesPost_34 : decode cX5_doesPost 34 = .ok (.iload_n 1, 1) := by decide +kernel
theorem dX5_doesPost_35 : decode cX5_doesPost 35 = .ok (.imul, 1) := by decide +kernel
theorem dX5_doesPost_36 : decode cX5_doesPost 36 = .ok (.iload_n 3, 1) := by decide +kernel
theorem dX5_doesPost_37 : decode cX5_doesPost 37 = .ok (.iadd, 1) := by decide +kernel
theorem dX5_doesPost_38 : decode cX5_doesPost 38 = .ok (.baload, 1) := by decide +kernel
theorem dX5_doesPost_39 : decode cX5_doesPost 39 = .ok (.ifCond .ne 7, 3) := by decide +kernel
theorem dX5_doesPost_42 : decode cX5_doesPost 42 = .ok (.iconst 1, 1) := by decide +kernel
theorem dX5_doesPost_43 : decode cX5_doesPost 43 = .ok (.goto 4, 3) := by decide +kernel
theorem dX5_doesPost_46 : decode cX5_doesPost 46 = .ok (.iconst 0, 1) := by decide +kernel
theorem dX5_doesPost_47 : decode cX5_doesPost 47 = .ok (.bastore, 1) := by decide +kernel
theorem dX5_doesPost_48 : decode cX5_doesPost 48 = .ok (.aload_n 0, 1) := by decide +kernel
theorem dX5_doesPost_49 : decode cX5_doesPost 49 = .ok (.iload_n 1, 1) := by decide +kernel
theorem dX5_doesPost_50 : decode cX5_doesPost 50 = .ok (.iload_n 2, 1) := by decide +kernel
theorem dX5_doesPost_51 : decode cX5_doesPost 51 = .ok (.iload_n 3, 1) := by decide +kernel
theorem dX5_doesPost_52 : decode cX5_doesPost 52 = .ok (.invokevirtual 106, 3) := by decide +kernel
theorem dX5_doesPost_55 : decode cX5_doesPost 55 = .ok (.goto 125, 3) := by decide +kernel
theorem dX5_doesPost_58 : decode cX5_doesPost 58 = .ok (.aload_n 0, 1) := by decide +kernel
theorem dX5_doesPost_59 : decode cX5_doesPost 59 = .ok (.getfield 53, 3) := by decide +kernel
theorem dX5_doesPost_62 : decode cX5_doesPost 62 = .ok (.iload_n 2, 1) := by decide +kernel
theorem dX5_doesPost_63 : decode cX5_doesPost 63 = .ok (.iaload, 1) := by decide +kernel
theorem dX5_doesPost_64 : decode cX5_doesPost 64 = .ok (.bipush 9, 2) := by decide +kernel
theorem dX5_doesPost_66 : decode cX5_doesPost 66 = .ok (.if_icmp .ne 61, 3) := by decide +kernel
theorem dX5_doesPost_69 : decode cX5_doesPost 69 = .ok (.aload_n 0, 1) := by decide +kernel
theorem dX5_doesPost_70 : decode cX5_doesPost 70 = .ok (.getfield 26, 3) := by decide +kernel
theorem dX5_doesPost_73 : decode cX5_doesPost 73 = .ok (.bipush 50, 2) := by decide +kernel
theorem dX5_doesPost_75 : decode cX5_doesPost 75 = .ok (.iload_n 1, 1) := by decide +kernel
theorem dX5_doesPost_76 : decode cX5_doesPost 76 = .ok (.imul, 1) := by decide +kernel
theorem dX5_doesPost_77 : decode cX5_doesPost 77 = .ok (.iload_n 3, 1) := by decide +kernel
theorem dX5_doesPost_78 : decode cX5_doesPost 78 = .ok (.iadd, 1) := by decide +kernel
theorem dX5_doesPost_79 : decode cX5_doesPost 79 = .ok (.iconst 0, 1) := by decide +kernel
theorem dX5_doesPost_80 : decode cX5_doesPost 80 = .ok (.bastore, 1) := by decide +kernel
theorem dX5_doesPost_81 : decode cX5_doesPost 81 = .ok (.aload_n 0, 1) := by decide +kernel
theorem dX5_doesPost_82 : decode cX5_doesPost 82 = .ok (.getfield 29, 3) := by decide +kernel
theorem dX5_doesPost_85 : decode cX5_doesPost 85 = .ok (.bipush 50, 2) := by decide +kernel
theorem dX5_doesPost_87 : decode cX5_doesPost 87 = .ok (.iload_n 1, 1) := by decide +kernel
theorem dX5_doesPost_88 : decode cX5_doesPost 88 = .ok (.imul, 1) := by decide +kernel
theorem dX5_doesPost_89 : decode cX5_doesPost 89 = .ok (.iload_n 3, 1) := by decide +kernel
theorem dX5_doesPost_90 : decode cX5_doesPost 90 = .ok (.iadd, 1) := by decide +kernel
theorem dX5_doesPost_91 : decode cX5_doesPost 91 = .ok (.iconst 1, 1) := by decide +kernel
theorem dX5_doesPost_92 : decode cX5_doesPost 92 = .ok (.bastore, 1) := by decide +kernel
theorem dX5_doesPost_93 : decode cX5_doesPost 93 = .ok (.iload_n 1, 1) := by decide +kernel
theorem dX5_doesPost_94 : decode cX5_doesPost 94 = .ok (.aload_n 0, 1) := by decide +kernel
theorem dX5_doesPost_95 : decode cX5_doesPost 95 = .ok (.getfield 7, 3) := by decide +kernel
theorem dX5_doesPost_98 : decode cX5_doesPost 98 = .ok (.aload_n 0, 1) := by decide +kernel
theorem dX5_doesPost_99 : decode cX5_doesPost 99 = .ok (.getfield 38, 3) := by decide +kernel
theorem dX5_doesPost_102 : decode cX5_doesPost 102 = .ok (.iload_n 3, 1) := by decide +kernel
theorem dX5_doesPost_103 : decode cX5_doesPost 103 = .ok (.iaload, 1) := by decide +kernel
theorem dX5_doesPost_104 : decode cX5_doesPost 104 = .ok (.iaload, 1) := by decide +kernel
theorem dX5_doesPost_105 : decode cX5_doesPost 105 = .ok (.if_icmp .eq 75, 3) := by decide +kernel
theorem dX5_doesPost_108 : decode cX5_doesPost 108 = .ok (.aload_n 0, 1) := by decide +kernel
theorem dX5_doesPost_109 : decode cX5_doesPost 109 = .ok (.iload_n 2, 1) := by decide +kernel
theorem dX5_doesPost_110 : decode cX5_doesPost 110 = .ok (.aload_n 0, 1) := by decide +kernel
theorem dX5_doesPost_111 : decode cX5_doesPost 111 = .ok (.getfield 32, 3) := by decide +kernel
theorem dX5_doesPost_114 : decode cX5_doesPost 114 = .ok (.bipush 50, 2) := by decide +kernel
theorem dX5_doesPost_116 : decode cX5_doesPost 116 = .ok (.iload_n 1, 1) := by decide +kernel
theorem dX5_doesPost_117 : decode cX5_doesPost 117 = .ok (.imul, 1) := by decide +kernel
theorem dX5_doesPost_118 : decode cX5_doesPost 118 = .ok (.iload_n 3, 1) := by decide +kernel
theorem dX5_doesPost_119 : decode cX5_doesPost 119 = .ok (.iadd, 1) := by decide +kernel
theorem dX5_doesPost_120 : decode cX5_doesPost 120 = .ok (.iaload, 1) := by decide +kernel
theorem dX5_doesPost_121 : decode cX5_doesPost 121 = .ok (.invokevirtual 102, 3) := by decide +kernel
theorem dX5_doesPost_124 : decode cX5_doesPost 124 = .ok (.goto 56, 3) := by decide +kernel
theorem dX5_doesPost_127 : decode cX5_doesPost 127 = .ok (.aload_n 0, 1) := by decide +kernel
theorem dX5_doesPost_128 : decode cX5_doesPost 128 = .ok (.getfield 35, 3) := by decide +kernel
theorem dX5_doesPost_131 : decode cX5_doesPost 131 = .ok (.sipush 500, 3) := by decide +kernel
theorem dX5_doesPost_134 : decode cX5_doesPost 134 = .ok (.iload_n 1, 1) := by decide +kernel
theorem dX5_doesPost_135 : decode cX5_doesPost 135 = .ok (.imul, 1) := by decide +kernel
theorem dX5_doesPost_136 : decode cX5_doesPost 136 = .ok (.bipush 50, 2) := by decide +kernel
theorem dX5_doesPost_138 : decode cX5_doesPost 138 = .ok (.aload_n 0, 1) := by decide +kernel
theorem dX5_doesPost_139 : decode cX5_doesPost 139 = .ok (.getfield 56, 3) := by decide +kernel
theorem dX5_doesPost_142 : decode cX5_doesPost 142 = .ok (.iload_n 2, 1) := by decide +kernel
theorem dX5_doesPost_143 : decode cX5_doesPost 143 = .ok (.iaload, 1) := by decide +kernel
theorem dX5_doesPost_144 : decode cX5_doesPost 144 = .ok (.imul, 1) := by decide +kernel
theorem dX5_doesPost_145 : decode cX5_doesPost 145 = .ok (.iadd, 1) := by decide +kernel
theorem dX5_doesPost_146 : decode cX5_doesPost 146 = .ok (.iload_n 3, 1) := by decide +kernel
theorem dX5_doesPost_147 : decode cX5_doesPost 147 = .ok (.iadd, 1) := by decide +kernel
theorem dX5_doesPost_148 : decode cX5_doesPost 148 = .ok (.iconst 1, 1) := by decide +kernel
theorem dX5_doesPost_149 : decode cX5_doesPost 149 = .ok (.bastore, 1) := by decide +kernel
theorem dX5_doesPost_150 : decode cX5_doesPost 150 = .ok (.aload_n 0, 1) := by decide +kernel
theorem dX5_doesPost_151 : decode cX5_doesPost 151 = .ok (.getfield 26, 3) := by decide +kernel
theorem dX5_doesPost_154 : decode cX5_doesPost 154 = .ok (.bipush 50, 2) := by decide +kernel
theorem dX5_doesPost_156 : decode cX5_doesPost 156 = .ok (.iload_n 1, 1) := by decide +kernel
theorem dX5_doesPost_157 : decode cX5_doesPost 157 = .ok (.imul, 1) := by decide +kernel
theorem dX5_doesPost_158 : decode cX5_doesPost 158 = .ok (.iload_n 3, 1) := by decide +kernel
theorem dX5_doesPost_159 : decode cX5_doesPost 159 = .ok (.iadd, 1) := by decide +kernel
theorem dX5_doesPost_160 : decode cX5_doesPost 160 = .ok (.aload_n 0, 1) := by decide +kernel
theorem dX5_doesPost_161 : decode cX5_doesPost 161 = .ok (.getfield 29, 3) := by decide +kernel
theorem dX5_doesPost_164 : decode cX5_doesPost 164 = .ok (.bipush 50, 2) := by decide +kernel
theorem dX5_doesPost_166 : decode cX5_doesPost 166 = .ok (.iload_n 1, 1) := by decide +kernel
theorem dX5_doesPost_167 : decode cX5_doesPost 167 = .ok (.imul, 1) := by decide +kernel
theorem dX5_doesPost_168 : decode cX5_doesPost 168 = .ok (.iload_n 3, 1) := by decide +kernel
theorem dX5_doesPost_169 : decode cX5_doesPost 169 = .ok (.iadd, 1) := by decide +kernel
theorem dX5_doesPost_170 : decode cX5_doesPost 170 = .ok (.baload, 1) := by decide +kernel
theorem dX5_doesPost_171 : decode cX5_doesPost 171 = .ok (.ifCond .ne 7, 3) := by decide +kernel
theorem dX5_doesPost_174 : decode cX5_doesPost 174 = .ok (.iconst 1, 1) := by decide +kernel
theorem dX5_doesPost_175 : decode cX5_doesPost 175 = .ok (.goto 4, 3) := by decide +kernel
theorem dX5_doesPost_178 : decode cX5_doesPost 178 = .ok (.iconst 0, 1) := by decide +kernel
theorem dX5_doesPost_179 : decode cX5_doesPost 179 = .ok (.bastore, 1) := by decide +kernel
theorem dX5_doesPost_180 : decode cX5_doesPost 180 = .ok (.return_, 1) := by decide +kernel
set_option maxRecDepth 1000000 in
theorem ggX5_does_X5_doesPost : GoodIn wsX5_does wsX5_doesPost := goodIn_r _ [14, 3, 4, 15, 16, 17, 18, 19, 20, 2, 21, 22, 23, 13, 24, 25, 26, 27, 28, 29, 30, 31, 32, 6, 33, 34, 35, 36, 37, 38, 39, 40, 41, 58, 59, 60, 61, 62, 63, 64, 65, 66, 67, 68, 69, 70, 71, 72, 73, 74, 75, 76, 77, 78, 79, 80, 81, 82, 83] rfl (by decide +kernel)
set_option maxRecDepth 20000 in
theorem gX5_does_X5_doesPost : GoodIn wsX5_does (wsV RX5 109 RX5 yX5_doesPost wsX5_doesPost) := goodIn_app (goodIn_of _ (by decide +kernel)) ggX5_does_X5_doesPost
set_option maxRecDepth 1000000 in
theorem ggX5_does_X5_at : GoodIn wsX5_does wsX5_at := goodIn_r _ [35] rfl (by decide +kernel)
set_option maxRecDepth 20000 in
theorem gX5_does_X5_at : GoodIn wsX5_does (va_wsS RX5 88 yX5_at wsX5_at) := goodIn_app (goodIn_of _ (by decide +kernel)) ggX5_does_X5_at
set_option maxRecDepth 1000000 in
theorem ggX5_does_X5_isApart : GoodIn wsX5_does wsX5_isApart := goodIn_r _ [45, 9, 33, 34, 13, 35, 58, 59, 60, 61, 62, 63, 64, 65, 66, 67, 68, 69, 70, 71, 72, 73, 74, 75, 76, 77, 78, 79, 80, 81, 82, 83] rfl (by decide +kernel)
set_option maxRecDepth 20000 in
theorem gX5_does_X5_isApart : GoodIn wsX5_does (wsV RX5 92 RX5 yX5_isApart wsX5_isApart) := goodIn_app (goodIn_of _ (by decide +kernel)) ggX5_does_X5_isApart
set_option maxRecDepth 1000000 in
theorem ggX5_does_X5_follows : GoodIn wsX5_does wsX5_follows := goodIn_r _ [49, 6, 5, 33, 34, 13, 35, 58, 59, 60, 61, 62, 63, 64, 65, 66, 67, 68, 69, 70, 71, 72, 73, 74, 75, 76, 77, 78, 79, 80, 81, 82, 83] rfl (by decide +kernel)
set_option maxRecDepth 20000 in
theorem gX5_does_X5_follows : GoodIn wsX5_does (wsV RX5 95 RX5 yX5_follows wsX5_follows) := goodIn_app (goodIn_of _ (by decide +kernel)) ggX5_does_X5_follows
set_option maxRecDepth 1000000 in
theorem ggX5_does_X5_parts : GoodIn wsX5_does wsX5_parts := goodIn_r _ [53, 6, 5, 33, 34, 13, 35, 58, 59, 60, 61, 62, 63, 64, 65, 66, 67, 68, 69, 70, 71, 72, 73, 74, 75, 76, 77, 78, 79, 80, 81, 82, 83] rfl (by decide +kernel)
set_option maxRecDepth 20000 in
theorem gX5_does_X5_parts : GoodIn wsX5_does (wsV RX5 112 RX5 yX5_parts wsX5_parts) := goodIn_app (goodIn_of _ (by decide +kernel)) ggX5_does_X5_parts
set_option maxRecDepth 1000000 in
theorem ggX5_does_X5_moves : GoodIn wsX5_does wsX5_moves := goodIn_r _ [57, 32, 6, 33, 34, 13, 35, 42, 43, 44, 45, 9, 46, 47, 48, 49, 5, 58, 59, 60, 61, 62, 63, 64, 65, 66, 67, 68, 69, 70, 71, 72, 73, 74, 75, 76, 77, 78, 79, 80, 81, 82, 83] rfl (by decide +kernel)
set_option maxRecDepth 20000 in
theorem gX5_does_X5_moves : GoodIn wsX5_does (wsV RX5 115 RX5 yX5_moves wsX5_moves) := goodIn_app (goodIn_of _ (by decide +kernel)) ggX5_does_X5_moves
theorem dX5_does_0 : decode cX5_does 0 = .ok (.aload_n 0, 1) := by decide +kernel
theorem dX5_does_1 : decode cX5_does 1 = .ok (.getfield 65, 3) := by decide +kernel
theorem dX5_does_4 : decode cX5_does 4 = .ok (.sipush 600, 3) := by decide +kernel
theorem dX5_does_7 : decode cX5_does 7 = .ok (.iload_n 1, 1) := by decide +kernel
theorem dX5_does_8 : decode cX5_does 8 = .ok (.imul, 1) := by decide +kernel
theorem dX5_does_9 : decode cX5_does 9 = .ok (.iload_n 2, 1) := by decide +kernel
theorem dX5_does_10 : decode cX5_does 10 = .ok (.iadd, 1) := by decide +kernel
theorem dX5_does_11 : decode cX5_does 11 = .ok (.iconst 1, 1) := by decide +kernel
theorem dX5_does_12 : decode cX5_does 12 = .ok (.bastore, 1) := by decide +kernel
theorem dX5_does_13 : decode cX5_does 13 = .ok (.aload_n 0, 1) := by decide +kernel
theorem dX5_does_14 : decode cX5_does 14 = .ok (.getfield 56, 3) := by decide +kernel
theorem dX5_does_17 : decode cX5_does 17 = .ok (.iload_n 2, 1) := by decide +kernel
theorem dX5_does_18 : decode cX5_does 18 = .ok (.iaload, 1) := by decide +kernel
theorem dX5_does_19 : decode cX5_does 19 = .ok (.istore_n 3, 1) := by decide +kernel
theorem dX5_does_20 : decode cX5_does 20 = .ok (.aload_n 0, 1) := by decide +kernel
theorem dX5_does_21 : decode cX5_does 21 = .ok (.getfield 59, 3) := by decide +kernel
theorem dX5_does_24 : decode cX5_does 24 = .ok (.iload_n 2, 1) := by decide +kernel
theorem dX5_does_25 : decode cX5_does 25 = .ok (.iaload, 1) := by decide +kernel
theorem dX5_does_26 : decode cX5_does 26 = .ok (.istore 4, 2) := by decide +kernel
theorem dX5_does_28 : decode cX5_does 28 = .ok (.aload_n 0, 1) := by decide +kernel
theorem dX5_does_29 : decode cX5_does 29 = .ok (.getfield 53, 3) := by decide +kernel
theorem dX5_does_32 : decode cX5_does 32 = .ok (.iload_n 2, 1) := by decide +kernel
theorem dX5_does_33 : decode cX5_does 33 = .ok (.iaload, 1) := by decide +kernel
theorem dX5_does_34 : decode cX5_does 34 = .ok (.istore 5, 2) := by decide +kernel
theorem dX5_does_36 : decode cX5_does 36 = .ok (.iload 5, 2) := by decide +kernel
theorem dX5_does_38 : decode cX5_does 38 = .ok (.bipush 8, 2) := by decide +kernel
theorem dX5_does_40 : decode cX5_does 40 = .ok (.if_icmp .lt 12, 3) := by decide +kernel
theorem dX5_does_43 : decode cX5_does 43 = .ok (.aload_n 0, 1) := by decide +kernel
theorem dX5_does_44 : decode cX5_does 44 = .ok (.iload_n 1, 1) := by decide +kernel
theorem dX5_does_45 : decode cX5_does 45 = .ok (.iload_n 2, 1) := by decide +kernel
theorem dX5_does_46 : decode cX5_does 46 = .ok (.invokevirtual 109, 3) := by decide +kernel
theorem dX5_does_49 : decode cX5_does 49 = .ok (.goto 245, 3) := by decide +kernel
theorem dX5_does_52 : decode cX5_does 52 = .ok (.iload 5, 2) := by decide +kernel
theorem dX5_does_54 : decode cX5_does 54 = .ok (.ifCond .ne 64, 3) := by decide +kernel
theorem dX5_does_57 : decode cX5_does 57 = .ok (.aload_n 0, 1) := by decide +kernel
theorem dX5_does_58 : decode cX5_does 58 = .ok (.getfield 13, 3) := by decide +kernel
theorem dX5_does_61 : decode cX5_does 61 = .ok (.iload_n 1, 1) := by decide +kernel
theorem dX5_does_62 : decode cX5_does 62 = .ok (.iload_n 3, 1) := by decide +kernel
theorem dX5_does_63 : decode cX5_does 63 = .ok (.iload 4, 2) := by decide +kernel
theorem dX5_does_65 : decode cX5_does 65 = .ok (.invokestatic 88, 3) := by decide +kernel
theorem dX5_does_68 : decode cX5_does 68 = .ok (.aload_n 0, 1) := by decide +kernel
theorem dX5_does_69 : decode cX5_does 69 = .ok (.getfield 13, 3) := by decide +kernel
theorem dX5_does_72 : decode cX5_does 72 = .ok (.iload_n 1, 1) := by decide +kernel
theorem dX5_does_73 : decode cX5_does 73 = .ok (.iload_n 3, 1) := by decide +kernel
theorem dX5_does_74 : decode cX5_does 74 = .ok (.iload 4, 2) := by decide +kernel
theorem dX5_does_76 : decode cX5_does 76 = .ok (.invokestatic 88, 3) := by decide +kernel
theorem dX5_does_79 : decode cX5_does 79 = .ok (.baload, 1) := by decide +kernel
theorem dX5_does_80 : decode cX5_does 80 = .ok (.ifCond .ne 29, 3) := by decide +kernel
theorem dX5_does_83 : decode cX5_does 83 = .ok (.aload_n 0, 1) := by decide +kernel
theorem dX5_does_84 : decode cX5_does 84 = .ok (.getfield 17, 3) := by decide +kernel
theorem dX5_does_87 : decode cX5_does 87 = .ok (.iload_n 1, 1) := by decide +kernel
theorem dX5_does_88 : decode cX5_does 88 = .ok (.iload_n 3, 1) := by decide +kernel
theorem dX5_does_89 : decode cX5_does 89 = .ok (.iload 4, 2) := by decide +kernel
theorem dX5_does_91 : decode cX5_does 91 = .ok (.invokestatic 88, 3) := by decide +kernel
theorem dX5_does_94 : decode cX5_does 94 = .ok (.baload, 1) := by decide +kernel
theorem dX5_does_95 : decode cX5_does 95 = .ok (.ifCond .ne 18, 3) := by decide +kernel
theorem dX5_does_98 : decode cX5_does 98 = .ok (.aload_n 0, 1) := by decide +kernel
theorem dX5_does_99 : decode cX5_does 99 = .ok (.iload_n 1, 1) := by decide +kernel
theorem dX5_does_100 : decode cX5_does 100 = .ok (.iload_n 3, 1) := by decide +kernel
theorem dX5_does_101 : decode cX5_does 101 = .ok (.iload 4, 2) := by decide +kernel
theorem dX5_does_103 : decode cX5_does 103 = .ok (.invokevirtual 92, 3) := by decide +kernel
theorem dX5_does_106 : decode cX5_does 106 = .ok (.ifCond .ne 7, 3) := by decide +kernel
theorem dX5_does_109 : decode cX5_does 109 = .ok (.iconst 1, 1) := by decide +kernel
theorem dX5_does_110 : decode cX5_does 110 = .ok (.goto 4, 3) := by decide +kernel
theorem dX5_does_113 : decode cX5_does 113 = .ok (.iconst 0, 1) := by decide +kernel
theorem dX5_does_114 : decode cX5_does 114 = .ok (.bastore, 1) := by decide +kernel
theorem dX5_does_115 : decode cX5_does 115 = .ok (.goto 179, 3) := by decide +kernel
theorem dX5_does_118 : decode cX5_does 118 = .ok (.iload 5, 2) := by decide +kernel
theorem dX5_does_120 : decode cX5_does 120 = .ok (.iconst 1, 1) := by decide +kernel
theorem dX5_does_121 : decode cX5_does 121 = .ok (.if_icmp .ne 40, 3) := by decide +kernel
theorem dX5_does_124 : decode cX5_does 124 = .ok (.aload_n 0, 1) := by decide +kernel
theorem dX5_does_125 : decode cX5_does 125 = .ok (.getfield 13, 3) := by decide +kernel
theorem dX5_does_128 : decode cX5_does 128 = .ok (.iload_n 1, 1) := by decide +kernel
theorem dX5_does_129 : decode cX5_does 129 = .ok (.iload 4, 2) := by decide +kernel
theorem dX5_does_131 : decode cX5_does 131 = .ok (.iload_n 3, 1) := by decide +kernel
theorem dX5_does_132 : decode cX5_does 132 = .ok (.invokestatic 88, 3) := by decide +kernel
theorem dX5_does_135 : decode cX5_does 135 = .ok (.baload, 1) := by decide +kernel
theorem dX5_does_136 : decode cX5_does 136 = .ok (.ifCond .eq 158, 3) := by decide +kernel
theorem dX5_does_139 : decode cX5_does 139 = .ok (.aload_n 0, 1) := by decide +kernel
theorem dX5_does_140 : decode cX5_does 140 = .ok (.iload_n 1, 1) := by decide +kernel
theorem dX5_does_141 : decode cX5_does 141 = .ok (.iload_n 3, 1) := by decide +kernel
theorem dX5_does_142 : decode cX5_does 142 = .ok (.iload 4, 2) := by decide +kernel
theorem dX5_does_144 : decode cX5_does 144 = .ok (.invokevirtual 92, 3) := by decide +kernel
theorem dX5_does_147 : decode cX5_does 147 = .ok (.ifCond .ne 147, 3) := by decide +kernel
theorem dX5_does_150 : decode cX5_does 150 = .ok (.aload_n 0, 1) := by decide +kernel
theorem dX5_does_151 : decode cX5_does 151 = .ok (.iload_n 1, 1) := by decide +kernel
theorem dX5_does_152 : decode cX5_does 152 = .ok (.iload 4, 2) := by decide +kernel
theorem dX5_does_154 : decode cX5_does 154 = .ok (.iload_n 3, 1) := by decide +kernel
theorem dX5_does_155 : decode cX5_does 155 = .ok (.invokevirtual 95, 3) := by decide +kernel
theorem dX5_does_158 : decode cX5_does 158 = .ok (.goto 136, 3) := by decide +kernel
theorem dX5_does_161 : decode cX5_does 161 = .ok (.iload 5, 2) := by decide +kernel
theorem dX5_does_163 : decode cX5_does 163 = .ok (.iconst 2, 1) := by decide +kernel
theorem dX5_does_164 : decode cX5_does 164 = .ok (.if_icmp .ne 19, 3) := by decide +kernel
theorem dX5_does_167 : decode cX5_does 167 = .ok (.aload_n 0, 1) := by decide +kernel
theorem dX5_does_168 : decode cX5_does 168 = .ok (.getfield 13, 3) := by decide +kernel
theorem dX5_does_171 : decode cX5_does 171 = .ok (.iload_n 1, 1) := by decide +kernel
theorem dX5_does_172 : decode cX5_does 172 = .ok (.iload 4, 2) := by decide +kernel
theorem dX5_does_174 : decode cX5_does 174 = .ok (.iload_n 3, 1) := by decide +kernel
theorem dX5_does_175 : decode cX5_does 175 = .ok (.invokestatic 88, 3) := by decide +kernel
theorem dX5_does_178 : decode cX5_does 178 = .ok (.iconst 0, 1) := by decide +kernel
theorem dX5_does_179 : decode cX5_does 179 = .ok (.bastore, 1) := by decide +kernel
theorem dX5_does_180 : decode cX5_does 180 = .ok (.goto 114, 3) := by decide +kernel
theorem dX5_does_183 : decode cX5_does 183 = .ok (.iload 5, 2) := by decide +kernel
theorem dX5_does_185 : decode cX5_does 185 = .ok (.iconst 3, 1) := by decide +kernel
theorem dX5_does_186 : decode cX5_does 186 = .ok (.if_icmp .ne 14, 3) := by decide +kernel
theorem dX5_does_189 : decode cX5_does 189 = .ok (.aload_n 0, 1) := by decide +kernel
theorem dX5_does_190 : decode cX5_does 190 = .ok (.iload_n 1, 1) := by decide +kernel
theorem dX5_does_191 : decode cX5_does 191 = .ok (.iload_n 3, 1) := by decide +kernel
theorem dX5_does_192 : decode cX5_does 192 = .ok (.iload 4, 2) := by decide +kernel
theorem dX5_does_194 : decode cX5_does 194 = .ok (.invokevirtual 112, 3) := by decide +kernel
theorem dX5_does_197 : decode cX5_does 197 = .ok (.goto 97, 3) := by decide +kernel
theorem dX5_does_200 : decode cX5_does 200 = .ok (.iload 5, 2) := by decide +kernel
theorem dX5_does_202 : decode cX5_does 202 = .ok (.bipush 6, 2) := by decide +kernel
theorem dX5_does_204 : decode cX5_does 204 = .ok (.if_icmp .ne 21, 3) := by decide +kernel
theorem dX5_does_207 : decode cX5_does 207 = .ok (.aload_n 0, 1) := by decide +kernel
theorem dX5_does_208 : decode cX5_does 208 = .ok (.getfield 23, 3) := by decide +kernel
theorem dX5_does_211 : decode cX5_does 211 = .ok (.bipush 10, 2) := by decide +kernel
theorem dX5_does_213 : decode cX5_does 213 = .ok (.iload_n 1, 1) := by decide +kernel
theorem dX5_does_214 : decode cX5_does 214 = .ok (.imul, 1) := by decide +kernel
theorem dX5_does_215 : decode cX5_does 215 = .ok (.iload_n 3, 1) := by decide +kernel
theorem dX5_does_216 : decode cX5_does 216 = .ok (.iadd, 1) := by decide +kernel
theorem dX5_does_217 : decode cX5_does 217 = .ok (.iload 4, 2) := by decide +kernel
theorem dX5_does_219 : decode cX5_does 219 = .ok (.iconst 1, 1) := by decide +kernel
theorem dX5_does_220 : decode cX5_does 220 = .ok (.iadd, 1) := by decide +kernel
theorem dX5_does_221 : decode cX5_does 221 = .ok (.iastore, 1) := by decide +kernel
theorem dX5_does_222 : decode cX5_does 222 = .ok (.goto 72, 3) := by decide +kernel
theorem dX5_does_225 : decode cX5_does 225 = .ok (.iload 5, 2) := by decide +kernel
theorem dX5_does_227 : decode cX5_does 227 = .ok (.bipush 7, 2) := by decide +kernel
theorem dX5_does_229 : decode cX5_does 229 = .ok (.if_icmp .ne 20, 3) := by decide +kernel
theorem dX5_does_232 : decode cX5_does 232 = .ok (.aload_n 0, 1) := by decide +kernel
theorem dX5_does_233 : decode cX5_does 233 = .ok (.iload_n 1, 1) := by decide +kernel
theorem dX5_does_234 : decode cX5_does 234 = .ok (.iload_n 3, 1) := by decide +kernel
theorem dX5_does_235 : decode cX5_does 235 = .ok (.iload 4, 2) := by decide +kernel
theorem dX5_does_237 : decode cX5_does 237 = .ok (.aload_n 0, 1) := by decide +kernel
theorem dX5_does_238 : decode cX5_does 238 = .ok (.getfield 62, 3) := by decide +kernel
theorem dX5_does_241 : decode cX5_does 241 = .ok (.iload_n 2, 1) := by decide +kernel
theorem dX5_does_242 : decode cX5_does 242 = .ok (.iaload, 1) := by decide +kernel
theorem dX5_does_243 : decode cX5_does 243 = .ok (.invokevirtual 115, 3) := by decide +kernel
theorem dX5_does_246 : decode cX5_does 246 = .ok (.goto 48, 3) := by decide +kernel
theorem dX5_does_249 : decode cX5_does 249 = .ok (.aload_n 0, 1) := by decide +kernel
theorem dX5_does_250 : decode cX5_does 250 = .ok (.getfield 20, 3) := by decide +kernel
theorem dX5_does_253 : decode cX5_does 253 = .ok (.iload_n 1, 1) := by decide +kernel
theorem dX5_does_254 : decode cX5_does 254 = .ok (.iload_n 3, 1) := by decide +kernel
theorem dX5_does_255 : decode cX5_does 255 = .ok (.iload 4, 2) := by decide +kernel
theorem dX5_does_257 : decode cX5_does 257 = .ok (.invokestatic 88, 3) := by decide +kernel
theorem dX5_does_260 : decode cX5_does 260 = .ok (.iload 5, 2) := by decide +kernel
theorem dX5_does_262 : decode cX5_does 262 = .ok (.iconst 4, 1) := by decide +kernel
theorem dX5_does_263 : decode cX5_does 263 = .ok (.if_icmp .ne 7, 3) := by decide +kernel
theorem dX5_does_266 : decode cX5_does 266 = .ok (.iconst 1, 1) := by decide +kernel
theorem dX5_does_267 : decode cX5_does 267 = .ok (.goto 4, 3) := by decide +kernel
theorem dX5_does_270 : decode cX5_does 270 = .ok (.iconst 0, 1) := by decide +kernel
theorem dX5_does_271 : decode cX5_does 271 = .ok (.bastore, 1) := by decide +kernel
theorem dX5_does_272 : decode cX5_does 272 = .ok (.iload 5, 2) := by decide +kernel
theorem dX5_does_274 : decode cX5_does 274 = .ok (.iconst 4, 1) := by decide +kernel
theorem dX5_does_275 : decode cX5_does 275 = .ok (.if_icmp .ne 19, 3) := by decide +kernel
theorem dX5_does_278 : decode cX5_does 278 = .ok (.aload_n 0, 1) := by decide +kernel
theorem dX5_does_279 : decode cX5_does 279 = .ok (.iload_n 1, 1) := by decide +kernel
theorem dX5_does_280 : decode cX5_does 280 = .ok (.iload_n 3, 1) := by decide +kernel
theorem dX5_does_281 : decode cX5_does 281 = .ok (.iload 4, 2) := by decide +kernel
theorem dX5_does_283 : decode cX5_does 283 = .ok (.invokevirtual 112, 3) := by decide +kernel
theorem dX5_does_286 : decode cX5_does 286 = .ok (.aload_n 0, 1) := by decide +kernel
theorem dX5_does_287 : decode cX5_does 287 = .ok (.iload_n 1, 1) := by decide +kernel
theorem dX5_does_288 : decode cX5_does 288 = .ok (.iload 4, 2) := by decide +kernel
theorem dX5_does_290 : decode cX5_does 290 = .ok (.iload_n 3, 1) := by decide +kernel
theorem dX5_does_291 : decode cX5_does 291 = .ok (.invokevirtual 112, 3) := by decide +kernel
theorem dX5_does_294 : decode cX5_does 294 = .ok (.return_, 1) := by decide +kernel
set_option maxRecDepth 1000000 in
theorem ggX5_acts_X5_sends : GoodIn wsX5_acts wsX5_sends := goodIn_r _ [11, 12, 13, 63, 64, 65, 66, 67, 68, 69, 70, 71, 72, 73, 74, 75, 76, 77, 78, 79, 80, 81, 82, 83, 84, 85, 86, 87, 88] rfl (by decide +kernel)
set_option maxRecDepth 20000 in
theorem gX5_acts_X5_sends : GoodIn wsX5_acts (wsV RX5 102 RX5 yX5_sends wsX5_sends) := goodIn_app (goodIn_of _ (by decide +kernel)) ggX5_acts_X5_sends
set_option maxRecDepth 1000000 in
theorem ggX5_acts_X5_does : GoodIn wsX5_acts wsX5_does := goodIn_r _ [17, 18, 3, 4, 2, 19, 20, 21, 5, 22, 23, 24, 25, 10, 26, 27, 28, 6, 29, 30, 31, 32, 33, 34, 35, 36, 37, 38, 39, 40, 41, 42, 43, 44, 45, 46, 7, 8, 9, 11, 12, 13, 47, 48, 49, 50, 51, 52, 53, 54, 55, 56, 57, 58, 59, 60, 61, 62, 63, 64, 65, 66, 67, 68, 69, 70, 71, 72, 73, 74, 75, 76, 77, 78, 79, 80, 81, 82, 83, 84, 85, 86, 87, 88] rfl (by decide +kernel)
set_option maxRecDepth 20000 in
theorem gX5_acts_X5_does : GoodIn wsX5_acts (wsV RX5 122 RX5 yX5_does wsX5_does) := goodIn_app (goodIn_of _ (by decide +kernel)) ggX5_acts_X5_does
theorem dX5_acts_0 : decode cX5_acts 0 = .ok (.aload_n 0, 1) := by decide +kernel
theorem dX5_acts_1 : decode cX5_acts 1 = .ok (.getfield 119, 3) := by decide +kernel
theorem dX5_acts_4 : decode cX5_acts 4 = .ok (.istore 6, 2) := by decide +kernel
theorem dX5_acts_6 : decode cX5_acts 6 = .ok (.aload_n 0, 1) := by decide +kernel
theorem dX5_acts_7 : decode cX5_acts 7 = .ok (.getfield 53, 3) := by decide +kernel
theorem dX5_acts_10 : decode cX5_acts 10 = .ok (.iload 6, 2) := by decide +kernel
theorem dX5_acts_12 : decode cX5_acts 12 = .ok (.iload_n 1, 1) := by decide +kernel
theorem dX5_acts_13 : decode cX5_acts 13 = .ok (.iastore, 1) := by decide +kernel
theorem dX5_acts_14 : decode cX5_acts 14 = .ok (.aload_n 0, 1) := by decide +kernel
theorem dX5_acts_15 : decode cX5_acts 15 = .ok (.getfield 56, 3) := by decide +kernel
theorem dX5_acts_18 : decode cX5_acts 18 = .ok (.iload 6, 2) := by decide +kernel
theorem dX5_acts_20 : decode cX5_acts 20 = .ok (.iload_n 2, 1) := by decide +kernel
theorem dX5_acts_21 : decode cX5_acts 21 = .ok (.iastore, 1) := by decide +kernel
theorem dX5_acts_22 : decode cX5_acts 22 = .ok (.aload_n 0, 1) := by decide +kernel
theorem dX5_acts_23 : decode cX5_acts 23 = .ok (.getfield 59, 3) := by decide +kernel
theorem dX5_acts_26 : decode cX5_acts 26 = .ok (.iload 6, 2) := by decide +kernel
theorem dX5_acts_28 : decode cX5_acts 28 = .ok (.iload_n 3, 1) := by decide +kernel
theorem dX5_acts_29 : decode cX5_acts 29 = .ok (.iastore, 1) := by decide +kernel
theorem dX5_acts_30 : decode cX5_acts 30 = .ok (.aload_n 0, 1) := by decide +kernel
theorem dX5_acts_31 : decode cX5_acts 31 = .ok (.getfield 62, 3) := by decide +kernel
theorem dX5_acts_34 : decode cX5_acts 34 = .ok (.iload 6, 2) := by decide +kernel
theorem dX5_acts_36 : decode cX5_acts 36 = .ok (.iload 4, 2) := by decide +kernel
theorem dX5_acts_38 : decode cX5_acts 38 = .ok (.iastore, 1) := by decide +kernel
theorem dX5_acts_39 : decode cX5_acts 39 = .ok (.aload_n 0, 1) := by decide +kernel
theorem dX5_acts_40 : decode cX5_acts 40 = .ok (.dup, 1) := by decide +kernel
theorem dX5_acts_41 : decode cX5_acts 41 = .ok (.getfield 119, 3) := by decide +kernel
theorem dX5_acts_44 : decode cX5_acts 44 = .ok (.iconst 1, 1) := by decide +kernel
theorem dX5_acts_45 : decode cX5_acts 45 = .ok (.iadd, 1) := by decide +kernel
theorem dX5_acts_46 : decode cX5_acts 46 = .ok (.putfield 119, 3) := by decide +kernel
theorem dX5_acts_49 : decode cX5_acts 49 = .ok (.aload_n 0, 1) := by decide +kernel
theorem dX5_acts_50 : decode cX5_acts 50 = .ok (.iload 6, 2) := by decide +kernel
theorem dX5_acts_52 : decode cX5_acts 52 = .ok (.iload 5, 2) := by decide +kernel
theorem dX5_acts_54 : decode cX5_acts 54 = .ok (.iconst 1, 1) := by decide +kernel
theorem dX5_acts_55 : decode cX5_acts 55 = .ok (.aload_n 0, 1) := by decide +kernel
theorem dX5_acts_56 : decode cX5_acts 56 = .ok (.getfield 7, 3) := by decide +kernel
theorem dX5_acts_59 : decode cX5_acts 59 = .ok (.iload_n 2, 1) := by decide +kernel
theorem dX5_acts_60 : decode cX5_acts 60 = .ok (.iaload, 1) := by decide +kernel
theorem dX5_acts_61 : decode cX5_acts 61 = .ok (.ishl, 1) := by decide +kernel
theorem dX5_acts_62 : decode cX5_acts 62 = .ok (.iconst (-1), 1) := by decide +kernel
theorem dX5_acts_63 : decode cX5_acts 63 = .ok (.ixor, 1) := by decide +kernel
theorem dX5_acts_64 : decode cX5_acts 64 = .ok (.iand, 1) := by decide +kernel
theorem dX5_acts_65 : decode cX5_acts 65 = .ok (.invokevirtual 102, 3) := by decide +kernel
theorem dX5_acts_68 : decode cX5_acts 68 = .ok (.aload_n 0, 1) := by decide +kernel
theorem dX5_acts_69 : decode cX5_acts 69 = .ok (.aload_n 0, 1) := by decide +kernel
theorem dX5_acts_70 : decode cX5_acts 70 = .ok (.getfield 7, 3) := by decide +kernel
theorem dX5_acts_73 : decode cX5_acts 73 = .ok (.iload_n 2, 1) := by decide +kernel
theorem dX5_acts_74 : decode cX5_acts 74 = .ok (.iaload, 1) := by decide +kernel
theorem dX5_acts_75 : decode cX5_acts 75 = .ok (.iload 6, 2) := by decide +kernel
theorem dX5_acts_77 : decode cX5_acts 77 = .ok (.invokevirtual 122, 3) := by decide +kernel
theorem dX5_acts_80 : decode cX5_acts 80 = .ok (.return_, 1) := by decide +kernel
set_option maxRecDepth 1000000 in
theorem ggX5_person_X5_in : GoodIn wsX5_person wsX5_in := goodIn_r _ [7] rfl (by decide +kernel)
set_option maxRecDepth 20000 in
theorem gX5_person_X5_in : GoodIn wsX5_person (va_wsS RX5 84 yX5_in wsX5_in) := goodIn_app (goodIn_of _ (by decide +kernel)) ggX5_person_X5_in
theorem dX5_person_0 : decode cX5_person 0 = .ok (.aload_n 0, 1) := by decide +kernel
theorem dX5_person_1 : decode cX5_person 1 = .ok (.iload_n 1, 1) := by decide +kernel
theorem dX5_person_2 : decode cX5_person 2 = .ok (.iconst 0, 1) := by decide +kernel
theorem dX5_person_3 : decode cX5_person 3 = .ok (.iconst 3, 1) := by decide +kernel
theorem dX5_person_4 : decode cX5_person 4 = .ok (.invokestatic 84, 3) := by decide +kernel
theorem dX5_person_7 : decode cX5_person 7 = .ok (.ifCond .ne 7, 3) := by decide +kernel
theorem dX5_person_10 : decode cX5_person 10 = .ok (.iconst 1, 1) := by decide +kernel
theorem dX5_person_11 : decode cX5_person 11 = .ok (.goto 17, 3) := by decide +kernel
theorem dX5_person_14 : decode cX5_person 14 = .ok (.aload_n 0, 1) := by decide +kernel
theorem dX5_person_15 : decode cX5_person 15 = .ok (.getfield 81, 3) := by decide +kernel
theorem dX5_person_18 : decode cX5_person 18 = .ok (.bipush 10, 2) := by decide +kernel
theorem dX5_person_20 : decode cX5_person 20 = .ok (.if_icmp .ne 7, 3) := by decide +kernel
theorem dX5_person_23 : decode cX5_person 23 = .ok (.iconst 2, 1) := by decide +kernel
theorem dX5_person_24 : decode cX5_person 24 = .ok (.goto 4, 3) := by decide +kernel
theorem dX5_person_27 : decode cX5_person 27 = .ok (.iconst 0, 1) := by decide +kernel
theorem dX5_person_28 : decode cX5_person 28 = .ok (.putfield 77, 3) := by decide +kernel
theorem dX5_person_31 : decode cX5_person 31 = .ok (.aload_n 0, 1) := by decide +kernel
theorem dX5_person_32 : decode cX5_person 32 = .ok (.getfield 77, 3) := by decide +kernel
theorem dX5_person_35 : decode cX5_person 35 = .ok (.ifCond .eq 5, 3) := by decide +kernel
theorem dX5_person_38 : decode cX5_person 38 = .ok (.iconst 0, 1) := by decide +kernel
theorem dX5_person_39 : decode cX5_person 39 = .ok (.ireturn, 1) := by decide +kernel
theorem dX5_person_40 : decode cX5_person 40 = .ok (.aload_n 0, 1) := by decide +kernel
theorem dX5_person_41 : decode cX5_person 41 = .ok (.getfield 7, 3) := by decide +kernel
theorem dX5_person_44 : decode cX5_person 44 = .ok (.aload_n 0, 1) := by decide +kernel
theorem dX5_person_45 : decode cX5_person 45 = .ok (.getfield 81, 3) := by decide +kernel
theorem dX5_person_48 : decode cX5_person 48 = .ok (.iload_n 1, 1) := by decide +kernel
theorem dX5_person_49 : decode cX5_person 49 = .ok (.iastore, 1) := by decide +kernel
theorem dX5_person_50 : decode cX5_person 50 = .ok (.aload_n 0, 1) := by decide +kernel
theorem dX5_person_51 : decode cX5_person 51 = .ok (.dup, 1) := by decide +kernel
theorem dX5_person_52 : decode cX5_person 52 = .ok (.getfield 81, 3) := by decide +kernel
theorem dX5_person_55 : decode cX5_person 55 = .ok (.iconst 1, 1) := by decide +kernel
theorem dX5_person_56 : decode cX5_person 56 = .ok (.iadd, 1) := by decide +kernel
theorem dX5_person_57 : decode cX5_person 57 = .ok (.putfield 81, 3) := by decide +kernel
theorem dX5_person_60 : decode cX5_person 60 = .ok (.aload_n 0, 1) := by decide +kernel
theorem dX5_person_61 : decode cX5_person 61 = .ok (.getfield 81, 3) := by decide +kernel
theorem dX5_person_64 : decode cX5_person 64 = .ok (.iconst 1, 1) := by decide +kernel
theorem dX5_person_65 : decode cX5_person 65 = .ok (.isub, 1) := by decide +kernel
theorem dX5_person_66 : decode cX5_person 66 = .ok (.ireturn, 1) := by decide +kernel
set_option maxRecDepth 1000000 in
theorem ggX5_follow_X5_isOne : GoodIn wsX5_follow wsX5_isOne := goodIn_r _ [9, 10, 11, 12, 8, 13, 75, 76, 77, 78, 79, 80, 81, 82, 83, 84, 85, 86, 87, 88, 89, 90, 91, 92, 93, 94, 95, 96, 97, 98, 99, 100] rfl (by decide +kernel)
set_option maxRecDepth 20000 in
theorem gX5_follow_X5_isOne : GoodIn wsX5_follow (wsV RX5 125 RX5 yX5_isOne wsX5_isOne) := goodIn_app (goodIn_of _ (by decide +kernel)) ggX5_follow_X5_isOne
set_option maxRecDepth 1000000 in
theorem ggX5_follow_X5_at : GoodIn wsX5_follow wsX5_at := goodIn_r _ [16] rfl (by decide +kernel)
set_option maxRecDepth 20000 in
theorem gX5_follow_X5_at : GoodIn wsX5_follow (va_wsS RX5 88 yX5_at wsX5_at) := goodIn_app (goodIn_of _ (by decide +kernel)) ggX5_follow_X5_at
set_option maxRecDepth 1000000 in
theorem ggX5_follow_X5_isApart : GoodIn wsX5_follow wsX5_isApart := goodIn_r _ [20, 21, 14, 15, 8, 16, 75, 76, 77, 78, 79, 80, 81, 82, 83, 84, 85, 86, 87, 88, 89, 90, 91, 92, 93, 94, 95, 96, 97, 98, 99, 100] rfl (by decide +kernel)
set_option maxRecDepth 20000 in
theorem gX5_follow_X5_isApart : GoodIn wsX5_follow (wsV RX5 92 RX5 yX5_isApart wsX5_isApart) := goodIn_app (goodIn_of _ (by decide +kernel)) ggX5_follow_X5_isApart
set_option maxRecDepth 1000000 in
theorem ggX5_follow_X5_acts : GoodIn wsX5_follow wsX5_acts := goodIn_r _ [25, 26, 27, 28, 29, 30, 2, 31, 32, 33, 8, 34, 35, 36, 37, 38, 39, 40, 41, 3, 4, 42, 21, 43, 44, 45, 46, 47, 48, 49, 50, 51, 52, 53, 54, 55, 56, 57, 58, 59, 60, 61, 62, 10, 14, 15, 16, 17, 18, 19, 20, 63, 64, 65, 66, 67, 68, 69, 70, 71, 72, 73, 74, 75, 76, 77, 78, 79, 80, 81, 82, 83, 84, 85, 86, 87, 88, 89, 90, 91, 92, 93, 94, 95, 96, 97, 98, 99, 100] rfl (by decide +kernel)
set_option maxRecDepth 20000 in
theorem gX5_follow_X5_acts : GoodIn wsX5_follow (wsV RX5 129 RX5 yX5_acts wsX5_acts) := goodIn_app (goodIn_of _ (by decide +kernel)) ggX5_follow_X5_acts
theorem dX5_follow_0 : decode cX5_follow 0 = .ok (.aload_n 0, 1) := by decide +kernel
theorem dX5_follow_1 : decode cX5_follow 1 = .ok (.aload_n 0, 1) := by decide +kernel
theorem dX5_follow_2 : decode cX5_follow 2 = .ok (.iload_n 1, 1) := by decide +kernel
theorem dX5_follow_3 : decode cX5_follow 3 = .ok (.invokevirtual 125, 3) := by decide +kernel
theorem dX5_follow_6 : decode cX5_follow 6 = .ok (.ifCond .eq 11, 3) := by decide +kernel
theorem dX5_follow_9 : decode cX5_follow 9 = .ok (.aload_n 0, 1) := by decide +kernel
theorem dX5_follow_10 : decode cX5_follow 10 = .ok (.iload_n 2, 1) := by decide +kernel
theorem dX5_follow_11 : decode cX5_follow 11 = .ok (.invokevirtual 125, 3) := by decide +kernel
theorem dX5_follow_14 : decode cX5_follow 14 = .ok (.ifCond .ne 7, 3) := by decide +kernel
theorem dX5_follow_17 : decode cX5_follow 17 = .ok (.iconst 1, 1) := by decide +kernel
theorem dX5_follow_18 : decode cX5_follow 18 = .ok (.goto 13, 3) := by decide +kernel
theorem dX5_follow_21 : decode cX5_follow 21 = .ok (.iload_n 1, 1) := by decide +kernel
theorem dX5_follow_22 : decode cX5_follow 22 = .ok (.iload_n 2, 1) := by decide +kernel
theorem dX5_follow_23 : decode cX5_follow 23 = .ok (.if_icmp .ne 7, 3) := by decide +kernel
theorem dX5_follow_26 : decode cX5_follow 26 = .ok (.iconst 2, 1) := by decide +kernel
theorem dX5_follow_27 : decode cX5_follow 27 = .ok (.goto 4, 3) := by decide +kernel
theorem dX5_follow_30 : decode cX5_follow 30 = .ok (.iconst 0, 1) := by decide +kernel
theorem dX5_follow_31 : decode cX5_follow 31 = .ok (.putfield 77, 3) := by decide +kernel
theorem dX5_follow_34 : decode cX5_follow 34 = .ok (.aload_n 0, 1) := by decide +kernel
theorem dX5_follow_35 : decode cX5_follow 35 = .ok (.getfield 77, 3) := by decide +kernel
theorem dX5_follow_38 : decode cX5_follow 38 = .ok (.ifCond .eq 4, 3) := by decide +kernel
theorem dX5_follow_41 : decode cX5_follow 41 = .ok (.return_, 1) := by decide +kernel
theorem dX5_follow_42 : decode cX5_follow 42 = .ok (.aload_n 0, 1) := by decide +kernel
theorem dX5_follow_43 : decode cX5_follow 43 = .ok (.getfield 7, 3) := by decide +kernel
theorem dX5_follow_46 : decode cX5_follow 46 = .ok (.iload_n 1, 1) := by decide +kernel
theorem dX5_follow_47 : decode cX5_follow 47 = .ok (.iaload, 1) := by decide +kernel
theorem dX5_follow_48 : decode cX5_follow 48 = .ok (.iload_n 1, 1) := by decide +kernel
theorem dX5_follow_49 : decode cX5_follow 49 = .ok (.iload_n 2, 1) := by decide +kernel
theorem dX5_follow_50 : decode cX5_follow 50 = .ok (.invokestatic 88, 3) := by decide +kernel
theorem dX5_follow_53 : decode cX5_follow 53 = .ok (.istore_n 3, 1) := by decide +kernel
theorem dX5_follow_54 : decode cX5_follow 54 = .ok (.aload_n 0, 1) := by decide +kernel
theorem dX5_follow_55 : decode cX5_follow 55 = .ok (.aload_n 0, 1) := by decide +kernel
theorem dX5_follow_56 : decode cX5_follow 56 = .ok (.getfield 13, 3) := by decide +kernel
theorem dX5_follow_59 : decode cX5_follow 59 = .ok (.iload_n 3, 1) := by decide +kernel
theorem dX5_follow_60 : decode cX5_follow 60 = .ok (.baload, 1) := by decide +kernel
theorem dX5_follow_61 : decode cX5_follow 61 = .ok (.ifCond .ne 27, 3) := by decide +kernel
theorem dX5_follow_64 : decode cX5_follow 64 = .ok (.aload_n 0, 1) := by decide +kernel
theorem dX5_follow_65 : decode cX5_follow 65 = .ok (.getfield 17, 3) := by decide +kernel
theorem dX5_follow_68 : decode cX5_follow 68 = .ok (.iload_n 3, 1) := by decide +kernel
theorem dX5_follow_69 : decode cX5_follow 69 = .ok (.baload, 1) := by decide +kernel
theorem dX5_follow_70 : decode cX5_follow 70 = .ok (.ifCond .ne 18, 3) := by decide +kernel
theorem dX5_follow_73 : decode cX5_follow 73 = .ok (.aload_n 0, 1) := by decide +kernel
theorem dX5_follow_74 : decode cX5_follow 74 = .ok (.aload_n 0, 1) := by decide +kernel
theorem dX5_follow_75 : decode cX5_follow 75 = .ok (.getfield 7, 3) := by decide +kernel
theorem dX5_follow_78 : decode cX5_follow 78 = .ok (.iload_n 1, 1) := by decide +kernel
theorem dX5_follow_79 : decode cX5_follow 79 = .ok (.iaload, 1) := by decide +kernel
theorem dX5_follow_80 : decode cX5_follow 80 = .ok (.iload_n 1, 1) := by decide +kernel
theorem dX5_follow_81 : decode cX5_follow 81 = .ok (.iload_n 2, 1) := by decide +kernel
theorem dX5_follow_82 : decode cX5_follow 82 = .ok (.invokevirtual 92, 3) := by decide +kernel
theorem dX5_follow_85 : decode cX5_follow 85 = .ok (.ifCond .eq 7, 3) := by decide +kernel
theorem dX5_follow_88 : decode cX5_follow 88 = .ok (.iconst 3, 1) := by decide +kernel
theorem dX5_follow_89 : decode cX5_follow 89 = .ok (.goto 4, 3) := by decide +kernel
theorem dX5_follow_92 : decode cX5_follow 92 = .ok (.iconst 0, 1) := by decide +kernel
theorem dX5_follow_93 : decode cX5_follow 93 = .ok (.putfield 77, 3) := by decide +kernel
theorem dX5_follow_96 : decode cX5_follow 96 = .ok (.aload_n 0, 1) := by decide +kernel
theorem dX5_follow_97 : decode cX5_follow 97 = .ok (.getfield 77, 3) := by decide +kernel
theorem dX5_follow_100 : decode cX5_follow 100 = .ok (.ifCond .ne 19, 3) := by decide +kernel
theorem dX5_follow_103 : decode cX5_follow 103 = .ok (.aload_n 0, 1) := by decide +kernel
theorem dX5_follow_104 : decode cX5_follow 104 = .ok (.iconst 0, 1) := by decide +kernel
theorem dX5_follow_105 : decode cX5_follow 105 = .ok (.iload_n 1, 1) := by decide +kernel
theorem dX5_follow_106 : decode cX5_follow 106 = .ok (.iload_n 2, 1) := by decide +kernel
theorem dX5_follow_107 : decode cX5_follow 107 = .ok (.iconst 0, 1) := by decide +kernel
theorem dX5_follow_108 : decode cX5_follow 108 = .ok (.iconst 1, 1) := by decide +kernel
theorem dX5_follow_109 : decode cX5_follow 109 = .ok (.aload_n 0, 1) := by decide +kernel
theorem dX5_follow_110 : decode cX5_follow 110 = .ok (.getfield 7, 3) := by decide +kernel
theorem dX5_follow_113 : decode cX5_follow 113 = .ok (.iload_n 2, 1) := by decide +kernel
theorem dX5_follow_114 : decode cX5_follow 114 = .ok (.iaload, 1) := by decide +kernel
theorem dX5_follow_115 : decode cX5_follow 115 = .ok (.ishl, 1) := by decide +kernel
theorem dX5_follow_116 : decode cX5_follow 116 = .ok (.invokevirtual 129, 3) := by decide +kernel
theorem dX5_follow_119 : decode cX5_follow 119 = .ok (.return_, 1) := by decide +kernel
set_option maxRecDepth 1000000 in
theorem ggX5_answer_X5_isOne : GoodIn wsX5_answer wsX5_isOne := goodIn_r _ [8, 9, 10, 11, 7, 12, 75, 76, 77, 78, 79, 80, 81, 82, 83, 84, 85, 86, 87, 88, 89, 90, 91, 92, 93, 94, 95, 96, 97, 98, 99, 100] rfl (by decide +kernel)
set_option maxRecDepth 20000 in
theorem gX5_answer_X5_isOne : GoodIn wsX5_answer (wsV RX5 125 RX5 yX5_isOne wsX5_isOne) := goodIn_app (goodIn_of _ (by decide +kernel)) ggX5_answer_X5_isOne
set_option maxRecDepth 1000000 in
theorem ggX5_answer_X5_at : GoodIn wsX5_answer wsX5_at := goodIn_r _ [15] rfl (by decide +kernel)
set_option maxRecDepth 20000 in
theorem gX5_answer_X5_at : GoodIn wsX5_answer (va_wsS RX5 88 yX5_at wsX5_at) := goodIn_app (goodIn_of _ (by decide +kernel)) ggX5_answer_X5_at
set_option maxRecDepth 1000000 in
theorem ggX5_answer_X5_acts : GoodIn wsX5_answer wsX5_acts := goodIn_r _ [19, 20, 21, 22, 23, 24, 2, 25, 26, 27, 7, 28, 29, 30, 31, 32, 33, 34, 35, 1, 36, 37, 38, 39, 40, 41, 42, 43, 44, 45, 46, 47, 48, 49, 50, 51, 52, 53, 54, 55, 56, 57, 58, 9, 13, 14, 15, 59, 60, 61, 62, 63, 64, 65, 66, 67, 68, 69, 70, 71, 72, 73, 74, 75, 76, 77, 78, 79, 80, 81, 82, 83, 84, 85, 86, 87, 88, 89, 90, 91, 92, 93, 94, 95, 96, 97, 98, 99, 100] rfl (by decide +kernel)
set_option maxRecDepth 20000 in
theorem gX5_answer_X5_acts : GoodIn wsX5_answer (wsV RX5 129 RX5 yX5_acts wsX5_acts) := goodIn_app (goodIn_of _ (by decide +kernel)) ggX5_answer_X5_acts
theorem dX5_answer_0 : decode cX5_answer 0 = .ok (.aload_n 0, 1) := by decide +kernel
theorem dX5_answer_1 : decode cX5_answer 1 = .ok (.aload_n 0, 1) := by decide +kernel
theorem dX5_answer_2 : decode cX5_answer 2 = .ok (.iload_n 1, 1) := by decide +kernel
theorem dX5_answer_3 : decode cX5_answer 3 = .ok (.invokevirtual 125, 3) := by decide +kernel
theorem dX5_answer_6 : decode cX5_answer 6 = .ok (.ifCond .eq 11, 3) := by decide +kernel
theorem dX5_answer_9 : decode cX5_answer 9 = .ok (.aload_n 0, 1) := by decide +kernel
theorem dX5_answer_10 : decode cX5_answer 10 = .ok (.iload_n 2, 1) := by decide +kernel
theorem dX5_answer_11 : decode cX5_answer 11 = .ok (.invokevirtual 125, 3) := by decide +kernel
theorem dX5_answer_14 : decode cX5_answer 14 = .ok (.ifCond .ne 7, 3) := by decide +kernel
theorem dX5_answer_17 : decode cX5_answer 17 = .ok (.iconst 1, 1) := by decide +kernel
theorem dX5_answer_18 : decode cX5_answer 18 = .ok (.goto 27, 3) := by decide +kernel
theorem dX5_answer_21 : decode cX5_answer 21 = .ok (.aload_n 0, 1) := by decide +kernel
theorem dX5_answer_22 : decode cX5_answer 22 = .ok (.getfield 13, 3) := by decide +kernel
theorem dX5_answer_25 : decode cX5_answer 25 = .ok (.aload_n 0, 1) := by decide +kernel
theorem dX5_answer_26 : decode cX5_answer 26 = .ok (.getfield 7, 3) := by decide +kernel
theorem dX5_answer_29 : decode cX5_answer 29 = .ok (.iload_n 1, 1) := by decide +kernel
theorem dX5_answer_30 : decode cX5_answer 30 = .ok (.iaload, 1) := by decide +kernel
theorem dX5_answer_31 : decode cX5_answer 31 = .ok (.iload_n 2, 1) := by decide +kernel
theorem dX5_answer_32 : decode cX5_answer 32 = .ok (.iload_n 1, 1) := by decide +kernel
theorem dX5_answer_33 : decode cX5_answer 33 = .ok (.invokestatic 88, 3) := by decide +kernel
theorem dX5_answer_36 : decode cX5_answer 36 = .ok (.baload, 1) := by decide +kernel
theorem dX5_answer_37 : decode cX5_answer 37 = .ok (.ifCond .ne 7, 3) := by decide +kernel
theorem dX5_answer_40 : decode cX5_answer 40 = .ok (.iconst 2, 1) := by decide +kernel
theorem dX5_answer_41 : decode cX5_answer 41 = .ok (.goto 4, 3) := by decide +kernel
theorem dX5_answer_44 : decode cX5_answer 44 = .ok (.iconst 0, 1) := by decide +kernel
theorem dX5_answer_45 : decode cX5_answer 45 = .ok (.putfield 77, 3) := by decide +kernel
theorem dX5_answer_48 : decode cX5_answer 48 = .ok (.aload_n 0, 1) := by decide +kernel
theorem dX5_answer_49 : decode cX5_answer 49 = .ok (.getfield 77, 3) := by decide +kernel
theorem dX5_answer_52 : decode cX5_answer 52 = .ok (.ifCond .ne 27, 3) := by decide +kernel
theorem dX5_answer_55 : decode cX5_answer 55 = .ok (.aload_n 0, 1) := by decide +kernel
theorem dX5_answer_56 : decode cX5_answer 56 = .ok (.iload_n 3, 1) := by decide +kernel
theorem dX5_answer_57 : decode cX5_answer 57 = .ok (.ifCond .eq 7, 3) := by decide +kernel
theorem dX5_answer_60 : decode cX5_answer 60 = .ok (.iconst 1, 1) := by decide +kernel
theorem dX5_answer_61 : decode cX5_answer 61 = .ok (.goto 4, 3) := by decide +kernel
theorem dX5_answer_64 : decode cX5_answer 64 = .ok (.iconst 2, 1) := by decide +kernel
theorem dX5_answer_65 : decode cX5_answer 65 = .ok (.iload_n 1, 1) := by decide +kernel
theorem dX5_answer_66 : decode cX5_answer 66 = .ok (.iload_n 2, 1) := by decide +kernel
theorem dX5_answer_67 : decode cX5_answer 67 = .ok (.iconst 0, 1) := by decide +kernel
theorem dX5_answer_68 : decode cX5_answer 68 = .ok (.iconst 1, 1) := by decide +kernel
theorem dX5_answer_69 : decode cX5_answer 69 = .ok (.aload_n 0, 1) := by decide +kernel
theorem dX5_answer_70 : decode cX5_answer 70 = .ok (.getfield 7, 3) := by decide +kernel
theorem dX5_answer_73 : decode cX5_answer 73 = .ok (.iload_n 2, 1) := by decide +kernel
theorem dX5_answer_74 : decode cX5_answer 74 = .ok (.iaload, 1) := by decide +kernel
theorem dX5_answer_75 : decode cX5_answer 75 = .ok (.ishl, 1) := by decide +kernel
theorem dX5_answer_76 : decode cX5_answer 76 = .ok (.invokevirtual 129, 3) := by decide +kernel
theorem dX5_answer_79 : decode cX5_answer 79 = .ok (.return_, 1) := by decide +kernel
set_option maxRecDepth 1000000 in
theorem ggX5_leave_X5_isOne : GoodIn wsX5_leave wsX5_isOne := goodIn_r _ [9, 10, 11, 12, 8, 13, 75, 76, 77, 78, 79, 80, 81, 82, 83, 84, 85, 86, 87, 88, 89, 90, 91, 92, 93, 94, 95, 96, 97, 98, 99, 100] rfl (by decide +kernel)
set_option maxRecDepth 20000 in
theorem gX5_leave_X5_isOne : GoodIn wsX5_leave (wsV RX5 125 RX5 yX5_isOne wsX5_isOne) := goodIn_app (goodIn_of _ (by decide +kernel)) ggX5_leave_X5_isOne
set_option maxRecDepth 1000000 in
theorem ggX5_leave_X5_at : GoodIn wsX5_leave wsX5_at := goodIn_r _ [16] rfl (by decide +kernel)
set_option maxRecDepth 20000 in
theorem gX5_leave_X5_at : GoodIn wsX5_leave (va_wsS RX5 88 yX5_at wsX5_at) := goodIn_app (goodIn_of _ (by decide +kernel)) ggX5_leave_X5_at
set_option maxRecDepth 1000000 in
theorem ggX5_leave_X5_acts : GoodIn wsX5_leave wsX5_acts := goodIn_r _ [20, 21, 22, 23, 24, 25, 2, 26, 27, 28, 8, 29, 30, 31, 32, 33, 34, 35, 36, 1, 3, 37, 38, 39, 40, 41, 42, 43, 44, 45, 46, 47, 48, 49, 50, 51, 52, 53, 54, 55, 56, 57, 58, 10, 14, 15, 16, 59, 60, 61, 62, 63, 64, 65, 66, 67, 68, 69, 70, 71, 72, 73, 74, 75, 76, 77, 78, 79, 80, 81, 82, 83, 84, 85, 86, 87, 88, 89, 90, 91, 92, 93, 94, 95, 96, 97, 98, 99, 100] rfl (by decide +kernel)
set_option maxRecDepth 20000 in
theorem gX5_leave_X5_acts : GoodIn wsX5_leave (wsV RX5 129 RX5 yX5_acts wsX5_acts) := goodIn_app (goodIn_of _ (by decide +kernel)) ggX5_leave_X5_acts
theorem dX5_leave_0 : decode cX5_leave 0 = .ok (.aload_n 0, 1) := by decide +kernel
theorem dX5_leave_1 : decode cX5_leave 1 = .ok (.aload_n 0, 1) := by decide +kernel
theorem dX5_leave_2 : decode cX5_leave 2 = .ok (.iload_n 1, 1) := by decide +kernel
theorem dX5_leave_3 : decode cX5_leave 3 = .ok (.invokevirtual 125, 3) := by decide +kernel
theorem dX5_leave_6 : decode cX5_leave 6 = .ok (.ifCond .eq 11, 3) := by decide +kernel
theorem dX5_leave_9 : decode cX5_leave 9 = .ok (.aload_n 0, 1) := by decide +kernel
theorem dX5_leave_10 : decode cX5_leave 10 = .ok (.iload_n 2, 1) := by decide +kernel
theorem dX5_leave_11 : decode cX5_leave 11 = .ok (.invokevirtual 125, 3) := by decide +kernel
theorem dX5_leave_14 : decode cX5_leave 14 = .ok (.ifCond .ne 7, 3) := by decide +kernel
theorem dX5_leave_17 : decode cX5_leave 17 = .ok (.iconst 1, 1) := by decide +kernel
theorem dX5_leave_18 : decode cX5_leave 18 = .ok (.goto 46, 3) := by decide +kernel
theorem dX5_leave_21 : decode cX5_leave 21 = .ok (.aload_n 0, 1) := by decide +kernel
theorem dX5_leave_22 : decode cX5_leave 22 = .ok (.getfield 13, 3) := by decide +kernel
theorem dX5_leave_25 : decode cX5_leave 25 = .ok (.aload_n 0, 1) := by decide +kernel
theorem dX5_leave_26 : decode cX5_leave 26 = .ok (.getfield 7, 3) := by decide +kernel
theorem dX5_leave_29 : decode cX5_leave 29 = .ok (.iload_n 1, 1) := by decide +kernel
theorem dX5_leave_30 : decode cX5_leave 30 = .ok (.iaload, 1) := by decide +kernel
theorem dX5_leave_31 : decode cX5_leave 31 = .ok (.iload_n 1, 1) := by decide +kernel
theorem dX5_leave_32 : decode cX5_leave 32 = .ok (.iload_n 2, 1) := by decide +kernel
theorem dX5_leave_33 : decode cX5_leave 33 = .ok (.invokestatic 88, 3) := by decide +kernel
theorem dX5_leave_36 : decode cX5_leave 36 = .ok (.baload, 1) := by decide +kernel
theorem dX5_leave_37 : decode cX5_leave 37 = .ok (.ifCond .ne 26, 3) := by decide +kernel
theorem dX5_leave_40 : decode cX5_leave 40 = .ok (.aload_n 0, 1) := by decide +kernel
theorem dX5_leave_41 : decode cX5_leave 41 = .ok (.getfield 17, 3) := by decide +kernel
theorem dX5_leave_44 : decode cX5_leave 44 = .ok (.aload_n 0, 1) := by decide +kernel
theorem dX5_leave_45 : decode cX5_leave 45 = .ok (.getfield 7, 3) := by decide +kernel
theorem dX5_leave_48 : decode cX5_leave 48 = .ok (.iload_n 1, 1) := by decide +kernel
theorem dX5_leave_49 : decode cX5_leave 49 = .ok (.iaload, 1) := by decide +kernel
theorem dX5_leave_50 : decode cX5_leave 50 = .ok (.iload_n 1, 1) := by decide +kernel
theorem dX5_leave_51 : decode cX5_leave 51 = .ok (.iload_n 2, 1) := by decide +kernel
theorem dX5_leave_52 : decode cX5_leave 52 = .ok (.invokestatic 88, 3) := by decide +kernel
theorem dX5_leave_55 : decode cX5_leave 55 = .ok (.baload, 1) := by decide +kernel
theorem dX5_leave_56 : decode cX5_leave 56 = .ok (.ifCond .ne 7, 3) := by decide +kernel
theorem dX5_leave_59 : decode cX5_leave 59 = .ok (.iconst 2, 1) := by decide +kernel
theorem dX5_leave_60 : decode cX5_leave 60 = .ok (.goto 4, 3) := by decide +kernel
theorem dX5_leave_63 : decode cX5_leave 63 = .ok (.iconst 0, 1) := by decide +kernel
theorem dX5_leave_64 : decode cX5_leave 64 = .ok (.putfield 77, 3) := by decide +kernel
theorem dX5_leave_67 : decode cX5_leave 67 = .ok (.aload_n 0, 1) := by decide +kernel
theorem dX5_leave_68 : decode cX5_leave 68 = .ok (.getfield 77, 3) := by decide +kernel
theorem dX5_leave_71 : decode cX5_leave 71 = .ok (.ifCond .ne 19, 3) := by decide +kernel
theorem dX5_leave_74 : decode cX5_leave 74 = .ok (.aload_n 0, 1) := by decide +kernel
theorem dX5_leave_75 : decode cX5_leave 75 = .ok (.iconst 3, 1) := by decide +kernel
theorem dX5_leave_76 : decode cX5_leave 76 = .ok (.iload_n 1, 1) := by decide +kernel
theorem dX5_leave_77 : decode cX5_leave 77 = .ok (.iload_n 2, 1) := by decide +kernel
theorem dX5_leave_78 : decode cX5_leave 78 = .ok (.iconst 0, 1) := by decide +kernel
theorem dX5_leave_79 : decode cX5_leave 79 = .ok (.iconst 1, 1) := by decide +kernel
theorem dX5_leave_80 : decode cX5_leave 80 = .ok (.aload_n 0, 1) := by decide +kernel
theorem dX5_leave_81 : decode cX5_leave 81 = .ok (.getfield 7, 3) := by decide +kernel
theorem dX5_leave_84 : decode cX5_leave 84 = .ok (.iload_n 2, 1) := by decide +kernel
theorem dX5_leave_85 : decode cX5_leave 85 = .ok (.iaload, 1) := by decide +kernel
theorem dX5_leave_86 : decode cX5_leave 86 = .ok (.ishl, 1) := by decide +kernel
theorem dX5_leave_87 : decode cX5_leave 87 = .ok (.invokevirtual 129, 3) := by decide +kernel
theorem dX5_leave_90 : decode cX5_leave 90 = .ok (.return_, 1) := by decide +kernel
set_option maxRecDepth 1000000 in
theorem ggX5_block_X5_isOne : GoodIn wsX5_block wsX5_isOne := goodIn_r _ [8, 9, 10, 11, 7, 12, 75, 76, 77, 78, 79, 80, 81, 82, 83, 84, 85, 86, 87, 88, 89, 90, 91, 92, 93, 94, 95, 96, 97, 98, 99, 100] rfl (by decide +kernel)
set_option maxRecDepth 20000 in
theorem gX5_block_X5_isOne : GoodIn wsX5_block (wsV RX5 125 RX5 yX5_isOne wsX5_isOne) := goodIn_app (goodIn_of _ (by decide +kernel)) ggX5_block_X5_isOne
set_option maxRecDepth 1000000 in
theorem ggX5_block_X5_at : GoodIn wsX5_block wsX5_at := goodIn_r _ [15] rfl (by decide +kernel)
set_option maxRecDepth 20000 in
theorem gX5_block_X5_at : GoodIn wsX5_block (va_wsS RX5 88 yX5_at wsX5_at) := goodIn_app (goodIn_of _ (by decide +kernel)) ggX5_block_X5_at
set_option maxRecDepth 1000000 in
theorem ggX5_block_X5_acts : GoodIn wsX5_block wsX5_acts := goodIn_r _ [19, 20, 21, 22, 23, 24, 2, 25, 26, 27, 7, 28, 29, 30, 31, 32, 33, 34, 35, 36, 37, 38, 1, 39, 40, 41, 42, 43, 44, 45, 46, 47, 48, 49, 50, 51, 52, 53, 54, 55, 56, 57, 58, 9, 13, 14, 15, 59, 60, 61, 62, 63, 64, 65, 66, 67, 68, 69, 70, 71, 72, 73, 74, 75, 76, 77, 78, 79, 80, 81, 82, 83, 84, 85, 86, 87, 88, 89, 90, 91, 92, 93, 94, 95, 96, 97, 98, 99, 100] rfl (by decide +kernel)
set_option maxRecDepth 20000 in
theorem gX5_block_X5_acts : GoodIn wsX5_block (wsV RX5 129 RX5 yX5_acts wsX5_acts) := goodIn_app (goodIn_of _ (by decide +kernel)) ggX5_block_X5_acts
theorem dX5_block_0 : decode cX5_block 0 = .ok (.aload_n 0, 1) := by decide +kernel
theorem dX5_block_1 : decode cX5_block 1 = .ok (.aload_n 0, 1) := by decide +kernel
theorem dX5_block_2 : decode cX5_block 2 = .ok (.iload_n 1, 1) := by decide +kernel
theorem dX5_block_3 : decode cX5_block 3 = .ok (.invokevirtual 125, 3) := by decide +kernel
theorem dX5_block_6 : decode cX5_block 6 = .ok (.ifCond .eq 11, 3) := by decide +kernel
theorem dX5_block_9 : decode cX5_block 9 = .ok (.aload_n 0, 1) := by decide +kernel
theorem dX5_block_10 : decode cX5_block 10 = .ok (.iload_n 2, 1) := by decide +kernel
theorem dX5_block_11 : decode cX5_block 11 = .ok (.invokevirtual 125, 3) := by decide +kernel
theorem dX5_block_14 : decode cX5_block 14 = .ok (.ifCond .ne 7, 3) := by decide +kernel
theorem dX5_block_17 : decode cX5_block 17 = .ok (.iconst 1, 1) := by decide +kernel
theorem dX5_block_18 : decode cX5_block 18 = .ok (.goto 37, 3) := by decide +kernel
theorem dX5_block_21 : decode cX5_block 21 = .ok (.iload_n 1, 1) := by decide +kernel
theorem dX5_block_22 : decode cX5_block 22 = .ok (.iload_n 2, 1) := by decide +kernel
theorem dX5_block_23 : decode cX5_block 23 = .ok (.if_icmp .ne 7, 3) := by decide +kernel
theorem dX5_block_26 : decode cX5_block 26 = .ok (.iconst 2, 1) := by decide +kernel
theorem dX5_block_27 : decode cX5_block 27 = .ok (.goto 28, 3) := by decide +kernel
theorem dX5_block_30 : decode cX5_block 30 = .ok (.aload_n 0, 1) := by decide +kernel
theorem dX5_block_31 : decode cX5_block 31 = .ok (.getfield 20, 3) := by decide +kernel
theorem dX5_block_34 : decode cX5_block 34 = .ok (.aload_n 0, 1) := by decide +kernel
theorem dX5_block_35 : decode cX5_block 35 = .ok (.getfield 7, 3) := by decide +kernel
theorem dX5_block_38 : decode cX5_block 38 = .ok (.iload_n 1, 1) := by decide +kernel
theorem dX5_block_39 : decode cX5_block 39 = .ok (.iaload, 1) := by decide +kernel
theorem dX5_block_40 : decode cX5_block 40 = .ok (.iload_n 1, 1) := by decide +kernel
theorem dX5_block_41 : decode cX5_block 41 = .ok (.iload_n 2, 1) := by decide +kernel
theorem dX5_block_42 : decode cX5_block 42 = .ok (.invokestatic 88, 3) := by decide +kernel
theorem dX5_block_45 : decode cX5_block 45 = .ok (.baload, 1) := by decide +kernel
theorem dX5_block_46 : decode cX5_block 46 = .ok (.iload_n 3, 1) := by decide +kernel
theorem dX5_block_47 : decode cX5_block 47 = .ok (.if_icmp .ne 7, 3) := by decide +kernel
theorem dX5_block_50 : decode cX5_block 50 = .ok (.iconst 3, 1) := by decide +kernel
theorem dX5_block_51 : decode cX5_block 51 = .ok (.goto 4, 3) := by decide +kernel
theorem dX5_block_54 : decode cX5_block 54 = .ok (.iconst 0, 1) := by decide +kernel
theorem dX5_block_55 : decode cX5_block 55 = .ok (.putfield 77, 3) := by decide +kernel
theorem dX5_block_58 : decode cX5_block 58 = .ok (.aload_n 0, 1) := by decide +kernel
theorem dX5_block_59 : decode cX5_block 59 = .ok (.getfield 77, 3) := by decide +kernel
theorem dX5_block_62 : decode cX5_block 62 = .ok (.ifCond .ne 27, 3) := by decide +kernel
theorem dX5_block_65 : decode cX5_block 65 = .ok (.aload_n 0, 1) := by decide +kernel
theorem dX5_block_66 : decode cX5_block 66 = .ok (.iload_n 3, 1) := by decide +kernel
theorem dX5_block_67 : decode cX5_block 67 = .ok (.ifCond .eq 7, 3) := by decide +kernel
theorem dX5_block_70 : decode cX5_block 70 = .ok (.iconst 4, 1) := by decide +kernel
theorem dX5_block_71 : decode cX5_block 71 = .ok (.goto 4, 3) := by decide +kernel
theorem dX5_block_74 : decode cX5_block 74 = .ok (.iconst 5, 1) := by decide +kernel
theorem dX5_block_75 : decode cX5_block 75 = .ok (.iload_n 1, 1) := by decide +kernel
theorem dX5_block_76 : decode cX5_block 76 = .ok (.iload_n 2, 1) := by decide +kernel
theorem dX5_block_77 : decode cX5_block 77 = .ok (.iconst 0, 1) := by decide +kernel
theorem dX5_block_78 : decode cX5_block 78 = .ok (.iconst 1, 1) := by decide +kernel
theorem dX5_block_79 : decode cX5_block 79 = .ok (.aload_n 0, 1) := by decide +kernel
theorem dX5_block_80 : decode cX5_block 80 = .ok (.getfield 7, 3) := by decide +kernel
theorem dX5_block_83 : decode cX5_block 83 = .ok (.iload_n 2, 1) := by decide +kernel
theorem dX5_block_84 : decode cX5_block 84 = .ok (.iaload, 1) := by decide +kernel
theorem dX5_block_85 : decode cX5_block 85 = .ok (.ishl, 1) := by decide +kernel
theorem dX5_block_86 : decode cX5_block 86 = .ok (.invokevirtual 129, 3) := by decide +kernel
theorem dX5_block_89 : decode cX5_block 89 = .ok (.return_, 1) := by decide +kernel
set_option maxRecDepth 1000000 in
theorem ggX5_alias_X5_isOne : GoodIn wsX5_alias wsX5_isOne := goodIn_r _ [7, 8, 9, 10, 6, 11, 75, 76, 77, 78, 79, 80, 81, 82, 83, 84, 85, 86, 87, 88, 89, 90, 91, 92, 93, 94, 95, 96, 97, 98, 99, 100] rfl (by decide +kernel)
set_option maxRecDepth 20000 in
theorem gX5_alias_X5_isOne : GoodIn wsX5_alias (wsV RX5 125 RX5 yX5_isOne wsX5_isOne) := goodIn_app (goodIn_of _ (by decide +kernel)) ggX5_alias_X5_isOne
set_option maxRecDepth 1000000 in
theorem ggX5_alias_X5_acts : GoodIn wsX5_alias wsX5_acts := goodIn_r _ [15, 16, 17, 18, 19, 20, 2, 21, 22, 23, 6, 24, 25, 26, 27, 28, 29, 30, 31, 32, 33, 34, 35, 36, 37, 38, 39, 40, 41, 42, 43, 44, 45, 46, 47, 48, 49, 50, 51, 52, 53, 54, 55, 8, 56, 57, 58, 59, 60, 61, 62, 63, 64, 65, 66, 67, 68, 69, 70, 71, 72, 73, 74, 75, 76, 77, 78, 79, 80, 81, 82, 83, 84, 85, 86, 87, 88, 89, 90, 91, 92, 93, 94, 95, 96, 97, 98, 99, 100] rfl (by decide +kernel)
set_option maxRecDepth 20000 in
theorem gX5_alias_X5_acts : GoodIn wsX5_alias (wsV RX5 129 RX5 yX5_acts wsX5_acts) := goodIn_app (goodIn_of _ (by decide +kernel)) ggX5_alias_X5_acts
theorem dX5_alias_0 : decode cX5_alias 0 = .ok (.aload_n 0, 1) := by decide +kernel
theorem dX5_alias_1 : decode cX5_alias 1 = .ok (.aload_n 0, 1) := by decide +kernel
theorem dX5_alias_2 : decode cX5_alias 2 = .ok (.iload_n 1, 1) := by decide +kernel
theorem dX5_alias_3 : decode cX5_alias 3 = .ok (.invokevirtual 125, 3) := by decide +kernel
theorem dX5_alias_6 : decode cX5_alias 6 = .ok (.ifCond .eq 11, 3) := by decide +kernel
theorem dX5_alias_9 : decode cX5_alias 9 = .ok (.aload_n 0, 1) := by decide +kernel
theorem dX5_alias_10 : decode cX5_alias 10 = .ok (.iload_n 2, 1) := by decide +kernel
theorem dX5_alias_11 : decode cX5_alias 11 = .ok (.invokevirtual 125, 3) := by decide +kernel
theorem dX5_alias_14 : decode cX5_alias 14 = .ok (.ifCond .ne 7, 3) := by decide +kernel
theorem dX5_alias_17 : decode cX5_alias 17 = .ok (.iconst 1, 1) := by decide +kernel
theorem dX5_alias_18 : decode cX5_alias 18 = .ok (.goto 13, 3) := by decide +kernel
theorem dX5_alias_21 : decode cX5_alias 21 = .ok (.iload_n 1, 1) := by decide +kernel
theorem dX5_alias_22 : decode cX5_alias 22 = .ok (.iload_n 2, 1) := by decide +kernel
theorem dX5_alias_23 : decode cX5_alias 23 = .ok (.if_icmp .ne 7, 3) := by decide +kernel
theorem dX5_alias_26 : decode cX5_alias 26 = .ok (.iconst 2, 1) := by decide +kernel
theorem dX5_alias_27 : decode cX5_alias 27 = .ok (.goto 4, 3) := by decide +kernel
theorem dX5_alias_30 : decode cX5_alias 30 = .ok (.iconst 0, 1) := by decide +kernel
theorem dX5_alias_31 : decode cX5_alias 31 = .ok (.putfield 77, 3) := by decide +kernel
theorem dX5_alias_34 : decode cX5_alias 34 = .ok (.aload_n 0, 1) := by decide +kernel
theorem dX5_alias_35 : decode cX5_alias 35 = .ok (.getfield 77, 3) := by decide +kernel
theorem dX5_alias_38 : decode cX5_alias 38 = .ok (.ifCond .ne 20, 3) := by decide +kernel
theorem dX5_alias_41 : decode cX5_alias 41 = .ok (.aload_n 0, 1) := by decide +kernel
theorem dX5_alias_42 : decode cX5_alias 42 = .ok (.bipush 6, 2) := by decide +kernel
theorem dX5_alias_44 : decode cX5_alias 44 = .ok (.iload_n 1, 1) := by decide +kernel
theorem dX5_alias_45 : decode cX5_alias 45 = .ok (.iload_n 2, 1) := by decide +kernel
theorem dX5_alias_46 : decode cX5_alias 46 = .ok (.iconst 0, 1) := by decide +kernel
theorem dX5_alias_47 : decode cX5_alias 47 = .ok (.iconst 1, 1) := by decide +kernel
theorem dX5_alias_48 : decode cX5_alias 48 = .ok (.aload_n 0, 1) := by decide +kernel
theorem dX5_alias_49 : decode cX5_alias 49 = .ok (.getfield 7, 3) := by decide +kernel
theorem dX5_alias_52 : decode cX5_alias 52 = .ok (.iload_n 2, 1) := by decide +kernel
theorem dX5_alias_53 : decode cX5_alias 53 = .ok (.iaload, 1) := by decide +kernel
theorem dX5_alias_54 : decode cX5_alias 54 = .ok (.ishl, 1) := by decide +kernel
theorem dX5_alias_55 : decode cX5_alias 55 = .ok (.invokevirtual 129, 3) := by decide +kernel
theorem dX5_alias_58 : decode cX5_alias 58 = .ok (.return_, 1) := by decide +kernel
set_option maxRecDepth 1000000 in
theorem ggX5_move_X5_isOne : GoodIn wsX5_move wsX5_isOne := goodIn_r _ [10, 4, 11, 12, 9, 13, 75, 76, 77, 78, 79, 80, 81, 82, 83, 84, 85, 86, 87, 88, 89, 90, 91, 92, 93, 94, 95, 96, 97, 98, 99, 100] rfl (by decide +kernel)
set_option maxRecDepth 20000 in
theorem gX5_move_X5_isOne : GoodIn wsX5_move (wsV RX5 125 RX5 yX5_isOne wsX5_isOne) := goodIn_app (goodIn_of _ (by decide +kernel)) ggX5_move_X5_isOne
set_option maxRecDepth 1000000 in
theorem ggX5_move_X5_at : GoodIn wsX5_move wsX5_at := goodIn_r _ [16] rfl (by decide +kernel)
set_option maxRecDepth 20000 in
theorem gX5_move_X5_at : GoodIn wsX5_move (va_wsS RX5 88 yX5_at wsX5_at) := goodIn_app (goodIn_of _ (by decide +kernel)) ggX5_move_X5_at
set_option maxRecDepth 1000000 in
theorem ggX5_move_X5_servers : GoodIn wsX5_move wsX5_servers := goodIn_r _ [20, 4, 5, 2, 14, 15, 9, 16, 75, 76, 77, 78, 79, 80, 81, 82, 83, 84, 85, 86, 87, 88, 89, 90, 91, 92, 93, 94, 95, 96, 97, 98, 99, 100] rfl (by decide +kernel)
set_option maxRecDepth 20000 in
theorem gX5_move_X5_servers : GoodIn wsX5_move (wsV RX5 98 RX5 yX5_servers wsX5_servers) := goodIn_app (goodIn_of _ (by decide +kernel)) ggX5_move_X5_servers
set_option maxRecDepth 1000000 in
theorem ggX5_move_X5_acts : GoodIn wsX5_move wsX5_acts := goodIn_r _ [24, 25, 26, 27, 28, 29, 2, 30, 31, 32, 9, 33, 34, 35, 36, 37, 38, 39, 40, 41, 5, 1, 42, 43, 44, 45, 46, 47, 48, 49, 50, 51, 52, 53, 54, 55, 56, 57, 58, 17, 18, 19, 20, 4, 14, 15, 16, 59, 60, 61, 62, 63, 64, 65, 66, 67, 68, 69, 70, 71, 72, 73, 74, 75, 76, 77, 78, 79, 80, 81, 82, 83, 84, 85, 86, 87, 88, 89, 90, 91, 92, 93, 94, 95, 96, 97, 98, 99, 100] rfl (by decide +kernel)
set_option maxRecDepth 20000 in
theorem gX5_move_X5_acts : GoodIn wsX5_move (wsV RX5 129 RX5 yX5_acts wsX5_acts) := goodIn_app (goodIn_of _ (by decide +kernel)) ggX5_move_X5_acts
theorem dX5_move_0 : decode cX5_move 0 = .ok (.aload_n 0, 1) := by decide +kernel
theorem dX5_move_1 : decode cX5_move 1 = .ok (.aload_n 0, 1) := by decide +kernel
theorem dX5_move_2 : decode cX5_move 2 = .ok (.iload_n 1, 1) := by decide +kernel
theorem dX5_move_3 : decode cX5_move 3 = .ok (.invokevirtual 125, 3) := by decide +kernel
theorem dX5_move_6 : decode cX5_move 6 = .ok (.ifCond .eq 11, 3) := by decide +kernel
theorem dX5_move_9 : decode cX5_move 9 = .ok (.aload_n 0, 1) := by decide +kernel
theorem dX5_move_10 : decode cX5_move 10 = .ok (.iload_n 2, 1) := by decide +kernel
theorem dX5_move_11 : decode cX5_move 11 = .ok (.invokevirtual 125, 3) := by decide +kernel
theorem dX5_move_14 : decode cX5_move 14 = .ok (.ifCond .ne 7, 3) := by decide +kernel
theorem dX5_move_17 : decode cX5_move 17 = .ok (.iconst 1, 1) := by decide +kernel
theorem dX5_move_18 : decode cX5_move 18 = .ok (.goto 30, 3) := by decide +kernel
theorem dX5_move_21 : decode cX5_move 21 = .ok (.aload_n 0, 1) := by decide +kernel
theorem dX5_move_22 : decode cX5_move 22 = .ok (.getfield 23, 3) := by decide +kernel
theorem dX5_move_25 : decode cX5_move 25 = .ok (.bipush 10, 2) := by decide +kernel
theorem dX5_move_27 : decode cX5_move 27 = .ok (.aload_n 0, 1) := by decide +kernel
theorem dX5_move_28 : decode cX5_move 28 = .ok (.getfield 7, 3) := by decide +kernel
theorem dX5_move_31 : decode cX5_move 31 = .ok (.iload_n 1, 1) := by decide +kernel
theorem dX5_move_32 : decode cX5_move 32 = .ok (.iaload, 1) := by decide +kernel
theorem dX5_move_33 : decode cX5_move 33 = .ok (.imul, 1) := by decide +kernel
theorem dX5_move_34 : decode cX5_move 34 = .ok (.iload_n 2, 1) := by decide +kernel
theorem dX5_move_35 : decode cX5_move 35 = .ok (.iadd, 1) := by decide +kernel
theorem dX5_move_36 : decode cX5_move 36 = .ok (.iaload, 1) := by decide +kernel
theorem dX5_move_37 : decode cX5_move 37 = .ok (.iload_n 1, 1) := by decide +kernel
theorem dX5_move_38 : decode cX5_move 38 = .ok (.iconst 1, 1) := by decide +kernel
theorem dX5_move_39 : decode cX5_move 39 = .ok (.iadd, 1) := by decide +kernel
theorem dX5_move_40 : decode cX5_move 40 = .ok (.if_icmp .eq 7, 3) := by decide +kernel
theorem dX5_move_43 : decode cX5_move 43 = .ok (.iconst 2, 1) := by decide +kernel
theorem dX5_move_44 : decode cX5_move 44 = .ok (.goto 4, 3) := by decide +kernel
theorem dX5_move_47 : decode cX5_move 47 = .ok (.iconst 0, 1) := by decide +kernel
theorem dX5_move_48 : decode cX5_move 48 = .ok (.putfield 77, 3) := by decide +kernel
theorem dX5_move_51 : decode cX5_move 51 = .ok (.aload_n 0, 1) := by decide +kernel
theorem dX5_move_52 : decode cX5_move 52 = .ok (.getfield 77, 3) := by decide +kernel
theorem dX5_move_55 : decode cX5_move 55 = .ok (.ifCond .eq 5, 3) := by decide +kernel
theorem dX5_move_58 : decode cX5_move 58 = .ok (.iconst 0, 1) := by decide +kernel
theorem dX5_move_59 : decode cX5_move 59 = .ok (.ireturn, 1) := by decide +kernel
theorem dX5_move_60 : decode cX5_move 60 = .ok (.iconst 0, 1) := by decide +kernel
theorem dX5_move_61 : decode cX5_move 61 = .ok (.istore_n 3, 1) := by decide +kernel
theorem dX5_move_62 : decode cX5_move 62 = .ok (.iconst 0, 1) := by decide +kernel
theorem dX5_move_63 : decode cX5_move 63 = .ok (.istore 4, 2) := by decide +kernel
theorem dX5_move_65 : decode cX5_move 65 = .ok (.iconst 0, 1) := by decide +kernel
theorem dX5_move_66 : decode cX5_move 66 = .ok (.istore 5, 2) := by decide +kernel
theorem dX5_move_68 : decode cX5_move 68 = .ok (.iload 5, 2) := by decide +kernel
theorem dX5_move_70 : decode cX5_move 70 = .ok (.aload_n 0, 1) := by decide +kernel
theorem dX5_move_71 : decode cX5_move 71 = .ok (.getfield 81, 3) := by decide +kernel
theorem dX5_move_74 : decode cX5_move 74 = .ok (.if_icmp .ge 59, 3) := by decide +kernel
theorem dX5_move_77 : decode cX5_move 77 = .ok (.aload_n 0, 1) := by decide +kernel
theorem dX5_move_78 : decode cX5_move 78 = .ok (.getfield 17, 3) := by decide +kernel
theorem dX5_move_81 : decode cX5_move 81 = .ok (.aload_n 0, 1) := by decide +kernel
theorem dX5_move_82 : decode cX5_move 82 = .ok (.getfield 7, 3) := by decide +kernel
theorem dX5_move_85 : decode cX5_move 85 = .ok (.iload_n 1, 1) := by decide +kernel
theorem dX5_move_86 : decode cX5_move 86 = .ok (.iaload, 1) := by decide +kernel
theorem dX5_move_87 : decode cX5_move 87 = .ok (.iload 5, 2) := by decide +kernel
theorem dX5_move_89 : decode cX5_move 89 = .ok (.iload_n 1, 1) := by decide +kernel
theorem dX5_move_90 : decode cX5_move 90 = .ok (.invokestatic 88, 3) := by decide +kernel
theorem dX5_move_93 : decode cX5_move 93 = .ok (.baload, 1) := by decide +kernel
theorem dX5_move_94 : decode cX5_move 94 = .ok (.istore 6, 2) := by decide +kernel
theorem dX5_move_96 : decode cX5_move 96 = .ok (.iload_n 3, 1) := by decide +kernel
theorem dX5_move_97 : decode cX5_move 97 = .ok (.iload 6, 2) := by decide +kernel
theorem dX5_move_99 : decode cX5_move 99 = .ok (.ifCond .eq 10, 3) := by decide +kernel
theorem dX5_move_102 : decode cX5_move 102 = .ok (.iconst 1, 1) := by decide +kernel
theorem dX5_move_103 : decode cX5_move 103 = .ok (.iload 5, 2) := by decide +kernel
theorem dX5_move_105 : decode cX5_move 105 = .ok (.ishl, 1) := by decide +kernel
theorem dX5_move_106 : decode cX5_move 106 = .ok (.goto 4, 3) := by decide +kernel
theorem dX5_move_109 : decode cX5_move 109 = .ok (.iconst 0, 1) := by decide +kernel
theorem dX5_move_110 : decode cX5_move 110 = .ok (.ior, 1) := by decide +kernel
theorem dX5_move_111 : decode cX5_move 111 = .ok (.istore_n 3, 1) := by decide +kernel
theorem dX5_move_112 : decode cX5_move 112 = .ok (.iload 4, 2) := by decide +kernel
theorem dX5_move_114 : decode cX5_move 114 = .ok (.iload 6, 2) := by decide +kernel
theorem dX5_move_116 : decode cX5_move 116 = .ok (.ifCond .eq 7, 3) := by decide +kernel
theorem dX5_move_119 : decode cX5_move 119 = .ok (.iconst 1, 1) := by decide +kernel
theorem dX5_move_120 : decode cX5_move 120 = .ok (.goto 4, 3) := by decide +kernel
theorem dX5_move_123 : decode cX5_move 123 = .ok (.iconst 0, 1) := by decide +kernel
theorem dX5_move_124 : decode cX5_move 124 = .ok (.iadd, 1) := by decide +kernel
theorem dX5_move_125 : decode cX5_move 125 = .ok (.istore 4, 2) := by decide +kernel
theorem dX5_move_127 : decode cX5_move 127 = .ok (.iinc 5 1, 3) := by decide +kernel
theorem dX5_move_130 : decode cX5_move 130 = .ok (.goto (-62), 3) := by decide +kernel
theorem dX5_move_133 : decode cX5_move 133 = .ok (.aload_n 0, 1) := by decide +kernel
theorem dX5_move_134 : decode cX5_move 134 = .ok (.bipush 7, 2) := by decide +kernel
theorem dX5_move_136 : decode cX5_move 136 = .ok (.iload_n 1, 1) := by decide +kernel
theorem dX5_move_137 : decode cX5_move 137 = .ok (.iload_n 2, 1) := by decide +kernel
theorem dX5_move_138 : decode cX5_move 138 = .ok (.iload_n 3, 1) := by decide +kernel
theorem dX5_move_139 : decode cX5_move 139 = .ok (.aload_n 0, 1) := by decide +kernel
theorem dX5_move_140 : decode cX5_move 140 = .ok (.aload_n 0, 1) := by decide +kernel
theorem dX5_move_141 : decode cX5_move 141 = .ok (.getfield 7, 3) := by decide +kernel
theorem dX5_move_144 : decode cX5_move 144 = .ok (.iload_n 1, 1) := by decide +kernel
theorem dX5_move_145 : decode cX5_move 145 = .ok (.iaload, 1) := by decide +kernel
theorem dX5_move_146 : decode cX5_move 146 = .ok (.iload_n 1, 1) := by decide +kernel
theorem dX5_move_147 : decode cX5_move 147 = .ok (.invokevirtual 98, 3) := by decide +kernel
theorem dX5_move_150 : decode cX5_move 150 = .ok (.iconst 1, 1) := by decide +kernel
theorem dX5_move_151 : decode cX5_move 151 = .ok (.aload_n 0, 1) := by decide +kernel
theorem dX5_move_152 : decode cX5_move 152 = .ok (.getfield 7, 3) := by decide +kernel
theorem dX5_move_155 : decode cX5_move 155 = .ok (.iload_n 2, 1) := by decide +kernel
theorem dX5_move_156 : decode cX5_move 156 = .ok (.iaload, 1) := by decide +kernel
theorem dX5_move_157 : decode cX5_move 157 = .ok (.ishl, 1) := by decide +kernel
theorem dX5_move_158 : decode cX5_move 158 = .ok (.ior, 1) := by decide +kernel
theorem dX5_move_159 : decode cX5_move 159 = .ok (.invokevirtual 129, 3) := by decide +kernel
theorem dX5_move_162 : decode cX5_move 162 = .ok (.iload 4, 2) := by decide +kernel
theorem dX5_move_164 : decode cX5_move 164 = .ok (.ireturn, 1) := by decide +kernel
theorem dX5_isNamed_0 : decode cX5_isNamed 0 = .ok (.aload_n 0, 1) := by decide +kernel
theorem dX5_isNamed_1 : decode cX5_isNamed 1 = .ok (.getfield 44, 3) := by decide +kernel
theorem dX5_isNamed_4 : decode cX5_isNamed 4 = .ok (.iload_n 1, 1) := by decide +kernel
theorem dX5_isNamed_5 : decode cX5_isNamed 5 = .ok (.iaload, 1) := by decide +kernel
theorem dX5_isNamed_6 : decode cX5_isNamed 6 = .ok (.iload_n 2, 1) := by decide +kernel
theorem dX5_isNamed_7 : decode cX5_isNamed 7 = .ok (.ishr, 1) := by decide +kernel
theorem dX5_isNamed_8 : decode cX5_isNamed 8 = .ok (.iconst 1, 1) := by decide +kernel
theorem dX5_isNamed_9 : decode cX5_isNamed 9 = .ok (.iand, 1) := by decide +kernel
theorem dX5_isNamed_10 : decode cX5_isNamed 10 = .ok (.iconst 1, 1) := by decide +kernel
theorem dX5_isNamed_11 : decode cX5_isNamed 11 = .ok (.if_icmp .ne 7, 3) := by decide +kernel
theorem dX5_isNamed_14 : decode cX5_isNamed 14 = .ok (.iconst 1, 1) := by decide +kernel
theorem dX5_isNamed_15 : decode cX5_isNamed 15 = .ok (.goto 4, 3) := by decide +kernel
theorem dX5_isNamed_18 : decode cX5_isNamed 18 = .ok (.iconst 0, 1) := by decide +kernel
theorem dX5_isNamed_19 : decode cX5_isNamed 19 = .ok (.ireturn, 1) := by decide +kernel
set_option maxRecDepth 1000000 in
theorem ggX5_seen_X5_isApart : GoodIn wsX5_seen wsX5_isApart := goodIn_r _ [10, 11, 12, 13, 9, 14, 20, 21, 22, 23, 24, 25, 26, 27, 28, 29, 30, 31, 32, 33, 34, 35, 36, 37, 38, 39, 40, 41, 42, 43, 44, 45] rfl (by decide +kernel)
set_option maxRecDepth 20000 in
theorem gX5_seen_X5_isApart : GoodIn wsX5_seen (wsV RX5 92 RX5 yX5_isApart wsX5_isApart) := goodIn_app (goodIn_of _ (by decide +kernel)) ggX5_seen_X5_isApart
set_option maxRecDepth 1000000 in
theorem ggX5_seen_X5_isNamed : GoodIn wsX5_seen wsX5_isNamed := goodIn_r _ [18, 19, 20, 21, 22, 23, 24, 25, 26, 27, 28, 29, 30, 31, 32, 33, 34, 35, 36, 37, 38, 39, 40, 41, 42, 43, 44, 45] rfl (by decide +kernel)
set_option maxRecDepth 20000 in
theorem gX5_seen_X5_isNamed : GoodIn wsX5_seen (wsV RX5 132 RX5 yX5_isNamed wsX5_isNamed) := goodIn_app (goodIn_of _ (by decide +kernel)) ggX5_seen_X5_isNamed
set_option maxRecDepth 1000000 in
theorem ggX5_seen_X5_at : GoodIn wsX5_seen wsX5_at := goodIn_r _ [14] rfl (by decide +kernel)
set_option maxRecDepth 20000 in
theorem gX5_seen_X5_at : GoodIn wsX5_seen (va_wsS RX5 88 yX5_at wsX5_at) := goodIn_app (goodIn_of _ (by decide +kernel)) ggX5_seen_X5_at
theorem dX5_seen_0 : decode cX5_seen 0 = .ok (.aload_n 0, 1) := by decide +kernel
theorem dX5_seen_1 : decode cX5_seen 1 = .ok (.getfield 7, 3) := by decide +kernel
theorem dX5_seen_4 : decode cX5_seen 4 = .ok (.iload_n 1, 1) := by decide +kernel
theorem dX5_seen_5 : decode cX5_seen 5 = .ok (.iaload, 1) := by decide +kernel
theorem dX5_seen_6 : decode cX5_seen 6 = .ok (.istore_n 3, 1) := by decide +kernel
theorem dX5_seen_7 : decode cX5_seen 7 = .ok (.aload_n 0, 1) := by decide +kernel
theorem dX5_seen_8 : decode cX5_seen 8 = .ok (.getfield 26, 3) := by decide +kernel
theorem dX5_seen_11 : decode cX5_seen 11 = .ok (.bipush 50, 2) := by decide +kernel
theorem dX5_seen_13 : decode cX5_seen 13 = .ok (.iload_n 3, 1) := by decide +kernel
theorem dX5_seen_14 : decode cX5_seen 14 = .ok (.imul, 1) := by decide +kernel
theorem dX5_seen_15 : decode cX5_seen 15 = .ok (.iload_n 2, 1) := by decide +kernel
theorem dX5_seen_16 : decode cX5_seen 16 = .ok (.iadd, 1) := by decide +kernel
theorem dX5_seen_17 : decode cX5_seen 17 = .ok (.baload, 1) := by decide +kernel
theorem dX5_seen_18 : decode cX5_seen 18 = .ok (.ifCond .eq 22, 3) := by decide +kernel
theorem dX5_seen_21 : decode cX5_seen 21 = .ok (.aload_n 0, 1) := by decide +kernel
theorem dX5_seen_22 : decode cX5_seen 22 = .ok (.iload_n 3, 1) := by decide +kernel
theorem dX5_seen_23 : decode cX5_seen 23 = .ok (.iload_n 1, 1) := by decide +kernel
theorem dX5_seen_24 : decode cX5_seen 24 = .ok (.aload_n 0, 1) := by decide +kernel
theorem dX5_seen_25 : decode cX5_seen 25 = .ok (.getfield 38, 3) := by decide +kernel
theorem dX5_seen_28 : decode cX5_seen 28 = .ok (.iload_n 2, 1) := by decide +kernel
theorem dX5_seen_29 : decode cX5_seen 29 = .ok (.iaload, 1) := by decide +kernel
theorem dX5_seen_30 : decode cX5_seen 30 = .ok (.invokevirtual 92, 3) := by decide +kernel
theorem dX5_seen_33 : decode cX5_seen 33 = .ok (.ifCond .ne 7, 3) := by decide +kernel
theorem dX5_seen_36 : decode cX5_seen 36 = .ok (.iconst 1, 1) := by decide +kernel
theorem dX5_seen_37 : decode cX5_seen 37 = .ok (.goto 4, 3) := by decide +kernel
theorem dX5_seen_40 : decode cX5_seen 40 = .ok (.iconst 0, 1) := by decide +kernel
theorem dX5_seen_41 : decode cX5_seen 41 = .ok (.istore 4, 2) := by decide +kernel
theorem dX5_seen_43 : decode cX5_seen 43 = .ok (.aload_n 0, 1) := by decide +kernel
theorem dX5_seen_44 : decode cX5_seen 44 = .ok (.getfield 38, 3) := by decide +kernel
theorem dX5_seen_47 : decode cX5_seen 47 = .ok (.iload_n 2, 1) := by decide +kernel
theorem dX5_seen_48 : decode cX5_seen 48 = .ok (.iaload, 1) := by decide +kernel
theorem dX5_seen_49 : decode cX5_seen 49 = .ok (.iload_n 1, 1) := by decide +kernel
theorem dX5_seen_50 : decode cX5_seen 50 = .ok (.if_icmp .eq 21, 3) := by decide +kernel
theorem dX5_seen_53 : decode cX5_seen 53 = .ok (.aload_n 0, 1) := by decide +kernel
theorem dX5_seen_54 : decode cX5_seen 54 = .ok (.iload_n 2, 1) := by decide +kernel
theorem dX5_seen_55 : decode cX5_seen 55 = .ok (.iload_n 1, 1) := by decide +kernel
theorem dX5_seen_56 : decode cX5_seen 56 = .ok (.invokevirtual 132, 3) := by decide +kernel
theorem dX5_seen_59 : decode cX5_seen 59 = .ok (.ifCond .ne 12, 3) := by decide +kernel
theorem dX5_seen_62 : decode cX5_seen 62 = .ok (.aload_n 0, 1) := by decide +kernel
theorem dX5_seen_63 : decode cX5_seen 63 = .ok (.getfield 41, 3) := by decide +kernel
theorem dX5_seen_66 : decode cX5_seen 66 = .ok (.iload_n 2, 1) := by decide +kernel
theorem dX5_seen_67 : decode cX5_seen 67 = .ok (.iaload, 1) := by decide +kernel
theorem dX5_seen_68 : decode cX5_seen 68 = .ok (.ifCond .ne 7, 3) := by decide +kernel
theorem dX5_seen_71 : decode cX5_seen 71 = .ok (.iconst 1, 1) := by decide +kernel
theorem dX5_seen_72 : decode cX5_seen 72 = .ok (.goto 4, 3) := by decide +kernel
theorem dX5_seen_75 : decode cX5_seen 75 = .ok (.iconst 0, 1) := by decide +kernel
theorem dX5_seen_76 : decode cX5_seen 76 = .ok (.istore 5, 2) := by decide +kernel
theorem dX5_seen_78 : decode cX5_seen 78 = .ok (.iload 4, 2) := by decide +kernel
theorem dX5_seen_80 : decode cX5_seen 80 = .ok (.ifCond .eq 41, 3) := by decide +kernel
theorem dX5_seen_83 : decode cX5_seen 83 = .ok (.iload 5, 2) := by decide +kernel
theorem dX5_seen_85 : decode cX5_seen 85 = .ok (.ifCond .ne 32, 3) := by decide +kernel
theorem dX5_seen_88 : decode cX5_seen 88 = .ok (.aload_n 0, 1) := by decide +kernel
theorem dX5_seen_89 : decode cX5_seen 89 = .ok (.getfield 41, 3) := by decide +kernel
theorem dX5_seen_92 : decode cX5_seen 92 = .ok (.iload_n 2, 1) := by decide +kernel
theorem dX5_seen_93 : decode cX5_seen 93 = .ok (.iaload, 1) := by decide +kernel
theorem dX5_seen_94 : decode cX5_seen 94 = .ok (.iconst 1, 1) := by decide +kernel
theorem dX5_seen_95 : decode cX5_seen 95 = .ok (.if_icmp .ne 26, 3) := by decide +kernel
theorem dX5_seen_98 : decode cX5_seen 98 = .ok (.aload_n 0, 1) := by decide +kernel
theorem dX5_seen_99 : decode cX5_seen 99 = .ok (.getfield 17, 3) := by decide +kernel
theorem dX5_seen_102 : decode cX5_seen 102 = .ok (.iload_n 3, 1) := by decide +kernel
theorem dX5_seen_103 : decode cX5_seen 103 = .ok (.iload_n 1, 1) := by decide +kernel
theorem dX5_seen_104 : decode cX5_seen 104 = .ok (.aload_n 0, 1) := by decide +kernel
theorem dX5_seen_105 : decode cX5_seen 105 = .ok (.getfield 38, 3) := by decide +kernel
theorem dX5_seen_108 : decode cX5_seen 108 = .ok (.iload_n 2, 1) := by decide +kernel
theorem dX5_seen_109 : decode cX5_seen 109 = .ok (.iaload, 1) := by decide +kernel
theorem dX5_seen_110 : decode cX5_seen 110 = .ok (.invokestatic 88, 3) := by decide +kernel
theorem dX5_seen_113 : decode cX5_seen 113 = .ok (.baload, 1) := by decide +kernel
theorem dX5_seen_114 : decode cX5_seen 114 = .ok (.ifCond .eq 7, 3) := by decide +kernel
theorem dX5_seen_117 : decode cX5_seen 117 = .ok (.iconst 1, 1) := by decide +kernel
theorem dX5_seen_118 : decode cX5_seen 118 = .ok (.goto 4, 3) := by decide +kernel
theorem dX5_seen_121 : decode cX5_seen 121 = .ok (.iconst 0, 1) := by decide +kernel
theorem dX5_seen_122 : decode cX5_seen 122 = .ok (.ireturn, 1) := by decide +kernel
set_option maxRecDepth 1000000 in
theorem ggX5_post_X5_isOne : GoodIn wsX5_post wsX5_isOne := goodIn_r _ [14, 2, 15, 16, 13, 17, 85, 86, 87, 88, 89, 90, 91, 92, 93, 94, 95, 96, 97, 98, 99, 100, 101, 102, 103, 104, 105, 106, 107, 108, 109, 110] rfl (by decide +kernel)
set_option maxRecDepth 20000 in
theorem gX5_post_X5_isOne : GoodIn wsX5_post (wsV RX5 125 RX5 yX5_isOne wsX5_isOne) := goodIn_app (goodIn_of _ (by decide +kernel)) ggX5_post_X5_isOne
set_option maxRecDepth 1000000 in
theorem ggX5_post_X5_in : GoodIn wsX5_post wsX5_in := goodIn_r _ [17] rfl (by decide +kernel)
set_option maxRecDepth 20000 in
theorem gX5_post_X5_in : GoodIn wsX5_post (va_wsS RX5 84 yX5_in wsX5_in) := goodIn_app (goodIn_of _ (by decide +kernel)) ggX5_post_X5_in
set_option maxRecDepth 1000000 in
theorem ggX5_post_X5_seen : GoodIn wsX5_post wsX5_seen := goodIn_r _ [21, 8, 22, 4, 5, 23, 24, 25, 26, 13, 27, 28, 29, 30, 31, 32, 33, 34, 35, 6, 85, 86, 87, 88, 89, 90, 91, 92, 93, 94, 95, 96, 97, 98, 99, 100, 101, 102, 103, 104, 105, 106, 107, 108, 109, 110] rfl (by decide +kernel)
set_option maxRecDepth 20000 in
theorem gX5_post_X5_seen : GoodIn wsX5_post (wsV RX5 139 RX5 yX5_seen wsX5_seen) := goodIn_app (goodIn_of _ (by decide +kernel)) ggX5_post_X5_seen
set_option maxRecDepth 1000000 in
theorem ggX5_post_X5_servers : GoodIn wsX5_post wsX5_servers := goodIn_r _ [39, 2, 23, 8, 29, 30, 13, 31, 85, 86, 87, 88, 89, 90, 91, 92, 93, 94, 95, 96, 97, 98, 99, 100, 101, 102, 103, 104, 105, 106, 107, 108, 109, 110] rfl (by decide +kernel)
set_option maxRecDepth 20000 in
theorem gX5_post_X5_servers : GoodIn wsX5_post (wsV RX5 98 RX5 yX5_servers wsX5_servers) := goodIn_app (goodIn_of _ (by decide +kernel)) ggX5_post_X5_servers
set_option maxRecDepth 1000000 in
theorem ggX5_post_X5_acts : GoodIn wsX5_post wsX5_acts := goodIn_r _ [43, 44, 45, 46, 47, 48, 8, 49, 50, 51, 13, 52, 53, 54, 55, 56, 57, 58, 59, 60, 23, 61, 28, 62, 63, 64, 65, 22, 66, 4, 67, 68, 69, 70, 71, 72, 5, 7, 9, 36, 37, 38, 39, 2, 29, 30, 31, 24, 25, 26, 27, 73, 74, 75, 76, 77, 78, 79, 80, 81, 82, 83, 84, 85, 86, 87, 88, 89, 90, 91, 92, 93, 94, 95, 96, 97, 98, 99, 100, 101, 102, 103, 104, 105, 106, 107, 108, 109, 110] rfl (by decide +kernel)
set_option maxRecDepth 20000 in
theorem gX5_post_X5_acts : GoodIn wsX5_post (wsV RX5 129 RX5 yX5_acts wsX5_acts) := goodIn_app (goodIn_of _ (by decide +kernel)) ggX5_post_X5_acts
theorem dX5_post_0 : decode cX5_post 0 = .ok (.aload_n 0, 1) := by decide +kernel
theorem dX5_post_1 : decode cX5_post 1 = .ok (.iload_n 1, 1) := by decide +kernel
theorem dX5_post_2 : decode cX5_post 2 = .ok (.invokevirtual 125, 3) := by decide +kernel
theorem dX5_post_5 : decode cX5_post 5 = .ok (.ifCond .eq 24, 3) := by decide +kernel
theorem dX5_post_8 : decode cX5_post 8 = .ok (.iload 4, 2) := by decide +kernel
theorem dX5_post_10 : decode cX5_post 10 = .ok (.iconst (-1), 1) := by decide +kernel
theorem dX5_post_11 : decode cX5_post 11 = .ok (.if_icmp .eq 22, 3) := by decide +kernel
theorem dX5_post_14 : decode cX5_post 14 = .ok (.iload 4, 2) := by decide +kernel
theorem dX5_post_16 : decode cX5_post 16 = .ok (.iconst 0, 1) := by decide +kernel
theorem dX5_post_17 : decode cX5_post 17 = .ok (.aload_n 0, 1) := by decide +kernel
theorem dX5_post_18 : decode cX5_post 18 = .ok (.getfield 136, 3) := by decide +kernel
theorem dX5_post_21 : decode cX5_post 21 = .ok (.iconst 1, 1) := by decide +kernel
theorem dX5_post_22 : decode cX5_post 22 = .ok (.isub, 1) := by decide +kernel
theorem dX5_post_23 : decode cX5_post 23 = .ok (.invokestatic 84, 3) := by decide +kernel
theorem dX5_post_26 : decode cX5_post 26 = .ok (.ifCond .ne 7, 3) := by decide +kernel
theorem dX5_post_29 : decode cX5_post 29 = .ok (.iconst 1, 1) := by decide +kernel
theorem dX5_post_30 : decode cX5_post 30 = .ok (.goto 4, 3) := by decide +kernel
theorem dX5_post_33 : decode cX5_post 33 = .ok (.iconst 0, 1) := by decide +kernel
theorem dX5_post_34 : decode cX5_post 34 = .ok (.istore 5, 2) := by decide +kernel
theorem dX5_post_36 : decode cX5_post 36 = .ok (.iload_n 2, 1) := by decide +kernel
theorem dX5_post_37 : decode cX5_post 37 = .ok (.iconst 0, 1) := by decide +kernel
theorem dX5_post_38 : decode cX5_post 38 = .ok (.iconst 2, 1) := by decide +kernel
theorem dX5_post_39 : decode cX5_post 39 = .ok (.invokestatic 84, 3) := by decide +kernel
theorem dX5_post_42 : decode cX5_post 42 = .ok (.ifCond .eq 19, 3) := by decide +kernel
theorem dX5_post_45 : decode cX5_post 45 = .ok (.iload_n 3, 1) := by decide +kernel
theorem dX5_post_46 : decode cX5_post 46 = .ok (.iconst 0, 1) := by decide +kernel
theorem dX5_post_47 : decode cX5_post 47 = .ok (.iconst 1, 1) := by decide +kernel
theorem dX5_post_48 : decode cX5_post 48 = .ok (.aload_n 0, 1) := by decide +kernel
theorem dX5_post_49 : decode cX5_post 49 = .ok (.getfield 81, 3) := by decide +kernel
theorem dX5_post_52 : decode cX5_post 52 = .ok (.ishl, 1) := by decide +kernel
theorem dX5_post_53 : decode cX5_post 53 = .ok (.iconst 1, 1) := by decide +kernel
theorem dX5_post_54 : decode cX5_post 54 = .ok (.isub, 1) := by decide +kernel
theorem dX5_post_55 : decode cX5_post 55 = .ok (.invokestatic 84, 3) := by decide +kernel
theorem dX5_post_58 : decode cX5_post 58 = .ok (.ifCond .ne 7, 3) := by decide +kernel
theorem dX5_post_61 : decode cX5_post 61 = .ok (.iconst 1, 1) := by decide +kernel
theorem dX5_post_62 : decode cX5_post 62 = .ok (.goto 4, 3) := by decide +kernel
theorem dX5_post_65 : decode cX5_post 65 = .ok (.iconst 0, 1) := by decide +kernel
theorem dX5_post_66 : decode cX5_post 66 = .ok (.istore 6, 2) := by decide +kernel
theorem dX5_post_68 : decode cX5_post 68 = .ok (.aload_n 0, 1) := by decide +kernel
theorem dX5_post_69 : decode cX5_post 69 = .ok (.iload 5, 2) := by decide +kernel
theorem dX5_post_71 : decode cX5_post 71 = .ok (.ifCond .eq 7, 3) := by decide +kernel
theorem dX5_post_74 : decode cX5_post 74 = .ok (.iconst 1, 1) := by decide +kernel
theorem dX5_post_75 : decode cX5_post 75 = .ok (.goto 41, 3) := by decide +kernel
theorem dX5_post_78 : decode cX5_post 78 = .ok (.iload 6, 2) := by decide +kernel
theorem dX5_post_80 : decode cX5_post 80 = .ok (.ifCond .eq 7, 3) := by decide +kernel
theorem dX5_post_83 : decode cX5_post 83 = .ok (.iconst 2, 1) := by decide +kernel
theorem dX5_post_84 : decode cX5_post 84 = .ok (.goto 32, 3) := by decide +kernel
theorem dX5_post_87 : decode cX5_post 87 = .ok (.aload_n 0, 1) := by decide +kernel
theorem dX5_post_88 : decode cX5_post 88 = .ok (.getfield 136, 3) := by decide +kernel
theorem dX5_post_91 : decode cX5_post 91 = .ok (.bipush 50, 2) := by decide +kernel
theorem dX5_post_93 : decode cX5_post 93 = .ok (.if_icmp .eq 18, 3) := by decide +kernel
theorem dX5_post_96 : decode cX5_post 96 = .ok (.iload 4, 2) := by decide +kernel
theorem dX5_post_98 : decode cX5_post 98 = .ok (.ifCond .lt 17, 3) := by decide +kernel
theorem dX5_post_101 : decode cX5_post 101 = .ok (.aload_n 0, 1) := by decide +kernel
theorem dX5_post_102 : decode cX5_post 102 = .ok (.iload_n 1, 1) := by decide +kernel
theorem dX5_post_103 : decode cX5_post 103 = .ok (.iload 4, 2) := by decide +kernel
theorem dX5_post_105 : decode cX5_post 105 = .ok (.invokevirtual 139, 3) := by decide +kernel
theorem dX5_post_108 : decode cX5_post 108 = .ok (.ifCond .ne 7, 3) := by decide +kernel
theorem dX5_post_111 : decode cX5_post 111 = .ok (.iconst 3, 1) := by decide +kernel
theorem dX5_post_112 : decode cX5_post 112 = .ok (.goto 4, 3) := by decide +kernel
theorem dX5_post_115 : decode cX5_post 115 = .ok (.iconst 0, 1) := by decide +kernel
theorem dX5_post_116 : decode cX5_post 116 = .ok (.putfield 77, 3) := by decide +kernel
theorem dX5_post_119 : decode cX5_post 119 = .ok (.aload_n 0, 1) := by decide +kernel
theorem dX5_post_120 : decode cX5_post 120 = .ok (.getfield 77, 3) := by decide +kernel
theorem dX5_post_123 : decode cX5_post 123 = .ok (.ifCond .eq 5, 3) := by decide +kernel
theorem dX5_post_126 : decode cX5_post 126 = .ok (.iconst 0, 1) := by decide +kernel
theorem dX5_post_127 : decode cX5_post 127 = .ok (.ireturn, 1) := by decide +kernel
theorem dX5_post_128 : decode cX5_post 128 = .ok (.aload_n 0, 1) := by decide +kernel
theorem dX5_post_129 : decode cX5_post 129 = .ok (.getfield 136, 3) := by decide +kernel
theorem dX5_post_132 : decode cX5_post 132 = .ok (.istore 7, 2) := by decide +kernel
theorem dX5_post_134 : decode cX5_post 134 = .ok (.aload_n 0, 1) := by decide +kernel
theorem dX5_post_135 : decode cX5_post 135 = .ok (.getfield 38, 3) := by decide +kernel
theorem dX5_post_138 : decode cX5_post 138 = .ok (.iload 7, 2) := by decide +kernel
theorem dX5_post_140 : decode cX5_post 140 = .ok (.iload_n 1, 1) := by decide +kernel
theorem dX5_post_141 : decode cX5_post 141 = .ok (.iastore, 1) := by decide +kernel
theorem dX5_post_142 : decode cX5_post 142 = .ok (.aload_n 0, 1) := by decide +kernel
theorem dX5_post_143 : decode cX5_post 143 = .ok (.getfield 41, 3) := by decide +kernel
theorem dX5_post_146 : decode cX5_post 146 = .ok (.iload 7, 2) := by decide +kernel
theorem dX5_post_148 : decode cX5_post 148 = .ok (.iload_n 2, 1) := by decide +kernel
theorem dX5_post_149 : decode cX5_post 149 = .ok (.iastore, 1) := by decide +kernel
theorem dX5_post_150 : decode cX5_post 150 = .ok (.aload_n 0, 1) := by decide +kernel
theorem dX5_post_151 : decode cX5_post 151 = .ok (.getfield 44, 3) := by decide +kernel
theorem dX5_post_154 : decode cX5_post 154 = .ok (.iload 7, 2) := by decide +kernel
theorem dX5_post_156 : decode cX5_post 156 = .ok (.iload_n 3, 1) := by decide +kernel
theorem dX5_post_157 : decode cX5_post 157 = .ok (.iastore, 1) := by decide +kernel
theorem dX5_post_158 : decode cX5_post 158 = .ok (.aload_n 0, 1) := by decide +kernel
theorem dX5_post_159 : decode cX5_post 159 = .ok (.getfield 47, 3) := by decide +kernel
theorem dX5_post_162 : decode cX5_post 162 = .ok (.iload 7, 2) := by decide +kernel
theorem dX5_post_164 : decode cX5_post 164 = .ok (.iload 4, 2) := by decide +kernel
theorem dX5_post_166 : decode cX5_post 166 = .ok (.iastore, 1) := by decide +kernel
theorem dX5_post_167 : decode cX5_post 167 = .ok (.iload_n 2, 1) := by decide +kernel
theorem dX5_post_168 : decode cX5_post 168 = .ok (.iconst 2, 1) := by decide +kernel
theorem dX5_post_169 : decode cX5_post 169 = .ok (.if_icmp .ne 7, 3) := by decide +kernel
theorem dX5_post_172 : decode cX5_post 172 = .ok (.iconst 0, 1) := by decide +kernel
theorem dX5_post_173 : decode cX5_post 173 = .ok (.goto 14, 3) := by decide +kernel
theorem dX5_post_176 : decode cX5_post 176 = .ok (.aload_n 0, 1) := by decide +kernel
theorem dX5_post_177 : decode cX5_post 177 = .ok (.aload_n 0, 1) := by decide +kernel
theorem dX5_post_178 : decode cX5_post 178 = .ok (.getfield 7, 3) := by decide +kernel
theorem dX5_post_181 : decode cX5_post 181 = .ok (.iload_n 1, 1) := by decide +kernel
theorem dX5_post_182 : decode cX5_post 182 = .ok (.iaload, 1) := by decide +kernel
theorem dX5_post_183 : decode cX5_post 183 = .ok (.iload_n 1, 1) := by decide +kernel
theorem dX5_post_184 : decode cX5_post 184 = .ok (.invokevirtual 98, 3) := by decide +kernel
theorem dX5_post_187 : decode cX5_post 187 = .ok (.istore 8, 2) := by decide +kernel
theorem dX5_post_189 : decode cX5_post 189 = .ok (.iconst 0, 1) := by decide +kernel
theorem dX5_post_190 : decode cX5_post 190 = .ok (.istore 9, 2) := by decide +kernel
theorem dX5_post_192 : decode cX5_post 192 = .ok (.iload 9, 2) := by decide +kernel
theorem dX5_post_194 : decode cX5_post 194 = .ok (.aload_n 0, 1) := by decide +kernel
theorem dX5_post_195 : decode cX5_post 195 = .ok (.getfield 81, 3) := by decide +kernel
theorem dX5_post_198 : decode cX5_post 198 = .ok (.if_icmp .ge 37, 3) := by decide +kernel
theorem dX5_post_201 : decode cX5_post 201 = .ok (.iload 8, 2) := by decide +kernel
theorem dX5_post_203 : decode cX5_post 203 = .ok (.iload_n 3, 1) := by decide +kernel
theorem dX5_post_204 : decode cX5_post 204 = .ok (.iload 9, 2) := by decide +kernel
theorem dX5_post_206 : decode cX5_post 206 = .ok (.ishr, 1) := by decide +kernel
theorem dX5_post_207 : decode cX5_post 207 = .ok (.iconst 1, 1) := by decide +kernel
theorem dX5_post_208 : decode cX5_post 208 = .ok (.iand, 1) := by decide +kernel
theorem dX5_post_209 : decode cX5_post 209 = .ok (.iconst 1, 1) := by decide +kernel
theorem dX5_post_210 : decode cX5_post 210 = .ok (.if_icmp .ne 15, 3) := by decide +kernel
theorem dX5_post_213 : decode cX5_post 213 = .ok (.iconst 1, 1) := by decide +kernel
theorem dX5_post_214 : decode cX5_post 214 = .ok (.aload_n 0, 1) := by decide +kernel
theorem dX5_post_215 : decode cX5_post 215 = .ok (.getfield 7, 3) := by decide +kernel
theorem dX5_post_218 : decode cX5_post 218 = .ok (.iload 9, 2) := by decide +kernel
theorem dX5_post_220 : decode cX5_post 220 = .ok (.iaload, 1) := by decide +kernel
theorem dX5_post_221 : decode cX5_post 221 = .ok (.ishl, 1) := by decide +kernel
theorem dX5_post_222 : decode cX5_post 222 = .ok (.goto 4, 3) := by decide +kernel
theorem dX5_post_225 : decode cX5_post 225 = .ok (.iconst 0, 1) := by decide +kernel
theorem dX5_post_226 : decode cX5_post 226 = .ok (.ior, 1) := by decide +kernel
theorem dX5_post_227 : decode cX5_post 227 = .ok (.istore 8, 2) := by decide +kernel
theorem dX5_post_229 : decode cX5_post 229 = .ok (.iinc 9 1, 3) := by decide +kernel
theorem dX5_post_232 : decode cX5_post 232 = .ok (.goto (-40), 3) := by decide +kernel
theorem dX5_post_235 : decode cX5_post 235 = .ok (.iload 8, 2) := by decide +kernel
theorem dX5_post_237 : decode cX5_post 237 = .ok (.iload 4, 2) := by decide +kernel
theorem dX5_post_239 : decode cX5_post 239 = .ok (.ifCond .lt 20, 3) := by decide +kernel
theorem dX5_post_242 : decode cX5_post 242 = .ok (.iconst 1, 1) := by decide +kernel
theorem dX5_post_243 : decode cX5_post 243 = .ok (.aload_n 0, 1) := by decide +kernel
theorem dX5_post_244 : decode cX5_post 244 = .ok (.getfield 7, 3) := by decide +kernel
theorem dX5_post_247 : decode cX5_post 247 = .ok (.aload_n 0, 1) := by decide +kernel
theorem dX5_post_248 : decode cX5_post 248 = .ok (.getfield 38, 3) := by decide +kernel
theorem dX5_post_251 : decode cX5_post 251 = .ok (.iload 4, 2) := by decide +kernel
theorem dX5_post_253 : decode cX5_post 253 = .ok (.iaload, 1) := by decide +kernel
theorem dX5_post_254 : decode cX5_post 254 = .ok (.iaload, 1) := by decide +kernel
theorem dX5_post_255 : decode cX5_post 255 = .ok (.ishl, 1) := by decide +kernel
theorem dX5_post_256 : decode cX5_post 256 = .ok (.goto 4, 3) := by decide +kernel
theorem dX5_post_259 : decode cX5_post 259 = .ok (.iconst 0, 1) := by decide +kernel
theorem dX5_post_260 : decode cX5_post 260 = .ok (.ior, 1) := by decide +kernel
theorem dX5_post_261 : decode cX5_post 261 = .ok (.istore 8, 2) := by decide +kernel
theorem dX5_post_263 : decode cX5_post 263 = .ok (.aload_n 0, 1) := by decide +kernel
theorem dX5_post_264 : decode cX5_post 264 = .ok (.getfield 50, 3) := by decide +kernel
theorem dX5_post_267 : decode cX5_post 267 = .ok (.iload 7, 2) := by decide +kernel
theorem dX5_post_269 : decode cX5_post 269 = .ok (.iload 8, 2) := by decide +kernel
theorem dX5_post_271 : decode cX5_post 271 = .ok (.iconst 1, 1) := by decide +kernel
theorem dX5_post_272 : decode cX5_post 272 = .ok (.aload_n 0, 1) := by decide +kernel
theorem dX5_post_273 : decode cX5_post 273 = .ok (.getfield 7, 3) := by decide +kernel
theorem dX5_post_276 : decode cX5_post 276 = .ok (.iload_n 1, 1) := by decide +kernel
theorem dX5_post_277 : decode cX5_post 277 = .ok (.iaload, 1) := by decide +kernel
theorem dX5_post_278 : decode cX5_post 278 = .ok (.ishl, 1) := by decide +kernel
theorem dX5_post_279 : decode cX5_post 279 = .ok (.iconst (-1), 1) := by decide +kernel
theorem dX5_post_280 : decode cX5_post 280 = .ok (.ixor, 1) := by decide +kernel
theorem dX5_post_281 : decode cX5_post 281 = .ok (.iand, 1) := by decide +kernel
theorem dX5_post_282 : decode cX5_post 282 = .ok (.iastore, 1) := by decide +kernel
theorem dX5_post_283 : decode cX5_post 283 = .ok (.aload_n 0, 1) := by decide +kernel
theorem dX5_post_284 : decode cX5_post 284 = .ok (.dup, 1) := by decide +kernel
theorem dX5_post_285 : decode cX5_post 285 = .ok (.getfield 136, 3) := by decide +kernel
theorem dX5_post_288 : decode cX5_post 288 = .ok (.iconst 1, 1) := by decide +kernel
theorem dX5_post_289 : decode cX5_post 289 = .ok (.iadd, 1) := by decide +kernel
theorem dX5_post_290 : decode cX5_post 290 = .ok (.putfield 136, 3) := by decide +kernel
theorem dX5_post_293 : decode cX5_post 293 = .ok (.aload_n 0, 1) := by decide +kernel
theorem dX5_post_294 : decode cX5_post 294 = .ok (.bipush 8, 2) := by decide +kernel
theorem dX5_post_296 : decode cX5_post 296 = .ok (.iload_n 1, 1) := by decide +kernel
theorem dX5_post_297 : decode cX5_post 297 = .ok (.iload 7, 2) := by decide +kernel
theorem dX5_post_299 : decode cX5_post 299 = .ok (.iconst 0, 1) := by decide +kernel
theorem dX5_post_300 : decode cX5_post 300 = .ok (.iload 8, 2) := by decide +kernel
theorem dX5_post_302 : decode cX5_post 302 = .ok (.invokevirtual 129, 3) := by decide +kernel
theorem dX5_post_305 : decode cX5_post 305 = .ok (.iload 7, 2) := by decide +kernel
theorem dX5_post_307 : decode cX5_post 307 = .ok (.ireturn, 1) := by decide +kernel
set_option maxRecDepth 1000000 in
theorem ggX5_delete_X5_in : GoodIn wsX5_delete wsX5_in := goodIn_r _ [11] rfl (by decide +kernel)
set_option maxRecDepth 20000 in
theorem gX5_delete_X5_in : GoodIn wsX5_delete (va_wsS RX5 84 yX5_in wsX5_in) := goodIn_app (goodIn_of _ (by decide +kernel)) ggX5_delete_X5_in
set_option maxRecDepth 1000000 in
theorem ggX5_delete_X5_acts : GoodIn wsX5_delete wsX5_acts := goodIn_r _ [15, 16, 17, 18, 19, 20, 3, 21, 22, 23, 10, 24, 25, 26, 27, 28, 29, 30, 31, 32, 33, 34, 35, 36, 37, 38, 39, 40, 5, 4, 7, 41, 42, 43, 44, 45, 46, 47, 6, 48, 49, 50, 51, 52, 53, 54, 55, 56, 57, 58, 59, 60, 61, 62, 63, 64, 65, 66, 67, 68, 69, 70, 71, 72, 73, 74, 75, 76, 77, 78, 79, 80, 81, 82, 83, 84, 85, 86, 87, 88, 89, 90, 91, 92, 93, 94, 95, 96, 97] rfl (by decide +kernel)
set_option maxRecDepth 20000 in
theorem gX5_delete_X5_acts : GoodIn wsX5_delete (wsV RX5 129 RX5 yX5_acts wsX5_acts) := goodIn_app (goodIn_of _ (by decide +kernel)) ggX5_delete_X5_acts
theorem dX5_delete_0 : decode cX5_delete 0 = .ok (.iload_n 1, 1) := by decide +kernel
theorem dX5_delete_1 : decode cX5_delete 1 = .ok (.iconst 0, 1) := by decide +kernel
theorem dX5_delete_2 : decode cX5_delete 2 = .ok (.aload_n 0, 1) := by decide +kernel
theorem dX5_delete_3 : decode cX5_delete 3 = .ok (.getfield 136, 3) := by decide +kernel
theorem dX5_delete_6 : decode cX5_delete 6 = .ok (.iconst 1, 1) := by decide +kernel
theorem dX5_delete_7 : decode cX5_delete 7 = .ok (.isub, 1) := by decide +kernel
theorem dX5_delete_8 : decode cX5_delete 8 = .ok (.invokestatic 84, 3) := by decide +kernel
theorem dX5_delete_11 : decode cX5_delete 11 = .ok (.ifCond .ne 10, 3) := by decide +kernel
theorem dX5_delete_14 : decode cX5_delete 14 = .ok (.aload_n 0, 1) := by decide +kernel
theorem dX5_delete_15 : decode cX5_delete 15 = .ok (.iconst 1, 1) := by decide +kernel
theorem dX5_delete_16 : decode cX5_delete 16 = .ok (.putfield 77, 3) := by decide +kernel
theorem dX5_delete_19 : decode cX5_delete 19 = .ok (.iconst 0, 1) := by decide +kernel
theorem dX5_delete_20 : decode cX5_delete 20 = .ok (.ireturn, 1) := by decide +kernel
theorem dX5_delete_21 : decode cX5_delete 21 = .ok (.aload_n 0, 1) := by decide +kernel
theorem dX5_delete_22 : decode cX5_delete 22 = .ok (.getfield 7, 3) := by decide +kernel
theorem dX5_delete_25 : decode cX5_delete 25 = .ok (.aload_n 0, 1) := by decide +kernel
theorem dX5_delete_26 : decode cX5_delete 26 = .ok (.getfield 38, 3) := by decide +kernel
theorem dX5_delete_29 : decode cX5_delete 29 = .ok (.iload_n 1, 1) := by decide +kernel
theorem dX5_delete_30 : decode cX5_delete 30 = .ok (.iaload, 1) := by decide +kernel
theorem dX5_delete_31 : decode cX5_delete 31 = .ok (.iaload, 1) := by decide +kernel
theorem dX5_delete_32 : decode cX5_delete 32 = .ok (.istore_n 2, 1) := by decide +kernel
theorem dX5_delete_33 : decode cX5_delete 33 = .ok (.aload_n 0, 1) := by decide +kernel
theorem dX5_delete_34 : decode cX5_delete 34 = .ok (.aload_n 0, 1) := by decide +kernel
theorem dX5_delete_35 : decode cX5_delete 35 = .ok (.getfield 29, 3) := by decide +kernel
theorem dX5_delete_38 : decode cX5_delete 38 = .ok (.bipush 50, 2) := by decide +kernel
theorem dX5_delete_40 : decode cX5_delete 40 = .ok (.iload_n 2, 1) := by decide +kernel
theorem dX5_delete_41 : decode cX5_delete 41 = .ok (.imul, 1) := by decide +kernel
theorem dX5_delete_42 : decode cX5_delete 42 = .ok (.iload_n 1, 1) := by decide +kernel
theorem dX5_delete_43 : decode cX5_delete 43 = .ok (.iadd, 1) := by decide +kernel
theorem dX5_delete_44 : decode cX5_delete 44 = .ok (.baload, 1) := by decide +kernel
theorem dX5_delete_45 : decode cX5_delete 45 = .ok (.ifCond .eq 7, 3) := by decide +kernel
theorem dX5_delete_48 : decode cX5_delete 48 = .ok (.iconst 2, 1) := by decide +kernel
theorem dX5_delete_49 : decode cX5_delete 49 = .ok (.goto 4, 3) := by decide +kernel
theorem dX5_delete_52 : decode cX5_delete 52 = .ok (.iconst 0, 1) := by decide +kernel
theorem dX5_delete_53 : decode cX5_delete 53 = .ok (.putfield 77, 3) := by decide +kernel
theorem dX5_delete_56 : decode cX5_delete 56 = .ok (.aload_n 0, 1) := by decide +kernel
theorem dX5_delete_57 : decode cX5_delete 57 = .ok (.getfield 77, 3) := by decide +kernel
theorem dX5_delete_60 : decode cX5_delete 60 = .ok (.ifCond .eq 5, 3) := by decide +kernel
theorem dX5_delete_63 : decode cX5_delete 63 = .ok (.iconst 0, 1) := by decide +kernel
theorem dX5_delete_64 : decode cX5_delete 64 = .ok (.ireturn, 1) := by decide +kernel
theorem dX5_delete_65 : decode cX5_delete 65 = .ok (.aload_n 0, 1) := by decide +kernel
theorem dX5_delete_66 : decode cX5_delete 66 = .ok (.getfield 50, 3) := by decide +kernel
theorem dX5_delete_69 : decode cX5_delete 69 = .ok (.iload_n 1, 1) := by decide +kernel
theorem dX5_delete_70 : decode cX5_delete 70 = .ok (.iaload, 1) := by decide +kernel
theorem dX5_delete_71 : decode cX5_delete 71 = .ok (.aload_n 0, 1) := by decide +kernel
theorem dX5_delete_72 : decode cX5_delete 72 = .ok (.getfield 32, 3) := by decide +kernel
theorem dX5_delete_75 : decode cX5_delete 75 = .ok (.bipush 50, 2) := by decide +kernel
theorem dX5_delete_77 : decode cX5_delete 77 = .ok (.iload_n 2, 1) := by decide +kernel
theorem dX5_delete_78 : decode cX5_delete 78 = .ok (.imul, 1) := by decide +kernel
theorem dX5_delete_79 : decode cX5_delete 79 = .ok (.iload_n 1, 1) := by decide +kernel
theorem dX5_delete_80 : decode cX5_delete 80 = .ok (.iadd, 1) := by decide +kernel
theorem dX5_delete_81 : decode cX5_delete 81 = .ok (.iaload, 1) := by decide +kernel
theorem dX5_delete_82 : decode cX5_delete 82 = .ok (.ior, 1) := by decide +kernel
theorem dX5_delete_83 : decode cX5_delete 83 = .ok (.istore_n 3, 1) := by decide +kernel
theorem dX5_delete_84 : decode cX5_delete 84 = .ok (.aload_n 0, 1) := by decide +kernel
theorem dX5_delete_85 : decode cX5_delete 85 = .ok (.bipush 9, 2) := by decide +kernel
theorem dX5_delete_87 : decode cX5_delete 87 = .ok (.aload_n 0, 1) := by decide +kernel
theorem dX5_delete_88 : decode cX5_delete 88 = .ok (.getfield 38, 3) := by decide +kernel
theorem dX5_delete_91 : decode cX5_delete 91 = .ok (.iload_n 1, 1) := by decide +kernel
theorem dX5_delete_92 : decode cX5_delete 92 = .ok (.iaload, 1) := by decide +kernel
theorem dX5_delete_93 : decode cX5_delete 93 = .ok (.iload_n 1, 1) := by decide +kernel
theorem dX5_delete_94 : decode cX5_delete 94 = .ok (.iconst 0, 1) := by decide +kernel
theorem dX5_delete_95 : decode cX5_delete 95 = .ok (.iload_n 3, 1) := by decide +kernel
theorem dX5_delete_96 : decode cX5_delete 96 = .ok (.invokevirtual 129, 3) := by decide +kernel
theorem dX5_delete_99 : decode cX5_delete 99 = .ok (.iconst 0, 1) := by decide +kernel
theorem dX5_delete_100 : decode cX5_delete 100 = .ok (.istore 4, 2) := by decide +kernel
theorem dX5_delete_102 : decode cX5_delete 102 = .ok (.iconst 0, 1) := by decide +kernel
theorem dX5_delete_103 : decode cX5_delete 103 = .ok (.istore 5, 2) := by decide +kernel
theorem dX5_delete_105 : decode cX5_delete 105 = .ok (.iload 5, 2) := by decide +kernel
theorem dX5_delete_107 : decode cX5_delete 107 = .ok (.iconst 4, 1) := by decide +kernel
theorem dX5_delete_108 : decode cX5_delete 108 = .ok (.if_icmp .ge 20, 3) := by decide +kernel
theorem dX5_delete_111 : decode cX5_delete 111 = .ok (.iload 4, 2) := by decide +kernel
theorem dX5_delete_113 : decode cX5_delete 113 = .ok (.iload_n 3, 1) := by decide +kernel
theorem dX5_delete_114 : decode cX5_delete 114 = .ok (.iload 5, 2) := by decide +kernel
theorem dX5_delete_116 : decode cX5_delete 116 = .ok (.ishr, 1) := by decide +kernel
theorem dX5_delete_117 : decode cX5_delete 117 = .ok (.iconst 1, 1) := by decide +kernel
theorem dX5_delete_118 : decode cX5_delete 118 = .ok (.iand, 1) := by decide +kernel
theorem dX5_delete_119 : decode cX5_delete 119 = .ok (.iadd, 1) := by decide +kernel
theorem dX5_delete_120 : decode cX5_delete 120 = .ok (.istore 4, 2) := by decide +kernel
theorem dX5_delete_122 : decode cX5_delete 122 = .ok (.iinc 5 1, 3) := by decide +kernel
theorem dX5_delete_125 : decode cX5_delete 125 = .ok (.goto (-20), 3) := by decide +kernel
theorem dX5_delete_128 : decode cX5_delete 128 = .ok (.iload 4, 2) := by decide +kernel
theorem dX5_delete_130 : decode cX5_delete 130 = .ok (.ireturn, 1) := by decide +kernel
set_option maxRecDepth 1000000 in
theorem ggX5_boost_X5_isOne : GoodIn wsX5_boost wsX5_isOne := goodIn_r _ [11, 12, 13, 14, 10, 15, 85, 86, 87, 88, 89, 90, 91, 92, 93, 94, 95, 96, 97, 98, 99, 100, 101, 102, 103, 104, 105, 106, 107, 108, 109, 110] rfl (by decide +kernel)
set_option maxRecDepth 20000 in
theorem gX5_boost_X5_isOne : GoodIn wsX5_boost (wsV RX5 125 RX5 yX5_isOne wsX5_isOne) := goodIn_app (goodIn_of _ (by decide +kernel)) ggX5_boost_X5_isOne
set_option maxRecDepth 1000000 in
theorem ggX5_boost_X5_in : GoodIn wsX5_boost wsX5_in := goodIn_r _ [15] rfl (by decide +kernel)
set_option maxRecDepth 20000 in
theorem gX5_boost_X5_in : GoodIn wsX5_boost (va_wsS RX5 84 yX5_in wsX5_in) := goodIn_app (goodIn_of _ (by decide +kernel)) ggX5_boost_X5_in
set_option maxRecDepth 1000000 in
theorem ggX5_boost_X5_seen : GoodIn wsX5_boost wsX5_seen := goodIn_r _ [19, 5, 20, 6, 3, 21, 22, 23, 24, 10, 25, 26, 27, 28, 29, 30, 31, 32, 33, 34, 85, 86, 87, 88, 89, 90, 91, 92, 93, 94, 95, 96, 97, 98, 99, 100, 101, 102, 103, 104, 105, 106, 107, 108, 109, 110] rfl (by decide +kernel)
set_option maxRecDepth 20000 in
theorem gX5_boost_X5_seen : GoodIn wsX5_boost (wsV RX5 139 RX5 yX5_seen wsX5_seen) := goodIn_app (goodIn_of _ (by decide +kernel)) ggX5_boost_X5_seen
set_option maxRecDepth 1000000 in
theorem ggX5_boost_X5_servers : GoodIn wsX5_boost wsX5_servers := goodIn_r _ [38, 12, 21, 5, 27, 28, 10, 29, 85, 86, 87, 88, 89, 90, 91, 92, 93, 94, 95, 96, 97, 98, 99, 100, 101, 102, 103, 104, 105, 106, 107, 108, 109, 110] rfl (by decide +kernel)
set_option maxRecDepth 20000 in
theorem gX5_boost_X5_servers : GoodIn wsX5_boost (wsV RX5 98 RX5 yX5_servers wsX5_servers) := goodIn_app (goodIn_of _ (by decide +kernel)) ggX5_boost_X5_servers
set_option maxRecDepth 1000000 in
theorem ggX5_boost_X5_acts : GoodIn wsX5_boost wsX5_acts := goodIn_r _ [42, 43, 44, 45, 46, 47, 5, 48, 49, 50, 10, 51, 52, 53, 54, 55, 56, 57, 58, 59, 21, 60, 26, 61, 62, 63, 64, 20, 65, 6, 66, 4, 67, 68, 69, 70, 3, 71, 72, 35, 36, 37, 38, 12, 27, 28, 29, 22, 23, 24, 25, 73, 74, 75, 76, 77, 78, 79, 80, 81, 82, 83, 84, 85, 86, 87, 88, 89, 90, 91, 92, 93, 94, 95, 96, 97, 98, 99, 100, 101, 102, 103, 104, 105, 106, 107, 108, 109, 110] rfl (by decide +kernel)
set_option maxRecDepth 20000 in
theorem gX5_boost_X5_acts : GoodIn wsX5_boost (wsV RX5 129 RX5 yX5_acts wsX5_acts) := goodIn_app (goodIn_of _ (by decide +kernel)) ggX5_boost_X5_acts
theorem dX5_boost_0 : decode cX5_boost 0 = .ok (.aload_n 0, 1) := by decide +kernel
theorem dX5_boost_1 : decode cX5_boost 1 = .ok (.aload_n 0, 1) := by decide +kernel
theorem dX5_boost_2 : decode cX5_boost 2 = .ok (.iload_n 1, 1) := by decide +kernel
theorem dX5_boost_3 : decode cX5_boost 3 = .ok (.invokevirtual 125, 3) := by decide +kernel
theorem dX5_boost_6 : decode cX5_boost 6 = .ok (.ifCond .eq 17, 3) := by decide +kernel
theorem dX5_boost_9 : decode cX5_boost 9 = .ok (.iload_n 2, 1) := by decide +kernel
theorem dX5_boost_10 : decode cX5_boost 10 = .ok (.iconst 0, 1) := by decide +kernel
theorem dX5_boost_11 : decode cX5_boost 11 = .ok (.aload_n 0, 1) := by decide +kernel
theorem dX5_boost_12 : decode cX5_boost 12 = .ok (.getfield 136, 3) := by decide +kernel
theorem dX5_boost_15 : decode cX5_boost 15 = .ok (.iconst 1, 1) := by decide +kernel
theorem dX5_boost_16 : decode cX5_boost 16 = .ok (.isub, 1) := by decide +kernel
theorem dX5_boost_17 : decode cX5_boost 17 = .ok (.invokestatic 84, 3) := by decide +kernel
theorem dX5_boost_20 : decode cX5_boost 20 = .ok (.ifCond .ne 7, 3) := by decide +kernel
theorem dX5_boost_23 : decode cX5_boost 23 = .ok (.iconst 1, 1) := by decide +kernel
theorem dX5_boost_24 : decode cX5_boost 24 = .ok (.goto 4, 3) := by decide +kernel
theorem dX5_boost_27 : decode cX5_boost 27 = .ok (.iconst 0, 1) := by decide +kernel
theorem dX5_boost_28 : decode cX5_boost 28 = .ok (.putfield 77, 3) := by decide +kernel
theorem dX5_boost_31 : decode cX5_boost 31 = .ok (.aload_n 0, 1) := by decide +kernel
theorem dX5_boost_32 : decode cX5_boost 32 = .ok (.getfield 77, 3) := by decide +kernel
theorem dX5_boost_35 : decode cX5_boost 35 = .ok (.ifCond .eq 4, 3) := by decide +kernel
theorem dX5_boost_38 : decode cX5_boost 38 = .ok (.return_, 1) := by decide +kernel
theorem dX5_boost_39 : decode cX5_boost 39 = .ok (.aload_n 0, 1) := by decide +kernel
theorem dX5_boost_40 : decode cX5_boost 40 = .ok (.aload_n 0, 1) := by decide +kernel
theorem dX5_boost_41 : decode cX5_boost 41 = .ok (.iload_n 1, 1) := by decide +kernel
theorem dX5_boost_42 : decode cX5_boost 42 = .ok (.iload_n 2, 1) := by decide +kernel
theorem dX5_boost_43 : decode cX5_boost 43 = .ok (.invokevirtual 139, 3) := by decide +kernel
theorem dX5_boost_46 : decode cX5_boost 46 = .ok (.ifCond .eq 37, 3) := by decide +kernel
theorem dX5_boost_49 : decode cX5_boost 49 = .ok (.aload_n 0, 1) := by decide +kernel
theorem dX5_boost_50 : decode cX5_boost 50 = .ok (.getfield 41, 3) := by decide +kernel
theorem dX5_boost_53 : decode cX5_boost 53 = .ok (.iload_n 2, 1) := by decide +kernel
theorem dX5_boost_54 : decode cX5_boost 54 = .ok (.iaload, 1) := by decide +kernel
theorem dX5_boost_55 : decode cX5_boost 55 = .ok (.ifCond .ne 28, 3) := by decide +kernel
theorem dX5_boost_58 : decode cX5_boost 58 = .ok (.aload_n 0, 1) := by decide +kernel
theorem dX5_boost_59 : decode cX5_boost 59 = .ok (.getfield 35, 3) := by decide +kernel
theorem dX5_boost_62 : decode cX5_boost 62 = .ok (.sipush 500, 3) := by decide +kernel
theorem dX5_boost_65 : decode cX5_boost 65 = .ok (.aload_n 0, 1) := by decide +kernel
theorem dX5_boost_66 : decode cX5_boost 66 = .ok (.getfield 7, 3) := by decide +kernel
theorem dX5_boost_69 : decode cX5_boost 69 = .ok (.iload_n 1, 1) := by decide +kernel
theorem dX5_boost_70 : decode cX5_boost 70 = .ok (.iaload, 1) := by decide +kernel
theorem dX5_boost_71 : decode cX5_boost 71 = .ok (.imul, 1) := by decide +kernel
theorem dX5_boost_72 : decode cX5_boost 72 = .ok (.bipush 50, 2) := by decide +kernel
theorem dX5_boost_74 : decode cX5_boost 74 = .ok (.iload_n 1, 1) := by decide +kernel
theorem dX5_boost_75 : decode cX5_boost 75 = .ok (.imul, 1) := by decide +kernel
theorem dX5_boost_76 : decode cX5_boost 76 = .ok (.iadd, 1) := by decide +kernel
theorem dX5_boost_77 : decode cX5_boost 77 = .ok (.iload_n 2, 1) := by decide +kernel
theorem dX5_boost_78 : decode cX5_boost 78 = .ok (.iadd, 1) := by decide +kernel
theorem dX5_boost_79 : decode cX5_boost 79 = .ok (.baload, 1) := by decide +kernel
theorem dX5_boost_80 : decode cX5_boost 80 = .ok (.ifCond .eq 7, 3) := by decide +kernel
theorem dX5_boost_83 : decode cX5_boost 83 = .ok (.iconst 2, 1) := by decide +kernel
theorem dX5_boost_84 : decode cX5_boost 84 = .ok (.goto 4, 3) := by decide +kernel
theorem dX5_boost_87 : decode cX5_boost 87 = .ok (.iconst 0, 1) := by decide +kernel
theorem dX5_boost_88 : decode cX5_boost 88 = .ok (.putfield 77, 3) := by decide +kernel
theorem dX5_boost_91 : decode cX5_boost 91 = .ok (.aload_n 0, 1) := by decide +kernel
theorem dX5_boost_92 : decode cX5_boost 92 = .ok (.getfield 77, 3) := by decide +kernel
theorem dX5_boost_95 : decode cX5_boost 95 = .ok (.ifCond .ne 37, 3) := by decide +kernel
theorem dX5_boost_98 : decode cX5_boost 98 = .ok (.aload_n 0, 1) := by decide +kernel
theorem dX5_boost_99 : decode cX5_boost 99 = .ok (.bipush 10, 2) := by decide +kernel
theorem dX5_boost_101 : decode cX5_boost 101 = .ok (.iload_n 1, 1) := by decide +kernel
theorem dX5_boost_102 : decode cX5_boost 102 = .ok (.iload_n 2, 1) := by decide +kernel
theorem dX5_boost_103 : decode cX5_boost 103 = .ok (.iconst 0, 1) := by decide +kernel
theorem dX5_boost_104 : decode cX5_boost 104 = .ok (.aload_n 0, 1) := by decide +kernel
theorem dX5_boost_105 : decode cX5_boost 105 = .ok (.aload_n 0, 1) := by decide +kernel
theorem dX5_boost_106 : decode cX5_boost 106 = .ok (.getfield 7, 3) := by decide +kernel
theorem dX5_boost_109 : decode cX5_boost 109 = .ok (.iload_n 1, 1) := by decide +kernel
theorem dX5_boost_110 : decode cX5_boost 110 = .ok (.iaload, 1) := by decide +kernel
theorem dX5_boost_111 : decode cX5_boost 111 = .ok (.iload_n 1, 1) := by decide +kernel
theorem dX5_boost_112 : decode cX5_boost 112 = .ok (.invokevirtual 98, 3) := by decide +kernel
theorem dX5_boost_115 : decode cX5_boost 115 = .ok (.iconst 1, 1) := by decide +kernel
theorem dX5_boost_116 : decode cX5_boost 116 = .ok (.aload_n 0, 1) := by decide +kernel
theorem dX5_boost_117 : decode cX5_boost 117 = .ok (.getfield 7, 3) := by decide +kernel
theorem dX5_boost_120 : decode cX5_boost 120 = .ok (.aload_n 0, 1) := by decide +kernel
theorem dX5_boost_121 : decode cX5_boost 121 = .ok (.getfield 38, 3) := by decide +kernel
theorem dX5_boost_124 : decode cX5_boost 124 = .ok (.iload_n 2, 1) := by decide +kernel
theorem dX5_boost_125 : decode cX5_boost 125 = .ok (.iaload, 1) := by decide +kernel
theorem dX5_boost_126 : decode cX5_boost 126 = .ok (.iaload, 1) := by decide +kernel
theorem dX5_boost_127 : decode cX5_boost 127 = .ok (.ishl, 1) := by decide +kernel
theorem dX5_boost_128 : decode cX5_boost 128 = .ok (.ior, 1) := by decide +kernel
theorem dX5_boost_129 : decode cX5_boost 129 = .ok (.invokevirtual 129, 3) := by decide +kernel
theorem dX5_boost_132 : decode cX5_boost 132 = .ok (.return_, 1) := by decide +kernel
set_option maxRecDepth 1000000 in
theorem ggX5_deliver_X5_in : GoodIn wsX5_deliver wsX5_in := goodIn_r _ [10] rfl (by decide +kernel)
set_option maxRecDepth 20000 in
theorem gX5_deliver_X5_in : GoodIn wsX5_deliver (va_wsS RX5 84 yX5_in wsX5_in) := goodIn_app (goodIn_of _ (by decide +kernel)) ggX5_deliver_X5_in
set_option maxRecDepth 1000000 in
theorem ggX5_deliver_X5_does : GoodIn wsX5_deliver wsX5_does := goodIn_r _ [14, 5, 15, 16, 6, 17, 18, 19, 20, 21, 22, 23, 24, 9, 25, 26, 27, 28, 29, 30, 31, 32, 33, 34, 35, 36, 37, 38, 39, 40, 41, 42, 43, 44, 45, 46, 47, 48, 49, 50, 4, 3, 51, 52, 53, 54, 55, 56, 57, 58, 59, 60, 61, 62, 63, 64, 65, 66, 67, 68, 69, 70, 71, 72, 73, 74, 75, 76, 77, 78, 79, 80, 81, 82, 83, 84, 85, 86, 87, 88, 89, 90, 91, 92] rfl (by decide +kernel)
set_option maxRecDepth 20000 in
theorem gX5_deliver_X5_does : GoodIn wsX5_deliver (wsV RX5 122 RX5 yX5_does wsX5_does) := goodIn_app (goodIn_of _ (by decide +kernel)) ggX5_deliver_X5_does
theorem dX5_deliver_0 : decode cX5_deliver 0 = .ok (.aload_n 0, 1) := by decide +kernel
theorem dX5_deliver_1 : decode cX5_deliver 1 = .ok (.iload_n 1, 1) := by decide +kernel
theorem dX5_deliver_2 : decode cX5_deliver 2 = .ok (.iconst 0, 1) := by decide +kernel
theorem dX5_deliver_3 : decode cX5_deliver 3 = .ok (.iconst 3, 1) := by decide +kernel
theorem dX5_deliver_4 : decode cX5_deliver 4 = .ok (.invokestatic 84, 3) := by decide +kernel
theorem dX5_deliver_7 : decode cX5_deliver 7 = .ok (.ifCond .eq 7, 3) := by decide +kernel
theorem dX5_deliver_10 : decode cX5_deliver 10 = .ok (.iconst 0, 1) := by decide +kernel
theorem dX5_deliver_11 : decode cX5_deliver 11 = .ok (.goto 4, 3) := by decide +kernel
theorem dX5_deliver_14 : decode cX5_deliver 14 = .ok (.iconst 1, 1) := by decide +kernel
theorem dX5_deliver_15 : decode cX5_deliver 15 = .ok (.putfield 77, 3) := by decide +kernel
theorem dX5_deliver_18 : decode cX5_deliver 18 = .ok (.aload_n 0, 1) := by decide +kernel
theorem dX5_deliver_19 : decode cX5_deliver 19 = .ok (.getfield 77, 3) := by decide +kernel
theorem dX5_deliver_22 : decode cX5_deliver 22 = .ok (.ifCond .ne 18, 3) := by decide +kernel
theorem dX5_deliver_25 : decode cX5_deliver 25 = .ok (.aload_n 0, 1) := by decide +kernel
theorem dX5_deliver_26 : decode cX5_deliver 26 = .ok (.getfield 71, 3) := by decide +kernel
theorem dX5_deliver_29 : decode cX5_deliver 29 = .ok (.iload_n 1, 1) := by decide +kernel
theorem dX5_deliver_30 : decode cX5_deliver 30 = .ok (.iaload, 1) := by decide +kernel
theorem dX5_deliver_31 : decode cX5_deliver 31 = .ok (.aload_n 0, 1) := by decide +kernel
theorem dX5_deliver_32 : decode cX5_deliver 32 = .ok (.getfield 74, 3) := by decide +kernel
theorem dX5_deliver_35 : decode cX5_deliver 35 = .ok (.iload_n 1, 1) := by decide +kernel
theorem dX5_deliver_36 : decode cX5_deliver 36 = .ok (.iaload, 1) := by decide +kernel
theorem dX5_deliver_37 : decode cX5_deliver 37 = .ok (.if_icmp .ne 16, 3) := by decide +kernel
theorem dX5_deliver_40 : decode cX5_deliver 40 = .ok (.aload_n 0, 1) := by decide +kernel
theorem dX5_deliver_41 : decode cX5_deliver 41 = .ok (.getfield 77, 3) := by decide +kernel
theorem dX5_deliver_44 : decode cX5_deliver 44 = .ok (.ifCond .eq 7, 3) := by decide +kernel
theorem dX5_deliver_47 : decode cX5_deliver 47 = .ok (.iconst 0, 1) := by decide +kernel
theorem dX5_deliver_48 : decode cX5_deliver 48 = .ok (.goto 4, 3) := by decide +kernel
theorem dX5_deliver_51 : decode cX5_deliver 51 = .ok (.iconst (-1), 1) := by decide +kernel
theorem dX5_deliver_52 : decode cX5_deliver 52 = .ok (.ireturn, 1) := by decide +kernel
theorem dX5_deliver_53 : decode cX5_deliver 53 = .ok (.aload_n 0, 1) := by decide +kernel
theorem dX5_deliver_54 : decode cX5_deliver 54 = .ok (.getfield 68, 3) := by decide +kernel
theorem dX5_deliver_57 : decode cX5_deliver 57 = .ok (.sipush 1200, 3) := by decide +kernel
theorem dX5_deliver_60 : decode cX5_deliver 60 = .ok (.iload_n 1, 1) := by decide +kernel
theorem dX5_deliver_61 : decode cX5_deliver 61 = .ok (.imul, 1) := by decide +kernel
theorem dX5_deliver_62 : decode cX5_deliver 62 = .ok (.aload_n 0, 1) := by decide +kernel
theorem dX5_deliver_63 : decode cX5_deliver 63 = .ok (.getfield 71, 3) := by decide +kernel
theorem dX5_deliver_66 : decode cX5_deliver 66 = .ok (.iload_n 1, 1) := by decide +kernel
theorem dX5_deliver_67 : decode cX5_deliver 67 = .ok (.iaload, 1) := by decide +kernel
theorem dX5_deliver_68 : decode cX5_deliver 68 = .ok (.iadd, 1) := by decide +kernel
theorem dX5_deliver_69 : decode cX5_deliver 69 = .ok (.iaload, 1) := by decide +kernel
theorem dX5_deliver_70 : decode cX5_deliver 70 = .ok (.istore_n 2, 1) := by decide +kernel
theorem dX5_deliver_71 : decode cX5_deliver 71 = .ok (.aload_n 0, 1) := by decide +kernel
theorem dX5_deliver_72 : decode cX5_deliver 72 = .ok (.getfield 71, 3) := by decide +kernel
theorem dX5_deliver_75 : decode cX5_deliver 75 = .ok (.iload_n 1, 1) := by decide +kernel
theorem dX5_deliver_76 : decode cX5_deliver 76 = .ok (.dup2, 1) := by decide +kernel
theorem dX5_deliver_77 : decode cX5_deliver 77 = .ok (.iaload, 1) := by decide +kernel
theorem dX5_deliver_78 : decode cX5_deliver 78 = .ok (.iconst 1, 1) := by decide +kernel
theorem dX5_deliver_79 : decode cX5_deliver 79 = .ok (.iadd, 1) := by decide +kernel
theorem dX5_deliver_80 : decode cX5_deliver 80 = .ok (.iastore, 1) := by decide +kernel
theorem dX5_deliver_81 : decode cX5_deliver 81 = .ok (.aload_n 0, 1) := by decide +kernel
theorem dX5_deliver_82 : decode cX5_deliver 82 = .ok (.getfield 65, 3) := by decide +kernel
theorem dX5_deliver_85 : decode cX5_deliver 85 = .ok (.sipush 600, 3) := by decide +kernel
theorem dX5_deliver_88 : decode cX5_deliver 88 = .ok (.iload_n 1, 1) := by decide +kernel
theorem dX5_deliver_89 : decode cX5_deliver 89 = .ok (.imul, 1) := by decide +kernel
theorem dX5_deliver_90 : decode cX5_deliver 90 = .ok (.iload_n 2, 1) := by decide +kernel
theorem dX5_deliver_91 : decode cX5_deliver 91 = .ok (.iadd, 1) := by decide +kernel
theorem dX5_deliver_92 : decode cX5_deliver 92 = .ok (.baload, 1) := by decide +kernel
theorem dX5_deliver_93 : decode cX5_deliver 93 = .ok (.ifCond .ne 9, 3) := by decide +kernel
theorem dX5_deliver_96 : decode cX5_deliver 96 = .ok (.aload_n 0, 1) := by decide +kernel
theorem dX5_deliver_97 : decode cX5_deliver 97 = .ok (.iload_n 1, 1) := by decide +kernel
theorem dX5_deliver_98 : decode cX5_deliver 98 = .ok (.iload_n 2, 1) := by decide +kernel
theorem dX5_deliver_99 : decode cX5_deliver 99 = .ok (.invokevirtual 122, 3) := by decide +kernel
theorem dX5_deliver_102 : decode cX5_deliver 102 = .ok (.aload_n 0, 1) := by decide +kernel
theorem dX5_deliver_103 : decode cX5_deliver 103 = .ok (.getfield 53, 3) := by decide +kernel
theorem dX5_deliver_106 : decode cX5_deliver 106 = .ok (.iload_n 2, 1) := by decide +kernel
theorem dX5_deliver_107 : decode cX5_deliver 107 = .ok (.iaload, 1) := by decide +kernel
theorem dX5_deliver_108 : decode cX5_deliver 108 = .ok (.ireturn, 1) := by decide +kernel
set_option maxRecDepth 1000000 in
theorem ggX5_repeat_X5_in : GoodIn wsX5_repeat wsX5_in := goodIn_r _ [8] rfl (by decide +kernel)
set_option maxRecDepth 20000 in
theorem gX5_repeat_X5_in : GoodIn wsX5_repeat (va_wsS RX5 84 yX5_in wsX5_in) := goodIn_app (goodIn_of _ (by decide +kernel)) ggX5_repeat_X5_in
theorem dX5_repeat_0 : decode cX5_repeat 0 = .ok (.aload_n 0, 1) := by decide +kernel
theorem dX5_repeat_1 : decode cX5_repeat 1 = .ok (.iload_n 1, 1) := by decide +kernel
theorem dX5_repeat_2 : decode cX5_repeat 2 = .ok (.iconst 0, 1) := by decide +kernel
theorem dX5_repeat_3 : decode cX5_repeat 3 = .ok (.iconst 3, 1) := by decide +kernel
theorem dX5_repeat_4 : decode cX5_repeat 4 = .ok (.invokestatic 84, 3) := by decide +kernel
theorem dX5_repeat_7 : decode cX5_repeat 7 = .ok (.ifCond .eq 7, 3) := by decide +kernel
theorem dX5_repeat_10 : decode cX5_repeat 10 = .ok (.iconst 0, 1) := by decide +kernel
theorem dX5_repeat_11 : decode cX5_repeat 11 = .ok (.goto 4, 3) := by decide +kernel
theorem dX5_repeat_14 : decode cX5_repeat 14 = .ok (.iconst 1, 1) := by decide +kernel
theorem dX5_repeat_15 : decode cX5_repeat 15 = .ok (.putfield 77, 3) := by decide +kernel
theorem dX5_repeat_18 : decode cX5_repeat 18 = .ok (.aload_n 0, 1) := by decide +kernel
theorem dX5_repeat_19 : decode cX5_repeat 19 = .ok (.getfield 77, 3) := by decide +kernel
theorem dX5_repeat_22 : decode cX5_repeat 22 = .ok (.ifCond .ne 12, 3) := by decide +kernel
theorem dX5_repeat_25 : decode cX5_repeat 25 = .ok (.aload_n 0, 1) := by decide +kernel
theorem dX5_repeat_26 : decode cX5_repeat 26 = .ok (.getfield 71, 3) := by decide +kernel
theorem dX5_repeat_29 : decode cX5_repeat 29 = .ok (.iload_n 1, 1) := by decide +kernel
theorem dX5_repeat_30 : decode cX5_repeat 30 = .ok (.iaload, 1) := by decide +kernel
theorem dX5_repeat_31 : decode cX5_repeat 31 = .ok (.ifCond .ne 16, 3) := by decide +kernel
theorem dX5_repeat_34 : decode cX5_repeat 34 = .ok (.aload_n 0, 1) := by decide +kernel
theorem dX5_repeat_35 : decode cX5_repeat 35 = .ok (.getfield 77, 3) := by decide +kernel
theorem dX5_repeat_38 : decode cX5_repeat 38 = .ok (.ifCond .eq 7, 3) := by decide +kernel
theorem dX5_repeat_41 : decode cX5_repeat 41 = .ok (.iconst 0, 1) := by decide +kernel
theorem dX5_repeat_42 : decode cX5_repeat 42 = .ok (.goto 4, 3) := by decide +kernel
theorem dX5_repeat_45 : decode cX5_repeat 45 = .ok (.iconst (-1), 1) := by decide +kernel
theorem dX5_repeat_46 : decode cX5_repeat 46 = .ok (.ireturn, 1) := by decide +kernel
theorem dX5_repeat_47 : decode cX5_repeat 47 = .ok (.aload_n 0, 1) := by decide +kernel
theorem dX5_repeat_48 : decode cX5_repeat 48 = .ok (.getfield 53, 3) := by decide +kernel
theorem dX5_repeat_51 : decode cX5_repeat 51 = .ok (.aload_n 0, 1) := by decide +kernel
theorem dX5_repeat_52 : decode cX5_repeat 52 = .ok (.getfield 68, 3) := by decide +kernel
theorem dX5_repeat_55 : decode cX5_repeat 55 = .ok (.sipush 1200, 3) := by decide +kernel
theorem dX5_repeat_58 : decode cX5_repeat 58 = .ok (.iload_n 1, 1) := by decide +kernel
theorem dX5_repeat_59 : decode cX5_repeat 59 = .ok (.imul, 1) := by decide +kernel
theorem dX5_repeat_60 : decode cX5_repeat 60 = .ok (.aload_n 0, 1) := by decide +kernel
theorem dX5_repeat_61 : decode cX5_repeat 61 = .ok (.getfield 71, 3) := by decide +kernel
theorem dX5_repeat_64 : decode cX5_repeat 64 = .ok (.iload_n 1, 1) := by decide +kernel
theorem dX5_repeat_65 : decode cX5_repeat 65 = .ok (.iaload, 1) := by decide +kernel
theorem dX5_repeat_66 : decode cX5_repeat 66 = .ok (.iadd, 1) := by decide +kernel
theorem dX5_repeat_67 : decode cX5_repeat 67 = .ok (.iconst 1, 1) := by decide +kernel
theorem dX5_repeat_68 : decode cX5_repeat 68 = .ok (.isub, 1) := by decide +kernel
theorem dX5_repeat_69 : decode cX5_repeat 69 = .ok (.iaload, 1) := by decide +kernel
theorem dX5_repeat_70 : decode cX5_repeat 70 = .ok (.iaload, 1) := by decide +kernel
theorem dX5_repeat_71 : decode cX5_repeat 71 = .ok (.ireturn, 1) := by decide +kernel
theorem dX5_known_0 : decode cX5_known 0 = .ok (.iconst 0, 1) := by decide +kernel
theorem dX5_known_1 : decode cX5_known 1 = .ok (.istore_n 3, 1) := by decide +kernel
theorem dX5_known_2 : decode cX5_known 2 = .ok (.iconst 0, 1) := by decide +kernel
theorem dX5_known_3 : decode cX5_known 3 = .ok (.istore 4, 2) := by decide +kernel
theorem dX5_known_5 : decode cX5_known 5 = .ok (.iload 4, 2) := by decide +kernel
theorem dX5_known_7 : decode cX5_known 7 = .ok (.bipush 50, 2) := by decide +kernel
theorem dX5_known_9 : decode cX5_known 9 = .ok (.if_icmp .ge 60, 3) := by decide +kernel
theorem dX5_known_12 : decode cX5_known 12 = .ok (.iload_n 2, 1) := by decide +kernel
theorem dX5_known_13 : decode cX5_known 13 = .ok (.iconst 4, 1) := by decide +kernel
theorem dX5_known_14 : decode cX5_known 14 = .ok (.if_icmp .ge 55, 3) := by decide +kernel
theorem dX5_known_17 : decode cX5_known 17 = .ok (.iload_n 3, 1) := by decide +kernel
theorem dX5_known_18 : decode cX5_known 18 = .ok (.iload_n 2, 1) := by decide +kernel
theorem dX5_known_19 : decode cX5_known 19 = .ok (.iconst 2, 1) := by decide +kernel
theorem dX5_known_20 : decode cX5_known 20 = .ok (.if_icmp .ne 21, 3) := by decide +kernel
theorem dX5_known_23 : decode cX5_known 23 = .ok (.aload_n 0, 1) := by decide +kernel
theorem dX5_known_24 : decode cX5_known 24 = .ok (.getfield 26, 3) := by decide +kernel
theorem dX5_known_27 : decode cX5_known 27 = .ok (.bipush 50, 2) := by decide +kernel
theorem dX5_known_29 : decode cX5_known 29 = .ok (.iload_n 1, 1) := by decide +kernel
theorem dX5_known_30 : decode cX5_known 30 = .ok (.imul, 1) := by decide +kernel
theorem dX5_known_31 : decode cX5_known 31 = .ok (.iload 4, 2) := by decide +kernel
theorem dX5_known_33 : decode cX5_known 33 = .ok (.iadd, 1) := by decide +kernel
theorem dX5_known_34 : decode cX5_known 34 = .ok (.baload, 1) := by decide +kernel
theorem dX5_known_35 : decode cX5_known 35 = .ok (.ifCond .eq 25, 3) := by decide +kernel
theorem dX5_known_38 : decode cX5_known 38 = .ok (.goto 18, 3) := by decide +kernel
theorem dX5_known_41 : decode cX5_known 41 = .ok (.aload_n 0, 1) := by decide +kernel
theorem dX5_known_42 : decode cX5_known 42 = .ok (.getfield 29, 3) := by decide +kernel
theorem dX5_known_45 : decode cX5_known 45 = .ok (.bipush 50, 2) := by decide +kernel
theorem dX5_known_47 : decode cX5_known 47 = .ok (.iload_n 1, 1) := by decide +kernel
theorem dX5_known_48 : decode cX5_known 48 = .ok (.imul, 1) := by decide +kernel
theorem dX5_known_49 : decode cX5_known 49 = .ok (.iload 4, 2) := by decide +kernel
theorem dX5_known_51 : decode cX5_known 51 = .ok (.iadd, 1) := by decide +kernel
theorem dX5_known_52 : decode cX5_known 52 = .ok (.baload, 1) := by decide +kernel
theorem dX5_known_53 : decode cX5_known 53 = .ok (.ifCond .eq 7, 3) := by decide +kernel
theorem dX5_known_56 : decode cX5_known 56 = .ok (.iconst 1, 1) := by decide +kernel
theorem dX5_known_57 : decode cX5_known 57 = .ok (.goto 4, 3) := by decide +kernel
theorem dX5_known_60 : decode cX5_known 60 = .ok (.iconst 0, 1) := by decide +kernel
theorem dX5_known_61 : decode cX5_known 61 = .ok (.iadd, 1) := by decide +kernel
theorem dX5_known_62 : decode cX5_known 62 = .ok (.istore_n 3, 1) := by decide +kernel
theorem dX5_known_63 : decode cX5_known 63 = .ok (.iinc 4 1, 3) := by decide +kernel
theorem dX5_known_66 : decode cX5_known 66 = .ok (.goto (-61), 3) := by decide +kernel
theorem dX5_known_69 : decode cX5_known 69 = .ok (.iconst 0, 1) := by decide +kernel
theorem dX5_known_70 : decode cX5_known 70 = .ok (.istore 4, 2) := by decide +kernel
theorem dX5_known_72 : decode cX5_known 72 = .ok (.iload 4, 2) := by decide +kernel
theorem dX5_known_74 : decode cX5_known 74 = .ok (.bipush 100, 2) := by decide +kernel
theorem dX5_known_76 : decode cX5_known 76 = .ok (.if_icmp .ge 60, 3) := by decide +kernel
theorem dX5_known_79 : decode cX5_known 79 = .ok (.iload_n 2, 1) := by decide +kernel
theorem dX5_known_80 : decode cX5_known 80 = .ok (.iconst 3, 1) := by decide +kernel
theorem dX5_known_81 : decode cX5_known 81 = .ok (.if_icmp .le 55, 3) := by decide +kernel
theorem dX5_known_84 : decode cX5_known 84 = .ok (.iload_n 3, 1) := by decide +kernel
theorem dX5_known_85 : decode cX5_known 85 = .ok (.iload_n 2, 1) := by decide +kernel
theorem dX5_known_86 : decode cX5_known 86 = .ok (.iconst 4, 1) := by decide +kernel
theorem dX5_known_87 : decode cX5_known 87 = .ok (.if_icmp .ne 21, 3) := by decide +kernel
theorem dX5_known_90 : decode cX5_known 90 = .ok (.aload_n 0, 1) := by decide +kernel
theorem dX5_known_91 : decode cX5_known 91 = .ok (.getfield 17, 3) := by decide +kernel
theorem dX5_known_94 : decode cX5_known 94 = .ok (.bipush 100, 2) := by decide +kernel
theorem dX5_known_96 : decode cX5_known 96 = .ok (.iload_n 1, 1) := by decide +kernel
theorem dX5_known_97 : decode cX5_known 97 = .ok (.imul, 1) := by decide +kernel
theorem dX5_known_98 : decode cX5_known 98 = .ok (.iload 4, 2) := by decide +kernel
theorem dX5_known_100 : decode cX5_known 100 = .ok (.iadd, 1) := by decide +kernel
theorem dX5_known_101 : decode cX5_known 101 = .ok (.baload, 1) := by decide +kernel
theorem dX5_known_102 : decode cX5_known 102 = .ok (.ifCond .eq 25, 3) := by decide +kernel
theorem dX5_known_105 : decode cX5_known 105 = .ok (.goto 18, 3) := by decide +kernel
theorem dX5_known_108 : decode cX5_known 108 = .ok (.aload_n 0, 1) := by decide +kernel
theorem dX5_known_109 : decode cX5_known 109 = .ok (.getfield 13, 3) := by decide +kernel
theorem dX5_known_112 : decode cX5_known 112 = .ok (.bipush 100, 2) := by decide +kernel
theorem dX5_known_114 : decode cX5_known 114 = .ok (.iload_n 1, 1) := by decide +kernel
theorem dX5_known_115 : decode cX5_known 115 = .ok (.imul, 1) := by decide +kernel
theorem dX5_known_116 : decode cX5_known 116 = .ok (.iload 4, 2) := by decide +kernel
theorem dX5_known_118 : decode cX5_known 118 = .ok (.iadd, 1) := by decide +kernel
theorem dX5_known_119 : decode cX5_known 119 = .ok (.baload, 1) := by decide +kernel
theorem dX5_known_120 : decode cX5_known 120 = .ok (.ifCond .eq 7, 3) := by decide +kernel
theorem dX5_known_123 : decode cX5_known 123 = .ok (.iconst 1, 1) := by decide +kernel
theorem dX5_known_124 : decode cX5_known 124 = .ok (.goto 4, 3) := by decide +kernel
theorem dX5_known_127 : decode cX5_known 127 = .ok (.iconst 0, 1) := by decide +kernel
theorem dX5_known_128 : decode cX5_known 128 = .ok (.iadd, 1) := by decide +kernel
theorem dX5_known_129 : decode cX5_known 129 = .ok (.istore_n 3, 1) := by decide +kernel
theorem dX5_known_130 : decode cX5_known 130 = .ok (.iinc 4 1, 3) := by decide +kernel
theorem dX5_known_133 : decode cX5_known 133 = .ok (.goto (-61), 3) := by decide +kernel
theorem dX5_known_136 : decode cX5_known 136 = .ok (.iload_n 3, 1) := by decide +kernel
theorem dX5_known_137 : decode cX5_known 137 = .ok (.ireturn, 1) := by decide +kernel
set_option maxRecDepth 1000000 in
theorem ggX5_ofServer_X5_in : GoodIn wsX5_ofServer wsX5_in := goodIn_r _ [9] rfl (by decide +kernel)
set_option maxRecDepth 20000 in
theorem gX5_ofServer_X5_in : GoodIn wsX5_ofServer (va_wsS RX5 84 yX5_in wsX5_in) := goodIn_app (goodIn_of _ (by decide +kernel)) ggX5_ofServer_X5_in
set_option maxRecDepth 1000000 in
theorem ggX5_ofServer_X5_known : GoodIn wsX5_ofServer wsX5_known := goodIn_r _ [13, 14, 15, 16, 17, 18, 19, 20, 21, 22, 23, 24, 25, 26, 27, 28, 29, 30, 31, 32, 33, 34, 35, 36, 37, 38, 39, 40, 41, 42, 43] rfl (by decide +kernel)
set_option maxRecDepth 20000 in
theorem gX5_ofServer_X5_known : GoodIn wsX5_ofServer (wsV RX5 142 RX5 yX5_known wsX5_known) := goodIn_app (goodIn_of _ (by decide +kernel)) ggX5_ofServer_X5_known
theorem dX5_ofServer_0 : decode cX5_ofServer 0 = .ok (.aload_n 0, 1) := by decide +kernel
theorem dX5_ofServer_1 : decode cX5_ofServer 1 = .ok (.iload_n 1, 1) := by decide +kernel
theorem dX5_ofServer_2 : decode cX5_ofServer 2 = .ok (.iconst 0, 1) := by decide +kernel
theorem dX5_ofServer_3 : decode cX5_ofServer 3 = .ok (.iconst 3, 1) := by decide +kernel
theorem dX5_ofServer_4 : decode cX5_ofServer 4 = .ok (.invokestatic 84, 3) := by decide +kernel
theorem dX5_ofServer_7 : decode cX5_ofServer 7 = .ok (.ifCond .ne 7, 3) := by decide +kernel
theorem dX5_ofServer_10 : decode cX5_ofServer 10 = .ok (.iconst 1, 1) := by decide +kernel
theorem dX5_ofServer_11 : decode cX5_ofServer 11 = .ok (.goto 17, 3) := by decide +kernel
theorem dX5_ofServer_14 : decode cX5_ofServer 14 = .ok (.iload_n 2, 1) := by decide +kernel
theorem dX5_ofServer_15 : decode cX5_ofServer 15 = .ok (.iconst 0, 1) := by decide +kernel
theorem dX5_ofServer_16 : decode cX5_ofServer 16 = .ok (.iconst 5, 1) := by decide +kernel
theorem dX5_ofServer_17 : decode cX5_ofServer 17 = .ok (.invokestatic 84, 3) := by decide +kernel
theorem dX5_ofServer_20 : decode cX5_ofServer 20 = .ok (.ifCond .ne 7, 3) := by decide +kernel
theorem dX5_ofServer_23 : decode cX5_ofServer 23 = .ok (.iconst 2, 1) := by decide +kernel
theorem dX5_ofServer_24 : decode cX5_ofServer 24 = .ok (.goto 4, 3) := by decide +kernel
theorem dX5_ofServer_27 : decode cX5_ofServer 27 = .ok (.iconst 0, 1) := by decide +kernel
theorem dX5_ofServer_28 : decode cX5_ofServer 28 = .ok (.putfield 77, 3) := by decide +kernel
theorem dX5_ofServer_31 : decode cX5_ofServer 31 = .ok (.aload_n 0, 1) := by decide +kernel
theorem dX5_ofServer_32 : decode cX5_ofServer 32 = .ok (.getfield 77, 3) := by decide +kernel
theorem dX5_ofServer_35 : decode cX5_ofServer 35 = .ok (.ifCond .eq 5, 3) := by decide +kernel
theorem dX5_ofServer_38 : decode cX5_ofServer 38 = .ok (.iconst 0, 1) := by decide +kernel
theorem dX5_ofServer_39 : decode cX5_ofServer 39 = .ok (.ireturn, 1) := by decide +kernel
theorem dX5_ofServer_40 : decode cX5_ofServer 40 = .ok (.iconst 0, 1) := by decide +kernel
theorem dX5_ofServer_41 : decode cX5_ofServer 41 = .ok (.istore_n 3, 1) := by decide +kernel
theorem dX5_ofServer_42 : decode cX5_ofServer 42 = .ok (.iconst 0, 1) := by decide +kernel
theorem dX5_ofServer_43 : decode cX5_ofServer 43 = .ok (.istore 4, 2) := by decide +kernel
theorem dX5_ofServer_45 : decode cX5_ofServer 45 = .ok (.iload 4, 2) := by decide +kernel
theorem dX5_ofServer_47 : decode cX5_ofServer 47 = .ok (.aload_n 0, 1) := by decide +kernel
theorem dX5_ofServer_48 : decode cX5_ofServer 48 = .ok (.getfield 119, 3) := by decide +kernel
theorem dX5_ofServer_51 : decode cX5_ofServer 51 = .ok (.if_icmp .ge 33, 3) := by decide +kernel
theorem dX5_ofServer_54 : decode cX5_ofServer 54 = .ok (.iload_n 3, 1) := by decide +kernel
theorem dX5_ofServer_55 : decode cX5_ofServer 55 = .ok (.aload_n 0, 1) := by decide +kernel
theorem dX5_ofServer_56 : decode cX5_ofServer 56 = .ok (.getfield 65, 3) := by decide +kernel
theorem dX5_ofServer_59 : decode cX5_ofServer 59 = .ok (.sipush 600, 3) := by decide +kernel
theorem dX5_ofServer_62 : decode cX5_ofServer 62 = .ok (.iload_n 1, 1) := by decide +kernel
theorem dX5_ofServer_63 : decode cX5_ofServer 63 = .ok (.imul, 1) := by decide +kernel
theorem dX5_ofServer_64 : decode cX5_ofServer 64 = .ok (.iload 4, 2) := by decide +kernel
theorem dX5_ofServer_66 : decode cX5_ofServer 66 = .ok (.iadd, 1) := by decide +kernel
theorem dX5_ofServer_67 : decode cX5_ofServer 67 = .ok (.baload, 1) := by decide +kernel
theorem dX5_ofServer_68 : decode cX5_ofServer 68 = .ok (.ifCond .eq 7, 3) := by decide +kernel
theorem dX5_ofServer_71 : decode cX5_ofServer 71 = .ok (.iconst 1, 1) := by decide +kernel
theorem dX5_ofServer_72 : decode cX5_ofServer 72 = .ok (.goto 4, 3) := by decide +kernel
theorem dX5_ofServer_75 : decode cX5_ofServer 75 = .ok (.iconst 0, 1) := by decide +kernel
theorem dX5_ofServer_76 : decode cX5_ofServer 76 = .ok (.iadd, 1) := by decide +kernel
theorem dX5_ofServer_77 : decode cX5_ofServer 77 = .ok (.istore_n 3, 1) := by decide +kernel
theorem dX5_ofServer_78 : decode cX5_ofServer 78 = .ok (.iinc 4 1, 3) := by decide +kernel
theorem dX5_ofServer_81 : decode cX5_ofServer 81 = .ok (.goto (-36), 3) := by decide +kernel
theorem dX5_ofServer_84 : decode cX5_ofServer 84 = .ok (.iload_n 2, 1) := by decide +kernel
theorem dX5_ofServer_85 : decode cX5_ofServer 85 = .ok (.ifCond .ne 19, 3) := by decide +kernel
theorem dX5_ofServer_88 : decode cX5_ofServer 88 = .ok (.aload_n 0, 1) := by decide +kernel
theorem dX5_ofServer_89 : decode cX5_ofServer 89 = .ok (.getfield 74, 3) := by decide +kernel
theorem dX5_ofServer_92 : decode cX5_ofServer 92 = .ok (.iload_n 1, 1) := by decide +kernel
theorem dX5_ofServer_93 : decode cX5_ofServer 93 = .ok (.iaload, 1) := by decide +kernel
theorem dX5_ofServer_94 : decode cX5_ofServer 94 = .ok (.aload_n 0, 1) := by decide +kernel
theorem dX5_ofServer_95 : decode cX5_ofServer 95 = .ok (.getfield 71, 3) := by decide +kernel
theorem dX5_ofServer_98 : decode cX5_ofServer 98 = .ok (.iload_n 1, 1) := by decide +kernel
theorem dX5_ofServer_99 : decode cX5_ofServer 99 = .ok (.iaload, 1) := by decide +kernel
theorem dX5_ofServer_100 : decode cX5_ofServer 100 = .ok (.isub, 1) := by decide +kernel
theorem dX5_ofServer_101 : decode cX5_ofServer 101 = .ok (.goto 18, 3) := by decide +kernel
theorem dX5_ofServer_104 : decode cX5_ofServer 104 = .ok (.iload_n 2, 1) := by decide +kernel
theorem dX5_ofServer_105 : decode cX5_ofServer 105 = .ok (.iconst 1, 1) := by decide +kernel
theorem dX5_ofServer_106 : decode cX5_ofServer 106 = .ok (.if_icmp .ne 7, 3) := by decide +kernel
theorem dX5_ofServer_109 : decode cX5_ofServer 109 = .ok (.iload_n 3, 1) := by decide +kernel
theorem dX5_ofServer_110 : decode cX5_ofServer 110 = .ok (.goto 9, 3) := by decide +kernel
theorem dX5_ofServer_113 : decode cX5_ofServer 113 = .ok (.aload_n 0, 1) := by decide +kernel
theorem dX5_ofServer_114 : decode cX5_ofServer 114 = .ok (.iload_n 1, 1) := by decide +kernel
theorem dX5_ofServer_115 : decode cX5_ofServer 115 = .ok (.iload_n 2, 1) := by decide +kernel
theorem dX5_ofServer_116 : decode cX5_ofServer 116 = .ok (.invokevirtual 142, 3) := by decide +kernel
theorem dX5_ofServer_119 : decode cX5_ofServer 119 = .ok (.ireturn, 1) := by decide +kernel
set_option maxRecDepth 1000000 in
theorem ggX5_between_X5_in : GoodIn wsX5_between wsX5_in := goodIn_r _ [8] rfl (by decide +kernel)
set_option maxRecDepth 20000 in
theorem gX5_between_X5_in : GoodIn wsX5_between (va_wsS RX5 84 yX5_in wsX5_in) := goodIn_app (goodIn_of _ (by decide +kernel)) ggX5_between_X5_in
set_option maxRecDepth 1000000 in
theorem ggX5_between_X5_isOne : GoodIn wsX5_between wsX5_isOne := goodIn_r _ [12, 13, 5, 6, 7, 8, 17, 18, 19, 20, 21, 22, 23, 24, 25, 26, 27, 28, 29, 30, 31, 32, 33, 34, 35, 36, 37, 38, 39, 40, 41, 42] rfl (by decide +kernel)
set_option maxRecDepth 20000 in
theorem gX5_between_X5_isOne : GoodIn wsX5_between (wsV RX5 125 RX5 yX5_isOne wsX5_isOne) := goodIn_app (goodIn_of _ (by decide +kernel)) ggX5_between_X5_isOne
set_option maxRecDepth 1000000 in
theorem ggX5_between_X5_at : GoodIn wsX5_between wsX5_at := goodIn_r _ [16] rfl (by decide +kernel)
set_option maxRecDepth 20000 in
theorem gX5_between_X5_at : GoodIn wsX5_between (va_wsS RX5 88 yX5_at wsX5_at) := goodIn_app (goodIn_of _ (by decide +kernel)) ggX5_between_X5_at
theorem dX5_between_0 : decode cX5_between 0 = .ok (.aload_n 0, 1) := by decide +kernel
theorem dX5_between_1 : decode cX5_between 1 = .ok (.iload_n 1, 1) := by decide +kernel
theorem dX5_between_2 : decode cX5_between 2 = .ok (.iconst 0, 1) := by decide +kernel
theorem dX5_between_3 : decode cX5_between 3 = .ok (.iconst 3, 1) := by decide +kernel
theorem dX5_between_4 : decode cX5_between 4 = .ok (.invokestatic 84, 3) := by decide +kernel
theorem dX5_between_7 : decode cX5_between 7 = .ok (.ifCond .eq 23, 3) := by decide +kernel
theorem dX5_between_10 : decode cX5_between 10 = .ok (.aload_n 0, 1) := by decide +kernel
theorem dX5_between_11 : decode cX5_between 11 = .ok (.iload_n 2, 1) := by decide +kernel
theorem dX5_between_12 : decode cX5_between 12 = .ok (.invokevirtual 125, 3) := by decide +kernel
theorem dX5_between_15 : decode cX5_between 15 = .ok (.ifCond .eq 15, 3) := by decide +kernel
theorem dX5_between_18 : decode cX5_between 18 = .ok (.aload_n 0, 1) := by decide +kernel
theorem dX5_between_19 : decode cX5_between 19 = .ok (.iload_n 3, 1) := by decide +kernel
theorem dX5_between_20 : decode cX5_between 20 = .ok (.invokevirtual 125, 3) := by decide +kernel
theorem dX5_between_23 : decode cX5_between 23 = .ok (.ifCond .eq 7, 3) := by decide +kernel
theorem dX5_between_26 : decode cX5_between 26 = .ok (.iconst 0, 1) := by decide +kernel
theorem dX5_between_27 : decode cX5_between 27 = .ok (.goto 4, 3) := by decide +kernel
theorem dX5_between_30 : decode cX5_between 30 = .ok (.iconst 1, 1) := by decide +kernel
theorem dX5_between_31 : decode cX5_between 31 = .ok (.putfield 77, 3) := by decide +kernel
theorem dX5_between_34 : decode cX5_between 34 = .ok (.aload_n 0, 1) := by decide +kernel
theorem dX5_between_35 : decode cX5_between 35 = .ok (.getfield 77, 3) := by decide +kernel
theorem dX5_between_38 : decode cX5_between 38 = .ok (.ifCond .eq 5, 3) := by decide +kernel
theorem dX5_between_41 : decode cX5_between 41 = .ok (.iconst 0, 1) := by decide +kernel
theorem dX5_between_42 : decode cX5_between 42 = .ok (.ireturn, 1) := by decide +kernel
theorem dX5_between_43 : decode cX5_between 43 = .ok (.iload_n 1, 1) := by decide +kernel
theorem dX5_between_44 : decode cX5_between 44 = .ok (.iload_n 2, 1) := by decide +kernel
theorem dX5_between_45 : decode cX5_between 45 = .ok (.iload_n 3, 1) := by decide +kernel
theorem dX5_between_46 : decode cX5_between 46 = .ok (.invokestatic 88, 3) := by decide +kernel
theorem dX5_between_49 : decode cX5_between 49 = .ok (.istore 4, 2) := by decide +kernel
theorem dX5_between_51 : decode cX5_between 51 = .ok (.aload_n 0, 1) := by decide +kernel
theorem dX5_between_52 : decode cX5_between 52 = .ok (.getfield 17, 3) := by decide +kernel
theorem dX5_between_55 : decode cX5_between 55 = .ok (.iload 4, 2) := by decide +kernel
theorem dX5_between_57 : decode cX5_between 57 = .ok (.baload, 1) := by decide +kernel
theorem dX5_between_58 : decode cX5_between 58 = .ok (.ifCond .eq 7, 3) := by decide +kernel
theorem dX5_between_61 : decode cX5_between 61 = .ok (.iconst 2, 1) := by decide +kernel
theorem dX5_between_62 : decode cX5_between 62 = .ok (.goto 18, 3) := by decide +kernel
theorem dX5_between_65 : decode cX5_between 65 = .ok (.aload_n 0, 1) := by decide +kernel
theorem dX5_between_66 : decode cX5_between 66 = .ok (.getfield 13, 3) := by decide +kernel
theorem dX5_between_69 : decode cX5_between 69 = .ok (.iload 4, 2) := by decide +kernel
theorem dX5_between_71 : decode cX5_between 71 = .ok (.baload, 1) := by decide +kernel
theorem dX5_between_72 : decode cX5_between 72 = .ok (.ifCond .eq 7, 3) := by decide +kernel
theorem dX5_between_75 : decode cX5_between 75 = .ok (.iconst 1, 1) := by decide +kernel
theorem dX5_between_76 : decode cX5_between 76 = .ok (.goto 4, 3) := by decide +kernel
theorem dX5_between_79 : decode cX5_between 79 = .ok (.iconst 0, 1) := by decide +kernel
theorem dX5_between_80 : decode cX5_between 80 = .ok (.aload_n 0, 1) := by decide +kernel
theorem dX5_between_81 : decode cX5_between 81 = .ok (.getfield 20, 3) := by decide +kernel
theorem dX5_between_84 : decode cX5_between 84 = .ok (.iload 4, 2) := by decide +kernel
theorem dX5_between_86 : decode cX5_between 86 = .ok (.baload, 1) := by decide +kernel
theorem dX5_between_87 : decode cX5_between 87 = .ok (.ifCond .eq 7, 3) := by decide +kernel
theorem dX5_between_90 : decode cX5_between 90 = .ok (.iconst 4, 1) := by decide +kernel
theorem dX5_between_91 : decode cX5_between 91 = .ok (.goto 4, 3) := by decide +kernel
theorem dX5_between_94 : decode cX5_between 94 = .ok (.iconst 0, 1) := by decide +kernel
theorem dX5_between_95 : decode cX5_between 95 = .ok (.iadd, 1) := by decide +kernel
theorem dX5_between_96 : decode cX5_between 96 = .ok (.ireturn, 1) := by decide +kernel
set_option maxRecDepth 1000000 in
theorem ggX5_sees_X5_isOne : GoodIn wsX5_sees wsX5_isOne := goodIn_r _ [7, 8, 9, 10, 6, 11, 34, 35, 36, 37, 38, 39, 40, 41, 42, 43, 44, 45, 46, 47, 48, 49, 50, 51, 52, 53, 54, 55, 56, 57, 58, 59] rfl (by decide +kernel)
set_option maxRecDepth 20000 in
theorem gX5_sees_X5_isOne : GoodIn wsX5_sees (wsV RX5 125 RX5 yX5_isOne wsX5_isOne) := goodIn_app (goodIn_of _ (by decide +kernel)) ggX5_sees_X5_isOne
set_option maxRecDepth 1000000 in
theorem ggX5_sees_X5_in : GoodIn wsX5_sees wsX5_in := goodIn_r _ [11] rfl (by decide +kernel)
set_option maxRecDepth 20000 in
theorem gX5_sees_X5_in : GoodIn wsX5_sees (va_wsS RX5 84 yX5_in wsX5_in) := goodIn_app (goodIn_of _ (by decide +kernel)) ggX5_sees_X5_in
set_option maxRecDepth 1000000 in
theorem ggX5_sees_X5_seen : GoodIn wsX5_sees wsX5_seen := goodIn_r _ [15, 16, 17, 18, 19, 20, 21, 22, 23, 6, 24, 25, 26, 27, 28, 29, 30, 31, 32, 33, 34, 35, 36, 37, 38, 39, 40, 41, 42, 43, 44, 45, 46, 47, 48, 49, 50, 51, 52, 53, 54, 55, 56, 57, 58, 59] rfl (by decide +kernel)
set_option maxRecDepth 20000 in
theorem gX5_sees_X5_seen : GoodIn wsX5_sees (wsV RX5 139 RX5 yX5_seen wsX5_seen) := goodIn_app (goodIn_of _ (by decide +kernel)) ggX5_sees_X5_seen
theorem dX5_sees_0 : decode cX5_sees 0 = .ok (.aload_n 0, 1) := by decide +kernel
theorem dX5_sees_1 : decode cX5_sees 1 = .ok (.aload_n 0, 1) := by decide +kernel
theorem dX5_sees_2 : decode cX5_sees 2 = .ok (.iload_n 1, 1) := by decide +kernel
theorem dX5_sees_3 : decode cX5_sees 3 = .ok (.invokevirtual 125, 3) := by decide +kernel
theorem dX5_sees_6 : decode cX5_sees 6 = .ok (.ifCond .eq 21, 3) := by decide +kernel
theorem dX5_sees_9 : decode cX5_sees 9 = .ok (.iload_n 2, 1) := by decide +kernel
theorem dX5_sees_10 : decode cX5_sees 10 = .ok (.iconst 0, 1) := by decide +kernel
theorem dX5_sees_11 : decode cX5_sees 11 = .ok (.aload_n 0, 1) := by decide +kernel
theorem dX5_sees_12 : decode cX5_sees 12 = .ok (.getfield 136, 3) := by decide +kernel
theorem dX5_sees_15 : decode cX5_sees 15 = .ok (.iconst 1, 1) := by decide +kernel
theorem dX5_sees_16 : decode cX5_sees 16 = .ok (.isub, 1) := by decide +kernel
theorem dX5_sees_17 : decode cX5_sees 17 = .ok (.invokestatic 84, 3) := by decide +kernel
theorem dX5_sees_20 : decode cX5_sees 20 = .ok (.ifCond .eq 7, 3) := by decide +kernel
theorem dX5_sees_23 : decode cX5_sees 23 = .ok (.iconst 0, 1) := by decide +kernel
theorem dX5_sees_24 : decode cX5_sees 24 = .ok (.goto 4, 3) := by decide +kernel
theorem dX5_sees_27 : decode cX5_sees 27 = .ok (.iconst 1, 1) := by decide +kernel
theorem dX5_sees_28 : decode cX5_sees 28 = .ok (.putfield 77, 3) := by decide +kernel
theorem dX5_sees_31 : decode cX5_sees 31 = .ok (.aload_n 0, 1) := by decide +kernel
theorem dX5_sees_32 : decode cX5_sees 32 = .ok (.getfield 77, 3) := by decide +kernel
theorem dX5_sees_35 : decode cX5_sees 35 = .ok (.ifCond .ne 16, 3) := by decide +kernel
theorem dX5_sees_38 : decode cX5_sees 38 = .ok (.aload_n 0, 1) := by decide +kernel
theorem dX5_sees_39 : decode cX5_sees 39 = .ok (.iload_n 1, 1) := by decide +kernel
theorem dX5_sees_40 : decode cX5_sees 40 = .ok (.iload_n 2, 1) := by decide +kernel
theorem dX5_sees_41 : decode cX5_sees 41 = .ok (.invokevirtual 139, 3) := by decide +kernel
theorem dX5_sees_44 : decode cX5_sees 44 = .ok (.ifCond .eq 7, 3) := by decide +kernel
theorem dX5_sees_47 : decode cX5_sees 47 = .ok (.iconst 1, 1) := by decide +kernel
theorem dX5_sees_48 : decode cX5_sees 48 = .ok (.goto 4, 3) := by decide +kernel
theorem dX5_sees_51 : decode cX5_sees 51 = .ok (.iconst 0, 1) := by decide +kernel
theorem dX5_sees_52 : decode cX5_sees 52 = .ok (.ireturn, 1) := by decide +kernel
set_option maxRecDepth 1000000 in
theorem ggX5_seesAnew_X5_isOne : GoodIn wsX5_seesAnew wsX5_isOne := goodIn_r _ [7, 8, 9, 10, 6, 11, 34, 35, 36, 37, 38, 39, 40, 41, 42, 43, 44, 45, 46, 47, 48, 49, 50, 51, 52, 53, 54, 55, 56, 57, 58, 59] rfl (by decide +kernel)
set_option maxRecDepth 20000 in
theorem gX5_seesAnew_X5_isOne : GoodIn wsX5_seesAnew (wsV RX5 125 RX5 yX5_isOne wsX5_isOne) := goodIn_app (goodIn_of _ (by decide +kernel)) ggX5_seesAnew_X5_isOne
set_option maxRecDepth 1000000 in
theorem ggX5_seesAnew_X5_in : GoodIn wsX5_seesAnew wsX5_in := goodIn_r _ [11] rfl (by decide +kernel)
set_option maxRecDepth 20000 in
theorem gX5_seesAnew_X5_in : GoodIn wsX5_seesAnew (va_wsS RX5 84 yX5_in wsX5_in) := goodIn_app (goodIn_of _ (by decide +kernel)) ggX5_seesAnew_X5_in
set_option maxRecDepth 1000000 in
theorem ggX5_seesAnew_X5_seen : GoodIn wsX5_seesAnew wsX5_seen := goodIn_r _ [15, 16, 17, 18, 19, 20, 21, 22, 23, 6, 24, 25, 26, 27, 28, 29, 30, 31, 32, 33, 34, 35, 36, 37, 38, 39, 40, 41, 42, 43, 44, 45, 46, 47, 48, 49, 50, 51, 52, 53, 54, 55, 56, 57, 58, 59] rfl (by decide +kernel)
set_option maxRecDepth 20000 in
theorem gX5_seesAnew_X5_seen : GoodIn wsX5_seesAnew (wsV RX5 139 RX5 yX5_seen wsX5_seen) := goodIn_app (goodIn_of _ (by decide +kernel)) ggX5_seesAnew_X5_seen
theorem dX5_seesAnew_0 : decode cX5_seesAnew 0 = .ok (.aload_n 0, 1) := by decide +kernel
theorem dX5_seesAnew_1 : decode cX5_seesAnew 1 = .ok (.aload_n 0, 1) := by decide +kernel
theorem dX5_seesAnew_2 : decode cX5_seesAnew 2 = .ok (.iload_n 1, 1) := by decide +kernel
theorem dX5_seesAnew_3 : decode cX5_seesAnew 3 = .ok (.invokevirtual 125, 3) := by decide +kernel
theorem dX5_seesAnew_6 : decode cX5_seesAnew 6 = .ok (.ifCond .eq 21, 3) := by decide +kernel
theorem dX5_seesAnew_9 : decode cX5_seesAnew 9 = .ok (.iload_n 2, 1) := by decide +kernel
theorem dX5_seesAnew_10 : decode cX5_seesAnew 10 = .ok (.iconst 0, 1) := by decide +kernel
theorem dX5_seesAnew_11 : decode cX5_seesAnew 11 = .ok (.aload_n 0, 1) := by decide +kernel
theorem dX5_seesAnew_12 : decode cX5_seesAnew 12 = .ok (.getfield 136, 3) := by decide +kernel
theorem dX5_seesAnew_15 : decode cX5_seesAnew 15 = .ok (.iconst 1, 1) := by decide +kernel
theorem dX5_seesAnew_16 : decode cX5_seesAnew 16 = .ok (.isub, 1) := by decide +kernel
theorem dX5_seesAnew_17 : decode cX5_seesAnew 17 = .ok (.invokestatic 84, 3) := by decide +kernel
theorem dX5_seesAnew_20 : decode cX5_seesAnew 20 = .ok (.ifCond .eq 7, 3) := by decide +kernel
theorem dX5_seesAnew_23 : decode cX5_seesAnew 23 = .ok (.iconst 0, 1) := by decide +kernel
theorem dX5_seesAnew_24 : decode cX5_seesAnew 24 = .ok (.goto 4, 3) := by decide +kernel
theorem dX5_seesAnew_27 : decode cX5_seesAnew 27 = .ok (.iconst 1, 1) := by decide +kernel
theorem dX5_seesAnew_28 : decode cX5_seesAnew 28 = .ok (.putfield 77, 3) := by decide +kernel
theorem dX5_seesAnew_31 : decode cX5_seesAnew 31 = .ok (.aload_n 0, 1) := by decide +kernel
theorem dX5_seesAnew_32 : decode cX5_seesAnew 32 = .ok (.getfield 77, 3) := by decide +kernel
theorem dX5_seesAnew_35 : decode cX5_seesAnew 35 = .ok (.ifCond .ne 16, 3) := by decide +kernel
theorem dX5_seesAnew_38 : decode cX5_seesAnew 38 = .ok (.aload_n 0, 1) := by decide +kernel
theorem dX5_seesAnew_39 : decode cX5_seesAnew 39 = .ok (.iload_n 1, 1) := by decide +kernel
theorem dX5_seesAnew_40 : decode cX5_seesAnew 40 = .ok (.iload_n 2, 1) := by decide +kernel
theorem dX5_seesAnew_41 : decode cX5_seesAnew 41 = .ok (.invokevirtual 139, 3) := by decide +kernel
theorem dX5_seesAnew_44 : decode cX5_seesAnew 44 = .ok (.ifCond .eq 7, 3) := by decide +kernel
theorem dX5_seesAnew_47 : decode cX5_seesAnew 47 = .ok (.iconst 1, 1) := by decide +kernel
theorem dX5_seesAnew_48 : decode cX5_seesAnew 48 = .ok (.goto 4, 3) := by decide +kernel
theorem dX5_seesAnew_51 : decode cX5_seesAnew 51 = .ok (.iconst 0, 1) := by decide +kernel
theorem dX5_seesAnew_52 : decode cX5_seesAnew 52 = .ok (.ireturn, 1) := by decide +kernel
set_option maxRecDepth 1000000 in
theorem ggX5_isAtHome_X5_isNamed : GoodIn wsX5_isAtHome wsX5_isNamed := goodIn_r _ [10, 11, 26, 27, 28, 29, 30, 31, 32, 33, 34, 35, 36, 37, 38, 39, 40, 41, 42, 43, 44, 45, 46, 47, 48, 49, 50, 51] rfl (by decide +kernel)
set_option maxRecDepth 20000 in
theorem gX5_isAtHome_X5_isNamed : GoodIn wsX5_isAtHome (wsV RX5 132 RX5 yX5_isNamed wsX5_isNamed) := goodIn_app (goodIn_of _ (by decide +kernel)) ggX5_isAtHome_X5_isNamed
set_option maxRecDepth 1000000 in
theorem ggX5_isAtHome_X5_at : GoodIn wsX5_isAtHome wsX5_at := goodIn_r _ [14] rfl (by decide +kernel)
set_option maxRecDepth 20000 in
theorem gX5_isAtHome_X5_at : GoodIn wsX5_isAtHome (va_wsS RX5 88 yX5_at wsX5_at) := goodIn_app (goodIn_of _ (by decide +kernel)) ggX5_isAtHome_X5_at
set_option maxRecDepth 1000000 in
theorem ggX5_isAtHome_X5_seen : GoodIn wsX5_isAtHome wsX5_seen := goodIn_r _ [18, 1, 19, 2, 20, 3, 21, 22, 23, 9, 24, 25, 12, 13, 14, 6, 7, 8, 10, 11, 26, 27, 28, 29, 30, 31, 32, 33, 34, 35, 36, 37, 38, 39, 40, 41, 42, 43, 44, 45, 46, 47, 48, 49, 50, 51] rfl (by decide +kernel)
set_option maxRecDepth 20000 in
theorem gX5_isAtHome_X5_seen : GoodIn wsX5_isAtHome (wsV RX5 139 RX5 yX5_seen wsX5_seen) := goodIn_app (goodIn_of _ (by decide +kernel)) ggX5_isAtHome_X5_seen
theorem dX5_isAtHome_0 : decode cX5_isAtHome 0 = .ok (.aload_n 0, 1) := by decide +kernel
theorem dX5_isAtHome_1 : decode cX5_isAtHome 1 = .ok (.getfield 7, 3) := by decide +kernel
theorem dX5_isAtHome_4 : decode cX5_isAtHome 4 = .ok (.iload_n 1, 1) := by decide +kernel
theorem dX5_isAtHome_5 : decode cX5_isAtHome 5 = .ok (.iaload, 1) := by decide +kernel
theorem dX5_isAtHome_6 : decode cX5_isAtHome 6 = .ok (.istore_n 3, 1) := by decide +kernel
theorem dX5_isAtHome_7 : decode cX5_isAtHome 7 = .ok (.aload_n 0, 1) := by decide +kernel
theorem dX5_isAtHome_8 : decode cX5_isAtHome 8 = .ok (.getfield 38, 3) := by decide +kernel
theorem dX5_isAtHome_11 : decode cX5_isAtHome 11 = .ok (.iload_n 2, 1) := by decide +kernel
theorem dX5_isAtHome_12 : decode cX5_isAtHome 12 = .ok (.iaload, 1) := by decide +kernel
theorem dX5_isAtHome_13 : decode cX5_isAtHome 13 = .ok (.iload_n 1, 1) := by decide +kernel
theorem dX5_isAtHome_14 : decode cX5_isAtHome 14 = .ok (.if_icmp .eq 31, 3) := by decide +kernel
theorem dX5_isAtHome_17 : decode cX5_isAtHome 17 = .ok (.aload_n 0, 1) := by decide +kernel
theorem dX5_isAtHome_18 : decode cX5_isAtHome 18 = .ok (.iload_n 2, 1) := by decide +kernel
theorem dX5_isAtHome_19 : decode cX5_isAtHome 19 = .ok (.iload_n 1, 1) := by decide +kernel
theorem dX5_isAtHome_20 : decode cX5_isAtHome 20 = .ok (.invokevirtual 132, 3) := by decide +kernel
theorem dX5_isAtHome_23 : decode cX5_isAtHome 23 = .ok (.ifCond .ne 22, 3) := by decide +kernel
theorem dX5_isAtHome_26 : decode cX5_isAtHome 26 = .ok (.aload_n 0, 1) := by decide +kernel
theorem dX5_isAtHome_27 : decode cX5_isAtHome 27 = .ok (.getfield 17, 3) := by decide +kernel
theorem dX5_isAtHome_30 : decode cX5_isAtHome 30 = .ok (.iload_n 3, 1) := by decide +kernel
theorem dX5_isAtHome_31 : decode cX5_isAtHome 31 = .ok (.iload_n 1, 1) := by decide +kernel
theorem dX5_isAtHome_32 : decode cX5_isAtHome 32 = .ok (.aload_n 0, 1) := by decide +kernel
theorem dX5_isAtHome_33 : decode cX5_isAtHome 33 = .ok (.getfield 38, 3) := by decide +kernel
theorem dX5_isAtHome_36 : decode cX5_isAtHome 36 = .ok (.iload_n 2, 1) := by decide +kernel
theorem dX5_isAtHome_37 : decode cX5_isAtHome 37 = .ok (.iaload, 1) := by decide +kernel
theorem dX5_isAtHome_38 : decode cX5_isAtHome 38 = .ok (.invokestatic 88, 3) := by decide +kernel
theorem dX5_isAtHome_41 : decode cX5_isAtHome 41 = .ok (.baload, 1) := by decide +kernel
theorem dX5_isAtHome_42 : decode cX5_isAtHome 42 = .ok (.ifCond .eq 7, 3) := by decide +kernel
theorem dX5_isAtHome_45 : decode cX5_isAtHome 45 = .ok (.iconst 1, 1) := by decide +kernel
theorem dX5_isAtHome_46 : decode cX5_isAtHome 46 = .ok (.goto 4, 3) := by decide +kernel
theorem dX5_isAtHome_49 : decode cX5_isAtHome 49 = .ok (.iconst 0, 1) := by decide +kernel
theorem dX5_isAtHome_50 : decode cX5_isAtHome 50 = .ok (.istore 4, 2) := by decide +kernel
theorem dX5_isAtHome_52 : decode cX5_isAtHome 52 = .ok (.iconst 0, 1) := by decide +kernel
theorem dX5_isAtHome_53 : decode cX5_isAtHome 53 = .ok (.istore 5, 2) := by decide +kernel
theorem dX5_isAtHome_55 : decode cX5_isAtHome 55 = .ok (.iload 5, 2) := by decide +kernel
theorem dX5_isAtHome_57 : decode cX5_isAtHome 57 = .ok (.aload_n 0, 1) := by decide +kernel
theorem dX5_isAtHome_58 : decode cX5_isAtHome 58 = .ok (.getfield 81, 3) := by decide +kernel
theorem dX5_isAtHome_61 : decode cX5_isAtHome 61 = .ok (.if_icmp .ge 57, 3) := by decide +kernel
theorem dX5_isAtHome_64 : decode cX5_isAtHome 64 = .ok (.iload 4, 2) := by decide +kernel
theorem dX5_isAtHome_66 : decode cX5_isAtHome 66 = .ok (.ifCond .ne 39, 3) := by decide +kernel
theorem dX5_isAtHome_69 : decode cX5_isAtHome 69 = .ok (.aload_n 0, 1) := by decide +kernel
theorem dX5_isAtHome_70 : decode cX5_isAtHome 70 = .ok (.getfield 17, 3) := by decide +kernel
theorem dX5_isAtHome_73 : decode cX5_isAtHome 73 = .ok (.iload_n 3, 1) := by decide +kernel
theorem dX5_isAtHome_74 : decode cX5_isAtHome 74 = .ok (.iload_n 1, 1) := by decide +kernel
theorem dX5_isAtHome_75 : decode cX5_isAtHome 75 = .ok (.iload 5, 2) := by decide +kernel
theorem dX5_isAtHome_77 : decode cX5_isAtHome 77 = .ok (.invokestatic 88, 3) := by decide +kernel
theorem dX5_isAtHome_80 : decode cX5_isAtHome 80 = .ok (.baload, 1) := by decide +kernel
theorem dX5_isAtHome_81 : decode cX5_isAtHome 81 = .ok (.ifCond .eq 28, 3) := by decide +kernel
theorem dX5_isAtHome_84 : decode cX5_isAtHome 84 = .ok (.aload_n 0, 1) := by decide +kernel
theorem dX5_isAtHome_85 : decode cX5_isAtHome 85 = .ok (.getfield 35, 3) := by decide +kernel
theorem dX5_isAtHome_88 : decode cX5_isAtHome 88 = .ok (.sipush 500, 3) := by decide +kernel
theorem dX5_isAtHome_91 : decode cX5_isAtHome 91 = .ok (.iload_n 3, 1) := by decide +kernel
theorem dX5_isAtHome_92 : decode cX5_isAtHome 92 = .ok (.imul, 1) := by decide +kernel
theorem dX5_isAtHome_93 : decode cX5_isAtHome 93 = .ok (.bipush 50, 2) := by decide +kernel
theorem dX5_isAtHome_95 : decode cX5_isAtHome 95 = .ok (.iload 5, 2) := by decide +kernel
theorem dX5_isAtHome_97 : decode cX5_isAtHome 97 = .ok (.imul, 1) := by decide +kernel
theorem dX5_isAtHome_98 : decode cX5_isAtHome 98 = .ok (.iadd, 1) := by decide +kernel
theorem dX5_isAtHome_99 : decode cX5_isAtHome 99 = .ok (.iload_n 2, 1) := by decide +kernel
theorem dX5_isAtHome_100 : decode cX5_isAtHome 100 = .ok (.iadd, 1) := by decide +kernel
theorem dX5_isAtHome_101 : decode cX5_isAtHome 101 = .ok (.baload, 1) := by decide +kernel
theorem dX5_isAtHome_102 : decode cX5_isAtHome 102 = .ok (.ifCond .eq 7, 3) := by decide +kernel
theorem dX5_isAtHome_105 : decode cX5_isAtHome 105 = .ok (.iconst 1, 1) := by decide +kernel
theorem dX5_isAtHome_106 : decode cX5_isAtHome 106 = .ok (.goto 4, 3) := by decide +kernel
theorem dX5_isAtHome_109 : decode cX5_isAtHome 109 = .ok (.iconst 0, 1) := by decide +kernel
theorem dX5_isAtHome_110 : decode cX5_isAtHome 110 = .ok (.istore 4, 2) := by decide +kernel
theorem dX5_isAtHome_112 : decode cX5_isAtHome 112 = .ok (.iinc 5 1, 3) := by decide +kernel
theorem dX5_isAtHome_115 : decode cX5_isAtHome 115 = .ok (.goto (-60), 3) := by decide +kernel
theorem dX5_isAtHome_118 : decode cX5_isAtHome 118 = .ok (.iload 4, 2) := by decide +kernel
theorem dX5_isAtHome_120 : decode cX5_isAtHome 120 = .ok (.ifCond .eq 16, 3) := by decide +kernel
theorem dX5_isAtHome_123 : decode cX5_isAtHome 123 = .ok (.aload_n 0, 1) := by decide +kernel
theorem dX5_isAtHome_124 : decode cX5_isAtHome 124 = .ok (.iload_n 1, 1) := by decide +kernel
theorem dX5_isAtHome_125 : decode cX5_isAtHome 125 = .ok (.iload_n 2, 1) := by decide +kernel
theorem dX5_isAtHome_126 : decode cX5_isAtHome 126 = .ok (.invokevirtual 139, 3) := by decide +kernel
theorem dX5_isAtHome_129 : decode cX5_isAtHome 129 = .ok (.ifCond .eq 7, 3) := by decide +kernel
theorem dX5_isAtHome_132 : decode cX5_isAtHome 132 = .ok (.iconst 1, 1) := by decide +kernel
theorem dX5_isAtHome_133 : decode cX5_isAtHome 133 = .ok (.goto 4, 3) := by decide +kernel
theorem dX5_isAtHome_136 : decode cX5_isAtHome 136 = .ok (.iconst 0, 1) := by decide +kernel
theorem dX5_isAtHome_137 : decode cX5_isAtHome 137 = .ok (.ireturn, 1) := by decide +kernel
set_option maxRecDepth 1000000 in
theorem ggX5_home_X5_isOne : GoodIn wsX5_home wsX5_isOne := goodIn_r _ [7, 8, 9, 10, 6, 11, 39, 40, 41, 42, 43, 44, 45, 46, 47, 48, 49, 50, 51, 52, 53, 54, 55, 56, 57, 58, 59, 60, 61, 62, 63, 64] rfl (by decide +kernel)
set_option maxRecDepth 20000 in
theorem gX5_home_X5_isOne : GoodIn wsX5_home (wsV RX5 125 RX5 yX5_isOne wsX5_isOne) := goodIn_app (goodIn_of _ (by decide +kernel)) ggX5_home_X5_isOne
set_option maxRecDepth 1000000 in
theorem ggX5_home_X5_isAtHome : GoodIn wsX5_home wsX5_isAtHome := goodIn_r _ [15, 16, 17, 18, 8, 19, 20, 21, 22, 6, 23, 24, 25, 26, 27, 28, 29, 30, 31, 32, 33, 34, 35, 36, 37, 38, 39, 40, 41, 42, 43, 44, 45, 46, 47, 48, 49, 50, 51, 52, 53, 54, 55, 56, 57, 58, 59, 60, 61, 62, 63, 64] rfl (by decide +kernel)
set_option maxRecDepth 20000 in
theorem gX5_home_X5_isAtHome : GoodIn wsX5_home (wsV RX5 145 RX5 yX5_isAtHome wsX5_isAtHome) := goodIn_app (goodIn_of _ (by decide +kernel)) ggX5_home_X5_isAtHome
theorem dX5_home_0 : decode cX5_home 0 = .ok (.aload_n 0, 1) := by decide +kernel
theorem dX5_home_1 : decode cX5_home 1 = .ok (.aload_n 0, 1) := by decide +kernel
theorem dX5_home_2 : decode cX5_home 2 = .ok (.iload_n 1, 1) := by decide +kernel
theorem dX5_home_3 : decode cX5_home 3 = .ok (.invokevirtual 125, 3) := by decide +kernel
theorem dX5_home_6 : decode cX5_home 6 = .ok (.ifCond .eq 11, 3) := by decide +kernel
theorem dX5_home_9 : decode cX5_home 9 = .ok (.iload_n 2, 1) := by decide +kernel
theorem dX5_home_10 : decode cX5_home 10 = .ok (.ifCond .lt 7, 3) := by decide +kernel
theorem dX5_home_13 : decode cX5_home 13 = .ok (.iconst 0, 1) := by decide +kernel
theorem dX5_home_14 : decode cX5_home 14 = .ok (.goto 4, 3) := by decide +kernel
theorem dX5_home_17 : decode cX5_home 17 = .ok (.iconst 1, 1) := by decide +kernel
theorem dX5_home_18 : decode cX5_home 18 = .ok (.putfield 77, 3) := by decide +kernel
theorem dX5_home_21 : decode cX5_home 21 = .ok (.aload_n 0, 1) := by decide +kernel
theorem dX5_home_22 : decode cX5_home 22 = .ok (.getfield 77, 3) := by decide +kernel
theorem dX5_home_25 : decode cX5_home 25 = .ok (.ifCond .eq 5, 3) := by decide +kernel
theorem dX5_home_28 : decode cX5_home 28 = .ok (.iconst 0, 1) := by decide +kernel
theorem dX5_home_29 : decode cX5_home 29 = .ok (.ireturn, 1) := by decide +kernel
theorem dX5_home_30 : decode cX5_home 30 = .ok (.iload_n 2, 1) := by decide +kernel
theorem dX5_home_31 : decode cX5_home 31 = .ok (.istore_n 3, 1) := by decide +kernel
theorem dX5_home_32 : decode cX5_home 32 = .ok (.aload_n 0, 1) := by decide +kernel
theorem dX5_home_33 : decode cX5_home 33 = .ok (.getfield 136, 3) := by decide +kernel
theorem dX5_home_36 : decode cX5_home 36 = .ok (.iconst 1, 1) := by decide +kernel
theorem dX5_home_37 : decode cX5_home 37 = .ok (.isub, 1) := by decide +kernel
theorem dX5_home_38 : decode cX5_home 38 = .ok (.istore 4, 2) := by decide +kernel
theorem dX5_home_40 : decode cX5_home 40 = .ok (.iload 4, 2) := by decide +kernel
theorem dX5_home_42 : decode cX5_home 42 = .ok (.ifCond .lt 29, 3) := by decide +kernel
theorem dX5_home_45 : decode cX5_home 45 = .ok (.aload_n 0, 1) := by decide +kernel
theorem dX5_home_46 : decode cX5_home 46 = .ok (.iload_n 1, 1) := by decide +kernel
theorem dX5_home_47 : decode cX5_home 47 = .ok (.iload 4, 2) := by decide +kernel
theorem dX5_home_49 : decode cX5_home 49 = .ok (.invokevirtual 145, 3) := by decide +kernel
theorem dX5_home_52 : decode cX5_home 52 = .ok (.ifCond .eq 13, 3) := by decide +kernel
theorem dX5_home_55 : decode cX5_home 55 = .ok (.iload_n 3, 1) := by decide +kernel
theorem dX5_home_56 : decode cX5_home 56 = .ok (.ifCond .ne 6, 3) := by decide +kernel
theorem dX5_home_59 : decode cX5_home 59 = .ok (.iload 4, 2) := by decide +kernel
theorem dX5_home_61 : decode cX5_home 61 = .ok (.ireturn, 1) := by decide +kernel
theorem dX5_home_62 : decode cX5_home 62 = .ok (.iinc 3 (-1), 3) := by decide +kernel
theorem dX5_home_65 : decode cX5_home 65 = .ok (.iinc 4 (-1), 3) := by decide +kernel
theorem dX5_home_68 : decode cX5_home 68 = .ok (.goto (-28), 3) := by decide +kernel
theorem dX5_home_71 : decode cX5_home 71 = .ok (.iconst (-1), 1) := by decide +kernel
theorem dX5_home_72 : decode cX5_home 72 = .ok (.ireturn, 1) := by decide +kernel
