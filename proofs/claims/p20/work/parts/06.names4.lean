set_option maxRecDepth 1000000 in
theorem ggX4_init_X3_init : GoodIn wsX4_init wsX3_init := goodIn_r _ [21, 22, 2, 3, 23, 15, 16, 24, 25, 11, 12, 26, 27, 28, 29, 30, 31, 32, 33, 8, 34, 35, 36, 37, 38, 39, 40, 41, 42, 43, 44, 45, 46, 47, 48, 49, 50, 51, 52, 53, 54, 55, 56, 72, 73, 74, 75, 76, 77, 78, 58, 59, 60, 61, 62, 69, 70, 71] rfl (by decide +kernel)
set_option maxRecDepth 20000 in
theorem gX4_init_X3_init_n9 : GoodIn wsX4_init (wsX3_init) := ggX4_init_X3_init
set_option maxRecDepth 1000000 in
theorem ggX4_init_Jx4a65c_init_da8c8 : GoodIn wsX4_init wsJx4a65c_init_da8c8 := goodIn_r _ [44, 45, 46, 47, 48, 49, 50, 51, 52, 53, 54, 55, 56, 2, 3, 69, 70, 71] rfl (by decide +kernel)
set_option maxRecDepth 20000 in
theorem gX4_init_Jx4a65c_init_da8c8 : GoodIn wsX4_init (wsJx4a65c_init_da8c8) := ggX4_init_Jx4a65c_init_da8c8
set_option maxRecDepth 1000000 in
theorem ggX4_init_X1_init : GoodIn wsX4_init wsX1_init := goodIn_r _ [32, 33, 2, 3, 8, 34, 35, 36, 37, 38, 39, 40, 41, 72, 73, 74, 75, 76, 77, 78] rfl (by decide +kernel)
set_option maxRecDepth 20000 in
theorem gX4_init_X1_init_n29 : GoodIn wsX4_init (wsX1_init) := ggX4_init_X1_init
theorem dX4_init_0 : decode cX4_init 0 = .ok (.aload_n 0, 1) := by decide +kernel
theorem dX4_init_1 : decode cX4_init 1 = .ok (.invokespecial 1, 3) := by decide +kernel
theorem dX4_init_4 : decode cX4_init 4 = .ok (.aload_n 0, 1) := by decide +kernel
theorem dX4_init_5 : decode cX4_init 5 = .ok (.iconst 4, 1) := by decide +kernel
theorem dX4_init_6 : decode cX4_init 6 = .ok (.anewarray 7, 3) := by decide +kernel
theorem dX4_init_9 : decode cX4_init 9 = .ok (.dup, 1) := by decide +kernel
theorem dX4_init_10 : decode cX4_init 10 = .ok (.iconst 0, 1) := by decide +kernel
theorem dX4_init_11 : decode cX4_init 11 = .ok (.new 7, 3) := by decide +kernel
theorem dX4_init_14 : decode cX4_init 14 = .ok (.dup, 1) := by decide +kernel
theorem dX4_init_15 : decode cX4_init 15 = .ok (.invokespecial 9, 3) := by decide +kernel
theorem dX4_init_18 : decode cX4_init 18 = .ok (.aastore, 1) := by decide +kernel
theorem dX4_init_19 : decode cX4_init 19 = .ok (.dup, 1) := by decide +kernel
theorem dX4_init_20 : decode cX4_init 20 = .ok (.iconst 1, 1) := by decide +kernel
theorem dX4_init_21 : decode cX4_init 21 = .ok (.new 7, 3) := by decide +kernel
theorem dX4_init_24 : decode cX4_init 24 = .ok (.dup, 1) := by decide +kernel
theorem dX4_init_25 : decode cX4_init 25 = .ok (.invokespecial 9, 3) := by decide +kernel
theorem dX4_init_28 : decode cX4_init 28 = .ok (.aastore, 1) := by decide +kernel
theorem dX4_init_29 : decode cX4_init 29 = .ok (.dup, 1) := by decide +kernel
theorem dX4_init_30 : decode cX4_init 30 = .ok (.iconst 2, 1) := by decide +kernel
theorem dX4_init_31 : decode cX4_init 31 = .ok (.new 7, 3) := by decide +kernel
theorem dX4_init_34 : decode cX4_init 34 = .ok (.dup, 1) := by decide +kernel
theorem dX4_init_35 : decode cX4_init 35 = .ok (.invokespecial 9, 3) := by decide +kernel
theorem dX4_init_38 : decode cX4_init 38 = .ok (.aastore, 1) := by decide +kernel
theorem dX4_init_39 : decode cX4_init 39 = .ok (.dup, 1) := by decide +kernel
theorem dX4_init_40 : decode cX4_init 40 = .ok (.iconst 3, 1) := by decide +kernel
theorem dX4_init_41 : decode cX4_init 41 = .ok (.new 7, 3) := by decide +kernel
theorem dX4_init_44 : decode cX4_init 44 = .ok (.dup, 1) := by decide +kernel
theorem dX4_init_45 : decode cX4_init 45 = .ok (.invokespecial 9, 3) := by decide +kernel
theorem dX4_init_48 : decode cX4_init 48 = .ok (.aastore, 1) := by decide +kernel
theorem dX4_init_49 : decode cX4_init 49 = .ok (.putfield 10, 3) := by decide +kernel
theorem dX4_init_52 : decode cX4_init 52 = .ok (.aload_n 0, 1) := by decide +kernel
theorem dX4_init_53 : decode cX4_init 53 = .ok (.bipush 10, 2) := by decide +kernel
theorem dX4_init_55 : decode cX4_init 55 = .ok (.newarray .int, 2) := by decide +kernel
theorem dX4_init_57 : decode cX4_init 57 = .ok (.putfield 16, 3) := by decide +kernel
theorem dX4_init_60 : decode cX4_init 60 = .ok (.aload_n 0, 1) := by decide +kernel
theorem dX4_init_61 : decode cX4_init 61 = .ok (.new 20, 3) := by decide +kernel
theorem dX4_init_64 : decode cX4_init 64 = .ok (.dup, 1) := by decide +kernel
theorem dX4_init_65 : decode cX4_init 65 = .ok (.invokespecial 22, 3) := by decide +kernel
theorem dX4_init_68 : decode cX4_init 68 = .ok (.putfield 23, 3) := by decide +kernel
theorem dX4_init_71 : decode cX4_init 71 = .ok (.aload_n 0, 1) := by decide +kernel
theorem dX4_init_72 : decode cX4_init 72 = .ok (.new 27, 3) := by decide +kernel
theorem dX4_init_75 : decode cX4_init 75 = .ok (.dup, 1) := by decide +kernel
theorem dX4_init_76 : decode cX4_init 76 = .ok (.invokespecial 29, 3) := by decide +kernel
theorem dX4_init_79 : decode cX4_init 79 = .ok (.putfield 30, 3) := by decide +kernel
theorem dX4_init_82 : decode cX4_init 82 = .ok (.aload_n 0, 1) := by decide +kernel
theorem dX4_init_83 : decode cX4_init 83 = .ok (.iconst 0, 1) := by decide +kernel
theorem dX4_init_84 : decode cX4_init 84 = .ok (.putfield 34, 3) := by decide +kernel
theorem dX4_init_87 : decode cX4_init 87 = .ok (.aload_n 0, 1) := by decide +kernel
theorem dX4_init_88 : decode cX4_init 88 = .ok (.iconst 0, 1) := by decide +kernel
theorem dX4_init_89 : decode cX4_init 89 = .ok (.putfield 38, 3) := by decide +kernel
theorem dX4_init_92 : decode cX4_init 92 = .ok (.return_, 1) := by decide +kernel
set_option maxRecDepth 1000000 in
theorem ggX4_person_X4_requireServer : GoodIn wsX4_person wsX4_requireServer := goodIn_ca (goodIn_r _ [8, 9, 10] rfl (by decide +kernel)) (goodIn_sub (fun _ h => List.mem_cons_of_mem _ (List.mem_append_right _ h)) (by decide +kernel))
set_option maxRecDepth 20000 in
theorem gX4_person_X4_requireServer : GoodIn wsX4_person (va_wsS RX4 41 yX4_requireServer wsX4_requireServer) := goodIn_app (goodIn_of _ (by decide +kernel)) ggX4_person_X4_requireServer
theorem dX4_person_0 : decode cX4_person 0 = .ok (.iload_n 1, 1) := by decide +kernel
theorem dX4_person_1 : decode cX4_person 1 = .ok (.invokestatic 41, 3) := by decide +kernel
theorem dX4_person_4 : decode cX4_person 4 = .ok (.aload_n 0, 1) := by decide +kernel
theorem dX4_person_5 : decode cX4_person 5 = .ok (.getfield 34, 3) := by decide +kernel
theorem dX4_person_8 : decode cX4_person 8 = .ok (.bipush 10, 2) := by decide +kernel
theorem dX4_person_10 : decode cX4_person 10 = .ok (.if_icmp .lt 13, 3) := by decide +kernel
theorem dX4_person_13 : decode cX4_person 13 = .ok (.new 45, 3) := by decide +kernel
theorem dX4_person_16 : decode cX4_person 16 = .ok (.dup, 1) := by decide +kernel
theorem dX4_person_17 : decode cX4_person 17 = .ok (.ldc 47, 2) := by decide +kernel
theorem dX4_person_19 : decode cX4_person 19 = .ok (.invokespecial 49, 3) := by decide +kernel
theorem dX4_person_22 : decode cX4_person 22 = .ok (.athrow, 1) := by decide +kernel
theorem dX4_person_23 : decode cX4_person 23 = .ok (.aload_n 0, 1) := by decide +kernel
theorem dX4_person_24 : decode cX4_person 24 = .ok (.getfield 16, 3) := by decide +kernel
theorem dX4_person_27 : decode cX4_person 27 = .ok (.aload_n 0, 1) := by decide +kernel
theorem dX4_person_28 : decode cX4_person 28 = .ok (.getfield 34, 3) := by decide +kernel
theorem dX4_person_31 : decode cX4_person 31 = .ok (.iload_n 1, 1) := by decide +kernel
theorem dX4_person_32 : decode cX4_person 32 = .ok (.iastore, 1) := by decide +kernel
theorem dX4_person_33 : decode cX4_person 33 = .ok (.aload_n 0, 1) := by decide +kernel
theorem dX4_person_34 : decode cX4_person 34 = .ok (.dup, 1) := by decide +kernel
theorem dX4_person_35 : decode cX4_person 35 = .ok (.getfield 34, 3) := by decide +kernel
theorem dX4_person_38 : decode cX4_person 38 = .ok (.iconst 1, 1) := by decide +kernel
theorem dX4_person_39 : decode cX4_person 39 = .ok (.iadd, 1) := by decide +kernel
theorem dX4_person_40 : decode cX4_person 40 = .ok (.putfield 34, 3) := by decide +kernel
theorem dX4_person_43 : decode cX4_person 43 = .ok (.aload_n 0, 1) := by decide +kernel
theorem dX4_person_44 : decode cX4_person 44 = .ok (.getfield 34, 3) := by decide +kernel
theorem dX4_person_47 : decode cX4_person 47 = .ok (.iconst 1, 1) := by decide +kernel
theorem dX4_person_48 : decode cX4_person 48 = .ok (.isub, 1) := by decide +kernel
theorem dX4_person_49 : decode cX4_person 49 = .ok (.ireturn, 1) := by decide +kernel
set_option maxRecDepth 1000000 in
theorem ggX4_follow_X4_requireTwo : GoodIn wsX4_follow wsX4_requireTwo := goodIn_ca (goodIn_r _ [11, 12, 13, 14, 10, 15, 16, 17, 18, 222, 223, 224, 225, 226, 227] rfl (by decide +kernel)) (goodIn_sub (fun _ h => List.mem_cons_of_mem _ (List.mem_append_left _ (List.mem_append_right _ h))) (by decide +kernel))
set_option maxRecDepth 20000 in
theorem gX4_follow_X4_requireTwo : GoodIn wsX4_follow (wsV RX4 52 RX4 yX4_requireTwo wsX4_requireTwo) := goodIn_app (goodIn_of _ (by decide +kernel)) ggX4_follow_X4_requireTwo
set_option maxRecDepth 1000000 in
theorem ggX4_follow_X4_requireDifferent : GoodIn wsX4_follow wsX4_requireDifferent := goodIn_ca (goodIn_r _ [21, 22, 23] rfl (by decide +kernel)) (goodIn_sub (fun _ h => List.mem_cons_of_mem _ (List.mem_append_right _ h)) (by decide +kernel))
set_option maxRecDepth 20000 in
theorem gX4_follow_X4_requireDifferent : GoodIn wsX4_follow (va_wsS RX4 56 yX4_requireDifferent wsX4_requireDifferent) := goodIn_app (goodIn_of _ (by decide +kernel)) ggX4_follow_X4_requireDifferent
set_option maxRecDepth 1000000 in
theorem ggX4_follow_X4_atHomeOf : GoodIn wsX4_follow wsX4_atHomeOf := goodIn_r _ [27, 28, 29, 30, 222, 223, 224, 225, 226, 227, 228, 229, 230, 231, 232] rfl (by decide +kernel)
set_option maxRecDepth 20000 in
theorem gX4_follow_X4_atHomeOf : GoodIn wsX4_follow (wsV RX4 59 RX4 yX4_atHomeOf wsX4_atHomeOf) := goodIn_app (goodIn_of _ (by decide +kernel)) ggX4_follow_X4_atHomeOf
set_option maxRecDepth 1000000 in
theorem ggX4_follow_X1_isAsking : GoodIn wsX4_follow wsX1_isAsking := goodIn_r _ [35, 36, 37, 10, 38, 233, 234, 235, 236, 237, 238, 239] rfl (by decide +kernel)
set_option maxRecDepth 20000 in
theorem gX4_follow_X1_isAsking : GoodIn wsX4_follow (wsV RX4 63 RX1 yX1_isAsking wsX1_isAsking) := goodIn_app (goodIn_of _ (by decide +kernel)) ggX4_follow_X1_isAsking
set_option maxRecDepth 1000000 in
theorem ggX4_follow_X1_isFollowing : GoodIn wsX4_follow wsX1_isFollowing := goodIn_r _ [42, 43, 37, 10, 38, 233, 234, 235, 236, 237, 238, 239] rfl (by decide +kernel)
set_option maxRecDepth 20000 in
theorem gX4_follow_X1_isFollowing : GoodIn wsX4_follow (wsV RX4 67 RX1 yX1_isFollowing wsX1_isFollowing) := goodIn_app (goodIn_of _ (by decide +kernel)) ggX4_follow_X1_isFollowing
set_option maxRecDepth 1000000 in
theorem ggX4_follow_X1_isBlockBetween : GoodIn wsX4_follow wsX1_isBlockBetween := goodIn_r _ [47, 48, 37, 10, 38, 233, 234, 235, 236, 237, 238, 239] rfl (by decide +kernel)
set_option maxRecDepth 20000 in
theorem gX4_follow_X1_isBlockBetween : GoodIn wsX4_follow (wsV RX4 70 RX1 yX1_isBlockBetween wsX1_isBlockBetween) := goodIn_app (goodIn_of _ (by decide +kernel)) ggX4_follow_X1_isBlockBetween
set_option maxRecDepth 1000000 in
theorem ggX4_follow_X0_init : GoodIn wsX4_follow wsX0_init := goodIn_r _ [51, 52, 53, 54, 55, 56, 57, 58, 59, 217, 218, 219, 220, 221] rfl (by decide +kernel)
set_option maxRecDepth 20000 in
theorem gX4_follow_X0_init : GoodIn wsX4_follow (wsX0_init) := ggX4_follow_X0_init
set_option maxRecDepth 1000000 in
theorem ggX4_follow_X4_homeOf : GoodIn wsX4_follow wsX4_homeOf := goodIn_r _ [63, 29, 64, 65, 10, 66, 222, 223, 224, 225, 226, 227] rfl (by decide +kernel)
set_option maxRecDepth 20000 in
theorem gX4_follow_X4_homeOf : GoodIn wsX4_follow (wsV RX4 80 RX4 yX4_homeOf wsX4_homeOf) := goodIn_app (goodIn_of _ (by decide +kernel)) ggX4_follow_X4_homeOf
set_option maxRecDepth 1000000 in
theorem ggX4_follow_X4_perform : GoodIn wsX4_follow wsX4_perform := goodIn_r _ [70, 6, 71, 29, 60, 61, 62, 10, 63, 64, 65, 66, 72, 73, 74, 75, 28, 76, 77, 37, 38, 78, 79, 80, 81, 82, 83, 84, 85, 86, 87, 88, 89, 90, 91, 92, 93, 94, 95, 96, 97, 98, 99, 100, 101, 102, 103, 104, 105, 106, 107, 108, 109, 110, 111, 112, 113, 114, 115, 116, 117, 118, 119, 120, 121, 122, 123, 124, 125, 126, 127, 128, 129, 130, 131, 132, 133, 134, 135, 136, 137, 138, 139, 140, 30, 141, 142, 143, 34, 144, 145, 146, 147, 36, 48, 148, 149, 150, 151, 152, 153, 154, 155, 156, 157, 40, 41, 42, 43, 158, 45, 46, 47, 159, 160, 161, 162, 163, 32, 33, 35, 164, 165, 166, 167, 168, 169, 170, 171, 172, 173, 174, 175, 176, 177, 178, 179, 180, 181, 182, 183, 184, 185, 186, 187, 188, 189, 190, 191, 192, 193, 194, 195, 196, 197, 198, 199, 200, 201, 202, 203, 204, 205, 206, 207, 208, 209, 210, 211, 212, 213, 214, 215, 216, 18, 222, 223, 224, 225, 226, 227, 217, 218, 219, 220, 221, 228, 229, 230, 231, 232, 240, 241, 242, 233, 234, 235, 236, 237, 238, 239, 243, 244, 245, 246, 247, 248] rfl (by decide +kernel)
set_option maxRecDepth 20000 in
theorem gX4_follow_X4_perform : GoodIn wsX4_follow (wsV RX4 84 RX4 yX4_perform wsX4_perform) := goodIn_app (goodIn_of _ (by decide +kernel)) ggX4_follow_X4_perform
theorem dX4_follow_0 : decode cX4_follow 0 = .ok (.aload_n 0, 1) := by decide +kernel
theorem dX4_follow_1 : decode cX4_follow 1 = .ok (.iload_n 1, 1) := by decide +kernel
theorem dX4_follow_2 : decode cX4_follow 2 = .ok (.iload_n 2, 1) := by decide +kernel
theorem dX4_follow_3 : decode cX4_follow 3 = .ok (.invokevirtual 52, 3) := by decide +kernel
theorem dX4_follow_6 : decode cX4_follow 6 = .ok (.iload_n 1, 1) := by decide +kernel
theorem dX4_follow_7 : decode cX4_follow 7 = .ok (.iload_n 2, 1) := by decide +kernel
theorem dX4_follow_8 : decode cX4_follow 8 = .ok (.invokestatic 56, 3) := by decide +kernel
theorem dX4_follow_11 : decode cX4_follow 11 = .ok (.aload_n 0, 1) := by decide +kernel
theorem dX4_follow_12 : decode cX4_follow 12 = .ok (.iload_n 1, 1) := by decide +kernel
theorem dX4_follow_13 : decode cX4_follow 13 = .ok (.invokevirtual 59, 3) := by decide +kernel
theorem dX4_follow_16 : decode cX4_follow 16 = .ok (.astore_n 3, 1) := by decide +kernel
theorem dX4_follow_17 : decode cX4_follow 17 = .ok (.aload_n 3, 1) := by decide +kernel
theorem dX4_follow_18 : decode cX4_follow 18 = .ok (.iload_n 1, 1) := by decide +kernel
theorem dX4_follow_19 : decode cX4_follow 19 = .ok (.iload_n 2, 1) := by decide +kernel
theorem dX4_follow_20 : decode cX4_follow 20 = .ok (.invokevirtual 63, 3) := by decide +kernel
theorem dX4_follow_23 : decode cX4_follow 23 = .ok (.ifCond .ne 21, 3) := by decide +kernel
theorem dX4_follow_26 : decode cX4_follow 26 = .ok (.aload_n 3, 1) := by decide +kernel
theorem dX4_follow_27 : decode cX4_follow 27 = .ok (.iload_n 1, 1) := by decide +kernel
theorem dX4_follow_28 : decode cX4_follow 28 = .ok (.iload_n 2, 1) := by decide +kernel
theorem dX4_follow_29 : decode cX4_follow 29 = .ok (.invokevirtual 67, 3) := by decide +kernel
theorem dX4_follow_32 : decode cX4_follow 32 = .ok (.ifCond .ne 12, 3) := by decide +kernel
theorem dX4_follow_35 : decode cX4_follow 35 = .ok (.aload_n 3, 1) := by decide +kernel
theorem dX4_follow_36 : decode cX4_follow 36 = .ok (.iload_n 1, 1) := by decide +kernel
theorem dX4_follow_37 : decode cX4_follow 37 = .ok (.iload_n 2, 1) := by decide +kernel
theorem dX4_follow_38 : decode cX4_follow 38 = .ok (.invokevirtual 70, 3) := by decide +kernel
theorem dX4_follow_41 : decode cX4_follow 41 = .ok (.ifCond .eq 13, 3) := by decide +kernel
theorem dX4_follow_44 : decode cX4_follow 44 = .ok (.new 45, 3) := by decide +kernel
theorem dX4_follow_47 : decode cX4_follow 47 = .ok (.dup, 1) := by decide +kernel
theorem dX4_follow_48 : decode cX4_follow 48 = .ok (.ldc 73, 2) := by decide +kernel
theorem dX4_follow_50 : decode cX4_follow 50 = .ok (.invokespecial 49, 3) := by decide +kernel
theorem dX4_follow_53 : decode cX4_follow 53 = .ok (.athrow, 1) := by decide +kernel
theorem dX4_follow_54 : decode cX4_follow 54 = .ok (.aload_n 0, 1) := by decide +kernel
theorem dX4_follow_55 : decode cX4_follow 55 = .ok (.new 75, 3) := by decide +kernel
theorem dX4_follow_58 : decode cX4_follow 58 = .ok (.dup, 1) := by decide +kernel
theorem dX4_follow_59 : decode cX4_follow 59 = .ok (.aload_n 0, 1) := by decide +kernel
theorem dX4_follow_60 : decode cX4_follow 60 = .ok (.getfield 38, 3) := by decide +kernel
theorem dX4_follow_63 : decode cX4_follow 63 = .ok (.iconst 0, 1) := by decide +kernel
theorem dX4_follow_64 : decode cX4_follow 64 = .ok (.iload_n 1, 1) := by decide +kernel
theorem dX4_follow_65 : decode cX4_follow 65 = .ok (.iload_n 2, 1) := by decide +kernel
theorem dX4_follow_66 : decode cX4_follow 66 = .ok (.iconst 0, 1) := by decide +kernel
theorem dX4_follow_67 : decode cX4_follow 67 = .ok (.invokespecial 77, 3) := by decide +kernel
theorem dX4_follow_70 : decode cX4_follow 70 = .ok (.aload_n 0, 1) := by decide +kernel
theorem dX4_follow_71 : decode cX4_follow 71 = .ok (.iload_n 2, 1) := by decide +kernel
theorem dX4_follow_72 : decode cX4_follow 72 = .ok (.invokevirtual 80, 3) := by decide +kernel
theorem dX4_follow_75 : decode cX4_follow 75 = .ok (.invokevirtual 84, 3) := by decide +kernel
theorem dX4_follow_78 : decode cX4_follow 78 = .ok (.return_, 1) := by decide +kernel
set_option maxRecDepth 1000000 in
theorem ggX4_answer_X4_requireTwo : GoodIn wsX4_answer wsX4_requireTwo := goodIn_ca (goodIn_r _ [11, 12, 13, 14, 10, 15, 16, 17, 18, 215, 216, 217, 218, 219, 220] rfl (by decide +kernel)) (goodIn_sub (fun _ h => List.mem_cons_of_mem _ (List.mem_append_right _ h)) (by decide +kernel))
set_option maxRecDepth 20000 in
theorem gX4_answer_X4_requireTwo : GoodIn wsX4_answer (wsV RX4 52 RX4 yX4_requireTwo wsX4_requireTwo) := goodIn_app (goodIn_of _ (by decide +kernel)) ggX4_answer_X4_requireTwo
set_option maxRecDepth 1000000 in
theorem ggX4_answer_X4_atHomeOf : GoodIn wsX4_answer wsX4_atHomeOf := goodIn_r _ [22, 23, 24, 25, 215, 216, 217, 218, 219, 220, 221, 222, 223, 224, 225] rfl (by decide +kernel)
set_option maxRecDepth 20000 in
theorem gX4_answer_X4_atHomeOf : GoodIn wsX4_answer (wsV RX4 59 RX4 yX4_atHomeOf wsX4_atHomeOf) := goodIn_app (goodIn_of _ (by decide +kernel)) ggX4_answer_X4_atHomeOf
set_option maxRecDepth 1000000 in
theorem ggX4_answer_X1_isAsking : GoodIn wsX4_answer wsX1_isAsking := goodIn_r _ [30, 31, 32, 10, 33, 226, 227, 228, 229, 230, 231, 232] rfl (by decide +kernel)
set_option maxRecDepth 20000 in
theorem gX4_answer_X1_isAsking : GoodIn wsX4_answer (wsV RX4 63 RX1 yX1_isAsking wsX1_isAsking) := goodIn_app (goodIn_of _ (by decide +kernel)) ggX4_answer_X1_isAsking
set_option maxRecDepth 1000000 in
theorem ggX4_answer_X0_init : GoodIn wsX4_answer wsX0_init := goodIn_r _ [36, 37, 38, 39, 40, 41, 42, 43, 44, 210, 211, 212, 213, 214] rfl (by decide +kernel)
set_option maxRecDepth 20000 in
theorem gX4_answer_X0_init : GoodIn wsX4_answer (wsX0_init) := ggX4_answer_X0_init
set_option maxRecDepth 1000000 in
theorem ggX4_answer_X4_homeOf : GoodIn wsX4_answer wsX4_homeOf := goodIn_r _ [48, 24, 49, 50, 10, 51, 215, 216, 217, 218, 219, 220] rfl (by decide +kernel)
set_option maxRecDepth 20000 in
theorem gX4_answer_X4_homeOf : GoodIn wsX4_answer (wsV RX4 80 RX4 yX4_homeOf wsX4_homeOf) := goodIn_app (goodIn_of _ (by decide +kernel)) ggX4_answer_X4_homeOf
set_option maxRecDepth 1000000 in
theorem ggX4_answer_X4_perform : GoodIn wsX4_answer wsX4_perform := goodIn_r _ [55, 6, 56, 24, 45, 46, 47, 10, 48, 49, 50, 51, 57, 58, 59, 60, 23, 61, 62, 32, 33, 63, 64, 65, 66, 67, 68, 69, 70, 71, 72, 73, 74, 75, 76, 77, 78, 79, 80, 81, 82, 83, 84, 85, 86, 87, 88, 89, 90, 91, 92, 93, 94, 95, 96, 97, 98, 99, 100, 101, 102, 103, 104, 105, 106, 107, 108, 109, 110, 111, 112, 113, 114, 115, 116, 117, 118, 119, 120, 121, 122, 123, 124, 125, 25, 126, 127, 128, 29, 129, 130, 131, 132, 31, 133, 134, 135, 136, 137, 138, 139, 140, 141, 142, 143, 144, 145, 146, 147, 148, 149, 150, 151, 152, 153, 154, 155, 156, 27, 28, 30, 157, 158, 159, 160, 161, 162, 163, 164, 165, 166, 167, 168, 169, 170, 171, 172, 173, 174, 175, 176, 177, 178, 179, 180, 181, 182, 183, 184, 185, 186, 187, 188, 189, 190, 191, 192, 193, 194, 195, 196, 197, 198, 199, 200, 201, 202, 203, 204, 205, 206, 207, 208, 209, 18, 215, 216, 217, 218, 219, 220, 210, 211, 212, 213, 214, 221, 222, 223, 224, 225, 233, 234, 235, 226, 227, 228, 229, 230, 231, 232, 236, 237, 238, 239, 240, 241] rfl (by decide +kernel)
set_option maxRecDepth 20000 in
theorem gX4_answer_X4_perform : GoodIn wsX4_answer (wsV RX4 84 RX4 yX4_perform wsX4_perform) := goodIn_app (goodIn_of _ (by decide +kernel)) ggX4_answer_X4_perform
theorem dX4_answer_0 : decode cX4_answer 0 = .ok (.aload_n 0, 1) := by decide +kernel
theorem dX4_answer_1 : decode cX4_answer 1 = .ok (.iload_n 1, 1) := by decide +kernel
theorem dX4_answer_2 : decode cX4_answer 2 = .ok (.iload_n 2, 1) := by decide +kernel
theorem dX4_answer_3 : decode cX4_answer 3 = .ok (.invokevirtual 52, 3) := by decide +kernel
theorem dX4_answer_6 : decode cX4_answer 6 = .ok (.aload_n 0, 1) := by decide +kernel
theorem dX4_answer_7 : decode cX4_answer 7 = .ok (.iload_n 1, 1) := by decide +kernel
theorem dX4_answer_8 : decode cX4_answer 8 = .ok (.invokevirtual 59, 3) := by decide +kernel
theorem dX4_answer_11 : decode cX4_answer 11 = .ok (.iload_n 2, 1) := by decide +kernel
theorem dX4_answer_12 : decode cX4_answer 12 = .ok (.iload_n 1, 1) := by decide +kernel
theorem dX4_answer_13 : decode cX4_answer 13 = .ok (.invokevirtual 63, 3) := by decide +kernel
theorem dX4_answer_16 : decode cX4_answer 16 = .ok (.ifCond .ne 13, 3) := by decide +kernel
theorem dX4_answer_19 : decode cX4_answer 19 = .ok (.new 45, 3) := by decide +kernel
theorem dX4_answer_22 : decode cX4_answer 22 = .ok (.dup, 1) := by decide +kernel
theorem dX4_answer_23 : decode cX4_answer 23 = .ok (.ldc 88, 2) := by decide +kernel
theorem dX4_answer_25 : decode cX4_answer 25 = .ok (.invokespecial 49, 3) := by decide +kernel
theorem dX4_answer_28 : decode cX4_answer 28 = .ok (.athrow, 1) := by decide +kernel
theorem dX4_answer_29 : decode cX4_answer 29 = .ok (.aload_n 0, 1) := by decide +kernel
theorem dX4_answer_30 : decode cX4_answer 30 = .ok (.new 75, 3) := by decide +kernel
theorem dX4_answer_33 : decode cX4_answer 33 = .ok (.dup, 1) := by decide +kernel
theorem dX4_answer_34 : decode cX4_answer 34 = .ok (.aload_n 0, 1) := by decide +kernel
theorem dX4_answer_35 : decode cX4_answer 35 = .ok (.getfield 38, 3) := by decide +kernel
theorem dX4_answer_38 : decode cX4_answer 38 = .ok (.iload_n 3, 1) := by decide +kernel
theorem dX4_answer_39 : decode cX4_answer 39 = .ok (.ifCond .eq 7, 3) := by decide +kernel
theorem dX4_answer_42 : decode cX4_answer 42 = .ok (.iconst 1, 1) := by decide +kernel
theorem dX4_answer_43 : decode cX4_answer 43 = .ok (.goto 4, 3) := by decide +kernel
theorem dX4_answer_46 : decode cX4_answer 46 = .ok (.iconst 2, 1) := by decide +kernel
theorem dX4_answer_47 : decode cX4_answer 47 = .ok (.iload_n 1, 1) := by decide +kernel
theorem dX4_answer_48 : decode cX4_answer 48 = .ok (.iload_n 2, 1) := by decide +kernel
theorem dX4_answer_49 : decode cX4_answer 49 = .ok (.iconst 0, 1) := by decide +kernel
theorem dX4_answer_50 : decode cX4_answer 50 = .ok (.invokespecial 77, 3) := by decide +kernel
theorem dX4_answer_53 : decode cX4_answer 53 = .ok (.aload_n 0, 1) := by decide +kernel
theorem dX4_answer_54 : decode cX4_answer 54 = .ok (.iload_n 2, 1) := by decide +kernel
theorem dX4_answer_55 : decode cX4_answer 55 = .ok (.invokevirtual 80, 3) := by decide +kernel
theorem dX4_answer_58 : decode cX4_answer 58 = .ok (.invokevirtual 84, 3) := by decide +kernel
theorem dX4_answer_61 : decode cX4_answer 61 = .ok (.return_, 1) := by decide +kernel
set_option maxRecDepth 1000000 in
theorem ggX4_leave_X4_requireTwo : GoodIn wsX4_leave wsX4_requireTwo := goodIn_ca (goodIn_r _ [11, 12, 13, 14, 10, 15, 16, 17, 18, 216, 217, 218, 219, 220, 221] rfl (by decide +kernel)) (goodIn_sub (fun _ h => List.mem_cons_of_mem _ (List.mem_append_right _ h)) (by decide +kernel))
set_option maxRecDepth 20000 in
theorem gX4_leave_X4_requireTwo : GoodIn wsX4_leave (wsV RX4 52 RX4 yX4_requireTwo wsX4_requireTwo) := goodIn_app (goodIn_of _ (by decide +kernel)) ggX4_leave_X4_requireTwo
set_option maxRecDepth 1000000 in
theorem ggX4_leave_X4_atHomeOf : GoodIn wsX4_leave wsX4_atHomeOf := goodIn_r _ [22, 23, 24, 25, 216, 217, 218, 219, 220, 221, 222, 223, 224, 225, 226] rfl (by decide +kernel)
set_option maxRecDepth 20000 in
theorem gX4_leave_X4_atHomeOf : GoodIn wsX4_leave (wsV RX4 59 RX4 yX4_atHomeOf wsX4_atHomeOf) := goodIn_app (goodIn_of _ (by decide +kernel)) ggX4_leave_X4_atHomeOf
set_option maxRecDepth 1000000 in
theorem ggX4_leave_X1_isAsking : GoodIn wsX4_leave wsX1_isAsking := goodIn_r _ [30, 31, 32, 10, 33, 227, 228, 229, 230, 231, 232, 233] rfl (by decide +kernel)
set_option maxRecDepth 20000 in
theorem gX4_leave_X1_isAsking : GoodIn wsX4_leave (wsV RX4 63 RX1 yX1_isAsking wsX1_isAsking) := goodIn_app (goodIn_of _ (by decide +kernel)) ggX4_leave_X1_isAsking
set_option maxRecDepth 1000000 in
theorem ggX4_leave_X1_isFollowing : GoodIn wsX4_leave wsX1_isFollowing := goodIn_r _ [37, 38, 32, 10, 33, 227, 228, 229, 230, 231, 232, 233] rfl (by decide +kernel)
set_option maxRecDepth 20000 in
theorem gX4_leave_X1_isFollowing : GoodIn wsX4_leave (wsV RX4 67 RX1 yX1_isFollowing wsX1_isFollowing) := goodIn_app (goodIn_of _ (by decide +kernel)) ggX4_leave_X1_isFollowing
set_option maxRecDepth 1000000 in
theorem ggX4_leave_X0_init : GoodIn wsX4_leave wsX0_init := goodIn_r _ [41, 42, 43, 44, 45, 46, 47, 48, 49, 211, 212, 213, 214, 215] rfl (by decide +kernel)
set_option maxRecDepth 20000 in
theorem gX4_leave_X0_init : GoodIn wsX4_leave (wsX0_init) := ggX4_leave_X0_init
set_option maxRecDepth 1000000 in
theorem ggX4_leave_X4_homeOf : GoodIn wsX4_leave wsX4_homeOf := goodIn_r _ [53, 24, 54, 55, 10, 56, 216, 217, 218, 219, 220, 221] rfl (by decide +kernel)
set_option maxRecDepth 20000 in
theorem gX4_leave_X4_homeOf : GoodIn wsX4_leave (wsV RX4 80 RX4 yX4_homeOf wsX4_homeOf) := goodIn_app (goodIn_of _ (by decide +kernel)) ggX4_leave_X4_homeOf
set_option maxRecDepth 1000000 in
theorem ggX4_leave_X4_perform : GoodIn wsX4_leave wsX4_perform := goodIn_r _ [60, 6, 61, 24, 50, 51, 52, 10, 53, 54, 55, 56, 62, 63, 64, 65, 23, 66, 67, 32, 33, 68, 69, 70, 71, 72, 73, 74, 75, 76, 77, 78, 79, 80, 81, 82, 83, 84, 85, 86, 87, 88, 89, 90, 91, 92, 93, 94, 95, 96, 97, 98, 99, 100, 101, 102, 103, 104, 105, 106, 107, 108, 109, 110, 111, 112, 113, 114, 115, 116, 117, 118, 119, 120, 121, 122, 123, 124, 125, 126, 127, 128, 129, 130, 25, 131, 132, 133, 29, 134, 135, 136, 137, 31, 138, 139, 140, 141, 142, 143, 144, 145, 146, 147, 148, 35, 36, 37, 38, 149, 150, 151, 152, 153, 154, 155, 156, 157, 27, 28, 30, 158, 159, 160, 161, 162, 163, 164, 165, 166, 167, 168, 169, 170, 171, 172, 173, 174, 175, 176, 177, 178, 179, 180, 181, 182, 183, 184, 185, 186, 187, 188, 189, 190, 191, 192, 193, 194, 195, 196, 197, 198, 199, 200, 201, 202, 203, 204, 205, 206, 207, 208, 209, 210, 18, 216, 217, 218, 219, 220, 221, 211, 212, 213, 214, 215, 222, 223, 224, 225, 226, 234, 235, 236, 227, 228, 229, 230, 231, 232, 233, 237, 238, 239, 240, 241, 242] rfl (by decide +kernel)
set_option maxRecDepth 20000 in
theorem gX4_leave_X4_perform : GoodIn wsX4_leave (wsV RX4 84 RX4 yX4_perform wsX4_perform) := goodIn_app (goodIn_of _ (by decide +kernel)) ggX4_leave_X4_perform
theorem dX4_leave_0 : decode cX4_leave 0 = .ok (.aload_n 0, 1) := by decide +kernel
theorem dX4_leave_1 : decode cX4_leave 1 = .ok (.iload_n 1, 1) := by decide +kernel
theorem dX4_leave_2 : decode cX4_leave 2 = .ok (.iload_n 2, 1) := by decide +kernel
theorem dX4_leave_3 : decode cX4_leave 3 = .ok (.invokevirtual 52, 3) := by decide +kernel
theorem dX4_leave_6 : decode cX4_leave 6 = .ok (.aload_n 0, 1) := by decide +kernel
theorem dX4_leave_7 : decode cX4_leave 7 = .ok (.iload_n 1, 1) := by decide +kernel
theorem dX4_leave_8 : decode cX4_leave 8 = .ok (.invokevirtual 59, 3) := by decide +kernel
theorem dX4_leave_11 : decode cX4_leave 11 = .ok (.astore_n 3, 1) := by decide +kernel
theorem dX4_leave_12 : decode cX4_leave 12 = .ok (.aload_n 3, 1) := by decide +kernel
theorem dX4_leave_13 : decode cX4_leave 13 = .ok (.iload_n 1, 1) := by decide +kernel
theorem dX4_leave_14 : decode cX4_leave 14 = .ok (.iload_n 2, 1) := by decide +kernel
theorem dX4_leave_15 : decode cX4_leave 15 = .ok (.invokevirtual 63, 3) := by decide +kernel
theorem dX4_leave_18 : decode cX4_leave 18 = .ok (.ifCond .ne 22, 3) := by decide +kernel
theorem dX4_leave_21 : decode cX4_leave 21 = .ok (.aload_n 3, 1) := by decide +kernel
theorem dX4_leave_22 : decode cX4_leave 22 = .ok (.iload_n 1, 1) := by decide +kernel
theorem dX4_leave_23 : decode cX4_leave 23 = .ok (.iload_n 2, 1) := by decide +kernel
theorem dX4_leave_24 : decode cX4_leave 24 = .ok (.invokevirtual 67, 3) := by decide +kernel
theorem dX4_leave_27 : decode cX4_leave 27 = .ok (.ifCond .ne 13, 3) := by decide +kernel
theorem dX4_leave_30 : decode cX4_leave 30 = .ok (.new 45, 3) := by decide +kernel
theorem dX4_leave_33 : decode cX4_leave 33 = .ok (.dup, 1) := by decide +kernel
theorem dX4_leave_34 : decode cX4_leave 34 = .ok (.ldc 90, 2) := by decide +kernel
theorem dX4_leave_36 : decode cX4_leave 36 = .ok (.invokespecial 49, 3) := by decide +kernel
theorem dX4_leave_39 : decode cX4_leave 39 = .ok (.athrow, 1) := by decide +kernel
theorem dX4_leave_40 : decode cX4_leave 40 = .ok (.aload_n 0, 1) := by decide +kernel
theorem dX4_leave_41 : decode cX4_leave 41 = .ok (.new 75, 3) := by decide +kernel
theorem dX4_leave_44 : decode cX4_leave 44 = .ok (.dup, 1) := by decide +kernel
theorem dX4_leave_45 : decode cX4_leave 45 = .ok (.aload_n 0, 1) := by decide +kernel
theorem dX4_leave_46 : decode cX4_leave 46 = .ok (.getfield 38, 3) := by decide +kernel
theorem dX4_leave_49 : decode cX4_leave 49 = .ok (.iconst 3, 1) := by decide +kernel
theorem dX4_leave_50 : decode cX4_leave 50 = .ok (.iload_n 1, 1) := by decide +kernel
theorem dX4_leave_51 : decode cX4_leave 51 = .ok (.iload_n 2, 1) := by decide +kernel
theorem dX4_leave_52 : decode cX4_leave 52 = .ok (.iconst 0, 1) := by decide +kernel
theorem dX4_leave_53 : decode cX4_leave 53 = .ok (.invokespecial 77, 3) := by decide +kernel
theorem dX4_leave_56 : decode cX4_leave 56 = .ok (.aload_n 0, 1) := by decide +kernel
theorem dX4_leave_57 : decode cX4_leave 57 = .ok (.iload_n 2, 1) := by decide +kernel
theorem dX4_leave_58 : decode cX4_leave 58 = .ok (.invokevirtual 80, 3) := by decide +kernel
theorem dX4_leave_61 : decode cX4_leave 61 = .ok (.invokevirtual 84, 3) := by decide +kernel
theorem dX4_leave_64 : decode cX4_leave 64 = .ok (.return_, 1) := by decide +kernel
set_option maxRecDepth 1000000 in
theorem ggX4_block_X4_requireTwo : GoodIn wsX4_block wsX4_requireTwo := goodIn_ca (goodIn_r _ [11, 12, 13, 14, 10, 15, 16, 17, 18, 223, 224, 225, 226, 227, 228] rfl (by decide +kernel)) (goodIn_sub (fun _ h => List.mem_cons_of_mem _ (List.mem_append_left _ (List.mem_append_right _ h))) (by decide +kernel))
set_option maxRecDepth 20000 in
theorem gX4_block_X4_requireTwo : GoodIn wsX4_block (wsV RX4 52 RX4 yX4_requireTwo wsX4_requireTwo) := goodIn_app (goodIn_of _ (by decide +kernel)) ggX4_block_X4_requireTwo
set_option maxRecDepth 1000000 in
theorem ggX4_block_X4_requireDifferent : GoodIn wsX4_block wsX4_requireDifferent := goodIn_ca (goodIn_r _ [21, 22, 23] rfl (by decide +kernel)) (goodIn_sub (fun _ h => List.mem_cons_of_mem _ (List.mem_append_right _ h)) (by decide +kernel))
set_option maxRecDepth 20000 in
theorem gX4_block_X4_requireDifferent : GoodIn wsX4_block (va_wsS RX4 56 yX4_requireDifferent wsX4_requireDifferent) := goodIn_app (goodIn_of _ (by decide +kernel)) ggX4_block_X4_requireDifferent
set_option maxRecDepth 1000000 in
theorem ggX4_block_X4_atHomeOf : GoodIn wsX4_block wsX4_atHomeOf := goodIn_r _ [27, 28, 29, 30, 223, 224, 225, 226, 227, 228, 229, 230, 231, 232, 233] rfl (by decide +kernel)
set_option maxRecDepth 20000 in
theorem gX4_block_X4_atHomeOf : GoodIn wsX4_block (wsV RX4 59 RX4 yX4_atHomeOf wsX4_atHomeOf) := goodIn_app (goodIn_of _ (by decide +kernel)) ggX4_block_X4_atHomeOf
set_option maxRecDepth 1000000 in
theorem ggX4_block_X1_isBlocking : GoodIn wsX4_block wsX1_isBlocking := goodIn_r _ [35, 36, 37, 10, 38, 234, 235, 236, 237, 238, 239, 240] rfl (by decide +kernel)
set_option maxRecDepth 20000 in
theorem gX4_block_X1_isBlocking : GoodIn wsX4_block (wsV RX4 92 RX1 yX1_isBlocking wsX1_isBlocking) := goodIn_app (goodIn_of _ (by decide +kernel)) ggX4_block_X1_isBlocking
set_option maxRecDepth 1000000 in
theorem ggX4_block_X0_init : GoodIn wsX4_block wsX0_init := goodIn_r _ [41, 42, 43, 44, 45, 46, 47, 48, 49, 218, 219, 220, 221, 222] rfl (by decide +kernel)
set_option maxRecDepth 20000 in
theorem gX4_block_X0_init : GoodIn wsX4_block (wsX0_init) := ggX4_block_X0_init
set_option maxRecDepth 1000000 in
theorem ggX4_block_X4_homeOf : GoodIn wsX4_block wsX4_homeOf := goodIn_r _ [53, 29, 54, 55, 10, 56, 223, 224, 225, 226, 227, 228] rfl (by decide +kernel)
set_option maxRecDepth 20000 in
theorem gX4_block_X4_homeOf : GoodIn wsX4_block (wsV RX4 80 RX4 yX4_homeOf wsX4_homeOf) := goodIn_app (goodIn_of _ (by decide +kernel)) ggX4_block_X4_homeOf
set_option maxRecDepth 1000000 in
theorem ggX4_block_X4_perform : GoodIn wsX4_block wsX4_perform := goodIn_r _ [60, 6, 61, 29, 50, 51, 52, 10, 53, 54, 55, 56, 62, 63, 64, 65, 28, 66, 67, 37, 38, 68, 69, 70, 71, 72, 73, 74, 75, 76, 77, 78, 79, 80, 81, 82, 83, 84, 85, 86, 87, 88, 89, 90, 91, 92, 93, 94, 95, 96, 97, 98, 99, 100, 101, 102, 103, 104, 105, 106, 107, 108, 109, 110, 111, 112, 113, 114, 115, 116, 117, 118, 119, 120, 121, 122, 123, 124, 125, 126, 127, 128, 129, 130, 30, 131, 132, 133, 34, 134, 135, 136, 137, 138, 36, 139, 140, 141, 142, 143, 144, 145, 146, 147, 148, 149, 150, 151, 152, 153, 154, 155, 156, 157, 158, 159, 160, 161, 162, 163, 164, 165, 166, 167, 168, 169, 170, 171, 172, 173, 174, 175, 176, 177, 178, 179, 180, 181, 182, 183, 184, 185, 186, 187, 188, 189, 190, 191, 192, 193, 194, 195, 196, 197, 198, 199, 200, 201, 202, 203, 204, 205, 206, 207, 208, 209, 210, 211, 212, 213, 214, 215, 216, 217, 18, 223, 224, 225, 226, 227, 228, 218, 219, 220, 221, 222, 229, 230, 231, 232, 233, 241, 242, 243, 234, 235, 236, 237, 238, 239, 240, 244, 245, 246, 247, 248, 249] rfl (by decide +kernel)
set_option maxRecDepth 20000 in
theorem gX4_block_X4_perform : GoodIn wsX4_block (wsV RX4 84 RX4 yX4_perform wsX4_perform) := goodIn_app (goodIn_of _ (by decide +kernel)) ggX4_block_X4_perform
theorem dX4_block_0 : decode cX4_block 0 = .ok (.aload_n 0, 1) := by decide +kernel
theorem dX4_block_1 : decode cX4_block 1 = .ok (.iload_n 1, 1) := by decide +kernel
theorem dX4_block_2 : decode cX4_block 2 = .ok (.iload_n 2, 1) := by decide +kernel
theorem dX4_block_3 : decode cX4_block 3 = .ok (.invokevirtual 52, 3) := by decide +kernel
theorem dX4_block_6 : decode cX4_block 6 = .ok (.iload_n 1, 1) := by decide +kernel
theorem dX4_block_7 : decode cX4_block 7 = .ok (.iload_n 2, 1) := by decide +kernel
theorem dX4_block_8 : decode cX4_block 8 = .ok (.invokestatic 56, 3) := by decide +kernel
theorem dX4_block_11 : decode cX4_block 11 = .ok (.aload_n 0, 1) := by decide +kernel
theorem dX4_block_12 : decode cX4_block 12 = .ok (.iload_n 1, 1) := by decide +kernel
theorem dX4_block_13 : decode cX4_block 13 = .ok (.invokevirtual 59, 3) := by decide +kernel
theorem dX4_block_16 : decode cX4_block 16 = .ok (.iload_n 1, 1) := by decide +kernel
theorem dX4_block_17 : decode cX4_block 17 = .ok (.iload_n 2, 1) := by decide +kernel
theorem dX4_block_18 : decode cX4_block 18 = .ok (.invokevirtual 92, 3) := by decide +kernel
theorem dX4_block_21 : decode cX4_block 21 = .ok (.iload_n 3, 1) := by decide +kernel
theorem dX4_block_22 : decode cX4_block 22 = .ok (.if_icmp .ne 13, 3) := by decide +kernel
theorem dX4_block_25 : decode cX4_block 25 = .ok (.new 45, 3) := by decide +kernel
theorem dX4_block_28 : decode cX4_block 28 = .ok (.dup, 1) := by decide +kernel
theorem dX4_block_29 : decode cX4_block 29 = .ok (.ldc 95, 2) := by decide +kernel
theorem dX4_block_31 : decode cX4_block 31 = .ok (.invokespecial 49, 3) := by decide +kernel
theorem dX4_block_34 : decode cX4_block 34 = .ok (.athrow, 1) := by decide +kernel
theorem dX4_block_35 : decode cX4_block 35 = .ok (.aload_n 0, 1) := by decide +kernel
theorem dX4_block_36 : decode cX4_block 36 = .ok (.new 75, 3) := by decide +kernel
theorem dX4_block_39 : decode cX4_block 39 = .ok (.dup, 1) := by decide +kernel
theorem dX4_block_40 : decode cX4_block 40 = .ok (.aload_n 0, 1) := by decide +kernel
theorem dX4_block_41 : decode cX4_block 41 = .ok (.getfield 38, 3) := by decide +kernel
theorem dX4_block_44 : decode cX4_block 44 = .ok (.iload_n 3, 1) := by decide +kernel
theorem dX4_block_45 : decode cX4_block 45 = .ok (.ifCond .eq 7, 3) := by decide +kernel
theorem dX4_block_48 : decode cX4_block 48 = .ok (.iconst 4, 1) := by decide +kernel
theorem dX4_block_49 : decode cX4_block 49 = .ok (.goto 4, 3) := by decide +kernel
theorem dX4_block_52 : decode cX4_block 52 = .ok (.iconst 5, 1) := by decide +kernel
theorem dX4_block_53 : decode cX4_block 53 = .ok (.iload_n 1, 1) := by decide +kernel
theorem dX4_block_54 : decode cX4_block 54 = .ok (.iload_n 2, 1) := by decide +kernel
theorem dX4_block_55 : decode cX4_block 55 = .ok (.iconst 0, 1) := by decide +kernel
theorem dX4_block_56 : decode cX4_block 56 = .ok (.invokespecial 77, 3) := by decide +kernel
theorem dX4_block_59 : decode cX4_block 59 = .ok (.aload_n 0, 1) := by decide +kernel
theorem dX4_block_60 : decode cX4_block 60 = .ok (.iload_n 2, 1) := by decide +kernel
theorem dX4_block_61 : decode cX4_block 61 = .ok (.invokevirtual 80, 3) := by decide +kernel
theorem dX4_block_64 : decode cX4_block 64 = .ok (.invokevirtual 84, 3) := by decide +kernel
theorem dX4_block_67 : decode cX4_block 67 = .ok (.return_, 1) := by decide +kernel
set_option maxRecDepth 1000000 in
theorem ggX4_alias_X4_requireTwo : GoodIn wsX4_alias wsX4_requireTwo := goodIn_ca (goodIn_r _ [9, 10, 11, 12, 8, 13, 14, 15, 16, 213, 214, 215, 216, 217, 218] rfl (by decide +kernel)) (goodIn_sub (fun _ h => List.mem_cons_of_mem _ (List.mem_append_left _ (List.mem_append_right _ h))) (by decide +kernel))
set_option maxRecDepth 20000 in
theorem gX4_alias_X4_requireTwo : GoodIn wsX4_alias (wsV RX4 52 RX4 yX4_requireTwo wsX4_requireTwo) := goodIn_app (goodIn_of _ (by decide +kernel)) ggX4_alias_X4_requireTwo
set_option maxRecDepth 1000000 in
theorem ggX4_alias_X4_requireDifferent : GoodIn wsX4_alias wsX4_requireDifferent := goodIn_ca (goodIn_r _ [19, 20, 21] rfl (by decide +kernel)) (goodIn_sub (fun _ h => List.mem_cons_of_mem _ (List.mem_append_right _ h)) (by decide +kernel))
set_option maxRecDepth 20000 in
theorem gX4_alias_X4_requireDifferent : GoodIn wsX4_alias (va_wsS RX4 56 yX4_requireDifferent wsX4_requireDifferent) := goodIn_app (goodIn_of _ (by decide +kernel)) ggX4_alias_X4_requireDifferent
set_option maxRecDepth 1000000 in
theorem ggX4_alias_X0_init : GoodIn wsX4_alias wsX0_init := goodIn_r _ [24, 25, 26, 27, 28, 29, 30, 31, 32, 208, 209, 210, 211, 212] rfl (by decide +kernel)
set_option maxRecDepth 20000 in
theorem gX4_alias_X0_init : GoodIn wsX4_alias (wsX0_init) := ggX4_alias_X0_init
set_option maxRecDepth 1000000 in
theorem ggX4_alias_X4_homeOf : GoodIn wsX4_alias wsX4_homeOf := goodIn_r _ [36, 37, 38, 39, 8, 40, 213, 214, 215, 216, 217, 218] rfl (by decide +kernel)
set_option maxRecDepth 20000 in
theorem gX4_alias_X4_homeOf : GoodIn wsX4_alias (wsV RX4 80 RX4 yX4_homeOf wsX4_homeOf) := goodIn_app (goodIn_of _ (by decide +kernel)) ggX4_alias_X4_homeOf
set_option maxRecDepth 1000000 in
theorem ggX4_alias_X4_perform : GoodIn wsX4_alias wsX4_perform := goodIn_r _ [44, 4, 45, 37, 33, 34, 35, 8, 36, 38, 39, 40, 46, 47, 48, 49, 50, 51, 52, 53, 54, 55, 56, 57, 58, 59, 60, 61, 62, 63, 64, 65, 66, 67, 68, 69, 70, 71, 72, 73, 74, 75, 76, 77, 78, 79, 80, 81, 82, 83, 84, 85, 86, 87, 88, 89, 90, 91, 92, 93, 94, 95, 96, 97, 98, 99, 100, 101, 102, 103, 104, 105, 106, 107, 108, 109, 110, 111, 112, 113, 114, 115, 116, 117, 118, 119, 120, 121, 122, 123, 124, 125, 126, 127, 128, 129, 130, 131, 132, 133, 134, 135, 136, 137, 138, 139, 140, 141, 142, 143, 144, 145, 146, 147, 148, 149, 150, 151, 152, 153, 154, 155, 156, 157, 158, 159, 160, 161, 162, 163, 164, 165, 166, 167, 168, 169, 170, 171, 172, 173, 174, 175, 176, 177, 178, 179, 180, 181, 182, 183, 184, 185, 186, 187, 188, 189, 190, 191, 192, 193, 194, 195, 196, 197, 198, 199, 200, 201, 202, 203, 204, 205, 206, 207, 16, 213, 214, 215, 216, 217, 218, 208, 209, 210, 211, 212, 219, 220, 221, 222, 223, 224, 225, 226, 227, 228, 229, 230, 231, 232, 233, 234, 235, 236, 237, 238, 239] rfl (by decide +kernel)
set_option maxRecDepth 20000 in
theorem gX4_alias_X4_perform : GoodIn wsX4_alias (wsV RX4 84 RX4 yX4_perform wsX4_perform) := goodIn_app (goodIn_of _ (by decide +kernel)) ggX4_alias_X4_perform
theorem dX4_alias_0 : decode cX4_alias 0 = .ok (.aload_n 0, 1) := by decide +kernel
theorem dX4_alias_1 : decode cX4_alias 1 = .ok (.iload_n 1, 1) := by decide +kernel
theorem dX4_alias_2 : decode cX4_alias 2 = .ok (.iload_n 2, 1) := by decide +kernel
theorem dX4_alias_3 : decode cX4_alias 3 = .ok (.invokevirtual 52, 3) := by decide +kernel
theorem dX4_alias_6 : decode cX4_alias 6 = .ok (.iload_n 1, 1) := by decide +kernel
theorem dX4_alias_7 : decode cX4_alias 7 = .ok (.iload_n 2, 1) := by decide +kernel
theorem dX4_alias_8 : decode cX4_alias 8 = .ok (.invokestatic 56, 3) := by decide +kernel
theorem dX4_alias_11 : decode cX4_alias 11 = .ok (.aload_n 0, 1) := by decide +kernel
theorem dX4_alias_12 : decode cX4_alias 12 = .ok (.new 75, 3) := by decide +kernel
theorem dX4_alias_15 : decode cX4_alias 15 = .ok (.dup, 1) := by decide +kernel
theorem dX4_alias_16 : decode cX4_alias 16 = .ok (.aload_n 0, 1) := by decide +kernel
theorem dX4_alias_17 : decode cX4_alias 17 = .ok (.getfield 38, 3) := by decide +kernel
theorem dX4_alias_20 : decode cX4_alias 20 = .ok (.bipush 6, 2) := by decide +kernel
theorem dX4_alias_22 : decode cX4_alias 22 = .ok (.iload_n 1, 1) := by decide +kernel
theorem dX4_alias_23 : decode cX4_alias 23 = .ok (.iload_n 2, 1) := by decide +kernel
theorem dX4_alias_24 : decode cX4_alias 24 = .ok (.iconst 0, 1) := by decide +kernel
theorem dX4_alias_25 : decode cX4_alias 25 = .ok (.invokespecial 77, 3) := by decide +kernel
theorem dX4_alias_28 : decode cX4_alias 28 = .ok (.aload_n 0, 1) := by decide +kernel
theorem dX4_alias_29 : decode cX4_alias 29 = .ok (.iload_n 2, 1) := by decide +kernel
theorem dX4_alias_30 : decode cX4_alias 30 = .ok (.invokevirtual 80, 3) := by decide +kernel
theorem dX4_alias_33 : decode cX4_alias 33 = .ok (.invokevirtual 84, 3) := by decide +kernel
theorem dX4_alias_36 : decode cX4_alias 36 = .ok (.return_, 1) := by decide +kernel
set_option maxRecDepth 1000000 in
theorem ggX4_move_X4_requireTwo : GoodIn wsX4_move wsX4_requireTwo := goodIn_ca (goodIn_r _ [11, 12, 13, 14, 10, 15, 16, 17, 18, 225, 226, 227, 228, 229, 230] rfl (by decide +kernel)) (goodIn_sub (fun _ h => List.mem_cons_of_mem _ (List.mem_append_right _ h)) (by decide +kernel))
set_option maxRecDepth 20000 in
theorem gX4_move_X4_requireTwo : GoodIn wsX4_move (wsV RX4 52 RX4 yX4_requireTwo wsX4_requireTwo) := goodIn_app (goodIn_of _ (by decide +kernel)) ggX4_move_X4_requireTwo
set_option maxRecDepth 1000000 in
theorem ggX4_move_X4_atHomeOf : GoodIn wsX4_move wsX4_atHomeOf := goodIn_r _ [22, 23, 24, 25, 225, 226, 227, 228, 229, 230, 231, 232, 233, 234, 235] rfl (by decide +kernel)
set_option maxRecDepth 20000 in
theorem gX4_move_X4_atHomeOf : GoodIn wsX4_move (wsV RX4 59 RX4 yX4_atHomeOf wsX4_atHomeOf) := goodIn_app (goodIn_of _ (by decide +kernel)) ggX4_move_X4_atHomeOf
set_option maxRecDepth 1000000 in
theorem ggX4_move_X1_isAlias : GoodIn wsX4_move wsX1_isAlias := goodIn_r _ [30, 31, 32, 10, 33, 236, 237, 238, 239, 240, 241, 242] rfl (by decide +kernel)
set_option maxRecDepth 20000 in
theorem gX4_move_X1_isAlias : GoodIn wsX4_move (wsV RX4 97 RX1 yX1_isAlias wsX1_isAlias) := goodIn_app (goodIn_of _ (by decide +kernel)) ggX4_move_X1_isAlias
set_option maxRecDepth 1000000 in
theorem ggX4_move_X1_followersOf : GoodIn wsX4_move wsX1_followersOf := goodIn_r _ [37, 38, 39, 40, 29, 41, 42, 32, 10, 33, 43, 44, 236, 237, 238, 239, 240, 241, 242] rfl (by decide +kernel)
set_option maxRecDepth 20000 in
theorem gX4_move_X1_followersOf : GoodIn wsX4_move (wsV RX4 102 RX1 yX1_followersOf wsX1_followersOf) := goodIn_app (goodIn_of _ (by decide +kernel)) ggX4_move_X1_followersOf
set_option maxRecDepth 1000000 in
theorem ggX4_move_X0_init : GoodIn wsX4_move wsX0_init := goodIn_r _ [47, 48, 49, 50, 51, 52, 53, 54, 55, 220, 221, 222, 223, 224] rfl (by decide +kernel)
set_option maxRecDepth 20000 in
theorem gX4_move_X0_init : GoodIn wsX4_move (wsX0_init) := ggX4_move_X0_init
set_option maxRecDepth 1000000 in
theorem ggX4_move_X4_homesOf : GoodIn wsX4_move wsX4_homesOf := goodIn_r _ [59, 18, 60, 32, 10, 33, 61, 62, 63, 64, 24, 65, 43, 44, 225, 226, 227, 228, 229, 230] rfl (by decide +kernel)
set_option maxRecDepth 20000 in
theorem gX4_move_X4_homesOf : GoodIn wsX4_move (wsV RX4 105 RX4 yX4_homesOf wsX4_homesOf) := goodIn_app (goodIn_of _ (by decide +kernel)) ggX4_move_X4_homesOf
set_option maxRecDepth 1000000 in
theorem ggX4_move_X4_homeOf : GoodIn wsX4_move wsX4_homeOf := goodIn_r _ [64, 24, 65, 43, 10, 44, 225, 226, 227, 228, 229, 230] rfl (by decide +kernel)
set_option maxRecDepth 20000 in
theorem gX4_move_X4_homeOf : GoodIn wsX4_move (wsV RX4 80 RX4 yX4_homeOf wsX4_homeOf) := goodIn_app (goodIn_of _ (by decide +kernel)) ggX4_move_X4_homeOf
set_option maxRecDepth 1000000 in
theorem ggX4_move_X4_perform : GoodIn wsX4_move wsX4_perform := goodIn_r _ [69, 6, 70, 24, 61, 62, 63, 10, 64, 65, 43, 44, 71, 72, 73, 74, 23, 75, 60, 32, 33, 76, 77, 78, 79, 80, 81, 82, 83, 84, 85, 86, 87, 88, 89, 90, 91, 92, 93, 94, 95, 96, 97, 98, 99, 100, 101, 102, 103, 104, 105, 106, 107, 108, 109, 110, 111, 112, 113, 114, 115, 116, 117, 118, 119, 120, 121, 122, 123, 124, 125, 126, 127, 128, 129, 130, 131, 132, 133, 134, 135, 136, 137, 138, 25, 139, 140, 141, 29, 142, 143, 144, 145, 146, 147, 31, 148, 149, 150, 151, 152, 153, 154, 155, 38, 39, 40, 41, 42, 156, 157, 158, 159, 160, 161, 162, 163, 164, 165, 166, 167, 168, 169, 170, 171, 172, 173, 174, 175, 176, 177, 178, 179, 180, 181, 182, 183, 184, 185, 186, 187, 188, 189, 190, 191, 192, 193, 194, 195, 196, 197, 198, 199, 200, 201, 202, 203, 204, 205, 206, 207, 208, 209, 210, 211, 212, 34, 35, 36, 37, 56, 57, 58, 59, 18, 225, 226, 227, 228, 229, 230, 220, 221, 222, 223, 224, 231, 232, 233, 234, 235, 243, 244, 245, 236, 237, 238, 239, 240, 241, 242, 246, 247, 248, 249, 250, 251] rfl (by decide +kernel)
set_option maxRecDepth 20000 in
theorem gX4_move_X4_perform : GoodIn wsX4_move (wsV RX4 84 RX4 yX4_perform wsX4_perform) := goodIn_app (goodIn_of _ (by decide +kernel)) ggX4_move_X4_perform
set_option maxRecDepth 1000000 in
theorem ggX4_move_J6_bitCount_0f7a4 : GoodIn wsX4_move wsJ6_bitCount_0f7a4 := goodIn_r _ [216, 217, 218, 219] rfl (by decide +kernel)
set_option maxRecDepth 20000 in
theorem gX4_move_J6_bitCount_0f7a4 : GoodIn wsX4_move (va_wsS RX4 108 yJ6_bitCount_0f7a4 wsJ6_bitCount_0f7a4) := goodIn_app (goodIn_of _ (by decide +kernel)) ggX4_move_J6_bitCount_0f7a4
theorem dX4_move_0 : decode cX4_move 0 = .ok (.aload_n 0, 1) := by decide +kernel
theorem dX4_move_1 : decode cX4_move 1 = .ok (.iload_n 1, 1) := by decide +kernel
theorem dX4_move_2 : decode cX4_move 2 = .ok (.iload_n 2, 1) := by decide +kernel
theorem dX4_move_3 : decode cX4_move 3 = .ok (.invokevirtual 52, 3) := by decide +kernel
theorem dX4_move_6 : decode cX4_move 6 = .ok (.aload_n 0, 1) := by decide +kernel
theorem dX4_move_7 : decode cX4_move 7 = .ok (.iload_n 1, 1) := by decide +kernel
theorem dX4_move_8 : decode cX4_move 8 = .ok (.invokevirtual 59, 3) := by decide +kernel
theorem dX4_move_11 : decode cX4_move 11 = .ok (.astore_n 3, 1) := by decide +kernel
theorem dX4_move_12 : decode cX4_move 12 = .ok (.aload_n 3, 1) := by decide +kernel
theorem dX4_move_13 : decode cX4_move 13 = .ok (.iload_n 2, 1) := by decide +kernel
theorem dX4_move_14 : decode cX4_move 14 = .ok (.iload_n 1, 1) := by decide +kernel
theorem dX4_move_15 : decode cX4_move 15 = .ok (.invokevirtual 97, 3) := by decide +kernel
theorem dX4_move_18 : decode cX4_move 18 = .ok (.ifCond .ne 13, 3) := by decide +kernel
theorem dX4_move_21 : decode cX4_move 21 = .ok (.new 45, 3) := by decide +kernel
theorem dX4_move_24 : decode cX4_move 24 = .ok (.dup, 1) := by decide +kernel
theorem dX4_move_25 : decode cX4_move 25 = .ok (.ldc 100, 2) := by decide +kernel
theorem dX4_move_27 : decode cX4_move 27 = .ok (.invokespecial 49, 3) := by decide +kernel
theorem dX4_move_30 : decode cX4_move 30 = .ok (.athrow, 1) := by decide +kernel
theorem dX4_move_31 : decode cX4_move 31 = .ok (.aload_n 3, 1) := by decide +kernel
theorem dX4_move_32 : decode cX4_move 32 = .ok (.iload_n 1, 1) := by decide +kernel
theorem dX4_move_33 : decode cX4_move 33 = .ok (.invokevirtual 102, 3) := by decide +kernel
theorem dX4_move_36 : decode cX4_move 36 = .ok (.istore 4, 2) := by decide +kernel
theorem dX4_move_38 : decode cX4_move 38 = .ok (.aload_n 0, 1) := by decide +kernel
theorem dX4_move_39 : decode cX4_move 39 = .ok (.new 75, 3) := by decide +kernel
theorem dX4_move_42 : decode cX4_move 42 = .ok (.dup, 1) := by decide +kernel
theorem dX4_move_43 : decode cX4_move 43 = .ok (.aload_n 0, 1) := by decide +kernel
theorem dX4_move_44 : decode cX4_move 44 = .ok (.getfield 38, 3) := by decide +kernel
theorem dX4_move_47 : decode cX4_move 47 = .ok (.bipush 7, 2) := by decide +kernel
theorem dX4_move_49 : decode cX4_move 49 = .ok (.iload_n 1, 1) := by decide +kernel
theorem dX4_move_50 : decode cX4_move 50 = .ok (.iload_n 2, 1) := by decide +kernel
theorem dX4_move_51 : decode cX4_move 51 = .ok (.iload 4, 2) := by decide +kernel
theorem dX4_move_53 : decode cX4_move 53 = .ok (.invokespecial 77, 3) := by decide +kernel
theorem dX4_move_56 : decode cX4_move 56 = .ok (.aload_n 0, 1) := by decide +kernel
theorem dX4_move_57 : decode cX4_move 57 = .ok (.iload 4, 2) := by decide +kernel
theorem dX4_move_59 : decode cX4_move 59 = .ok (.invokevirtual 105, 3) := by decide +kernel
theorem dX4_move_62 : decode cX4_move 62 = .ok (.aload_n 0, 1) := by decide +kernel
theorem dX4_move_63 : decode cX4_move 63 = .ok (.iload_n 2, 1) := by decide +kernel
theorem dX4_move_64 : decode cX4_move 64 = .ok (.invokevirtual 80, 3) := by decide +kernel
theorem dX4_move_67 : decode cX4_move 67 = .ok (.ior, 1) := by decide +kernel
theorem dX4_move_68 : decode cX4_move 68 = .ok (.invokevirtual 84, 3) := by decide +kernel
theorem dX4_move_71 : decode cX4_move 71 = .ok (.iload 4, 2) := by decide +kernel
theorem dX4_move_73 : decode cX4_move 73 = .ok (.invokestatic 108, 3) := by decide +kernel
theorem dX4_move_76 : decode cX4_move 76 = .ok (.ireturn, 1) := by decide +kernel
set_option maxRecDepth 1000000 in
theorem ggX4_post_X4_requirePerson : GoodIn wsX4_post wsX4_requirePerson := goodIn_ca (goodIn_r _ [21, 22, 23, 5, 238, 239, 240, 241, 242, 243] rfl (by decide +kernel)) (goodIn_sub (fun _ h => List.mem_cons_of_mem _ (List.mem_append_right _ h)) (by decide +kernel))
set_option maxRecDepth 20000 in
theorem gX4_post_X4_requirePerson : GoodIn wsX4_post (wsV RX4 113 RX4 yX4_requirePerson wsX4_requirePerson) := goodIn_app (goodIn_of _ (by decide +kernel)) ggX4_post_X4_requirePerson
set_option maxRecDepth 1000000 in
theorem ggX4_post_X4_requirePost : GoodIn wsX4_post wsX4_requirePost := goodIn_ca (goodIn_r _ [27, 22, 23, 6, 28, 29, 30, 31, 32, 33, 238, 239, 240, 241, 242, 243, 255, 256, 257] rfl (by decide +kernel)) (goodIn_sub (fun _ h => List.mem_cons_of_mem _ (List.mem_append_right _ h)) (by decide +kernel))
set_option maxRecDepth 20000 in
theorem gX4_post_X4_requirePost : GoodIn wsX4_post (wsV RX4 116 RX4 yX4_requirePost wsX4_requirePost) := goodIn_app (goodIn_of _ (by decide +kernel)) ggX4_post_X4_requirePost
set_option maxRecDepth 1000000 in
theorem ggX4_post_Jx4a65c_size_8abf5 : GoodIn wsX4_post wsJx4a65c_size_8abf5 := goodIn_r _ [32, 33, 255, 256, 257] rfl (by decide +kernel)
set_option maxRecDepth 20000 in
theorem gX4_post_Jx4a65c_size_8abf5 : GoodIn wsX4_post (wsV RX4 124 RJx4a65c yJx4a65c_size_8abf5 wsJx4a65c_size_8abf5) := goodIn_app (goodIn_of _ (by decide +kernel)) ggX4_post_Jx4a65c_size_8abf5
set_option maxRecDepth 1000000 in
theorem ggX4_post_X4_atHomeOf : GoodIn wsX4_post wsX4_atHomeOf := goodIn_r _ [37, 38, 39, 40, 238, 239, 240, 241, 242, 243, 258, 259, 260, 261, 262] rfl (by decide +kernel)
set_option maxRecDepth 20000 in
theorem gX4_post_X4_atHomeOf : GoodIn wsX4_post (wsV RX4 59 RX4 yX4_atHomeOf wsX4_atHomeOf) := goodIn_app (goodIn_of _ (by decide +kernel)) ggX4_post_X4_atHomeOf
set_option maxRecDepth 1000000 in
theorem ggX4_post_Jx4a65c_get_915e3 : GoodIn wsX4_post wsJx4a65c_get_915e3 := goodIn_r _ [44, 33, 45, 46, 47, 48, 49, 50, 51, 52, 53, 54, 55, 31, 56, 57, 255, 256, 257] rfl (by decide +kernel)
set_option maxRecDepth 20000 in
theorem gX4_post_Jx4a65c_get_915e3 : GoodIn wsX4_post (wsV RX4 130 RJx4a65c yJx4a65c_get_915e3 wsJx4a65c_get_915e3) := goodIn_app (goodIn_of _ (by decide +kernel)) ggX4_post_Jx4a65c_get_915e3
set_option maxRecDepth 1000000 in
theorem ggX4_post_X1_isSeenBy : GoodIn wsX4_post wsX1_isSeenBy := goodIn_r _ [62, 63, 64, 65, 66, 67, 68, 69, 20, 70, 71, 72, 73, 61, 74, 75, 76, 77, 78, 79, 80, 81, 82, 263, 264, 265, 266, 267, 268, 269, 244, 245, 246, 247, 248, 249] rfl (by decide +kernel)
set_option maxRecDepth 20000 in
theorem gX4_post_X1_isSeenBy : GoodIn wsX4_post (wsV RX4 136 RX1 yX1_isSeenBy wsX1_isSeenBy) := goodIn_app (goodIn_of _ (by decide +kernel)) ggX4_post_X1_isSeenBy
set_option maxRecDepth 1000000 in
theorem ggX4_post_X4_homesOf : GoodIn wsX4_post wsX4_homesOf := goodIn_r _ [86, 5, 87, 76, 20, 77, 88, 89, 90, 91, 39, 92, 93, 94, 238, 239, 240, 241, 242, 243] rfl (by decide +kernel)
set_option maxRecDepth 20000 in
theorem gX4_post_X4_homesOf : GoodIn wsX4_post (wsV RX4 105 RX4 yX4_homesOf wsX4_homesOf) := goodIn_app (goodIn_of _ (by decide +kernel)) ggX4_post_X4_homesOf
set_option maxRecDepth 1000000 in
theorem ggX4_post_X1_followersOf : GoodIn wsX4_post wsX1_followersOf := goodIn_r _ [98, 78, 79, 80, 61, 81, 82, 76, 20, 77, 93, 94, 263, 264, 265, 266, 267, 268, 269] rfl (by decide +kernel)
set_option maxRecDepth 20000 in
theorem gX4_post_X1_followersOf : GoodIn wsX4_post (wsV RX4 102 RX1 yX1_followersOf wsX1_followersOf) := goodIn_app (goodIn_of _ (by decide +kernel)) ggX4_post_X1_followersOf
set_option maxRecDepth 1000000 in
theorem ggX4_post_X4_homeOf : GoodIn wsX4_post wsX4_homeOf := goodIn_r _ [91, 39, 92, 93, 20, 94, 238, 239, 240, 241, 242, 243] rfl (by decide +kernel)
set_option maxRecDepth 20000 in
theorem gX4_post_X4_homeOf : GoodIn wsX4_post (wsV RX4 80 RX4 yX4_homeOf wsX4_homeOf) := goodIn_app (goodIn_of _ (by decide +kernel)) ggX4_post_X4_homeOf
set_option maxRecDepth 1000000 in
theorem ggX4_post_X2_init : GoodIn wsX4_post wsX2_init := goodIn_r _ [101, 102, 103, 104, 105, 106, 107, 108, 109, 110, 244, 245, 246, 247, 248, 249] rfl (by decide +kernel)
set_option maxRecDepth 20000 in
theorem gX4_post_X2_init : GoodIn wsX4_post (wsX2_init) := ggX4_post_X2_init
set_option maxRecDepth 1000000 in
theorem ggX4_post_Jx4a65c_add_9ea2d : GoodIn wsX4_post wsJx4a65c_add_9ea2d := goodIn_r _ [114, 115, 116, 57, 33, 117, 118, 119, 31, 120, 121, 122, 123, 124, 125, 126, 127, 128, 129, 130, 131, 132, 133, 134, 135, 136, 137, 138, 139, 140, 141, 142, 143, 144, 145, 146, 147, 148, 149, 150, 151, 152, 153, 154, 155, 156, 157, 158, 159, 160, 161, 162, 163, 255, 256, 257] rfl (by decide +kernel)
set_option maxRecDepth 20000 in
theorem gX4_post_Jx4a65c_add_9ea2d : GoodIn wsX4_post (wsV RX4 146 RJx4a65c yJx4a65c_add_9ea2d wsJx4a65c_add_9ea2d) := goodIn_app (goodIn_of _ (by decide +kernel)) ggX4_post_Jx4a65c_add_9ea2d
set_option maxRecDepth 1000000 in
theorem ggX4_post_X0_init : GoodIn wsX4_post wsX0_init := goodIn_r _ [166, 167, 103, 104, 168, 169, 170, 171, 172, 250, 251, 252, 253, 254] rfl (by decide +kernel)
set_option maxRecDepth 20000 in
theorem gX4_post_X0_init : GoodIn wsX4_post (wsX0_init) := ggX4_post_X0_init
set_option maxRecDepth 1000000 in
theorem ggX4_post_X4_perform : GoodIn wsX4_post wsX4_perform := goodIn_r _ [176, 15, 177, 39, 88, 89, 90, 20, 91, 92, 93, 94, 178, 179, 180, 181, 38, 182, 87, 76, 77, 111, 112, 113, 31, 114, 115, 116, 57, 33, 117, 118, 119, 120, 121, 122, 123, 124, 125, 126, 127, 128, 129, 130, 131, 132, 133, 134, 135, 136, 137, 138, 139, 140, 141, 142, 143, 144, 145, 146, 147, 148, 149, 150, 151, 152, 153, 154, 155, 156, 157, 158, 159, 160, 161, 162, 163, 183, 184, 185, 186, 187, 188, 189, 40, 190, 191, 192, 61, 193, 194, 195, 196, 197, 75, 198, 199, 63, 64, 200, 201, 202, 203, 204, 78, 79, 80, 81, 82, 71, 72, 73, 74, 205, 206, 207, 208, 209, 210, 211, 212, 213, 214, 215, 216, 217, 218, 219, 220, 221, 222, 223, 224, 225, 226, 227, 228, 229, 6, 230, 7, 231, 232, 233, 41, 42, 43, 44, 45, 46, 47, 48, 49, 50, 51, 52, 53, 54, 55, 56, 234, 235, 236, 237, 8, 16, 95, 96, 97, 98, 83, 84, 85, 86, 5, 238, 239, 240, 241, 242, 243, 250, 251, 252, 253, 254, 258, 259, 260, 261, 262, 255, 256, 257, 263, 264, 265, 266, 267, 268, 269, 244, 245, 246, 247, 248, 249] rfl (by decide +kernel)
set_option maxRecDepth 20000 in
theorem gX4_post_X4_perform : GoodIn wsX4_post (wsV RX4 84 RX4 yX4_perform wsX4_perform) := goodIn_app (goodIn_of _ (by decide +kernel)) ggX4_post_X4_perform
theorem dX4_post_0 : decode cX4_post 0 = .ok (.aload_n 0, 1) := by decide +kernel
theorem dX4_post_1 : decode cX4_post 1 = .ok (.iload_n 1, 1) := by decide +kernel
theorem dX4_post_2 : decode cX4_post 2 = .ok (.invokevirtual 113, 3) := by decide +kernel
theorem dX4_post_5 : decode cX4_post 5 = .ok (.iload 4, 2) := by decide +kernel
theorem dX4_post_7 : decode cX4_post 7 = .ok (.iconst (-1), 1) := by decide +kernel
theorem dX4_post_8 : decode cX4_post 8 = .ok (.if_icmp .eq 9, 3) := by decide +kernel
theorem dX4_post_11 : decode cX4_post 11 = .ok (.aload_n 0, 1) := by decide +kernel
theorem dX4_post_12 : decode cX4_post 12 = .ok (.iload 4, 2) := by decide +kernel
theorem dX4_post_14 : decode cX4_post 14 = .ok (.invokevirtual 116, 3) := by decide +kernel
theorem dX4_post_17 : decode cX4_post 17 = .ok (.iload_n 2, 1) := by decide +kernel
theorem dX4_post_18 : decode cX4_post 18 = .ok (.ifCond .lt 21, 3) := by decide +kernel
theorem dX4_post_21 : decode cX4_post 21 = .ok (.iload_n 2, 1) := by decide +kernel
theorem dX4_post_22 : decode cX4_post 22 = .ok (.iconst 2, 1) := by decide +kernel
theorem dX4_post_23 : decode cX4_post 23 = .ok (.if_icmp .gt 16, 3) := by decide +kernel
theorem dX4_post_26 : decode cX4_post 26 = .ok (.iload_n 3, 1) := by decide +kernel
theorem dX4_post_27 : decode cX4_post 27 = .ok (.ifCond .lt 12, 3) := by decide +kernel
theorem dX4_post_30 : decode cX4_post 30 = .ok (.iload_n 3, 1) := by decide +kernel
theorem dX4_post_31 : decode cX4_post 31 = .ok (.aload_n 0, 1) := by decide +kernel
theorem dX4_post_32 : decode cX4_post 32 = .ok (.getfield 34, 3) := by decide +kernel
theorem dX4_post_35 : decode cX4_post 35 = .ok (.ishr, 1) := by decide +kernel
theorem dX4_post_36 : decode cX4_post 36 = .ok (.ifCond .eq 13, 3) := by decide +kernel
theorem dX4_post_39 : decode cX4_post 39 = .ok (.new 119, 3) := by decide +kernel
theorem dX4_post_42 : decode cX4_post 42 = .ok (.dup, 1) := by decide +kernel
theorem dX4_post_43 : decode cX4_post 43 = .ok (.ldc 121, 2) := by decide +kernel
theorem dX4_post_45 : decode cX4_post 45 = .ok (.invokespecial 123, 3) := by decide +kernel
theorem dX4_post_48 : decode cX4_post 48 = .ok (.athrow, 1) := by decide +kernel
theorem dX4_post_49 : decode cX4_post 49 = .ok (.aload_n 0, 1) := by decide +kernel
theorem dX4_post_50 : decode cX4_post 50 = .ok (.getfield 23, 3) := by decide +kernel
theorem dX4_post_53 : decode cX4_post 53 = .ok (.invokevirtual 124, 3) := by decide +kernel
theorem dX4_post_56 : decode cX4_post 56 = .ok (.bipush 50, 2) := by decide +kernel
theorem dX4_post_58 : decode cX4_post 58 = .ok (.if_icmp .lt 13, 3) := by decide +kernel
theorem dX4_post_61 : decode cX4_post 61 = .ok (.new 45, 3) := by decide +kernel
theorem dX4_post_64 : decode cX4_post 64 = .ok (.dup, 1) := by decide +kernel
theorem dX4_post_65 : decode cX4_post 65 = .ok (.ldc 128, 2) := by decide +kernel
theorem dX4_post_67 : decode cX4_post 67 = .ok (.invokespecial 49, 3) := by decide +kernel
theorem dX4_post_70 : decode cX4_post 70 = .ok (.athrow, 1) := by decide +kernel
theorem dX4_post_71 : decode cX4_post 71 = .ok (.aload_n 0, 1) := by decide +kernel
theorem dX4_post_72 : decode cX4_post 72 = .ok (.iload_n 1, 1) := by decide +kernel
theorem dX4_post_73 : decode cX4_post 73 = .ok (.invokevirtual 59, 3) := by decide +kernel
theorem dX4_post_76 : decode cX4_post 76 = .ok (.astore 5, 2) := by decide +kernel
theorem dX4_post_78 : decode cX4_post 78 = .ok (.iload 4, 2) := by decide +kernel
theorem dX4_post_80 : decode cX4_post 80 = .ok (.iconst (-1), 1) := by decide +kernel
theorem dX4_post_81 : decode cX4_post 81 = .ok (.if_icmp .eq 36, 3) := by decide +kernel
theorem dX4_post_84 : decode cX4_post 84 = .ok (.aload 5, 2) := by decide +kernel
theorem dX4_post_86 : decode cX4_post 86 = .ok (.iload_n 1, 1) := by decide +kernel
theorem dX4_post_87 : decode cX4_post 87 = .ok (.iload 4, 2) := by decide +kernel
theorem dX4_post_89 : decode cX4_post 89 = .ok (.aload_n 0, 1) := by decide +kernel
theorem dX4_post_90 : decode cX4_post 90 = .ok (.getfield 23, 3) := by decide +kernel
theorem dX4_post_93 : decode cX4_post 93 = .ok (.iload 4, 2) := by decide +kernel
theorem dX4_post_95 : decode cX4_post 95 = .ok (.invokevirtual 130, 3) := by decide +kernel
theorem dX4_post_98 : decode cX4_post 98 = .ok (.checkcast 134, 3) := by decide +kernel
theorem dX4_post_101 : decode cX4_post 101 = .ok (.invokevirtual 136, 3) := by decide +kernel
theorem dX4_post_104 : decode cX4_post 104 = .ok (.ifCond .ne 13, 3) := by decide +kernel
theorem dX4_post_107 : decode cX4_post 107 = .ok (.new 45, 3) := by decide +kernel
theorem dX4_post_110 : decode cX4_post 110 = .ok (.dup, 1) := by decide +kernel
theorem dX4_post_111 : decode cX4_post 111 = .ok (.ldc 140, 2) := by decide +kernel
theorem dX4_post_113 : decode cX4_post 113 = .ok (.invokespecial 49, 3) := by decide +kernel
theorem dX4_post_116 : decode cX4_post 116 = .ok (.athrow, 1) := by decide +kernel
theorem dX4_post_117 : decode cX4_post 117 = .ok (.iload 4, 2) := by decide +kernel
theorem dX4_post_119 : decode cX4_post 119 = .ok (.iconst (-1), 1) := by decide +kernel
theorem dX4_post_120 : decode cX4_post 120 = .ok (.if_icmp .ne 7, 3) := by decide +kernel
theorem dX4_post_123 : decode cX4_post 123 = .ok (.iconst (-1), 1) := by decide +kernel
theorem dX4_post_124 : decode cX4_post 124 = .ok (.goto 18, 3) := by decide +kernel
theorem dX4_post_127 : decode cX4_post 127 = .ok (.aload_n 0, 1) := by decide +kernel
theorem dX4_post_128 : decode cX4_post 128 = .ok (.getfield 23, 3) := by decide +kernel
theorem dX4_post_131 : decode cX4_post 131 = .ok (.iload 4, 2) := by decide +kernel
theorem dX4_post_133 : decode cX4_post 133 = .ok (.invokevirtual 130, 3) := by decide +kernel
theorem dX4_post_136 : decode cX4_post 136 = .ok (.checkcast 134, 3) := by decide +kernel
theorem dX4_post_139 : decode cX4_post 139 = .ok (.getfield 142, 3) := by decide +kernel
theorem dX4_post_142 : decode cX4_post 142 = .ok (.istore 6, 2) := by decide +kernel
theorem dX4_post_144 : decode cX4_post 144 = .ok (.aload_n 0, 1) := by decide +kernel
theorem dX4_post_145 : decode cX4_post 145 = .ok (.iload_n 3, 1) := by decide +kernel
theorem dX4_post_146 : decode cX4_post 146 = .ok (.invokevirtual 105, 3) := by decide +kernel
theorem dX4_post_149 : decode cX4_post 149 = .ok (.istore 7, 2) := by decide +kernel
theorem dX4_post_151 : decode cX4_post 151 = .ok (.iload_n 2, 1) := by decide +kernel
theorem dX4_post_152 : decode cX4_post 152 = .ok (.iconst 2, 1) := by decide +kernel
theorem dX4_post_153 : decode cX4_post 153 = .ok (.if_icmp .eq 18, 3) := by decide +kernel
theorem dX4_post_156 : decode cX4_post 156 = .ok (.iload 7, 2) := by decide +kernel
theorem dX4_post_158 : decode cX4_post 158 = .ok (.aload_n 0, 1) := by decide +kernel
theorem dX4_post_159 : decode cX4_post 159 = .ok (.aload 5, 2) := by decide +kernel
theorem dX4_post_161 : decode cX4_post 161 = .ok (.iload_n 1, 1) := by decide +kernel
theorem dX4_post_162 : decode cX4_post 162 = .ok (.invokevirtual 102, 3) := by decide +kernel
theorem dX4_post_165 : decode cX4_post 165 = .ok (.invokevirtual 105, 3) := by decide +kernel
theorem dX4_post_168 : decode cX4_post 168 = .ok (.ior, 1) := by decide +kernel
theorem dX4_post_169 : decode cX4_post 169 = .ok (.istore 7, 2) := by decide +kernel
theorem dX4_post_171 : decode cX4_post 171 = .ok (.iload 6, 2) := by decide +kernel
theorem dX4_post_173 : decode cX4_post 173 = .ok (.iconst (-1), 1) := by decide +kernel
theorem dX4_post_174 : decode cX4_post 174 = .ok (.if_icmp .eq 14, 3) := by decide +kernel
theorem dX4_post_177 : decode cX4_post 177 = .ok (.iload 7, 2) := by decide +kernel
theorem dX4_post_179 : decode cX4_post 179 = .ok (.aload_n 0, 1) := by decide +kernel
theorem dX4_post_180 : decode cX4_post 180 = .ok (.iload 6, 2) := by decide +kernel
theorem dX4_post_182 : decode cX4_post 182 = .ok (.invokevirtual 80, 3) := by decide +kernel
theorem dX4_post_185 : decode cX4_post 185 = .ok (.ior, 1) := by decide +kernel
theorem dX4_post_186 : decode cX4_post 186 = .ok (.istore 7, 2) := by decide +kernel
theorem dX4_post_188 : decode cX4_post 188 = .ok (.aload_n 0, 1) := by decide +kernel
theorem dX4_post_189 : decode cX4_post 189 = .ok (.getfield 23, 3) := by decide +kernel
theorem dX4_post_192 : decode cX4_post 192 = .ok (.invokevirtual 124, 3) := by decide +kernel
theorem dX4_post_195 : decode cX4_post 195 = .ok (.istore 8, 2) := by decide +kernel
theorem dX4_post_197 : decode cX4_post 197 = .ok (.new 134, 3) := by decide +kernel
theorem dX4_post_200 : decode cX4_post 200 = .ok (.dup, 1) := by decide +kernel
theorem dX4_post_201 : decode cX4_post 201 = .ok (.iload_n 1, 1) := by decide +kernel
theorem dX4_post_202 : decode cX4_post 202 = .ok (.iload_n 2, 1) := by decide +kernel
theorem dX4_post_203 : decode cX4_post 203 = .ok (.iload_n 3, 1) := by decide +kernel
theorem dX4_post_204 : decode cX4_post 204 = .ok (.iload 6, 2) := by decide +kernel
theorem dX4_post_206 : decode cX4_post 206 = .ok (.iload 7, 2) := by decide +kernel
theorem dX4_post_208 : decode cX4_post 208 = .ok (.aload_n 0, 1) := by decide +kernel
theorem dX4_post_209 : decode cX4_post 209 = .ok (.iload_n 1, 1) := by decide +kernel
theorem dX4_post_210 : decode cX4_post 210 = .ok (.invokevirtual 80, 3) := by decide +kernel
theorem dX4_post_213 : decode cX4_post 213 = .ok (.iconst (-1), 1) := by decide +kernel
theorem dX4_post_214 : decode cX4_post 214 = .ok (.ixor, 1) := by decide +kernel
theorem dX4_post_215 : decode cX4_post 215 = .ok (.iand, 1) := by decide +kernel
theorem dX4_post_216 : decode cX4_post 216 = .ok (.invokespecial 145, 3) := by decide +kernel
theorem dX4_post_219 : decode cX4_post 219 = .ok (.astore 9, 2) := by decide +kernel
theorem dX4_post_221 : decode cX4_post 221 = .ok (.aload_n 0, 1) := by decide +kernel
theorem dX4_post_222 : decode cX4_post 222 = .ok (.getfield 23, 3) := by decide +kernel
theorem dX4_post_225 : decode cX4_post 225 = .ok (.aload 9, 2) := by decide +kernel
theorem dX4_post_227 : decode cX4_post 227 = .ok (.invokevirtual 146, 3) := by decide +kernel
theorem dX4_post_230 : decode cX4_post 230 = .ok (.pop, 1) := by decide +kernel
theorem dX4_post_231 : decode cX4_post 231 = .ok (.aload_n 0, 1) := by decide +kernel
theorem dX4_post_232 : decode cX4_post 232 = .ok (.new 75, 3) := by decide +kernel
theorem dX4_post_235 : decode cX4_post 235 = .ok (.dup, 1) := by decide +kernel
theorem dX4_post_236 : decode cX4_post 236 = .ok (.aload_n 0, 1) := by decide +kernel
theorem dX4_post_237 : decode cX4_post 237 = .ok (.getfield 38, 3) := by decide +kernel
theorem dX4_post_240 : decode cX4_post 240 = .ok (.bipush 8, 2) := by decide +kernel
theorem dX4_post_242 : decode cX4_post 242 = .ok (.iload_n 1, 1) := by decide +kernel
theorem dX4_post_243 : decode cX4_post 243 = .ok (.iload 8, 2) := by decide +kernel
theorem dX4_post_245 : decode cX4_post 245 = .ok (.iconst 0, 1) := by decide +kernel
theorem dX4_post_246 : decode cX4_post 246 = .ok (.invokespecial 77, 3) := by decide +kernel
theorem dX4_post_249 : decode cX4_post 249 = .ok (.aload 9, 2) := by decide +kernel
theorem dX4_post_251 : decode cX4_post 251 = .ok (.getfield 150, 3) := by decide +kernel
theorem dX4_post_254 : decode cX4_post 254 = .ok (.invokevirtual 84, 3) := by decide +kernel
theorem dX4_post_257 : decode cX4_post 257 = .ok (.iload 8, 2) := by decide +kernel
theorem dX4_post_259 : decode cX4_post 259 = .ok (.ireturn, 1) := by decide +kernel
set_option maxRecDepth 1000000 in
theorem ggX4_delete_X4_requirePost : GoodIn wsX4_delete wsX4_requirePost := goodIn_ca (goodIn_r _ [15, 16, 17, 3, 18, 19, 20, 21, 22, 23, 222, 223, 224, 225, 226, 227, 239, 240, 241] rfl (by decide +kernel)) (goodIn_sub (fun _ h => List.mem_cons_of_mem _ (List.mem_append_right _ h)) (by decide +kernel))
set_option maxRecDepth 20000 in
theorem gX4_delete_X4_requirePost : GoodIn wsX4_delete (wsV RX4 116 RX4 yX4_requirePost wsX4_requirePost) := goodIn_app (goodIn_of _ (by decide +kernel)) ggX4_delete_X4_requirePost
set_option maxRecDepth 1000000 in
theorem ggX4_delete_Jx4a65c_get_915e3 : GoodIn wsX4_delete wsJx4a65c_get_915e3 := goodIn_r _ [27, 23, 28, 29, 30, 31, 32, 33, 34, 35, 36, 37, 38, 21, 39, 40, 239, 240, 241] rfl (by decide +kernel)
set_option maxRecDepth 20000 in
theorem gX4_delete_Jx4a65c_get_915e3 : GoodIn wsX4_delete (wsV RX4 130 RJx4a65c yJx4a65c_get_915e3 wsJx4a65c_get_915e3) := goodIn_app (goodIn_of _ (by decide +kernel)) ggX4_delete_Jx4a65c_get_915e3
set_option maxRecDepth 1000000 in
theorem ggX4_delete_X4_atHomeOf : GoodIn wsX4_delete wsX4_atHomeOf := goodIn_r _ [44, 45, 46, 47, 222, 223, 224, 225, 226, 227, 242, 243, 244, 245, 246] rfl (by decide +kernel)
set_option maxRecDepth 20000 in
theorem gX4_delete_X4_atHomeOf : GoodIn wsX4_delete (wsV RX4 59 RX4 yX4_atHomeOf wsX4_atHomeOf) := goodIn_app (goodIn_of _ (by decide +kernel)) ggX4_delete_X4_atHomeOf
set_option maxRecDepth 1000000 in
theorem ggX4_delete_X1_isMarked : GoodIn wsX4_delete wsX1_isMarked := goodIn_r _ [52, 53, 54, 14, 55, 247, 248, 249, 250, 251, 252, 253] rfl (by decide +kernel)
set_option maxRecDepth 20000 in
theorem gX4_delete_X1_isMarked : GoodIn wsX4_delete (wsV RX4 153 RX1 yX1_isMarked wsX1_isMarked) := goodIn_app (goodIn_of _ (by decide +kernel)) ggX4_delete_X1_isMarked
set_option maxRecDepth 1000000 in
theorem ggX4_delete_X0_init : GoodIn wsX4_delete wsX0_init := goodIn_r _ [58, 59, 60, 61, 62, 63, 64, 65, 66, 234, 235, 236, 237, 238] rfl (by decide +kernel)
set_option maxRecDepth 20000 in
theorem gX4_delete_X0_init : GoodIn wsX4_delete (wsX0_init) := ggX4_delete_X0_init
set_option maxRecDepth 1000000 in
theorem ggX4_delete_X4_perform : GoodIn wsX4_delete wsX4_perform := goodIn_r _ [70, 9, 71, 46, 72, 73, 74, 14, 75, 76, 77, 78, 79, 80, 81, 82, 45, 83, 84, 85, 86, 87, 88, 89, 21, 90, 91, 92, 40, 23, 93, 94, 95, 96, 97, 98, 99, 100, 101, 102, 103, 104, 105, 106, 107, 108, 109, 110, 111, 112, 113, 114, 115, 116, 117, 118, 119, 120, 121, 122, 123, 124, 125, 126, 127, 128, 129, 130, 131, 132, 133, 134, 135, 136, 137, 138, 139, 140, 141, 142, 143, 144, 145, 146, 47, 147, 148, 149, 51, 150, 151, 152, 153, 154, 155, 156, 157, 158, 53, 159, 160, 161, 162, 163, 164, 165, 166, 167, 168, 169, 170, 171, 172, 173, 174, 175, 176, 177, 178, 179, 180, 181, 182, 183, 184, 185, 186, 187, 188, 189, 190, 191, 192, 193, 194, 195, 196, 197, 3, 198, 4, 199, 200, 201, 24, 25, 26, 27, 28, 29, 30, 31, 32, 33, 34, 35, 36, 37, 38, 39, 202, 203, 204, 205, 5, 10, 206, 207, 208, 209, 210, 211, 212, 213, 214, 222, 223, 224, 225, 226, 227, 234, 235, 236, 237, 238, 242, 243, 244, 245, 246, 239, 240, 241, 247, 248, 249, 250, 251, 252, 253, 228, 229, 230, 231, 232, 233] rfl (by decide +kernel)
set_option maxRecDepth 20000 in
theorem gX4_delete_X4_perform : GoodIn wsX4_delete (wsV RX4 84 RX4 yX4_perform wsX4_perform) := goodIn_app (goodIn_of _ (by decide +kernel)) ggX4_delete_X4_perform
set_option maxRecDepth 1000000 in
theorem ggX4_delete_J6_bitCount_0f7a4 : GoodIn wsX4_delete wsJ6_bitCount_0f7a4 := goodIn_r _ [218, 219, 220, 221] rfl (by decide +kernel)
set_option maxRecDepth 20000 in
theorem gX4_delete_J6_bitCount_0f7a4 : GoodIn wsX4_delete (va_wsS RX4 108 yJ6_bitCount_0f7a4 wsJ6_bitCount_0f7a4) := goodIn_app (goodIn_of _ (by decide +kernel)) ggX4_delete_J6_bitCount_0f7a4
theorem dX4_delete_0 : decode cX4_delete 0 = .ok (.aload_n 0, 1) := by decide +kernel
theorem dX4_delete_1 : decode cX4_delete 1 = .ok (.iload_n 1, 1) := by decide +kernel
theorem dX4_delete_2 : decode cX4_delete 2 = .ok (.invokevirtual 116, 3) := by decide +kernel
theorem dX4_delete_5 : decode cX4_delete 5 = .ok (.aload_n 0, 1) := by decide +kernel
theorem dX4_delete_6 : decode cX4_delete 6 = .ok (.getfield 23, 3) := by decide +kernel
theorem dX4_delete_9 : decode cX4_delete 9 = .ok (.iload_n 1, 1) := by decide +kernel
theorem dX4_delete_10 : decode cX4_delete 10 = .ok (.invokevirtual 130, 3) := by decide +kernel
theorem dX4_delete_13 : decode cX4_delete 13 = .ok (.checkcast 134, 3) := by decide +kernel
theorem dX4_delete_16 : decode cX4_delete 16 = .ok (.astore_n 2, 1) := by decide +kernel
theorem dX4_delete_17 : decode cX4_delete 17 = .ok (.aload_n 0, 1) := by decide +kernel
theorem dX4_delete_18 : decode cX4_delete 18 = .ok (.aload_n 2, 1) := by decide +kernel
theorem dX4_delete_19 : decode cX4_delete 19 = .ok (.getfield 142, 3) := by decide +kernel
theorem dX4_delete_22 : decode cX4_delete 22 = .ok (.invokevirtual 59, 3) := by decide +kernel
theorem dX4_delete_25 : decode cX4_delete 25 = .ok (.iload_n 1, 1) := by decide +kernel
theorem dX4_delete_26 : decode cX4_delete 26 = .ok (.invokevirtual 153, 3) := by decide +kernel
theorem dX4_delete_29 : decode cX4_delete 29 = .ok (.ifCond .eq 13, 3) := by decide +kernel
theorem dX4_delete_32 : decode cX4_delete 32 = .ok (.new 45, 3) := by decide +kernel
theorem dX4_delete_35 : decode cX4_delete 35 = .ok (.dup, 1) := by decide +kernel
theorem dX4_delete_36 : decode cX4_delete 36 = .ok (.ldc 157, 2) := by decide +kernel
theorem dX4_delete_38 : decode cX4_delete 38 = .ok (.invokespecial 49, 3) := by decide +kernel
theorem dX4_delete_41 : decode cX4_delete 41 = .ok (.athrow, 1) := by decide +kernel
theorem dX4_delete_42 : decode cX4_delete 42 = .ok (.aload_n 0, 1) := by decide +kernel
theorem dX4_delete_43 : decode cX4_delete 43 = .ok (.new 75, 3) := by decide +kernel
theorem dX4_delete_46 : decode cX4_delete 46 = .ok (.dup, 1) := by decide +kernel
theorem dX4_delete_47 : decode cX4_delete 47 = .ok (.aload_n 0, 1) := by decide +kernel
theorem dX4_delete_48 : decode cX4_delete 48 = .ok (.getfield 38, 3) := by decide +kernel
theorem dX4_delete_51 : decode cX4_delete 51 = .ok (.bipush 9, 2) := by decide +kernel
theorem dX4_delete_53 : decode cX4_delete 53 = .ok (.aload_n 2, 1) := by decide +kernel
theorem dX4_delete_54 : decode cX4_delete 54 = .ok (.getfield 142, 3) := by decide +kernel
theorem dX4_delete_57 : decode cX4_delete 57 = .ok (.iload_n 1, 1) := by decide +kernel
theorem dX4_delete_58 : decode cX4_delete 58 = .ok (.iconst 0, 1) := by decide +kernel
theorem dX4_delete_59 : decode cX4_delete 59 = .ok (.invokespecial 77, 3) := by decide +kernel
theorem dX4_delete_62 : decode cX4_delete 62 = .ok (.aload_n 2, 1) := by decide +kernel
theorem dX4_delete_63 : decode cX4_delete 63 = .ok (.getfield 150, 3) := by decide +kernel
theorem dX4_delete_66 : decode cX4_delete 66 = .ok (.invokevirtual 84, 3) := by decide +kernel
theorem dX4_delete_69 : decode cX4_delete 69 = .ok (.aload_n 2, 1) := by decide +kernel
theorem dX4_delete_70 : decode cX4_delete 70 = .ok (.getfield 150, 3) := by decide +kernel
theorem dX4_delete_73 : decode cX4_delete 73 = .ok (.invokestatic 108, 3) := by decide +kernel
theorem dX4_delete_76 : decode cX4_delete 76 = .ok (.ireturn, 1) := by decide +kernel
set_option maxRecDepth 1000000 in
theorem ggX4_boost_X4_requirePerson : GoodIn wsX4_boost wsX4_requirePerson := goodIn_ca (goodIn_r _ [15, 16, 17, 18, 227, 228, 229, 230, 231, 232] rfl (by decide +kernel)) (goodIn_sub (fun _ h => List.mem_cons_of_mem _ (List.mem_append_right _ h)) (by decide +kernel))
set_option maxRecDepth 20000 in
theorem gX4_boost_X4_requirePerson : GoodIn wsX4_boost (wsV RX4 113 RX4 yX4_requirePerson wsX4_requirePerson) := goodIn_app (goodIn_of _ (by decide +kernel)) ggX4_boost_X4_requirePerson
set_option maxRecDepth 1000000 in
theorem ggX4_boost_X4_requirePost : GoodIn wsX4_boost wsX4_requirePost := goodIn_ca (goodIn_r _ [22, 16, 17, 3, 23, 24, 25, 26, 27, 28, 227, 228, 229, 230, 231, 232, 244, 245, 246] rfl (by decide +kernel)) (goodIn_sub (fun _ h => List.mem_cons_of_mem _ (List.mem_append_right _ h)) (by decide +kernel))
set_option maxRecDepth 20000 in
theorem gX4_boost_X4_requirePost : GoodIn wsX4_boost (wsV RX4 116 RX4 yX4_requirePost wsX4_requirePost) := goodIn_app (goodIn_of _ (by decide +kernel)) ggX4_boost_X4_requirePost
set_option maxRecDepth 1000000 in
theorem ggX4_boost_Jx4a65c_get_915e3 : GoodIn wsX4_boost wsJx4a65c_get_915e3 := goodIn_r _ [32, 28, 33, 34, 35, 36, 37, 38, 39, 40, 41, 42, 43, 26, 44, 45, 244, 245, 246] rfl (by decide +kernel)
set_option maxRecDepth 20000 in
theorem gX4_boost_Jx4a65c_get_915e3 : GoodIn wsX4_boost (wsV RX4 130 RJx4a65c yJx4a65c_get_915e3 wsJx4a65c_get_915e3) := goodIn_app (goodIn_of _ (by decide +kernel)) ggX4_boost_Jx4a65c_get_915e3
set_option maxRecDepth 1000000 in
theorem ggX4_boost_X4_atHomeOf : GoodIn wsX4_boost wsX4_atHomeOf := goodIn_r _ [49, 50, 51, 52, 227, 228, 229, 230, 231, 232, 247, 248, 249, 250, 251] rfl (by decide +kernel)
set_option maxRecDepth 20000 in
theorem gX4_boost_X4_atHomeOf : GoodIn wsX4_boost (wsV RX4 59 RX4 yX4_atHomeOf wsX4_atHomeOf) := goodIn_app (goodIn_of _ (by decide +kernel)) ggX4_boost_X4_atHomeOf
set_option maxRecDepth 1000000 in
theorem ggX4_boost_X1_isSeenBy : GoodIn wsX4_boost wsX1_isSeenBy := goodIn_r _ [57, 58, 59, 60, 61, 62, 63, 64, 14, 65, 66, 67, 68, 56, 69, 70, 71, 72, 73, 74, 75, 76, 77, 252, 253, 254, 255, 256, 257, 258, 233, 234, 235, 236, 237, 238] rfl (by decide +kernel)
set_option maxRecDepth 20000 in
theorem gX4_boost_X1_isSeenBy : GoodIn wsX4_boost (wsV RX4 136 RX1 yX1_isSeenBy wsX1_isSeenBy) := goodIn_app (goodIn_of _ (by decide +kernel)) ggX4_boost_X1_isSeenBy
set_option maxRecDepth 1000000 in
theorem ggX4_boost_X1_isBoosting : GoodIn wsX4_boost wsX1_isBoosting := goodIn_r _ [81, 82, 64, 14, 65, 252, 253, 254, 255, 256, 257, 258] rfl (by decide +kernel)
set_option maxRecDepth 20000 in
theorem gX4_boost_X1_isBoosting : GoodIn wsX4_boost (wsV RX4 162 RX1 yX1_isBoosting wsX1_isBoosting) := goodIn_app (goodIn_of _ (by decide +kernel)) ggX4_boost_X1_isBoosting
set_option maxRecDepth 1000000 in
theorem ggX4_boost_X1_followersOf : GoodIn wsX4_boost wsX1_followersOf := goodIn_r _ [86, 73, 74, 75, 56, 76, 77, 71, 14, 72, 87, 88, 252, 253, 254, 255, 256, 257, 258] rfl (by decide +kernel)
set_option maxRecDepth 20000 in
theorem gX4_boost_X1_followersOf : GoodIn wsX4_boost (wsV RX4 102 RX1 yX1_followersOf wsX1_followersOf) := goodIn_app (goodIn_of _ (by decide +kernel)) ggX4_boost_X1_followersOf
set_option maxRecDepth 1000000 in
theorem ggX4_boost_X4_homesOf : GoodIn wsX4_boost wsX4_homesOf := goodIn_r _ [92, 18, 93, 71, 14, 72, 94, 95, 96, 97, 51, 98, 87, 88, 227, 228, 229, 230, 231, 232] rfl (by decide +kernel)
set_option maxRecDepth 20000 in
theorem gX4_boost_X4_homesOf : GoodIn wsX4_boost (wsV RX4 105 RX4 yX4_homesOf wsX4_homesOf) := goodIn_app (goodIn_of _ (by decide +kernel)) ggX4_boost_X4_homesOf
set_option maxRecDepth 1000000 in
theorem ggX4_boost_X4_homeOf : GoodIn wsX4_boost wsX4_homeOf := goodIn_r _ [97, 51, 98, 87, 14, 88, 227, 228, 229, 230, 231, 232] rfl (by decide +kernel)
set_option maxRecDepth 20000 in
theorem gX4_boost_X4_homeOf : GoodIn wsX4_boost (wsV RX4 80 RX4 yX4_homeOf wsX4_homeOf) := goodIn_app (goodIn_of _ (by decide +kernel)) ggX4_boost_X4_homeOf
set_option maxRecDepth 1000000 in
theorem ggX4_boost_X0_init : GoodIn wsX4_boost wsX0_init := goodIn_r _ [101, 102, 103, 104, 105, 106, 107, 108, 109, 239, 240, 241, 242, 243] rfl (by decide +kernel)
set_option maxRecDepth 20000 in
theorem gX4_boost_X0_init : GoodIn wsX4_boost (wsX0_init) := ggX4_boost_X0_init
set_option maxRecDepth 1000000 in
theorem ggX4_boost_X4_perform : GoodIn wsX4_boost wsX4_perform := goodIn_r _ [113, 10, 114, 51, 94, 95, 96, 14, 97, 98, 87, 88, 115, 116, 117, 118, 50, 119, 93, 71, 72, 120, 121, 122, 26, 123, 124, 125, 45, 28, 126, 127, 128, 129, 130, 131, 132, 133, 134, 135, 136, 137, 138, 139, 140, 141, 142, 143, 144, 145, 146, 147, 148, 149, 150, 151, 152, 153, 154, 155, 156, 157, 158, 159, 160, 161, 162, 163, 164, 165, 166, 167, 168, 169, 170, 171, 172, 173, 174, 175, 176, 177, 178, 179, 52, 180, 181, 182, 56, 183, 184, 185, 186, 187, 70, 188, 189, 58, 59, 82, 190, 191, 192, 193, 73, 74, 75, 76, 77, 66, 67, 68, 69, 194, 195, 196, 197, 198, 199, 200, 201, 202, 203, 204, 205, 206, 207, 208, 209, 210, 211, 212, 213, 214, 215, 216, 217, 218, 3, 219, 4, 5, 220, 221, 29, 30, 31, 32, 33, 34, 35, 36, 37, 38, 39, 40, 41, 42, 43, 44, 222, 223, 224, 225, 6, 226, 83, 84, 85, 86, 89, 90, 91, 92, 18, 227, 228, 229, 230, 231, 232, 239, 240, 241, 242, 243, 247, 248, 249, 250, 251, 244, 245, 246, 252, 253, 254, 255, 256, 257, 258, 233, 234, 235, 236, 237, 238] rfl (by decide +kernel)
set_option maxRecDepth 20000 in
theorem gX4_boost_X4_perform : GoodIn wsX4_boost (wsV RX4 84 RX4 yX4_perform wsX4_perform) := goodIn_app (goodIn_of _ (by decide +kernel)) ggX4_boost_X4_perform
theorem dX4_boost_0 : decode cX4_boost 0 = .ok (.aload_n 0, 1) := by decide +kernel
theorem dX4_boost_1 : decode cX4_boost 1 = .ok (.iload_n 1, 1) := by decide +kernel
theorem dX4_boost_2 : decode cX4_boost 2 = .ok (.invokevirtual 113, 3) := by decide +kernel
theorem dX4_boost_5 : decode cX4_boost 5 = .ok (.aload_n 0, 1) := by decide +kernel
theorem dX4_boost_6 : decode cX4_boost 6 = .ok (.iload_n 2, 1) := by decide +kernel
theorem dX4_boost_7 : decode cX4_boost 7 = .ok (.invokevirtual 116, 3) := by decide +kernel
theorem dX4_boost_10 : decode cX4_boost 10 = .ok (.aload_n 0, 1) := by decide +kernel
theorem dX4_boost_11 : decode cX4_boost 11 = .ok (.getfield 23, 3) := by decide +kernel
theorem dX4_boost_14 : decode cX4_boost 14 = .ok (.iload_n 2, 1) := by decide +kernel
theorem dX4_boost_15 : decode cX4_boost 15 = .ok (.invokevirtual 130, 3) := by decide +kernel
theorem dX4_boost_18 : decode cX4_boost 18 = .ok (.checkcast 134, 3) := by decide +kernel
theorem dX4_boost_21 : decode cX4_boost 21 = .ok (.astore_n 3, 1) := by decide +kernel
theorem dX4_boost_22 : decode cX4_boost 22 = .ok (.aload_n 0, 1) := by decide +kernel
theorem dX4_boost_23 : decode cX4_boost 23 = .ok (.iload_n 1, 1) := by decide +kernel
theorem dX4_boost_24 : decode cX4_boost 24 = .ok (.invokevirtual 59, 3) := by decide +kernel
theorem dX4_boost_27 : decode cX4_boost 27 = .ok (.astore 4, 2) := by decide +kernel
theorem dX4_boost_29 : decode cX4_boost 29 = .ok (.aload_n 3, 1) := by decide +kernel
theorem dX4_boost_30 : decode cX4_boost 30 = .ok (.getfield 159, 3) := by decide +kernel
theorem dX4_boost_33 : decode cX4_boost 33 = .ok (.ifCond .ne 24, 3) := by decide +kernel
theorem dX4_boost_36 : decode cX4_boost 36 = .ok (.aload 4, 2) := by decide +kernel
theorem dX4_boost_38 : decode cX4_boost 38 = .ok (.iload_n 1, 1) := by decide +kernel
theorem dX4_boost_39 : decode cX4_boost 39 = .ok (.iload_n 2, 1) := by decide +kernel
theorem dX4_boost_40 : decode cX4_boost 40 = .ok (.aload_n 3, 1) := by decide +kernel
theorem dX4_boost_41 : decode cX4_boost 41 = .ok (.invokevirtual 136, 3) := by decide +kernel
theorem dX4_boost_44 : decode cX4_boost 44 = .ok (.ifCond .eq 13, 3) := by decide +kernel
theorem dX4_boost_47 : decode cX4_boost 47 = .ok (.aload 4, 2) := by decide +kernel
theorem dX4_boost_49 : decode cX4_boost 49 = .ok (.iload_n 1, 1) := by decide +kernel
theorem dX4_boost_50 : decode cX4_boost 50 = .ok (.iload_n 2, 1) := by decide +kernel
theorem dX4_boost_51 : decode cX4_boost 51 = .ok (.invokevirtual 162, 3) := by decide +kernel
theorem dX4_boost_54 : decode cX4_boost 54 = .ok (.ifCond .eq 13, 3) := by decide +kernel
theorem dX4_boost_57 : decode cX4_boost 57 = .ok (.new 45, 3) := by decide +kernel
theorem dX4_boost_60 : decode cX4_boost 60 = .ok (.dup, 1) := by decide +kernel
theorem dX4_boost_61 : decode cX4_boost 61 = .ok (.ldc 165, 2) := by decide +kernel
theorem dX4_boost_63 : decode cX4_boost 63 = .ok (.invokespecial 49, 3) := by decide +kernel
theorem dX4_boost_66 : decode cX4_boost 66 = .ok (.athrow, 1) := by decide +kernel
theorem dX4_boost_67 : decode cX4_boost 67 = .ok (.aload_n 0, 1) := by decide +kernel
theorem dX4_boost_68 : decode cX4_boost 68 = .ok (.aload 4, 2) := by decide +kernel
theorem dX4_boost_70 : decode cX4_boost 70 = .ok (.iload_n 1, 1) := by decide +kernel
theorem dX4_boost_71 : decode cX4_boost 71 = .ok (.invokevirtual 102, 3) := by decide +kernel
theorem dX4_boost_74 : decode cX4_boost 74 = .ok (.invokevirtual 105, 3) := by decide +kernel
theorem dX4_boost_77 : decode cX4_boost 77 = .ok (.aload_n 0, 1) := by decide +kernel
theorem dX4_boost_78 : decode cX4_boost 78 = .ok (.aload_n 3, 1) := by decide +kernel
theorem dX4_boost_79 : decode cX4_boost 79 = .ok (.getfield 142, 3) := by decide +kernel
theorem dX4_boost_82 : decode cX4_boost 82 = .ok (.invokevirtual 80, 3) := by decide +kernel
theorem dX4_boost_85 : decode cX4_boost 85 = .ok (.ior, 1) := by decide +kernel
theorem dX4_boost_86 : decode cX4_boost 86 = .ok (.istore 5, 2) := by decide +kernel
theorem dX4_boost_88 : decode cX4_boost 88 = .ok (.aload_n 0, 1) := by decide +kernel
theorem dX4_boost_89 : decode cX4_boost 89 = .ok (.new 75, 3) := by decide +kernel
theorem dX4_boost_92 : decode cX4_boost 92 = .ok (.dup, 1) := by decide +kernel
theorem dX4_boost_93 : decode cX4_boost 93 = .ok (.aload_n 0, 1) := by decide +kernel
theorem dX4_boost_94 : decode cX4_boost 94 = .ok (.getfield 38, 3) := by decide +kernel
theorem dX4_boost_97 : decode cX4_boost 97 = .ok (.bipush 10, 2) := by decide +kernel
theorem dX4_boost_99 : decode cX4_boost 99 = .ok (.iload_n 1, 1) := by decide +kernel
theorem dX4_boost_100 : decode cX4_boost 100 = .ok (.iload_n 2, 1) := by decide +kernel
theorem dX4_boost_101 : decode cX4_boost 101 = .ok (.iconst 0, 1) := by decide +kernel
theorem dX4_boost_102 : decode cX4_boost 102 = .ok (.invokespecial 77, 3) := by decide +kernel
theorem dX4_boost_105 : decode cX4_boost 105 = .ok (.iload 5, 2) := by decide +kernel
theorem dX4_boost_107 : decode cX4_boost 107 = .ok (.invokevirtual 84, 3) := by decide +kernel
theorem dX4_boost_110 : decode cX4_boost 110 = .ok (.return_, 1) := by decide +kernel
set_option maxRecDepth 1000000 in
theorem ggX4_deliver_X4_requireServer : GoodIn wsX4_deliver wsX4_requireServer := goodIn_ca (goodIn_r _ [9, 10, 11] rfl (by decide +kernel)) (goodIn_sub (fun _ h => List.mem_cons_of_mem _ (List.mem_append_right _ h)) (by decide +kernel))
set_option maxRecDepth 20000 in
theorem gX4_deliver_X4_requireServer : GoodIn wsX4_deliver (va_wsS RX4 41 yX4_requireServer wsX4_requireServer) := goodIn_app (goodIn_of _ (by decide +kernel)) ggX4_deliver_X4_requireServer
set_option maxRecDepth 1000000 in
theorem ggX4_deliver_X3_waiting : GoodIn wsX4_deliver wsX3_waiting := goodIn_r _ [16, 17, 18, 19, 20, 21, 22, 23, 24, 197, 198, 199, 200, 201, 207, 208, 209] rfl (by decide +kernel)
set_option maxRecDepth 20000 in
theorem gX4_deliver_X3_waiting : GoodIn wsX4_deliver (wsV RX4 167 RX3 yX3_waiting wsX3_waiting) := goodIn_app (goodIn_of _ (by decide +kernel)) ggX4_deliver_X3_waiting
set_option maxRecDepth 1000000 in
theorem ggX4_deliver_Jx4a65c_get_915e3 : GoodIn wsX4_deliver wsJx4a65c_get_915e3 := goodIn_r _ [28, 24, 29, 30, 31, 32, 33, 34, 35, 36, 37, 38, 39, 22, 40, 41, 207, 208, 209] rfl (by decide +kernel)
set_option maxRecDepth 20000 in
theorem gX4_deliver_Jx4a65c_get_915e3 : GoodIn wsX4_deliver (wsV RX4 130 RJx4a65c yJx4a65c_get_915e3 wsJx4a65c_get_915e3) := goodIn_app (goodIn_of _ (by decide +kernel)) ggX4_deliver_Jx4a65c_get_915e3
set_option maxRecDepth 1000000 in
theorem ggX4_deliver_X4_doAt : GoodIn wsX4_deliver wsX4_doAt := goodIn_r _ [45, 1, 46, 47, 48, 49, 50, 51, 52, 22, 53, 54, 55, 41, 24, 56, 57, 58, 59, 60, 61, 62, 63, 64, 65, 66, 67, 68, 69, 70, 71, 72, 73, 74, 75, 76, 77, 78, 79, 80, 81, 82, 83, 84, 85, 86, 87, 88, 89, 90, 91, 92, 93, 94, 95, 96, 97, 98, 99, 100, 101, 102, 103, 104, 105, 106, 107, 108, 109, 110, 111, 112, 113, 114, 115, 116, 117, 118, 119, 120, 121, 122, 123, 124, 125, 126, 127, 8, 128, 129, 130, 131, 132, 133, 134, 135, 136, 137, 138, 139, 140, 141, 142, 143, 144, 145, 146, 147, 148, 149, 150, 151, 152, 153, 154, 155, 156, 157, 158, 5, 159, 160, 161, 162, 163, 164, 165, 25, 26, 27, 28, 29, 30, 31, 32, 33, 34, 35, 36, 37, 38, 39, 40, 166, 167, 168, 169, 170, 171, 172, 173, 174, 175, 176, 177, 178, 179, 180, 181, 182, 183, 184, 185, 186, 187, 188, 189, 190, 2, 191, 192, 193, 194, 195, 196, 197, 198, 199, 200, 201, 202, 203, 204, 205, 206, 207, 208, 209, 210, 211, 212, 213, 214, 215, 216, 217, 218, 219, 220, 221, 222] rfl (by decide +kernel)
set_option maxRecDepth 20000 in
theorem gX4_deliver_X4_doAt : GoodIn wsX4_deliver (wsV RX4 176 RX4 yX4_doAt wsX4_doAt) := goodIn_app (goodIn_of _ (by decide +kernel)) ggX4_deliver_X4_doAt
theorem dX4_deliver_0 : decode cX4_deliver 0 = .ok (.iload_n 1, 1) := by decide +kernel
theorem dX4_deliver_1 : decode cX4_deliver 1 = .ok (.invokestatic 41, 3) := by decide +kernel
theorem dX4_deliver_4 : decode cX4_deliver 4 = .ok (.aload_n 0, 1) := by decide +kernel
theorem dX4_deliver_5 : decode cX4_deliver 5 = .ok (.getfield 10, 3) := by decide +kernel
theorem dX4_deliver_8 : decode cX4_deliver 8 = .ok (.iload_n 1, 1) := by decide +kernel
theorem dX4_deliver_9 : decode cX4_deliver 9 = .ok (.aaload, 1) := by decide +kernel
theorem dX4_deliver_10 : decode cX4_deliver 10 = .ok (.astore_n 2, 1) := by decide +kernel
theorem dX4_deliver_11 : decode cX4_deliver 11 = .ok (.aload_n 2, 1) := by decide +kernel
theorem dX4_deliver_12 : decode cX4_deliver 12 = .ok (.invokevirtual 167, 3) := by decide +kernel
theorem dX4_deliver_15 : decode cX4_deliver 15 = .ok (.ifCond .gt 5, 3) := by decide +kernel
theorem dX4_deliver_18 : decode cX4_deliver 18 = .ok (.iconst (-1), 1) := by decide +kernel
theorem dX4_deliver_19 : decode cX4_deliver 19 = .ok (.ireturn, 1) := by decide +kernel
theorem dX4_deliver_20 : decode cX4_deliver 20 = .ok (.aload_n 2, 1) := by decide +kernel
theorem dX4_deliver_21 : decode cX4_deliver 21 = .ok (.getfield 170, 3) := by decide +kernel
theorem dX4_deliver_24 : decode cX4_deliver 24 = .ok (.aload_n 2, 1) := by decide +kernel
theorem dX4_deliver_25 : decode cX4_deliver 25 = .ok (.getfield 173, 3) := by decide +kernel
theorem dX4_deliver_28 : decode cX4_deliver 28 = .ok (.invokevirtual 130, 3) := by decide +kernel
theorem dX4_deliver_31 : decode cX4_deliver 31 = .ok (.checkcast 75, 3) := by decide +kernel
theorem dX4_deliver_34 : decode cX4_deliver 34 = .ok (.astore_n 3, 1) := by decide +kernel
theorem dX4_deliver_35 : decode cX4_deliver 35 = .ok (.aload_n 2, 1) := by decide +kernel
theorem dX4_deliver_36 : decode cX4_deliver 36 = .ok (.dup, 1) := by decide +kernel
theorem dX4_deliver_37 : decode cX4_deliver 37 = .ok (.getfield 173, 3) := by decide +kernel
theorem dX4_deliver_40 : decode cX4_deliver 40 = .ok (.iconst 1, 1) := by decide +kernel
theorem dX4_deliver_41 : decode cX4_deliver 41 = .ok (.iadd, 1) := by decide +kernel
theorem dX4_deliver_42 : decode cX4_deliver 42 = .ok (.putfield 173, 3) := by decide +kernel
theorem dX4_deliver_45 : decode cX4_deliver 45 = .ok (.aload_n 0, 1) := by decide +kernel
theorem dX4_deliver_46 : decode cX4_deliver 46 = .ok (.iload_n 1, 1) := by decide +kernel
theorem dX4_deliver_47 : decode cX4_deliver 47 = .ok (.aload_n 3, 1) := by decide +kernel
theorem dX4_deliver_48 : decode cX4_deliver 48 = .ok (.invokevirtual 176, 3) := by decide +kernel
theorem dX4_deliver_51 : decode cX4_deliver 51 = .ok (.aload_n 3, 1) := by decide +kernel
theorem dX4_deliver_52 : decode cX4_deliver 52 = .ok (.getfield 180, 3) := by decide +kernel
theorem dX4_deliver_55 : decode cX4_deliver 55 = .ok (.ireturn, 1) := by decide +kernel
set_option maxRecDepth 1000000 in
theorem ggX4_repeat_X4_requireServer : GoodIn wsX4_repeat wsX4_requireServer := goodIn_ca (goodIn_r _ [9, 10, 11] rfl (by decide +kernel)) (goodIn_sub (fun _ h => List.mem_cons_of_mem _ (List.mem_append_right _ h)) (by decide +kernel))
set_option maxRecDepth 20000 in
theorem gX4_repeat_X4_requireServer : GoodIn wsX4_repeat (va_wsS RX4 41 yX4_requireServer wsX4_requireServer) := goodIn_app (goodIn_of _ (by decide +kernel)) ggX4_repeat_X4_requireServer
set_option maxRecDepth 1000000 in
theorem ggX4_repeat_Jx4a65c_get_915e3 : GoodIn wsX4_repeat wsJx4a65c_get_915e3 := goodIn_r _ [16, 17, 18, 19, 20, 21, 22, 23, 24, 25, 26, 27, 28, 15, 29, 30, 196, 197, 198] rfl (by decide +kernel)
set_option maxRecDepth 20000 in
theorem gX4_repeat_Jx4a65c_get_915e3 : GoodIn wsX4_repeat (wsV RX4 130 RJx4a65c yJx4a65c_get_915e3 wsJx4a65c_get_915e3) := goodIn_app (goodIn_of _ (by decide +kernel)) ggX4_repeat_Jx4a65c_get_915e3
set_option maxRecDepth 1000000 in
theorem ggX4_repeat_X4_doAt : GoodIn wsX4_repeat wsX4_doAt := goodIn_r _ [34, 1, 35, 36, 37, 38, 39, 40, 41, 15, 42, 43, 44, 30, 17, 45, 46, 47, 48, 49, 50, 51, 52, 53, 54, 55, 56, 57, 58, 59, 60, 61, 62, 63, 64, 65, 66, 67, 68, 69, 70, 71, 72, 73, 74, 75, 76, 77, 78, 79, 80, 81, 82, 83, 84, 85, 86, 87, 88, 89, 90, 91, 92, 93, 94, 95, 96, 97, 98, 99, 100, 101, 102, 103, 104, 105, 106, 107, 108, 109, 110, 111, 112, 113, 114, 115, 116, 8, 117, 118, 119, 120, 121, 122, 123, 124, 125, 126, 127, 128, 129, 130, 131, 132, 133, 134, 135, 136, 137, 138, 139, 140, 141, 142, 143, 144, 145, 146, 147, 5, 148, 149, 150, 151, 152, 153, 154, 12, 13, 14, 16, 18, 19, 20, 21, 22, 23, 24, 25, 26, 27, 28, 29, 155, 156, 157, 158, 159, 160, 161, 162, 163, 164, 165, 166, 167, 168, 169, 170, 171, 172, 173, 174, 175, 176, 177, 178, 179, 3, 180, 181, 182, 183, 184, 185, 186, 187, 188, 189, 190, 191, 192, 193, 194, 195, 196, 197, 198, 199, 200, 201, 202, 203, 204, 205, 206, 207, 208, 209, 210, 211] rfl (by decide +kernel)
set_option maxRecDepth 20000 in
theorem gX4_repeat_X4_doAt : GoodIn wsX4_repeat (wsV RX4 176 RX4 yX4_doAt wsX4_doAt) := goodIn_app (goodIn_of _ (by decide +kernel)) ggX4_repeat_X4_doAt
theorem dX4_repeat_0 : decode cX4_repeat 0 = .ok (.iload_n 1, 1) := by decide +kernel
theorem dX4_repeat_1 : decode cX4_repeat 1 = .ok (.invokestatic 41, 3) := by decide +kernel
theorem dX4_repeat_4 : decode cX4_repeat 4 = .ok (.aload_n 0, 1) := by decide +kernel
theorem dX4_repeat_5 : decode cX4_repeat 5 = .ok (.getfield 10, 3) := by decide +kernel
theorem dX4_repeat_8 : decode cX4_repeat 8 = .ok (.iload_n 1, 1) := by decide +kernel
theorem dX4_repeat_9 : decode cX4_repeat 9 = .ok (.aaload, 1) := by decide +kernel
theorem dX4_repeat_10 : decode cX4_repeat 10 = .ok (.astore_n 2, 1) := by decide +kernel
theorem dX4_repeat_11 : decode cX4_repeat 11 = .ok (.aload_n 2, 1) := by decide +kernel
theorem dX4_repeat_12 : decode cX4_repeat 12 = .ok (.getfield 173, 3) := by decide +kernel
theorem dX4_repeat_15 : decode cX4_repeat 15 = .ok (.ifCond .gt 5, 3) := by decide +kernel
theorem dX4_repeat_18 : decode cX4_repeat 18 = .ok (.iconst (-1), 1) := by decide +kernel
theorem dX4_repeat_19 : decode cX4_repeat 19 = .ok (.ireturn, 1) := by decide +kernel
theorem dX4_repeat_20 : decode cX4_repeat 20 = .ok (.aload_n 2, 1) := by decide +kernel
theorem dX4_repeat_21 : decode cX4_repeat 21 = .ok (.getfield 170, 3) := by decide +kernel
theorem dX4_repeat_24 : decode cX4_repeat 24 = .ok (.aload_n 2, 1) := by decide +kernel
theorem dX4_repeat_25 : decode cX4_repeat 25 = .ok (.getfield 173, 3) := by decide +kernel
theorem dX4_repeat_28 : decode cX4_repeat 28 = .ok (.iconst 1, 1) := by decide +kernel
theorem dX4_repeat_29 : decode cX4_repeat 29 = .ok (.isub, 1) := by decide +kernel
theorem dX4_repeat_30 : decode cX4_repeat 30 = .ok (.invokevirtual 130, 3) := by decide +kernel
theorem dX4_repeat_33 : decode cX4_repeat 33 = .ok (.checkcast 75, 3) := by decide +kernel
theorem dX4_repeat_36 : decode cX4_repeat 36 = .ok (.astore_n 3, 1) := by decide +kernel
theorem dX4_repeat_37 : decode cX4_repeat 37 = .ok (.aload_n 0, 1) := by decide +kernel
theorem dX4_repeat_38 : decode cX4_repeat 38 = .ok (.iload_n 1, 1) := by decide +kernel
theorem dX4_repeat_39 : decode cX4_repeat 39 = .ok (.aload_n 3, 1) := by decide +kernel
theorem dX4_repeat_40 : decode cX4_repeat 40 = .ok (.invokevirtual 176, 3) := by decide +kernel
theorem dX4_repeat_43 : decode cX4_repeat 43 = .ok (.aload_n 3, 1) := by decide +kernel
theorem dX4_repeat_44 : decode cX4_repeat 44 = .ok (.getfield 180, 3) := by decide +kernel
theorem dX4_repeat_47 : decode cX4_repeat 47 = .ok (.ireturn, 1) := by decide +kernel
set_option maxRecDepth 1000000 in
theorem ggX4_ofServer_X4_requireServer : GoodIn wsX4_ofServer wsX4_requireServer := goodIn_ca (goodIn_r _ [9, 10, 11] rfl (by decide +kernel)) (goodIn_sub (fun _ h => List.mem_cons_of_mem _ (List.mem_append_right _ h)) (by decide +kernel))
set_option maxRecDepth 20000 in
theorem gX4_ofServer_X4_requireServer : GoodIn wsX4_ofServer (va_wsS RX4 41 yX4_requireServer wsX4_requireServer) := goodIn_app (goodIn_of _ (by decide +kernel)) ggX4_ofServer_X4_requireServer
set_option maxRecDepth 1000000 in
theorem ggX4_ofServer_X3_waiting : GoodIn wsX4_ofServer wsX3_waiting := goodIn_r _ [16, 17, 18, 19, 20, 21, 22, 23, 24, 71, 72, 73, 74, 75, 76, 77, 78] rfl (by decide +kernel)
set_option maxRecDepth 20000 in
theorem gX4_ofServer_X3_waiting : GoodIn wsX4_ofServer (wsV RX4 167 RX3 yX3_waiting wsX3_waiting) := goodIn_app (goodIn_of _ (by decide +kernel)) ggX4_ofServer_X3_waiting
set_option maxRecDepth 1000000 in
theorem ggX4_ofServer_Jx4a65c_size_8abf5 : GoodIn wsX4_ofServer wsJx4a65c_size_8abf5 := goodIn_r _ [23, 24, 76, 77, 78] rfl (by decide +kernel)
set_option maxRecDepth 20000 in
theorem gX4_ofServer_Jx4a65c_size_8abf5 : GoodIn wsX4_ofServer (wsV RX4 124 RJx4a65c yJx4a65c_size_8abf5 wsJx4a65c_size_8abf5) := goodIn_app (goodIn_of _ (by decide +kernel)) ggX4_ofServer_Jx4a65c_size_8abf5
set_option maxRecDepth 1000000 in
theorem ggX4_ofServer_X1_countKnown : GoodIn wsX4_ofServer wsX1_countKnown := goodIn_r _ [30, 31, 32, 33, 34, 35, 36, 37, 38, 39, 40, 79, 80, 81, 82, 83, 84, 85] rfl (by decide +kernel)
set_option maxRecDepth 20000 in
theorem gX4_ofServer_X1_countKnown : GoodIn wsX4_ofServer (wsV RX4 187 RX1 yX1_countKnown wsX1_countKnown) := goodIn_app (goodIn_of _ (by decide +kernel)) ggX4_ofServer_X1_countKnown
set_option maxRecDepth 1000000 in
theorem ggX4_ofServer_X1_countMarked : GoodIn wsX4_ofServer wsX1_countMarked := goodIn_r _ [44, 32, 34, 35, 36, 37, 38, 39, 40, 79, 80, 81, 82, 83, 84, 85] rfl (by decide +kernel)
set_option maxRecDepth 20000 in
theorem gX4_ofServer_X1_countMarked : GoodIn wsX4_ofServer (wsV RX4 190 RX1 yX1_countMarked wsX1_countMarked) := goodIn_app (goodIn_of _ (by decide +kernel)) ggX4_ofServer_X1_countMarked
set_option maxRecDepth 1000000 in
theorem ggX4_ofServer_X1_countFollows : GoodIn wsX4_ofServer wsX1_countFollows := goodIn_r _ [48, 49, 50, 51, 29, 52, 53, 54, 55, 56, 57, 58, 59, 79, 80, 81, 82, 83, 84, 85] rfl (by decide +kernel)
set_option maxRecDepth 20000 in
theorem gX4_ofServer_X1_countFollows : GoodIn wsX4_ofServer (wsV RX4 193 RX1 yX1_countFollows wsX1_countFollows) := goodIn_app (goodIn_of _ (by decide +kernel)) ggX4_ofServer_X1_countFollows
set_option maxRecDepth 1000000 in
theorem ggX4_ofServer_X1_countAsks : GoodIn wsX4_ofServer wsX1_countAsks := goodIn_r _ [63, 64, 50, 51, 29, 52, 53, 54, 55, 56, 57, 58, 59, 79, 80, 81, 82, 83, 84, 85] rfl (by decide +kernel)
set_option maxRecDepth 20000 in
theorem gX4_ofServer_X1_countAsks : GoodIn wsX4_ofServer (wsV RX4 196 RX1 yX1_countAsks wsX1_countAsks) := goodIn_app (goodIn_of _ (by decide +kernel)) ggX4_ofServer_X1_countAsks
theorem dX4_ofServer_0 : decode cX4_ofServer 0 = .ok (.iload_n 1, 1) := by decide +kernel
theorem dX4_ofServer_1 : decode cX4_ofServer 1 = .ok (.invokestatic 41, 3) := by decide +kernel
theorem dX4_ofServer_4 : decode cX4_ofServer 4 = .ok (.aload_n 0, 1) := by decide +kernel
theorem dX4_ofServer_5 : decode cX4_ofServer 5 = .ok (.getfield 10, 3) := by decide +kernel
theorem dX4_ofServer_8 : decode cX4_ofServer 8 = .ok (.iload_n 1, 1) := by decide +kernel
theorem dX4_ofServer_9 : decode cX4_ofServer 9 = .ok (.aaload, 1) := by decide +kernel
theorem dX4_ofServer_10 : decode cX4_ofServer 10 = .ok (.astore_n 3, 1) := by decide +kernel
theorem dX4_ofServer_11 : decode cX4_ofServer 11 = .ok (.iload_n 2, 1) := by decide +kernel
theorem dX4_ofServer_12 : decode cX4_ofServer 12 = .ok (.tableswitch 85 0 5 #[40, 45, 53, 61, 69, 77], 40) := by decide +kernel
theorem dX4_ofServer_52 : decode cX4_ofServer 52 = .ok (.aload_n 3, 1) := by decide +kernel
theorem dX4_ofServer_53 : decode cX4_ofServer 53 = .ok (.invokevirtual 167, 3) := by decide +kernel
theorem dX4_ofServer_56 : decode cX4_ofServer 56 = .ok (.ireturn, 1) := by decide +kernel
theorem dX4_ofServer_57 : decode cX4_ofServer 57 = .ok (.aload_n 3, 1) := by decide +kernel
theorem dX4_ofServer_58 : decode cX4_ofServer 58 = .ok (.getfield 181, 3) := by decide +kernel
theorem dX4_ofServer_61 : decode cX4_ofServer 61 = .ok (.invokevirtual 124, 3) := by decide +kernel
theorem dX4_ofServer_64 : decode cX4_ofServer 64 = .ok (.ireturn, 1) := by decide +kernel
theorem dX4_ofServer_65 : decode cX4_ofServer 65 = .ok (.aload_n 3, 1) := by decide +kernel
theorem dX4_ofServer_66 : decode cX4_ofServer 66 = .ok (.getfield 184, 3) := by decide +kernel
theorem dX4_ofServer_69 : decode cX4_ofServer 69 = .ok (.invokevirtual 187, 3) := by decide +kernel
theorem dX4_ofServer_72 : decode cX4_ofServer 72 = .ok (.ireturn, 1) := by decide +kernel
theorem dX4_ofServer_73 : decode cX4_ofServer 73 = .ok (.aload_n 3, 1) := by decide +kernel
theorem dX4_ofServer_74 : decode cX4_ofServer 74 = .ok (.getfield 184, 3) := by decide +kernel
theorem dX4_ofServer_77 : decode cX4_ofServer 77 = .ok (.invokevirtual 190, 3) := by decide +kernel
theorem dX4_ofServer_80 : decode cX4_ofServer 80 = .ok (.ireturn, 1) := by decide +kernel
theorem dX4_ofServer_81 : decode cX4_ofServer 81 = .ok (.aload_n 3, 1) := by decide +kernel
theorem dX4_ofServer_82 : decode cX4_ofServer 82 = .ok (.getfield 184, 3) := by decide +kernel
theorem dX4_ofServer_85 : decode cX4_ofServer 85 = .ok (.invokevirtual 193, 3) := by decide +kernel
theorem dX4_ofServer_88 : decode cX4_ofServer 88 = .ok (.ireturn, 1) := by decide +kernel
theorem dX4_ofServer_89 : decode cX4_ofServer 89 = .ok (.aload_n 3, 1) := by decide +kernel
theorem dX4_ofServer_90 : decode cX4_ofServer 90 = .ok (.getfield 184, 3) := by decide +kernel
theorem dX4_ofServer_93 : decode cX4_ofServer 93 = .ok (.invokevirtual 196, 3) := by decide +kernel
theorem dX4_ofServer_96 : decode cX4_ofServer 96 = .ok (.ireturn, 1) := by decide +kernel
theorem dX4_ofServer_97 : decode cX4_ofServer 97 = .ok (.new 119, 3) := by decide +kernel
theorem dX4_ofServer_100 : decode cX4_ofServer 100 = .ok (.dup, 1) := by decide +kernel
theorem dX4_ofServer_101 : decode cX4_ofServer 101 = .ok (.ldc 199, 2) := by decide +kernel
theorem dX4_ofServer_103 : decode cX4_ofServer 103 = .ok (.invokespecial 123, 3) := by decide +kernel
theorem dX4_ofServer_106 : decode cX4_ofServer 106 = .ok (.athrow, 1) := by decide +kernel
set_option maxRecDepth 1000000 in
theorem ggX4_between_X4_requireServer : GoodIn wsX4_between wsX4_requireServer := goodIn_ca (goodIn_r _ [6, 7, 8] rfl (by decide +kernel)) (goodIn_sub (fun _ h => List.mem_cons_of_mem _ (List.mem_append_right _ h)) (by decide +kernel))
set_option maxRecDepth 20000 in
theorem gX4_between_X4_requireServer : GoodIn wsX4_between (va_wsS RX4 41 yX4_requireServer wsX4_requireServer) := goodIn_app (goodIn_of _ (by decide +kernel)) ggX4_between_X4_requireServer
set_option maxRecDepth 1000000 in
theorem ggX4_between_X4_requireTwo : GoodIn wsX4_between wsX4_requireTwo := goodIn_ca (goodIn_r _ [12, 13, 14, 15, 5, 16, 7, 8, 17, 36, 37, 38, 39, 40, 41] rfl (by decide +kernel)) (goodIn_sub (fun _ h => List.mem_cons_of_mem _ (List.mem_append_right _ h)) (by decide +kernel))
set_option maxRecDepth 20000 in
theorem gX4_between_X4_requireTwo : GoodIn wsX4_between (wsV RX4 52 RX4 yX4_requireTwo wsX4_requireTwo) := goodIn_app (goodIn_of _ (by decide +kernel)) ggX4_between_X4_requireTwo
set_option maxRecDepth 1000000 in
theorem ggX4_between_X1_isAsking : GoodIn wsX4_between wsX1_isAsking := goodIn_r _ [22, 23, 24, 5, 25, 47, 48, 49, 50, 51, 52, 53] rfl (by decide +kernel)
set_option maxRecDepth 20000 in
theorem gX4_between_X1_isAsking : GoodIn wsX4_between (wsV RX4 63 RX1 yX1_isAsking wsX1_isAsking) := goodIn_app (goodIn_of _ (by decide +kernel)) ggX4_between_X1_isAsking
set_option maxRecDepth 1000000 in
theorem ggX4_between_X1_isFollowing : GoodIn wsX4_between wsX1_isFollowing := goodIn_r _ [29, 30, 24, 5, 25, 47, 48, 49, 50, 51, 52, 53] rfl (by decide +kernel)
set_option maxRecDepth 20000 in
theorem gX4_between_X1_isFollowing : GoodIn wsX4_between (wsV RX4 67 RX1 yX1_isFollowing wsX1_isFollowing) := goodIn_app (goodIn_of _ (by decide +kernel)) ggX4_between_X1_isFollowing
set_option maxRecDepth 1000000 in
theorem ggX4_between_X1_isBlocking : GoodIn wsX4_between wsX1_isBlocking := goodIn_r _ [34, 35, 24, 5, 25, 47, 48, 49, 50, 51, 52, 53] rfl (by decide +kernel)
set_option maxRecDepth 20000 in
theorem gX4_between_X1_isBlocking : GoodIn wsX4_between (wsV RX4 92 RX1 yX1_isBlocking wsX1_isBlocking) := goodIn_app (goodIn_of _ (by decide +kernel)) ggX4_between_X1_isBlocking
theorem dX4_between_0 : decode cX4_between 0 = .ok (.iload_n 1, 1) := by decide +kernel
theorem dX4_between_1 : decode cX4_between 1 = .ok (.invokestatic 41, 3) := by decide +kernel
theorem dX4_between_4 : decode cX4_between 4 = .ok (.aload_n 0, 1) := by decide +kernel
theorem dX4_between_5 : decode cX4_between 5 = .ok (.iload_n 2, 1) := by decide +kernel
theorem dX4_between_6 : decode cX4_between 6 = .ok (.iload_n 3, 1) := by decide +kernel
theorem dX4_between_7 : decode cX4_between 7 = .ok (.invokevirtual 52, 3) := by decide +kernel
theorem dX4_between_10 : decode cX4_between 10 = .ok (.aload_n 0, 1) := by decide +kernel
theorem dX4_between_11 : decode cX4_between 11 = .ok (.getfield 10, 3) := by decide +kernel
theorem dX4_between_14 : decode cX4_between 14 = .ok (.iload_n 1, 1) := by decide +kernel
theorem dX4_between_15 : decode cX4_between 15 = .ok (.aaload, 1) := by decide +kernel
theorem dX4_between_16 : decode cX4_between 16 = .ok (.getfield 184, 3) := by decide +kernel
theorem dX4_between_19 : decode cX4_between 19 = .ok (.astore 4, 2) := by decide +kernel
theorem dX4_between_21 : decode cX4_between 21 = .ok (.iconst 0, 1) := by decide +kernel
theorem dX4_between_22 : decode cX4_between 22 = .ok (.istore 5, 2) := by decide +kernel
theorem dX4_between_24 : decode cX4_between 24 = .ok (.aload 4, 2) := by decide +kernel
theorem dX4_between_26 : decode cX4_between 26 = .ok (.iload_n 2, 1) := by decide +kernel
theorem dX4_between_27 : decode cX4_between 27 = .ok (.iload_n 3, 1) := by decide +kernel
theorem dX4_between_28 : decode cX4_between 28 = .ok (.invokevirtual 63, 3) := by decide +kernel
theorem dX4_between_31 : decode cX4_between 31 = .ok (.ifCond .eq 6, 3) := by decide +kernel
theorem dX4_between_34 : decode cX4_between 34 = .ok (.iinc 5 1, 3) := by decide +kernel
theorem dX4_between_37 : decode cX4_between 37 = .ok (.aload 4, 2) := by decide +kernel
theorem dX4_between_39 : decode cX4_between 39 = .ok (.iload_n 2, 1) := by decide +kernel
theorem dX4_between_40 : decode cX4_between 40 = .ok (.iload_n 3, 1) := by decide +kernel
theorem dX4_between_41 : decode cX4_between 41 = .ok (.invokevirtual 67, 3) := by decide +kernel
theorem dX4_between_44 : decode cX4_between 44 = .ok (.ifCond .eq 6, 3) := by decide +kernel
theorem dX4_between_47 : decode cX4_between 47 = .ok (.iinc 5 2, 3) := by decide +kernel
theorem dX4_between_50 : decode cX4_between 50 = .ok (.aload 4, 2) := by decide +kernel
theorem dX4_between_52 : decode cX4_between 52 = .ok (.iload_n 2, 1) := by decide +kernel
theorem dX4_between_53 : decode cX4_between 53 = .ok (.iload_n 3, 1) := by decide +kernel
theorem dX4_between_54 : decode cX4_between 54 = .ok (.invokevirtual 92, 3) := by decide +kernel
theorem dX4_between_57 : decode cX4_between 57 = .ok (.ifCond .eq 6, 3) := by decide +kernel
theorem dX4_between_60 : decode cX4_between 60 = .ok (.iinc 5 4, 3) := by decide +kernel
theorem dX4_between_63 : decode cX4_between 63 = .ok (.iload 5, 2) := by decide +kernel
theorem dX4_between_65 : decode cX4_between 65 = .ok (.ireturn, 1) := by decide +kernel
set_option maxRecDepth 1000000 in
theorem ggX4_sees_X4_requirePerson : GoodIn wsX4_sees wsX4_requirePerson := goodIn_ca (goodIn_r _ [7, 8, 9, 10, 70, 71, 72, 73, 74, 75] rfl (by decide +kernel)) (goodIn_sub (fun _ h => List.mem_cons_of_mem _ (List.mem_append_right _ h)) (by decide +kernel))
set_option maxRecDepth 20000 in
theorem gX4_sees_X4_requirePerson : GoodIn wsX4_sees (wsV RX4 113 RX4 yX4_requirePerson wsX4_requirePerson) := goodIn_app (goodIn_of _ (by decide +kernel)) ggX4_sees_X4_requirePerson
set_option maxRecDepth 1000000 in
theorem ggX4_sees_X4_requirePost : GoodIn wsX4_sees wsX4_requirePost := goodIn_ca (goodIn_r _ [14, 8, 9, 1, 15, 16, 17, 18, 19, 20, 70, 71, 72, 73, 74, 75, 76, 77, 78] rfl (by decide +kernel)) (goodIn_sub (fun _ h => List.mem_cons_of_mem _ (List.mem_append_right _ h)) (by decide +kernel))
set_option maxRecDepth 20000 in
theorem gX4_sees_X4_requirePost : GoodIn wsX4_sees (wsV RX4 116 RX4 yX4_requirePost wsX4_requirePost) := goodIn_app (goodIn_of _ (by decide +kernel)) ggX4_sees_X4_requirePost
set_option maxRecDepth 1000000 in
theorem ggX4_sees_X4_atHomeOf : GoodIn wsX4_sees wsX4_atHomeOf := goodIn_r _ [24, 25, 26, 27, 70, 71, 72, 73, 74, 75, 79, 80, 81, 82, 83] rfl (by decide +kernel)
set_option maxRecDepth 20000 in
theorem gX4_sees_X4_atHomeOf : GoodIn wsX4_sees (wsV RX4 59 RX4 yX4_atHomeOf wsX4_atHomeOf) := goodIn_app (goodIn_of _ (by decide +kernel)) ggX4_sees_X4_atHomeOf
set_option maxRecDepth 1000000 in
theorem ggX4_sees_Jx4a65c_get_915e3 : GoodIn wsX4_sees wsJx4a65c_get_915e3 := goodIn_r _ [31, 20, 32, 33, 34, 35, 36, 37, 38, 39, 40, 41, 42, 18, 43, 44, 76, 77, 78] rfl (by decide +kernel)
set_option maxRecDepth 20000 in
theorem gX4_sees_Jx4a65c_get_915e3 : GoodIn wsX4_sees (wsV RX4 130 RJx4a65c yJx4a65c_get_915e3 wsJx4a65c_get_915e3) := goodIn_app (goodIn_of _ (by decide +kernel)) ggX4_sees_Jx4a65c_get_915e3
set_option maxRecDepth 1000000 in
theorem ggX4_sees_X1_isSeenBy : GoodIn wsX4_sees wsX1_isSeenBy := goodIn_r _ [49, 50, 51, 52, 53, 54, 55, 56, 6, 57, 58, 59, 60, 48, 61, 62, 63, 64, 65, 66, 67, 68, 69, 84, 85, 86, 87, 88, 89, 90, 91, 92, 93, 94, 95, 96] rfl (by decide +kernel)
set_option maxRecDepth 20000 in
theorem gX4_sees_X1_isSeenBy : GoodIn wsX4_sees (wsV RX4 136 RX1 yX1_isSeenBy wsX1_isSeenBy) := goodIn_app (goodIn_of _ (by decide +kernel)) ggX4_sees_X1_isSeenBy
theorem dX4_sees_0 : decode cX4_sees 0 = .ok (.aload_n 0, 1) := by decide +kernel
theorem dX4_sees_1 : decode cX4_sees 1 = .ok (.iload_n 1, 1) := by decide +kernel
theorem dX4_sees_2 : decode cX4_sees 2 = .ok (.invokevirtual 113, 3) := by decide +kernel
theorem dX4_sees_5 : decode cX4_sees 5 = .ok (.aload_n 0, 1) := by decide +kernel
theorem dX4_sees_6 : decode cX4_sees 6 = .ok (.iload_n 2, 1) := by decide +kernel
theorem dX4_sees_7 : decode cX4_sees 7 = .ok (.invokevirtual 116, 3) := by decide +kernel
theorem dX4_sees_10 : decode cX4_sees 10 = .ok (.aload_n 0, 1) := by decide +kernel
theorem dX4_sees_11 : decode cX4_sees 11 = .ok (.iload_n 1, 1) := by decide +kernel
theorem dX4_sees_12 : decode cX4_sees 12 = .ok (.invokevirtual 59, 3) := by decide +kernel
theorem dX4_sees_15 : decode cX4_sees 15 = .ok (.iload_n 1, 1) := by decide +kernel
theorem dX4_sees_16 : decode cX4_sees 16 = .ok (.iload_n 2, 1) := by decide +kernel
theorem dX4_sees_17 : decode cX4_sees 17 = .ok (.aload_n 0, 1) := by decide +kernel
theorem dX4_sees_18 : decode cX4_sees 18 = .ok (.getfield 23, 3) := by decide +kernel
theorem dX4_sees_21 : decode cX4_sees 21 = .ok (.iload_n 2, 1) := by decide +kernel
theorem dX4_sees_22 : decode cX4_sees 22 = .ok (.invokevirtual 130, 3) := by decide +kernel
theorem dX4_sees_25 : decode cX4_sees 25 = .ok (.checkcast 134, 3) := by decide +kernel
theorem dX4_sees_28 : decode cX4_sees 28 = .ok (.invokevirtual 136, 3) := by decide +kernel
theorem dX4_sees_31 : decode cX4_sees 31 = .ok (.ireturn, 1) := by decide +kernel
set_option maxRecDepth 1000000 in
theorem ggX4_seesAnew_X4_requirePerson : GoodIn wsX4_seesAnew wsX4_requirePerson := goodIn_ca (goodIn_r _ [12, 13, 14, 15, 109, 110, 111, 112, 113, 114] rfl (by decide +kernel)) (goodIn_sub (fun _ h => List.mem_cons_of_mem _ (List.mem_append_right _ h)) (by decide +kernel))
set_option maxRecDepth 20000 in
theorem gX4_seesAnew_X4_requirePerson : GoodIn wsX4_seesAnew (wsV RX4 113 RX4 yX4_requirePerson wsX4_requirePerson) := goodIn_app (goodIn_of _ (by decide +kernel)) ggX4_seesAnew_X4_requirePerson
set_option maxRecDepth 1000000 in
theorem ggX4_seesAnew_X4_requirePost : GoodIn wsX4_seesAnew wsX4_requirePost := goodIn_ca (goodIn_r _ [19, 13, 14, 6, 20, 21, 22, 23, 24, 25, 109, 110, 111, 112, 113, 114, 120, 121, 122] rfl (by decide +kernel)) (goodIn_sub (fun _ h => List.mem_cons_of_mem _ (List.mem_append_right _ h)) (by decide +kernel))
set_option maxRecDepth 20000 in
theorem gX4_seesAnew_X4_requirePost : GoodIn wsX4_seesAnew (wsV RX4 116 RX4 yX4_requirePost wsX4_requirePost) := goodIn_app (goodIn_of _ (by decide +kernel)) ggX4_seesAnew_X4_requirePost
set_option maxRecDepth 1000000 in
theorem ggX4_seesAnew_X1_forget : GoodIn wsX4_seesAnew wsX1_forget := goodIn_r _ [30, 31, 32, 33, 34, 35, 36, 37, 123, 124, 125, 126, 127, 128, 129] rfl (by decide +kernel)
set_option maxRecDepth 20000 in
theorem gX4_seesAnew_X1_forget : GoodIn wsX4_seesAnew (wsV RX4 201 RX1 yX1_forget wsX1_forget) := goodIn_app (goodIn_of _ (by decide +kernel)) ggX4_seesAnew_X1_forget
set_option maxRecDepth 1000000 in
theorem ggX4_seesAnew_Jx4a65c_size_8abf5 : GoodIn wsX4_seesAnew wsJx4a65c_size_8abf5 := goodIn_r _ [24, 25, 120, 121, 122] rfl (by decide +kernel)
set_option maxRecDepth 20000 in
theorem gX4_seesAnew_Jx4a65c_size_8abf5 : GoodIn wsX4_seesAnew (wsV RX4 124 RJx4a65c yJx4a65c_size_8abf5 wsJx4a65c_size_8abf5) := goodIn_app (goodIn_of _ (by decide +kernel)) ggX4_seesAnew_Jx4a65c_size_8abf5
set_option maxRecDepth 1000000 in
theorem ggX4_seesAnew_Jx4a65c_get_915e3 : GoodIn wsX4_seesAnew wsJx4a65c_get_915e3 := goodIn_r _ [41, 25, 42, 43, 44, 45, 46, 47, 48, 49, 50, 51, 52, 23, 53, 54, 120, 121, 122] rfl (by decide +kernel)
set_option maxRecDepth 20000 in
theorem gX4_seesAnew_Jx4a65c_get_915e3 : GoodIn wsX4_seesAnew (wsV RX4 130 RJx4a65c yJx4a65c_get_915e3 wsJx4a65c_get_915e3) := goodIn_app (goodIn_of _ (by decide +kernel)) ggX4_seesAnew_Jx4a65c_get_915e3
set_option maxRecDepth 1000000 in
theorem ggX4_seesAnew_X1_learn : GoodIn wsX4_seesAnew wsX1_learn := goodIn_r _ [58, 59, 60, 61, 31, 33, 34, 62, 36, 37, 35, 63, 64, 65, 29, 66, 67, 68, 69, 70, 32, 71, 11, 72, 73, 74, 75, 76, 77, 78, 79, 80, 81, 82, 83, 84, 85, 86, 87, 88, 89, 90, 91, 92, 93, 94, 95, 96, 97, 98, 130, 131, 132, 133, 134, 123, 124, 125, 126, 127, 128, 129] rfl (by decide +kernel)
set_option maxRecDepth 20000 in
theorem gX4_seesAnew_X1_learn : GoodIn wsX4_seesAnew (wsV RX4 204 RX1 yX1_learn wsX1_learn) := goodIn_app (goodIn_of _ (by decide +kernel)) ggX4_seesAnew_X1_learn
set_option maxRecDepth 1000000 in
theorem ggX4_seesAnew_X1_isSeenBy : GoodIn wsX4_seesAnew wsX1_isSeenBy := goodIn_r _ [102, 36, 37, 103, 104, 105, 106, 107, 11, 108, 73, 74, 75, 29, 76, 33, 71, 72, 67, 68, 69, 70, 32, 123, 124, 125, 126, 127, 128, 129, 135, 136, 137, 138, 139, 140] rfl (by decide +kernel)
set_option maxRecDepth 20000 in
theorem gX4_seesAnew_X1_isSeenBy : GoodIn wsX4_seesAnew (wsV RX4 136 RX1 yX1_isSeenBy wsX1_isSeenBy) := goodIn_app (goodIn_of _ (by decide +kernel)) ggX4_seesAnew_X1_isSeenBy
theorem dX4_seesAnew_0 : decode cX4_seesAnew 0 = .ok (.aload_n 0, 1) := by decide +kernel
theorem dX4_seesAnew_1 : decode cX4_seesAnew 1 = .ok (.iload_n 1, 1) := by decide +kernel
theorem dX4_seesAnew_2 : decode cX4_seesAnew 2 = .ok (.invokevirtual 113, 3) := by decide +kernel
theorem dX4_seesAnew_5 : decode cX4_seesAnew 5 = .ok (.aload_n 0, 1) := by decide +kernel
theorem dX4_seesAnew_6 : decode cX4_seesAnew 6 = .ok (.iload_n 2, 1) := by decide +kernel
theorem dX4_seesAnew_7 : decode cX4_seesAnew 7 = .ok (.invokevirtual 116, 3) := by decide +kernel
theorem dX4_seesAnew_10 : decode cX4_seesAnew 10 = .ok (.aload_n 0, 1) := by decide +kernel
theorem dX4_seesAnew_11 : decode cX4_seesAnew 11 = .ok (.getfield 10, 3) := by decide +kernel
theorem dX4_seesAnew_14 : decode cX4_seesAnew 14 = .ok (.aload_n 0, 1) := by decide +kernel
theorem dX4_seesAnew_15 : decode cX4_seesAnew 15 = .ok (.getfield 16, 3) := by decide +kernel
theorem dX4_seesAnew_18 : decode cX4_seesAnew 18 = .ok (.iload_n 1, 1) := by decide +kernel
theorem dX4_seesAnew_19 : decode cX4_seesAnew 19 = .ok (.iaload, 1) := by decide +kernel
theorem dX4_seesAnew_20 : decode cX4_seesAnew 20 = .ok (.aaload, 1) := by decide +kernel
theorem dX4_seesAnew_21 : decode cX4_seesAnew 21 = .ok (.getfield 181, 3) := by decide +kernel
theorem dX4_seesAnew_24 : decode cX4_seesAnew 24 = .ok (.astore_n 3, 1) := by decide +kernel
theorem dX4_seesAnew_25 : decode cX4_seesAnew 25 = .ok (.aload_n 0, 1) := by decide +kernel
theorem dX4_seesAnew_26 : decode cX4_seesAnew 26 = .ok (.getfield 30, 3) := by decide +kernel
theorem dX4_seesAnew_29 : decode cX4_seesAnew 29 = .ok (.invokevirtual 201, 3) := by decide +kernel
theorem dX4_seesAnew_32 : decode cX4_seesAnew 32 = .ok (.iconst 0, 1) := by decide +kernel
theorem dX4_seesAnew_33 : decode cX4_seesAnew 33 = .ok (.istore 4, 2) := by decide +kernel
theorem dX4_seesAnew_35 : decode cX4_seesAnew 35 = .ok (.iload 4, 2) := by decide +kernel
theorem dX4_seesAnew_37 : decode cX4_seesAnew 37 = .ok (.aload_n 3, 1) := by decide +kernel
theorem dX4_seesAnew_38 : decode cX4_seesAnew 38 = .ok (.invokevirtual 124, 3) := by decide +kernel
theorem dX4_seesAnew_41 : decode cX4_seesAnew 41 = .ok (.if_icmp .ge 25, 3) := by decide +kernel
theorem dX4_seesAnew_44 : decode cX4_seesAnew 44 = .ok (.aload_n 0, 1) := by decide +kernel
theorem dX4_seesAnew_45 : decode cX4_seesAnew 45 = .ok (.getfield 30, 3) := by decide +kernel
theorem dX4_seesAnew_48 : decode cX4_seesAnew 48 = .ok (.aload_n 3, 1) := by decide +kernel
theorem dX4_seesAnew_49 : decode cX4_seesAnew 49 = .ok (.iload 4, 2) := by decide +kernel
theorem dX4_seesAnew_51 : decode cX4_seesAnew 51 = .ok (.invokevirtual 130, 3) := by decide +kernel
theorem dX4_seesAnew_54 : decode cX4_seesAnew 54 = .ok (.checkcast 75, 3) := by decide +kernel
theorem dX4_seesAnew_57 : decode cX4_seesAnew 57 = .ok (.invokevirtual 204, 3) := by decide +kernel
theorem dX4_seesAnew_60 : decode cX4_seesAnew 60 = .ok (.iinc 4 1, 3) := by decide +kernel
theorem dX4_seesAnew_63 : decode cX4_seesAnew 63 = .ok (.goto (-28), 3) := by decide +kernel
theorem dX4_seesAnew_66 : decode cX4_seesAnew 66 = .ok (.aload_n 0, 1) := by decide +kernel
theorem dX4_seesAnew_67 : decode cX4_seesAnew 67 = .ok (.getfield 30, 3) := by decide +kernel
theorem dX4_seesAnew_70 : decode cX4_seesAnew 70 = .ok (.iload_n 1, 1) := by decide +kernel
theorem dX4_seesAnew_71 : decode cX4_seesAnew 71 = .ok (.iload_n 2, 1) := by decide +kernel
theorem dX4_seesAnew_72 : decode cX4_seesAnew 72 = .ok (.aload_n 0, 1) := by decide +kernel
theorem dX4_seesAnew_73 : decode cX4_seesAnew 73 = .ok (.getfield 23, 3) := by decide +kernel
theorem dX4_seesAnew_76 : decode cX4_seesAnew 76 = .ok (.iload_n 2, 1) := by decide +kernel
theorem dX4_seesAnew_77 : decode cX4_seesAnew 77 = .ok (.invokevirtual 130, 3) := by decide +kernel
theorem dX4_seesAnew_80 : decode cX4_seesAnew 80 = .ok (.checkcast 134, 3) := by decide +kernel
theorem dX4_seesAnew_83 : decode cX4_seesAnew 83 = .ok (.invokevirtual 136, 3) := by decide +kernel
theorem dX4_seesAnew_86 : decode cX4_seesAnew 86 = .ok (.ireturn, 1) := by decide +kernel
set_option maxRecDepth 1000000 in
theorem ggX4_home_X4_requirePerson : GoodIn wsX4_home wsX4_requirePerson := goodIn_ca (goodIn_r _ [9, 1, 2, 10, 79, 80, 81, 82, 83, 84] rfl (by decide +kernel)) (goodIn_sub (fun _ h => List.mem_cons_of_mem _ (List.mem_append_right _ h)) (by decide +kernel))
set_option maxRecDepth 20000 in
theorem gX4_home_X4_requirePerson : GoodIn wsX4_home (wsV RX4 113 RX4 yX4_requirePerson wsX4_requirePerson) := goodIn_app (goodIn_of _ (by decide +kernel)) ggX4_home_X4_requirePerson
set_option maxRecDepth 1000000 in
theorem ggX4_home_X4_atHomeOf : GoodIn wsX4_home wsX4_atHomeOf := goodIn_r _ [14, 15, 16, 17, 79, 80, 81, 82, 83, 84, 85, 86, 87, 88, 89] rfl (by decide +kernel)
set_option maxRecDepth 20000 in
theorem gX4_home_X4_atHomeOf : GoodIn wsX4_home (wsV RX4 59 RX4 yX4_atHomeOf wsX4_atHomeOf) := goodIn_app (goodIn_of _ (by decide +kernel)) ggX4_home_X4_atHomeOf
set_option maxRecDepth 1000000 in
theorem ggX4_home_Jx4a65c_size_8abf5 : GoodIn wsX4_home wsJx4a65c_size_8abf5 := goodIn_r _ [22, 23, 90, 91, 92] rfl (by decide +kernel)
set_option maxRecDepth 20000 in
theorem gX4_home_Jx4a65c_size_8abf5 : GoodIn wsX4_home (wsV RX4 124 RJx4a65c yJx4a65c_size_8abf5 wsJx4a65c_size_8abf5) := goodIn_app (goodIn_of _ (by decide +kernel)) ggX4_home_Jx4a65c_size_8abf5
set_option maxRecDepth 1000000 in
theorem ggX4_home_Jx4a65c_get_915e3 : GoodIn wsX4_home wsJx4a65c_get_915e3 := goodIn_r _ [27, 23, 28, 29, 30, 31, 32, 33, 34, 35, 36, 37, 38, 21, 39, 40, 90, 91, 92] rfl (by decide +kernel)
set_option maxRecDepth 20000 in
theorem gX4_home_Jx4a65c_get_915e3 : GoodIn wsX4_home (wsV RX4 130 RJx4a65c yJx4a65c_get_915e3 wsJx4a65c_get_915e3) := goodIn_app (goodIn_of _ (by decide +kernel)) ggX4_home_Jx4a65c_get_915e3
set_option maxRecDepth 1000000 in
theorem ggX4_home_X1_isAtHomeOf : GoodIn wsX4_home wsX1_isAtHomeOf := goodIn_r _ [45, 46, 47, 48, 49, 50, 44, 51, 52, 53, 54, 55, 56, 8, 57, 58, 59, 60, 61, 62, 63, 64, 65, 66, 67, 68, 69, 70, 71, 72, 73, 74, 75, 76, 77, 78, 93, 94, 95, 96, 97, 98, 99, 100, 101, 102, 103, 104, 105] rfl (by decide +kernel)
set_option maxRecDepth 20000 in
theorem gX4_home_X1_isAtHomeOf : GoodIn wsX4_home (wsV RX4 213 RX1 yX1_isAtHomeOf wsX1_isAtHomeOf) := goodIn_app (goodIn_of _ (by decide +kernel)) ggX4_home_X1_isAtHomeOf
theorem dX4_home_0 : decode cX4_home 0 = .ok (.aload_n 0, 1) := by decide +kernel
theorem dX4_home_1 : decode cX4_home 1 = .ok (.iload_n 1, 1) := by decide +kernel
theorem dX4_home_2 : decode cX4_home 2 = .ok (.invokevirtual 113, 3) := by decide +kernel
theorem dX4_home_5 : decode cX4_home 5 = .ok (.iload_n 2, 1) := by decide +kernel
theorem dX4_home_6 : decode cX4_home 6 = .ok (.ifCond .ge 13, 3) := by decide +kernel
theorem dX4_home_9 : decode cX4_home 9 = .ok (.new 208, 3) := by decide +kernel
theorem dX4_home_12 : decode cX4_home 12 = .ok (.dup, 1) := by decide +kernel
theorem dX4_home_13 : decode cX4_home 13 = .ok (.ldc 210, 2) := by decide +kernel
theorem dX4_home_15 : decode cX4_home 15 = .ok (.invokespecial 212, 3) := by decide +kernel
theorem dX4_home_18 : decode cX4_home 18 = .ok (.athrow, 1) := by decide +kernel
theorem dX4_home_19 : decode cX4_home 19 = .ok (.aload_n 0, 1) := by decide +kernel
theorem dX4_home_20 : decode cX4_home 20 = .ok (.iload_n 1, 1) := by decide +kernel
theorem dX4_home_21 : decode cX4_home 21 = .ok (.invokevirtual 59, 3) := by decide +kernel
theorem dX4_home_24 : decode cX4_home 24 = .ok (.astore_n 3, 1) := by decide +kernel
theorem dX4_home_25 : decode cX4_home 25 = .ok (.iconst 0, 1) := by decide +kernel
theorem dX4_home_26 : decode cX4_home 26 = .ok (.istore 4, 2) := by decide +kernel
theorem dX4_home_28 : decode cX4_home 28 = .ok (.aload_n 0, 1) := by decide +kernel
theorem dX4_home_29 : decode cX4_home 29 = .ok (.getfield 23, 3) := by decide +kernel
theorem dX4_home_32 : decode cX4_home 32 = .ok (.invokevirtual 124, 3) := by decide +kernel
theorem dX4_home_35 : decode cX4_home 35 = .ok (.iconst 1, 1) := by decide +kernel
theorem dX4_home_36 : decode cX4_home 36 = .ok (.isub, 1) := by decide +kernel
theorem dX4_home_37 : decode cX4_home 37 = .ok (.istore 5, 2) := by decide +kernel
theorem dX4_home_39 : decode cX4_home 39 = .ok (.iload 5, 2) := by decide +kernel
theorem dX4_home_41 : decode cX4_home 41 = .ok (.ifCond .lt 43, 3) := by decide +kernel
theorem dX4_home_44 : decode cX4_home 44 = .ok (.aload_n 3, 1) := by decide +kernel
theorem dX4_home_45 : decode cX4_home 45 = .ok (.iload_n 1, 1) := by decide +kernel
theorem dX4_home_46 : decode cX4_home 46 = .ok (.iload 5, 2) := by decide +kernel
theorem dX4_home_48 : decode cX4_home 48 = .ok (.aload_n 0, 1) := by decide +kernel
theorem dX4_home_49 : decode cX4_home 49 = .ok (.getfield 23, 3) := by decide +kernel
theorem dX4_home_52 : decode cX4_home 52 = .ok (.iload 5, 2) := by decide +kernel
theorem dX4_home_54 : decode cX4_home 54 = .ok (.invokevirtual 130, 3) := by decide +kernel
theorem dX4_home_57 : decode cX4_home 57 = .ok (.checkcast 134, 3) := by decide +kernel
theorem dX4_home_60 : decode cX4_home 60 = .ok (.invokevirtual 213, 3) := by decide +kernel
theorem dX4_home_63 : decode cX4_home 63 = .ok (.ifCond .eq 15, 3) := by decide +kernel
theorem dX4_home_66 : decode cX4_home 66 = .ok (.iload 4, 2) := by decide +kernel
theorem dX4_home_68 : decode cX4_home 68 = .ok (.iload_n 2, 1) := by decide +kernel
theorem dX4_home_69 : decode cX4_home 69 = .ok (.if_icmp .ne 6, 3) := by decide +kernel
theorem dX4_home_72 : decode cX4_home 72 = .ok (.iload 5, 2) := by decide +kernel
theorem dX4_home_74 : decode cX4_home 74 = .ok (.ireturn, 1) := by decide +kernel
theorem dX4_home_75 : decode cX4_home 75 = .ok (.iinc 4 1, 3) := by decide +kernel
theorem dX4_home_78 : decode cX4_home 78 = .ok (.iinc 5 (-1), 3) := by decide +kernel
theorem dX4_home_81 : decode cX4_home 81 = .ok (.goto (-42), 3) := by decide +kernel
theorem dX4_home_84 : decode cX4_home 84 = .ok (.iconst (-1), 1) := by decide +kernel
theorem dX4_home_85 : decode cX4_home 85 = .ok (.ireturn, 1) := by decide +kernel
theorem dX4_requireServer_0 : decode cX4_requireServer 0 = .ok (.iload_n 0, 1) := by decide +kernel
theorem dX4_requireServer_1 : decode cX4_requireServer 1 = .ok (.ifCond .lt 8, 3) := by decide +kernel
theorem dX4_requireServer_4 : decode cX4_requireServer 4 = .ok (.iload_n 0, 1) := by decide +kernel
theorem dX4_requireServer_5 : decode cX4_requireServer 5 = .ok (.iconst 4, 1) := by decide +kernel
theorem dX4_requireServer_6 : decode cX4_requireServer 6 = .ok (.if_icmp .lt 13, 3) := by decide +kernel
theorem dX4_requireServer_9 : decode cX4_requireServer 9 = .ok (.new 208, 3) := by decide +kernel
theorem dX4_requireServer_12 : decode cX4_requireServer 12 = .ok (.dup, 1) := by decide +kernel
theorem dX4_requireServer_13 : decode cX4_requireServer 13 = .ok (.ldc 216, 2) := by decide +kernel
theorem dX4_requireServer_15 : decode cX4_requireServer 15 = .ok (.invokespecial 212, 3) := by decide +kernel
theorem dX4_requireServer_18 : decode cX4_requireServer 18 = .ok (.athrow, 1) := by decide +kernel
theorem dX4_requireServer_19 : decode cX4_requireServer 19 = .ok (.return_, 1) := by decide +kernel
theorem dX4_requirePerson_0 : decode cX4_requirePerson 0 = .ok (.iload_n 1, 1) := by decide +kernel
theorem dX4_requirePerson_1 : decode cX4_requirePerson 1 = .ok (.ifCond .lt 11, 3) := by decide +kernel
theorem dX4_requirePerson_4 : decode cX4_requirePerson 4 = .ok (.iload_n 1, 1) := by decide +kernel
theorem dX4_requirePerson_5 : decode cX4_requirePerson 5 = .ok (.aload_n 0, 1) := by decide +kernel
theorem dX4_requirePerson_6 : decode cX4_requirePerson 6 = .ok (.getfield 34, 3) := by decide +kernel
theorem dX4_requirePerson_9 : decode cX4_requirePerson 9 = .ok (.if_icmp .lt 13, 3) := by decide +kernel
theorem dX4_requirePerson_12 : decode cX4_requirePerson 12 = .ok (.new 208, 3) := by decide +kernel
theorem dX4_requirePerson_15 : decode cX4_requirePerson 15 = .ok (.dup, 1) := by decide +kernel
theorem dX4_requirePerson_16 : decode cX4_requirePerson 16 = .ok (.ldc 218, 2) := by decide +kernel
theorem dX4_requirePerson_18 : decode cX4_requirePerson 18 = .ok (.invokespecial 212, 3) := by decide +kernel
theorem dX4_requirePerson_21 : decode cX4_requirePerson 21 = .ok (.athrow, 1) := by decide +kernel
theorem dX4_requirePerson_22 : decode cX4_requirePerson 22 = .ok (.return_, 1) := by decide +kernel
set_option maxRecDepth 1000000 in
theorem ggX4_requireTwo_X4_requirePerson : GoodIn wsX4_requireTwo wsX4_requirePerson := goodIn_ca (goodIn_r _ [5, 6, 7, 8, 9, 10, 11, 12, 13, 14] rfl (by decide +kernel)) (goodIn_sub (fun _ h => List.mem_cons_of_mem _ (List.mem_append_right _ h)) (by decide +kernel))
set_option maxRecDepth 20000 in
theorem gX4_requireTwo_X4_requirePerson : GoodIn wsX4_requireTwo (wsV RX4 113 RX4 yX4_requirePerson wsX4_requirePerson) := goodIn_app (goodIn_of _ (by decide +kernel)) ggX4_requireTwo_X4_requirePerson
theorem dX4_requireTwo_0 : decode cX4_requireTwo 0 = .ok (.aload_n 0, 1) := by decide +kernel
theorem dX4_requireTwo_1 : decode cX4_requireTwo 1 = .ok (.iload_n 1, 1) := by decide +kernel
theorem dX4_requireTwo_2 : decode cX4_requireTwo 2 = .ok (.invokevirtual 113, 3) := by decide +kernel
theorem dX4_requireTwo_5 : decode cX4_requireTwo 5 = .ok (.aload_n 0, 1) := by decide +kernel
theorem dX4_requireTwo_6 : decode cX4_requireTwo 6 = .ok (.iload_n 2, 1) := by decide +kernel
theorem dX4_requireTwo_7 : decode cX4_requireTwo 7 = .ok (.invokevirtual 113, 3) := by decide +kernel
theorem dX4_requireTwo_10 : decode cX4_requireTwo 10 = .ok (.return_, 1) := by decide +kernel
theorem dX4_requireDifferent_0 : decode cX4_requireDifferent 0 = .ok (.iload_n 0, 1) := by decide +kernel
theorem dX4_requireDifferent_1 : decode cX4_requireDifferent 1 = .ok (.iload_n 1, 1) := by decide +kernel
theorem dX4_requireDifferent_2 : decode cX4_requireDifferent 2 = .ok (.if_icmp .ne 13, 3) := by decide +kernel
theorem dX4_requireDifferent_5 : decode cX4_requireDifferent 5 = .ok (.new 119, 3) := by decide +kernel
theorem dX4_requireDifferent_8 : decode cX4_requireDifferent 8 = .ok (.dup, 1) := by decide +kernel
theorem dX4_requireDifferent_9 : decode cX4_requireDifferent 9 = .ok (.ldc 220, 2) := by decide +kernel
theorem dX4_requireDifferent_11 : decode cX4_requireDifferent 11 = .ok (.invokespecial 123, 3) := by decide +kernel
theorem dX4_requireDifferent_14 : decode cX4_requireDifferent 14 = .ok (.athrow, 1) := by decide +kernel
theorem dX4_requireDifferent_15 : decode cX4_requireDifferent 15 = .ok (.return_, 1) := by decide +kernel
set_option maxRecDepth 1000000 in
theorem ggX4_requirePost_Jx4a65c_size_8abf5 : GoodIn wsX4_requirePost wsJx4a65c_size_8abf5 := goodIn_r _ [8, 9, 16, 17, 18] rfl (by decide +kernel)
set_option maxRecDepth 20000 in
theorem gX4_requirePost_Jx4a65c_size_8abf5 : GoodIn wsX4_requirePost (wsV RX4 124 RJx4a65c yJx4a65c_size_8abf5 wsJx4a65c_size_8abf5) := goodIn_app (goodIn_of _ (by decide +kernel)) ggX4_requirePost_Jx4a65c_size_8abf5
theorem dX4_requirePost_0 : decode cX4_requirePost 0 = .ok (.iload_n 1, 1) := by decide +kernel
theorem dX4_requirePost_1 : decode cX4_requirePost 1 = .ok (.ifCond .lt 14, 3) := by decide +kernel
theorem dX4_requirePost_4 : decode cX4_requirePost 4 = .ok (.iload_n 1, 1) := by decide +kernel
theorem dX4_requirePost_5 : decode cX4_requirePost 5 = .ok (.aload_n 0, 1) := by decide +kernel
theorem dX4_requirePost_6 : decode cX4_requirePost 6 = .ok (.getfield 23, 3) := by decide +kernel
theorem dX4_requirePost_9 : decode cX4_requirePost 9 = .ok (.invokevirtual 124, 3) := by decide +kernel
theorem dX4_requirePost_12 : decode cX4_requirePost 12 = .ok (.if_icmp .lt 13, 3) := by decide +kernel
theorem dX4_requirePost_15 : decode cX4_requirePost 15 = .ok (.new 208, 3) := by decide +kernel
theorem dX4_requirePost_18 : decode cX4_requirePost 18 = .ok (.dup, 1) := by decide +kernel
theorem dX4_requirePost_19 : decode cX4_requirePost 19 = .ok (.ldc 222, 2) := by decide +kernel
theorem dX4_requirePost_21 : decode cX4_requirePost 21 = .ok (.invokespecial 212, 3) := by decide +kernel
theorem dX4_requirePost_24 : decode cX4_requirePost 24 = .ok (.athrow, 1) := by decide +kernel
theorem dX4_requirePost_25 : decode cX4_requirePost 25 = .ok (.return_, 1) := by decide +kernel
set_option maxRecDepth 1000000 in
theorem ggX4_perform_X4_homeOf : GoodIn wsX4_perform wsX4_homeOf := goodIn_r _ [8, 3, 9, 10, 7, 11, 175, 176, 177, 178, 179, 180] rfl (by decide +kernel)
set_option maxRecDepth 20000 in
theorem gX4_perform_X4_homeOf : GoodIn wsX4_perform (wsV RX4 80 RX4 yX4_homeOf wsX4_homeOf) := goodIn_app (goodIn_of _ (by decide +kernel)) ggX4_perform_X4_homeOf
set_option maxRecDepth 1000000 in
theorem ggX4_perform_X4_send : GoodIn wsX4_perform wsX4_send := goodIn_r _ [15, 16, 17, 18, 19, 7, 20, 21, 22, 23, 24, 25, 26, 27, 28, 29, 30, 31, 32, 33, 34, 35, 36, 37, 38, 39, 40, 41, 42, 43, 44, 45, 46, 47, 48, 49, 50, 51, 52, 53, 54, 55, 56, 57, 58, 59, 60, 61, 62, 63, 64, 65, 66, 67, 68, 69, 70, 71, 72, 73, 74, 75, 76, 175, 176, 177, 178, 179, 180, 186, 187, 188, 189, 190, 191, 192, 193] rfl (by decide +kernel)
set_option maxRecDepth 20000 in
theorem gX4_perform_X4_send : GoodIn wsX4_perform (wsV RX4 227 RX4 yX4_send wsX4_send) := goodIn_app (goodIn_of _ (by decide +kernel)) ggX4_perform_X4_send
set_option maxRecDepth 1000000 in
theorem ggX4_perform_X4_doAt : GoodIn wsX4_perform wsX4_doAt := goodIn_r _ [80, 16, 81, 82, 83, 84, 21, 22, 23, 24, 25, 26, 27, 28, 29, 30, 31, 32, 33, 34, 35, 36, 37, 38, 39, 40, 41, 42, 43, 44, 45, 46, 47, 48, 49, 50, 51, 52, 53, 54, 55, 56, 57, 58, 59, 60, 61, 62, 63, 64, 65, 66, 67, 68, 69, 70, 71, 72, 73, 74, 75, 76, 85, 86, 87, 88, 89, 90, 91, 92, 93, 94, 95, 96, 97, 98, 99, 100, 101, 102, 103, 104, 105, 106, 107, 108, 19, 7, 20, 109, 110, 111, 112, 10, 11, 113, 114, 115, 116, 117, 118, 119, 120, 121, 122, 123, 124, 125, 126, 127, 128, 129, 130, 131, 132, 133, 134, 135, 136, 137, 138, 139, 140, 141, 142, 3, 143, 144, 145, 146, 147, 148, 149, 150, 151, 152, 153, 154, 155, 156, 157, 158, 159, 160, 161, 162, 163, 164, 165, 166, 167, 168, 169, 170, 171, 172, 173, 174, 18, 4, 5, 6, 8, 9, 12, 13, 14, 15, 17, 175, 176, 177, 178, 179, 180, 186, 187, 188, 189, 190, 181, 182, 183, 184, 185, 191, 192, 193, 194, 195, 196, 197, 198, 199, 200, 201, 202, 203, 204, 205, 206] rfl (by decide +kernel)
set_option maxRecDepth 20000 in
theorem gX4_perform_X4_doAt : GoodIn wsX4_perform (wsV RX4 176 RX4 yX4_doAt wsX4_doAt) := goodIn_app (goodIn_of _ (by decide +kernel)) ggX4_perform_X4_doAt
theorem dX4_perform_0 : decode cX4_perform 0 = .ok (.aload_n 0, 1) := by decide +kernel
theorem dX4_perform_1 : decode cX4_perform 1 = .ok (.getfield 38, 3) := by decide +kernel
theorem dX4_perform_4 : decode cX4_perform 4 = .ok (.sipush 512, 3) := by decide +kernel
theorem dX4_perform_7 : decode cX4_perform 7 = .ok (.if_icmp .lt 4, 3) := by decide +kernel
theorem dX4_perform_10 : decode cX4_perform 10 = .ok (.return_, 1) := by decide +kernel
theorem dX4_perform_11 : decode cX4_perform 11 = .ok (.aload_n 0, 1) := by decide +kernel
theorem dX4_perform_12 : decode cX4_perform 12 = .ok (.dup, 1) := by decide +kernel
theorem dX4_perform_13 : decode cX4_perform 13 = .ok (.getfield 38, 3) := by decide +kernel
theorem dX4_perform_16 : decode cX4_perform 16 = .ok (.iconst 1, 1) := by decide +kernel
theorem dX4_perform_17 : decode cX4_perform 17 = .ok (.iadd, 1) := by decide +kernel
theorem dX4_perform_18 : decode cX4_perform 18 = .ok (.putfield 38, 3) := by decide +kernel
theorem dX4_perform_21 : decode cX4_perform 21 = .ok (.aload_n 0, 1) := by decide +kernel
theorem dX4_perform_22 : decode cX4_perform 22 = .ok (.aload_n 1, 1) := by decide +kernel
theorem dX4_perform_23 : decode cX4_perform 23 = .ok (.iload_n 2, 1) := by decide +kernel
theorem dX4_perform_24 : decode cX4_perform 24 = .ok (.aload_n 0, 1) := by decide +kernel
theorem dX4_perform_25 : decode cX4_perform 25 = .ok (.aload_n 1, 1) := by decide +kernel
theorem dX4_perform_26 : decode cX4_perform 26 = .ok (.getfield 224, 3) := by decide +kernel
theorem dX4_perform_29 : decode cX4_perform 29 = .ok (.invokevirtual 80, 3) := by decide +kernel
theorem dX4_perform_32 : decode cX4_perform 32 = .ok (.iconst (-1), 1) := by decide +kernel
theorem dX4_perform_33 : decode cX4_perform 33 = .ok (.ixor, 1) := by decide +kernel
theorem dX4_perform_34 : decode cX4_perform 34 = .ok (.iand, 1) := by decide +kernel
theorem dX4_perform_35 : decode cX4_perform 35 = .ok (.invokevirtual 227, 3) := by decide +kernel
theorem dX4_perform_38 : decode cX4_perform 38 = .ok (.aload_n 0, 1) := by decide +kernel
theorem dX4_perform_39 : decode cX4_perform 39 = .ok (.aload_n 0, 1) := by decide +kernel
theorem dX4_perform_40 : decode cX4_perform 40 = .ok (.getfield 16, 3) := by decide +kernel
theorem dX4_perform_43 : decode cX4_perform 43 = .ok (.aload_n 1, 1) := by decide +kernel
theorem dX4_perform_44 : decode cX4_perform 44 = .ok (.getfield 224, 3) := by decide +kernel
theorem dX4_perform_47 : decode cX4_perform 47 = .ok (.iaload, 1) := by decide +kernel
theorem dX4_perform_48 : decode cX4_perform 48 = .ok (.aload_n 1, 1) := by decide +kernel
theorem dX4_perform_49 : decode cX4_perform 49 = .ok (.invokevirtual 176, 3) := by decide +kernel
theorem dX4_perform_52 : decode cX4_perform 52 = .ok (.return_, 1) := by decide +kernel
set_option maxRecDepth 1000000 in
theorem ggX4_doAt_Jx4a65c_add_9ea2d : GoodIn wsX4_doAt wsJx4a65c_add_9ea2d := goodIn_r _ [10, 11, 12, 13, 14, 15, 16, 17, 9, 18, 19, 20, 21, 22, 23, 24, 25, 26, 27, 28, 29, 30, 31, 32, 33, 34, 35, 36, 37, 38, 39, 40, 41, 42, 43, 44, 45, 46, 47, 48, 49, 50, 51, 52, 53, 54, 55, 56, 57, 58, 59, 60, 61, 185, 186, 187] rfl (by decide +kernel)
set_option maxRecDepth 20000 in
theorem gX4_doAt_Jx4a65c_add_9ea2d : GoodIn wsX4_doAt (wsV RX4 146 RJx4a65c yJx4a65c_add_9ea2d wsJx4a65c_add_9ea2d) := goodIn_app (goodIn_of _ (by decide +kernel)) ggX4_doAt_Jx4a65c_add_9ea2d
set_option maxRecDepth 1000000 in
theorem ggX4_doAt_X1_learn : GoodIn wsX4_doAt wsX1_learn := goodIn_r _ [66, 67, 68, 69, 70, 71, 72, 73, 74, 75, 76, 77, 78, 79, 65, 80, 81, 82, 83, 84, 85, 86, 87, 88, 89, 90, 91, 92, 93, 94, 95, 96, 97, 98, 99, 100, 101, 102, 103, 104, 105, 106, 107, 108, 109, 110, 111, 112, 113, 114, 180, 181, 182, 183, 184, 188, 189, 190, 191, 192, 193, 194] rfl (by decide +kernel)
set_option maxRecDepth 20000 in
theorem gX4_doAt_X1_learn : GoodIn wsX4_doAt (wsV RX4 204 RX1 yX1_learn wsX1_learn) := goodIn_app (goodIn_of _ (by decide +kernel)) ggX4_doAt_X1_learn
set_option maxRecDepth 1000000 in
theorem ggX4_doAt_X4_sendOn : GoodIn wsX4_doAt wsX4_sendOn := goodIn_r _ [118, 119, 120, 121, 122, 123, 124, 125, 126, 127, 128, 129, 9, 130, 14, 131, 132, 133, 134, 135, 136, 137, 138, 139, 140, 141, 142, 13, 143, 144, 145, 87, 146, 1, 5, 147, 148, 149, 150, 151, 65, 152, 81, 82, 83, 84, 85, 86, 88, 93, 94, 153, 154, 155, 156, 157, 158, 159, 160, 161, 162, 163, 164, 165, 166, 167, 168, 6, 7, 8, 10, 11, 12, 15, 16, 17, 18, 19, 20, 21, 22, 23, 24, 25, 26, 27, 28, 29, 30, 31, 32, 33, 34, 35, 36, 37, 38, 39, 40, 41, 42, 43, 44, 45, 46, 47, 48, 49, 50, 51, 52, 53, 54, 55, 56, 57, 58, 59, 60, 61, 180, 181, 182, 183, 184, 169, 170, 171, 172, 173, 174, 195, 196, 197, 198, 199, 200, 185, 186, 187, 175, 176, 177, 178, 179, 188, 189, 190, 191, 192, 193, 194] rfl (by decide +kernel)
set_option maxRecDepth 20000 in
theorem gX4_doAt_X4_sendOn : GoodIn wsX4_doAt (wsV RX4 237 RX4 yX4_sendOn wsX4_sendOn) := goodIn_app (goodIn_of _ (by decide +kernel)) ggX4_doAt_X4_sendOn
theorem dX4_doAt_0 : decode cX4_doAt 0 = .ok (.aload_n 0, 1) := by decide +kernel
theorem dX4_doAt_1 : decode cX4_doAt 1 = .ok (.getfield 10, 3) := by decide +kernel
theorem dX4_doAt_4 : decode cX4_doAt 4 = .ok (.iload_n 1, 1) := by decide +kernel
theorem dX4_doAt_5 : decode cX4_doAt 5 = .ok (.aaload, 1) := by decide +kernel
theorem dX4_doAt_6 : decode cX4_doAt 6 = .ok (.astore_n 3, 1) := by decide +kernel
theorem dX4_doAt_7 : decode cX4_doAt 7 = .ok (.aload_n 3, 1) := by decide +kernel
theorem dX4_doAt_8 : decode cX4_doAt 8 = .ok (.getfield 230, 3) := by decide +kernel
theorem dX4_doAt_11 : decode cX4_doAt 11 = .ok (.aload_n 2, 1) := by decide +kernel
theorem dX4_doAt_12 : decode cX4_doAt 12 = .ok (.getfield 234, 3) := by decide +kernel
theorem dX4_doAt_15 : decode cX4_doAt 15 = .ok (.baload, 1) := by decide +kernel
theorem dX4_doAt_16 : decode cX4_doAt 16 = .ok (.ifCond .eq 4, 3) := by decide +kernel
theorem dX4_doAt_19 : decode cX4_doAt 19 = .ok (.return_, 1) := by decide +kernel
theorem dX4_doAt_20 : decode cX4_doAt 20 = .ok (.aload_n 3, 1) := by decide +kernel
theorem dX4_doAt_21 : decode cX4_doAt 21 = .ok (.getfield 230, 3) := by decide +kernel
theorem dX4_doAt_24 : decode cX4_doAt 24 = .ok (.aload_n 2, 1) := by decide +kernel
theorem dX4_doAt_25 : decode cX4_doAt 25 = .ok (.getfield 234, 3) := by decide +kernel
theorem dX4_doAt_28 : decode cX4_doAt 28 = .ok (.iconst 1, 1) := by decide +kernel
theorem dX4_doAt_29 : decode cX4_doAt 29 = .ok (.bastore, 1) := by decide +kernel
theorem dX4_doAt_30 : decode cX4_doAt 30 = .ok (.aload_n 3, 1) := by decide +kernel
theorem dX4_doAt_31 : decode cX4_doAt 31 = .ok (.getfield 181, 3) := by decide +kernel
theorem dX4_doAt_34 : decode cX4_doAt 34 = .ok (.aload_n 2, 1) := by decide +kernel
theorem dX4_doAt_35 : decode cX4_doAt 35 = .ok (.invokevirtual 146, 3) := by decide +kernel
theorem dX4_doAt_38 : decode cX4_doAt 38 = .ok (.pop, 1) := by decide +kernel
theorem dX4_doAt_39 : decode cX4_doAt 39 = .ok (.aload_n 3, 1) := by decide +kernel
theorem dX4_doAt_40 : decode cX4_doAt 40 = .ok (.getfield 184, 3) := by decide +kernel
theorem dX4_doAt_43 : decode cX4_doAt 43 = .ok (.aload_n 2, 1) := by decide +kernel
theorem dX4_doAt_44 : decode cX4_doAt 44 = .ok (.invokevirtual 204, 3) := by decide +kernel
theorem dX4_doAt_47 : decode cX4_doAt 47 = .ok (.aload_n 0, 1) := by decide +kernel
theorem dX4_doAt_48 : decode cX4_doAt 48 = .ok (.iload_n 1, 1) := by decide +kernel
theorem dX4_doAt_49 : decode cX4_doAt 49 = .ok (.aload_n 2, 1) := by decide +kernel
theorem dX4_doAt_50 : decode cX4_doAt 50 = .ok (.invokevirtual 237, 3) := by decide +kernel
theorem dX4_doAt_53 : decode cX4_doAt 53 = .ok (.return_, 1) := by decide +kernel
set_option maxRecDepth 1000000 in
theorem ggX4_sendOn_Jx4a65c_get_915e3 : GoodIn wsX4_sendOn wsJx4a65c_get_915e3 := goodIn_r _ [13, 14, 15, 16, 17, 18, 19, 20, 21, 22, 23, 24, 25, 12, 26, 27, 137, 138, 139] rfl (by decide +kernel)
set_option maxRecDepth 20000 in
theorem gX4_sendOn_Jx4a65c_get_915e3 : GoodIn wsX4_sendOn (wsV RX4 130 RJx4a65c yJx4a65c_get_915e3 wsJx4a65c_get_915e3) := goodIn_app (goodIn_of _ (by decide +kernel)) ggX4_sendOn_Jx4a65c_get_915e3
set_option maxRecDepth 1000000 in
theorem ggX4_sendOn_X4_sendReplyOn : GoodIn wsX4_sendOn wsX4_sendReplyOn := goodIn_r _ [32, 33, 34, 6, 35, 7, 36, 8, 37, 38, 39, 40, 41, 42, 43, 44, 45, 46, 47, 31, 48, 49, 50, 51, 52, 53, 54, 55, 56, 57, 58, 59, 60, 61, 62, 63, 64, 65, 66, 67, 68, 69, 12, 70, 71, 72, 27, 14, 73, 74, 75, 76, 77, 78, 79, 80, 81, 82, 83, 84, 85, 86, 87, 88, 89, 90, 91, 92, 93, 94, 95, 96, 97, 98, 99, 100, 101, 102, 103, 104, 105, 106, 107, 108, 109, 110, 111, 112, 113, 114, 115, 116, 117, 118, 119, 125, 126, 127, 128, 129, 130, 140, 141, 142, 143, 144, 131, 132, 133, 134, 135, 136, 145, 146, 147, 148, 149, 150, 151, 137, 138, 139] rfl (by decide +kernel)
set_option maxRecDepth 20000 in
theorem gX4_sendOn_X4_sendReplyOn : GoodIn wsX4_sendOn (wsV RX4 246 RX4 yX4_sendReplyOn wsX4_sendReplyOn) := goodIn_app (goodIn_of _ (by decide +kernel)) ggX4_sendOn_X4_sendReplyOn
set_option maxRecDepth 1000000 in
theorem ggX4_sendOn_X4_send : GoodIn wsX4_sendOn wsX4_send := goodIn_r _ [65, 33, 66, 56, 47, 31, 48, 67, 68, 69, 12, 70, 71, 72, 27, 14, 73, 74, 75, 76, 77, 78, 79, 80, 81, 82, 83, 84, 85, 86, 87, 88, 89, 90, 91, 92, 93, 94, 95, 96, 97, 98, 99, 100, 101, 102, 103, 104, 105, 106, 107, 108, 109, 110, 111, 112, 113, 114, 115, 116, 117, 118, 119, 125, 126, 127, 128, 129, 130, 140, 141, 142, 143, 144, 137, 138, 139] rfl (by decide +kernel)
set_option maxRecDepth 20000 in
theorem gX4_sendOn_X4_send : GoodIn wsX4_sendOn (wsV RX4 227 RX4 yX4_send wsX4_send) := goodIn_app (goodIn_of _ (by decide +kernel)) ggX4_sendOn_X4_send
theorem dX4_sendOn_0 : decode cX4_sendOn 0 = .ok (.aload_n 2, 1) := by decide +kernel
theorem dX4_sendOn_1 : decode cX4_sendOn 1 = .ok (.getfield 180, 3) := by decide +kernel
theorem dX4_sendOn_4 : decode cX4_sendOn 4 = .ok (.bipush 8, 2) := by decide +kernel
theorem dX4_sendOn_6 : decode cX4_sendOn 6 = .ok (.if_icmp .eq 13, 3) := by decide +kernel
theorem dX4_sendOn_9 : decode cX4_sendOn 9 = .ok (.aload_n 2, 1) := by decide +kernel
theorem dX4_sendOn_10 : decode cX4_sendOn 10 = .ok (.getfield 180, 3) := by decide +kernel
theorem dX4_sendOn_13 : decode cX4_sendOn 13 = .ok (.bipush 9, 2) := by decide +kernel
theorem dX4_sendOn_15 : decode cX4_sendOn 15 = .ok (.if_icmp .eq 4, 3) := by decide +kernel
theorem dX4_sendOn_18 : decode cX4_sendOn 18 = .ok (.return_, 1) := by decide +kernel
theorem dX4_sendOn_19 : decode cX4_sendOn 19 = .ok (.aload_n 0, 1) := by decide +kernel
theorem dX4_sendOn_20 : decode cX4_sendOn 20 = .ok (.getfield 23, 3) := by decide +kernel
theorem dX4_sendOn_23 : decode cX4_sendOn 23 = .ok (.aload_n 2, 1) := by decide +kernel
theorem dX4_sendOn_24 : decode cX4_sendOn 24 = .ok (.getfield 240, 3) := by decide +kernel
theorem dX4_sendOn_27 : decode cX4_sendOn 27 = .ok (.invokevirtual 130, 3) := by decide +kernel
theorem dX4_sendOn_30 : decode cX4_sendOn 30 = .ok (.checkcast 134, 3) := by decide +kernel
theorem dX4_sendOn_33 : decode cX4_sendOn 33 = .ok (.astore_n 3, 1) := by decide +kernel
theorem dX4_sendOn_34 : decode cX4_sendOn 34 = .ok (.aload_n 3, 1) := by decide +kernel
theorem dX4_sendOn_35 : decode cX4_sendOn 35 = .ok (.getfield 159, 3) := by decide +kernel
theorem dX4_sendOn_38 : decode cX4_sendOn 38 = .ok (.ifCond .ne 24, 3) := by decide +kernel
theorem dX4_sendOn_41 : decode cX4_sendOn 41 = .ok (.aload_n 3, 1) := by decide +kernel
theorem dX4_sendOn_42 : decode cX4_sendOn 42 = .ok (.getfield 243, 3) := by decide +kernel
theorem dX4_sendOn_45 : decode cX4_sendOn 45 = .ok (.iconst (-1), 1) := by decide +kernel
theorem dX4_sendOn_46 : decode cX4_sendOn 46 = .ok (.if_icmp .eq 16, 3) := by decide +kernel
theorem dX4_sendOn_49 : decode cX4_sendOn 49 = .ok (.aload_n 0, 1) := by decide +kernel
theorem dX4_sendOn_50 : decode cX4_sendOn 50 = .ok (.getfield 16, 3) := by decide +kernel
theorem dX4_sendOn_53 : decode cX4_sendOn 53 = .ok (.aload_n 3, 1) := by decide +kernel
theorem dX4_sendOn_54 : decode cX4_sendOn 54 = .ok (.getfield 243, 3) := by decide +kernel
theorem dX4_sendOn_57 : decode cX4_sendOn 57 = .ok (.iaload, 1) := by decide +kernel
theorem dX4_sendOn_58 : decode cX4_sendOn 58 = .ok (.iload_n 1, 1) := by decide +kernel
theorem dX4_sendOn_59 : decode cX4_sendOn 59 = .ok (.if_icmp .eq 4, 3) := by decide +kernel
theorem dX4_sendOn_62 : decode cX4_sendOn 62 = .ok (.return_, 1) := by decide +kernel
theorem dX4_sendOn_63 : decode cX4_sendOn 63 = .ok (.aload_n 2, 1) := by decide +kernel
theorem dX4_sendOn_64 : decode cX4_sendOn 64 = .ok (.getfield 180, 3) := by decide +kernel
theorem dX4_sendOn_67 : decode cX4_sendOn 67 = .ok (.bipush 8, 2) := by decide +kernel
theorem dX4_sendOn_69 : decode cX4_sendOn 69 = .ok (.if_icmp .ne 13, 3) := by decide +kernel
theorem dX4_sendOn_72 : decode cX4_sendOn 72 = .ok (.aload_n 0, 1) := by decide +kernel
theorem dX4_sendOn_73 : decode cX4_sendOn 73 = .ok (.iload_n 1, 1) := by decide +kernel
theorem dX4_sendOn_74 : decode cX4_sendOn 74 = .ok (.aload_n 2, 1) := by decide +kernel
theorem dX4_sendOn_75 : decode cX4_sendOn 75 = .ok (.aload_n 3, 1) := by decide +kernel
theorem dX4_sendOn_76 : decode cX4_sendOn 76 = .ok (.invokevirtual 246, 3) := by decide +kernel
theorem dX4_sendOn_79 : decode cX4_sendOn 79 = .ok (.goto 12, 3) := by decide +kernel
theorem dX4_sendOn_82 : decode cX4_sendOn 82 = .ok (.aload_n 0, 1) := by decide +kernel
theorem dX4_sendOn_83 : decode cX4_sendOn 83 = .ok (.aload_n 2, 1) := by decide +kernel
theorem dX4_sendOn_84 : decode cX4_sendOn 84 = .ok (.aload_n 3, 1) := by decide +kernel
theorem dX4_sendOn_85 : decode cX4_sendOn 85 = .ok (.getfield 250, 3) := by decide +kernel
theorem dX4_sendOn_88 : decode cX4_sendOn 88 = .ok (.invokevirtual 227, 3) := by decide +kernel
theorem dX4_sendOn_91 : decode cX4_sendOn 91 = .ok (.return_, 1) := by decide +kernel
set_option maxRecDepth 1000000 in
theorem ggX4_sendReplyOn_X1_followersOf : GoodIn wsX4_sendReplyOn wsX1_followersOf := goodIn_r _ [12, 13, 14, 15, 11, 16, 17, 18, 19, 20, 21, 22, 112, 113, 114, 115, 116, 117, 118] rfl (by decide +kernel)
set_option maxRecDepth 20000 in
theorem gX4_sendReplyOn_X1_followersOf : GoodIn wsX4_sendReplyOn (wsV RX4 102 RX1 yX1_followersOf wsX1_followersOf) := goodIn_app (goodIn_of _ (by decide +kernel)) ggX4_sendReplyOn_X1_followersOf
set_option maxRecDepth 1000000 in
theorem ggX4_sendReplyOn_X4_homesOf : GoodIn wsX4_sendReplyOn wsX4_homesOf := goodIn_r _ [26, 27, 28, 18, 19, 20, 29, 30, 31, 32, 5, 33, 21, 22, 95, 96, 97, 98, 99, 100] rfl (by decide +kernel)
set_option maxRecDepth 20000 in
theorem gX4_sendReplyOn_X4_homesOf : GoodIn wsX4_sendReplyOn (wsV RX4 105 RX4 yX4_homesOf wsX4_homesOf) := goodIn_app (goodIn_of _ (by decide +kernel)) ggX4_sendReplyOn_X4_homesOf
set_option maxRecDepth 1000000 in
theorem ggX4_sendReplyOn_X4_bit : GoodIn wsX4_sendReplyOn wsX4_bit := goodIn_r _ [22] rfl (by decide +kernel)
set_option maxRecDepth 20000 in
theorem gX4_sendReplyOn_X4_bit : GoodIn wsX4_sendReplyOn (va_wsS RX4 253 yX4_bit wsX4_bit) := goodIn_app (goodIn_of _ (by decide +kernel)) ggX4_sendReplyOn_X4_bit
set_option maxRecDepth 1000000 in
theorem ggX4_sendReplyOn_X4_homeOf : GoodIn wsX4_sendReplyOn wsX4_homeOf := goodIn_r _ [32, 5, 33, 21, 19, 22, 95, 96, 97, 98, 99, 100] rfl (by decide +kernel)
set_option maxRecDepth 20000 in
theorem gX4_sendReplyOn_X4_homeOf : GoodIn wsX4_sendReplyOn (wsV RX4 80 RX4 yX4_homeOf wsX4_homeOf) := goodIn_app (goodIn_of _ (by decide +kernel)) ggX4_sendReplyOn_X4_homeOf
set_option maxRecDepth 1000000 in
theorem ggX4_sendReplyOn_X4_send : GoodIn wsX4_sendReplyOn wsX4_send := goodIn_r _ [37, 1, 38, 28, 18, 19, 20, 39, 40, 41, 42, 43, 44, 45, 46, 47, 48, 49, 50, 51, 52, 53, 54, 55, 56, 57, 58, 59, 60, 61, 62, 63, 64, 65, 66, 67, 68, 69, 70, 71, 72, 73, 74, 75, 76, 77, 78, 79, 80, 81, 82, 83, 84, 85, 86, 87, 88, 89, 90, 91, 92, 93, 94, 95, 96, 97, 98, 99, 100, 101, 102, 103, 104, 105, 119, 120, 121] rfl (by decide +kernel)
set_option maxRecDepth 20000 in
theorem gX4_sendReplyOn_X4_send : GoodIn wsX4_sendReplyOn (wsV RX4 227 RX4 yX4_send wsX4_send) := goodIn_app (goodIn_of _ (by decide +kernel)) ggX4_sendReplyOn_X4_send
theorem dX4_sendReplyOn_0 : decode cX4_sendReplyOn 0 = .ok (.aload_n 0, 1) := by decide +kernel
theorem dX4_sendReplyOn_1 : decode cX4_sendReplyOn 1 = .ok (.getfield 10, 3) := by decide +kernel
theorem dX4_sendReplyOn_4 : decode cX4_sendReplyOn 4 = .ok (.iload_n 1, 1) := by decide +kernel
theorem dX4_sendReplyOn_5 : decode cX4_sendReplyOn 5 = .ok (.aaload, 1) := by decide +kernel
theorem dX4_sendReplyOn_6 : decode cX4_sendReplyOn 6 = .ok (.getfield 184, 3) := by decide +kernel
theorem dX4_sendReplyOn_9 : decode cX4_sendReplyOn 9 = .ok (.aload_n 3, 1) := by decide +kernel
theorem dX4_sendReplyOn_10 : decode cX4_sendReplyOn 10 = .ok (.getfield 243, 3) := by decide +kernel
theorem dX4_sendReplyOn_13 : decode cX4_sendReplyOn 13 = .ok (.invokevirtual 102, 3) := by decide +kernel
theorem dX4_sendReplyOn_16 : decode cX4_sendReplyOn 16 = .ok (.istore 4, 2) := by decide +kernel
theorem dX4_sendReplyOn_18 : decode cX4_sendReplyOn 18 = .ok (.aload_n 0, 1) := by decide +kernel
theorem dX4_sendReplyOn_19 : decode cX4_sendReplyOn 19 = .ok (.iload 4, 2) := by decide +kernel
theorem dX4_sendReplyOn_21 : decode cX4_sendReplyOn 21 = .ok (.invokevirtual 105, 3) := by decide +kernel
theorem dX4_sendReplyOn_24 : decode cX4_sendReplyOn 24 = .ok (.iload_n 1, 1) := by decide +kernel
theorem dX4_sendReplyOn_25 : decode cX4_sendReplyOn 25 = .ok (.invokestatic 253, 3) := by decide +kernel
theorem dX4_sendReplyOn_28 : decode cX4_sendReplyOn 28 = .ok (.iconst (-1), 1) := by decide +kernel
theorem dX4_sendReplyOn_29 : decode cX4_sendReplyOn 29 = .ok (.ixor, 1) := by decide +kernel
theorem dX4_sendReplyOn_30 : decode cX4_sendReplyOn 30 = .ok (.iand, 1) := by decide +kernel
theorem dX4_sendReplyOn_31 : decode cX4_sendReplyOn 31 = .ok (.aload_n 0, 1) := by decide +kernel
theorem dX4_sendReplyOn_32 : decode cX4_sendReplyOn 32 = .ok (.aload_n 3, 1) := by decide +kernel
theorem dX4_sendReplyOn_33 : decode cX4_sendReplyOn 33 = .ok (.getfield 142, 3) := by decide +kernel
theorem dX4_sendReplyOn_36 : decode cX4_sendReplyOn 36 = .ok (.invokevirtual 80, 3) := by decide +kernel
theorem dX4_sendReplyOn_39 : decode cX4_sendReplyOn 39 = .ok (.iconst (-1), 1) := by decide +kernel
theorem dX4_sendReplyOn_40 : decode cX4_sendReplyOn 40 = .ok (.ixor, 1) := by decide +kernel
theorem dX4_sendReplyOn_41 : decode cX4_sendReplyOn 41 = .ok (.iand, 1) := by decide +kernel
theorem dX4_sendReplyOn_42 : decode cX4_sendReplyOn 42 = .ok (.istore 5, 2) := by decide +kernel
theorem dX4_sendReplyOn_44 : decode cX4_sendReplyOn 44 = .ok (.aload_n 0, 1) := by decide +kernel
theorem dX4_sendReplyOn_45 : decode cX4_sendReplyOn 45 = .ok (.getfield 16, 3) := by decide +kernel
theorem dX4_sendReplyOn_48 : decode cX4_sendReplyOn 48 = .ok (.aload_n 3, 1) := by decide +kernel
theorem dX4_sendReplyOn_49 : decode cX4_sendReplyOn 49 = .ok (.getfield 142, 3) := by decide +kernel
theorem dX4_sendReplyOn_52 : decode cX4_sendReplyOn 52 = .ok (.iaload, 1) := by decide +kernel
theorem dX4_sendReplyOn_53 : decode cX4_sendReplyOn 53 = .ok (.iload_n 1, 1) := by decide +kernel
theorem dX4_sendReplyOn_54 : decode cX4_sendReplyOn 54 = .ok (.if_icmp .ne 28, 3) := by decide +kernel
theorem dX4_sendReplyOn_57 : decode cX4_sendReplyOn 57 = .ok (.iload 5, 2) := by decide +kernel
theorem dX4_sendReplyOn_59 : decode cX4_sendReplyOn 59 = .ok (.aload_n 3, 1) := by decide +kernel
theorem dX4_sendReplyOn_60 : decode cX4_sendReplyOn 60 = .ok (.getfield 150, 3) := by decide +kernel
theorem dX4_sendReplyOn_63 : decode cX4_sendReplyOn 63 = .ok (.iconst (-1), 1) := by decide +kernel
theorem dX4_sendReplyOn_64 : decode cX4_sendReplyOn 64 = .ok (.ixor, 1) := by decide +kernel
theorem dX4_sendReplyOn_65 : decode cX4_sendReplyOn 65 = .ok (.iand, 1) := by decide +kernel
theorem dX4_sendReplyOn_66 : decode cX4_sendReplyOn 66 = .ok (.istore 5, 2) := by decide +kernel
theorem dX4_sendReplyOn_68 : decode cX4_sendReplyOn 68 = .ok (.aload_n 3, 1) := by decide +kernel
theorem dX4_sendReplyOn_69 : decode cX4_sendReplyOn 69 = .ok (.dup, 1) := by decide +kernel
theorem dX4_sendReplyOn_70 : decode cX4_sendReplyOn 70 = .ok (.getfield 150, 3) := by decide +kernel
theorem dX4_sendReplyOn_73 : decode cX4_sendReplyOn 73 = .ok (.iload 5, 2) := by decide +kernel
theorem dX4_sendReplyOn_75 : decode cX4_sendReplyOn 75 = .ok (.ior, 1) := by decide +kernel
theorem dX4_sendReplyOn_76 : decode cX4_sendReplyOn 76 = .ok (.putfield 150, 3) := by decide +kernel
theorem dX4_sendReplyOn_79 : decode cX4_sendReplyOn 79 = .ok (.goto 9, 3) := by decide +kernel
theorem dX4_sendReplyOn_82 : decode cX4_sendReplyOn 82 = .ok (.aload_n 3, 1) := by decide +kernel
theorem dX4_sendReplyOn_83 : decode cX4_sendReplyOn 83 = .ok (.iload 5, 2) := by decide +kernel
theorem dX4_sendReplyOn_85 : decode cX4_sendReplyOn 85 = .ok (.putfield 250, 3) := by decide +kernel
theorem dX4_sendReplyOn_88 : decode cX4_sendReplyOn 88 = .ok (.aload_n 0, 1) := by decide +kernel
theorem dX4_sendReplyOn_89 : decode cX4_sendReplyOn 89 = .ok (.aload_n 2, 1) := by decide +kernel
theorem dX4_sendReplyOn_90 : decode cX4_sendReplyOn 90 = .ok (.iload 5, 2) := by decide +kernel
theorem dX4_sendReplyOn_92 : decode cX4_sendReplyOn 92 = .ok (.invokevirtual 227, 3) := by decide +kernel
theorem dX4_sendReplyOn_95 : decode cX4_sendReplyOn 95 = .ok (.return_, 1) := by decide +kernel
set_option maxRecDepth 1000000 in
theorem ggX4_send_X4_has : GoodIn wsX4_send wsX4_has := goodIn_r _ [6] rfl (by decide +kernel)
set_option maxRecDepth 20000 in
theorem gX4_send_X4_has : GoodIn wsX4_send (va_wsS RX4 256 yX4_has wsX4_has) := goodIn_app (goodIn_of _ (by decide +kernel)) ggX4_send_X4_has
set_option maxRecDepth 1000000 in
theorem ggX4_send_Jx4a65c_add_9ea2d : GoodIn wsX4_send wsJx4a65c_add_9ea2d := goodIn_r _ [11, 12, 13, 14, 15, 16, 17, 18, 10, 19, 20, 21, 22, 23, 24, 25, 26, 27, 28, 29, 30, 31, 32, 33, 34, 35, 36, 37, 38, 39, 40, 41, 42, 43, 44, 45, 46, 47, 48, 49, 50, 51, 52, 53, 54, 55, 56, 57, 58, 59, 60, 61, 62, 74, 75, 76] rfl (by decide +kernel)
set_option maxRecDepth 20000 in
theorem gX4_send_Jx4a65c_add_9ea2d : GoodIn wsX4_send (wsV RX4 146 RJx4a65c yJx4a65c_add_9ea2d wsJx4a65c_add_9ea2d) := goodIn_app (goodIn_of _ (by decide +kernel)) ggX4_send_Jx4a65c_add_9ea2d
theorem dX4_send_0 : decode cX4_send 0 = .ok (.iconst 0, 1) := by decide +kernel
theorem dX4_send_1 : decode cX4_send 1 = .ok (.istore_n 3, 1) := by decide +kernel
theorem dX4_send_2 : decode cX4_send 2 = .ok (.iload_n 3, 1) := by decide +kernel
theorem dX4_send_3 : decode cX4_send 3 = .ok (.iconst 4, 1) := by decide +kernel
theorem dX4_send_4 : decode cX4_send 4 = .ok (.if_icmp .ge 31, 3) := by decide +kernel
theorem dX4_send_7 : decode cX4_send 7 = .ok (.iload_n 2, 1) := by decide +kernel
theorem dX4_send_8 : decode cX4_send 8 = .ok (.iload_n 3, 1) := by decide +kernel
theorem dX4_send_9 : decode cX4_send 9 = .ok (.invokestatic 256, 3) := by decide +kernel
theorem dX4_send_12 : decode cX4_send 12 = .ok (.ifCond .eq 17, 3) := by decide +kernel
theorem dX4_send_15 : decode cX4_send 15 = .ok (.aload_n 0, 1) := by decide +kernel
theorem dX4_send_16 : decode cX4_send 16 = .ok (.getfield 10, 3) := by decide +kernel
theorem dX4_send_19 : decode cX4_send 19 = .ok (.iload_n 3, 1) := by decide +kernel
theorem dX4_send_20 : decode cX4_send 20 = .ok (.aaload, 1) := by decide +kernel
theorem dX4_send_21 : decode cX4_send 21 = .ok (.getfield 170, 3) := by decide +kernel
theorem dX4_send_24 : decode cX4_send 24 = .ok (.aload_n 1, 1) := by decide +kernel
theorem dX4_send_25 : decode cX4_send 25 = .ok (.invokevirtual 146, 3) := by decide +kernel
theorem dX4_send_28 : decode cX4_send 28 = .ok (.pop, 1) := by decide +kernel
theorem dX4_send_29 : decode cX4_send 29 = .ok (.iinc 3 1, 3) := by decide +kernel
theorem dX4_send_32 : decode cX4_send 32 = .ok (.goto (-30), 3) := by decide +kernel
theorem dX4_send_35 : decode cX4_send 35 = .ok (.return_, 1) := by decide +kernel
theorem dX4_atHomeOf_0 : decode cX4_atHomeOf 0 = .ok (.aload_n 0, 1) := by decide +kernel
theorem dX4_atHomeOf_1 : decode cX4_atHomeOf 1 = .ok (.getfield 10, 3) := by decide +kernel
theorem dX4_atHomeOf_4 : decode cX4_atHomeOf 4 = .ok (.aload_n 0, 1) := by decide +kernel
theorem dX4_atHomeOf_5 : decode cX4_atHomeOf 5 = .ok (.getfield 16, 3) := by decide +kernel
theorem dX4_atHomeOf_8 : decode cX4_atHomeOf 8 = .ok (.iload_n 1, 1) := by decide +kernel
theorem dX4_atHomeOf_9 : decode cX4_atHomeOf 9 = .ok (.iaload, 1) := by decide +kernel
theorem dX4_atHomeOf_10 : decode cX4_atHomeOf 10 = .ok (.aaload, 1) := by decide +kernel
theorem dX4_atHomeOf_11 : decode cX4_atHomeOf 11 = .ok (.getfield 184, 3) := by decide +kernel
theorem dX4_atHomeOf_14 : decode cX4_atHomeOf 14 = .ok (.areturn, 1) := by decide +kernel
set_option maxRecDepth 1000000 in
theorem ggX4_homeOf_X4_bit : GoodIn wsX4_homeOf wsX4_bit := goodIn_r _ [5] rfl (by decide +kernel)
set_option maxRecDepth 20000 in
theorem gX4_homeOf_X4_bit : GoodIn wsX4_homeOf (va_wsS RX4 253 yX4_bit wsX4_bit) := goodIn_app (goodIn_of _ (by decide +kernel)) ggX4_homeOf_X4_bit
theorem dX4_homeOf_0 : decode cX4_homeOf 0 = .ok (.aload_n 0, 1) := by decide +kernel
theorem dX4_homeOf_1 : decode cX4_homeOf 1 = .ok (.getfield 16, 3) := by decide +kernel
theorem dX4_homeOf_4 : decode cX4_homeOf 4 = .ok (.iload_n 1, 1) := by decide +kernel
theorem dX4_homeOf_5 : decode cX4_homeOf 5 = .ok (.iaload, 1) := by decide +kernel
theorem dX4_homeOf_6 : decode cX4_homeOf 6 = .ok (.invokestatic 253, 3) := by decide +kernel
theorem dX4_homeOf_9 : decode cX4_homeOf 9 = .ok (.ireturn, 1) := by decide +kernel
set_option maxRecDepth 1000000 in
theorem ggX4_homesOf_X4_has : GoodIn wsX4_homesOf wsX4_has := goodIn_r _ [5] rfl (by decide +kernel)
set_option maxRecDepth 20000 in
theorem gX4_homesOf_X4_has : GoodIn wsX4_homesOf (va_wsS RX4 256 yX4_has wsX4_has) := goodIn_app (goodIn_of _ (by decide +kernel)) ggX4_homesOf_X4_has
set_option maxRecDepth 1000000 in
theorem ggX4_homesOf_X4_homeOf : GoodIn wsX4_homesOf wsX4_homeOf := goodIn_r _ [9, 10, 11, 12, 4, 13, 14, 15, 16, 17, 18, 19] rfl (by decide +kernel)
set_option maxRecDepth 20000 in
theorem gX4_homesOf_X4_homeOf : GoodIn wsX4_homesOf (wsV RX4 80 RX4 yX4_homeOf wsX4_homeOf) := goodIn_app (goodIn_of _ (by decide +kernel)) ggX4_homesOf_X4_homeOf
theorem dX4_homesOf_0 : decode cX4_homesOf 0 = .ok (.iconst 0, 1) := by decide +kernel
theorem dX4_homesOf_1 : decode cX4_homesOf 1 = .ok (.istore_n 2, 1) := by decide +kernel
theorem dX4_homesOf_2 : decode cX4_homesOf 2 = .ok (.iconst 0, 1) := by decide +kernel
theorem dX4_homesOf_3 : decode cX4_homesOf 3 = .ok (.istore_n 3, 1) := by decide +kernel
theorem dX4_homesOf_4 : decode cX4_homesOf 4 = .ok (.iload_n 3, 1) := by decide +kernel
theorem dX4_homesOf_5 : decode cX4_homesOf 5 = .ok (.aload_n 0, 1) := by decide +kernel
theorem dX4_homesOf_6 : decode cX4_homesOf 6 = .ok (.getfield 34, 3) := by decide +kernel
theorem dX4_homesOf_9 : decode cX4_homesOf 9 = .ok (.if_icmp .ge 25, 3) := by decide +kernel
theorem dX4_homesOf_12 : decode cX4_homesOf 12 = .ok (.iload_n 1, 1) := by decide +kernel
theorem dX4_homesOf_13 : decode cX4_homesOf 13 = .ok (.iload_n 3, 1) := by decide +kernel
theorem dX4_homesOf_14 : decode cX4_homesOf 14 = .ok (.invokestatic 256, 3) := by decide +kernel
theorem dX4_homesOf_17 : decode cX4_homesOf 17 = .ok (.ifCond .eq 11, 3) := by decide +kernel
theorem dX4_homesOf_20 : decode cX4_homesOf 20 = .ok (.iload_n 2, 1) := by decide +kernel
theorem dX4_homesOf_21 : decode cX4_homesOf 21 = .ok (.aload_n 0, 1) := by decide +kernel
theorem dX4_homesOf_22 : decode cX4_homesOf 22 = .ok (.iload_n 3, 1) := by decide +kernel
theorem dX4_homesOf_23 : decode cX4_homesOf 23 = .ok (.invokevirtual 80, 3) := by decide +kernel
theorem dX4_homesOf_26 : decode cX4_homesOf 26 = .ok (.ior, 1) := by decide +kernel
theorem dX4_homesOf_27 : decode cX4_homesOf 27 = .ok (.istore_n 2, 1) := by decide +kernel
theorem dX4_homesOf_28 : decode cX4_homesOf 28 = .ok (.iinc 3 1, 3) := by decide +kernel
theorem dX4_homesOf_31 : decode cX4_homesOf 31 = .ok (.goto (-27), 3) := by decide +kernel
theorem dX4_homesOf_34 : decode cX4_homesOf 34 = .ok (.iload_n 2, 1) := by decide +kernel
theorem dX4_homesOf_35 : decode cX4_homesOf 35 = .ok (.ireturn, 1) := by decide +kernel
theorem dX4_bit_0 : decode cX4_bit 0 = .ok (.iconst 1, 1) := by decide +kernel
theorem dX4_bit_1 : decode cX4_bit 1 = .ok (.iload_n 0, 1) := by decide +kernel
theorem dX4_bit_2 : decode cX4_bit 2 = .ok (.ishl, 1) := by decide +kernel
theorem dX4_bit_3 : decode cX4_bit 3 = .ok (.ireturn, 1) := by decide +kernel
theorem dX4_has_0 : decode cX4_has 0 = .ok (.iload_n 0, 1) := by decide +kernel
theorem dX4_has_1 : decode cX4_has 1 = .ok (.iload_n 1, 1) := by decide +kernel
theorem dX4_has_2 : decode cX4_has 2 = .ok (.ishr, 1) := by decide +kernel
theorem dX4_has_3 : decode cX4_has 3 = .ok (.iconst 1, 1) := by decide +kernel
theorem dX4_has_4 : decode cX4_has 4 = .ok (.iand, 1) := by decide +kernel
theorem dX4_has_5 : decode cX4_has 5 = .ok (.ifCond .eq 7, 3) := by decide +kernel
theorem dX4_has_8 : decode cX4_has 8 = .ok (.iconst 1, 1) := by decide +kernel
theorem dX4_has_9 : decode cX4_has 9 = .ok (.goto 4, 3) := by decide +kernel
theorem dX4_has_12 : decode cX4_has 12 = .ok (.iconst 0, 1) := by decide +kernel
theorem dX4_has_13 : decode cX4_has 13 = .ok (.ireturn, 1) := by decide +kernel
theorem dX4_hasPost_0 : decode cX4_hasPost 0 = .ok (.lload_n 0, 1) := by decide +kernel
theorem dX4_hasPost_1 : decode cX4_hasPost 1 = .ok (.iload_n 2, 1) := by decide +kernel
theorem dX4_hasPost_2 : decode cX4_hasPost 2 = .ok (.lshr, 1) := by decide +kernel
theorem dX4_hasPost_3 : decode cX4_hasPost 3 = .ok (.lconst 1, 1) := by decide +kernel
theorem dX4_hasPost_4 : decode cX4_hasPost 4 = .ok (.land, 1) := by decide +kernel
theorem dX4_hasPost_5 : decode cX4_hasPost 5 = .ok (.lconst 0, 1) := by decide +kernel
theorem dX4_hasPost_6 : decode cX4_hasPost 6 = .ok (.lcmp, 1) := by decide +kernel
theorem dX4_hasPost_7 : decode cX4_hasPost 7 = .ok (.ifCond .eq 7, 3) := by decide +kernel
theorem dX4_hasPost_10 : decode cX4_hasPost 10 = .ok (.iconst 1, 1) := by decide +kernel
theorem dX4_hasPost_11 : decode cX4_hasPost 11 = .ok (.goto 4, 3) := by decide +kernel
theorem dX4_hasPost_14 : decode cX4_hasPost 14 = .ok (.iconst 0, 1) := by decide +kernel
theorem dX4_hasPost_15 : decode cX4_hasPost 15 = .ok (.ireturn, 1) := by decide +kernel
theorem dJ6_bitCount_0f7a4_0 : decode cJ6_bitCount_0f7a4 0 = .ok (.iload_n 0, 1) := by decide +kernel
theorem dJ6_bitCount_0f7a4_1 : decode cJ6_bitCount_0f7a4 1 = .ok (.iload_n 0, 1) := by decide +kernel
theorem dJ6_bitCount_0f7a4_2 : decode cJ6_bitCount_0f7a4 2 = .ok (.iconst 1, 1) := by decide +kernel
theorem dJ6_bitCount_0f7a4_3 : decode cJ6_bitCount_0f7a4 3 = .ok (.iushr, 1) := by decide +kernel
theorem dJ6_bitCount_0f7a4_4 : decode cJ6_bitCount_0f7a4 4 = .ok (.ldc_w 265, 3) := by decide +kernel
theorem dJ6_bitCount_0f7a4_7 : decode cJ6_bitCount_0f7a4 7 = .ok (.iand, 1) := by decide +kernel
theorem dJ6_bitCount_0f7a4_8 : decode cJ6_bitCount_0f7a4 8 = .ok (.isub, 1) := by decide +kernel
theorem dJ6_bitCount_0f7a4_9 : decode cJ6_bitCount_0f7a4 9 = .ok (.istore_n 0, 1) := by decide +kernel
theorem dJ6_bitCount_0f7a4_10 : decode cJ6_bitCount_0f7a4 10 = .ok (.iload_n 0, 1) := by decide +kernel
theorem dJ6_bitCount_0f7a4_11 : decode cJ6_bitCount_0f7a4 11 = .ok (.ldc_w 266, 3) := by decide +kernel
theorem dJ6_bitCount_0f7a4_14 : decode cJ6_bitCount_0f7a4 14 = .ok (.iand, 1) := by decide +kernel
theorem dJ6_bitCount_0f7a4_15 : decode cJ6_bitCount_0f7a4 15 = .ok (.iload_n 0, 1) := by decide +kernel
theorem dJ6_bitCount_0f7a4_16 : decode cJ6_bitCount_0f7a4 16 = .ok (.iconst 2, 1) := by decide +kernel
theorem dJ6_bitCount_0f7a4_17 : decode cJ6_bitCount_0f7a4 17 = .ok (.iushr, 1) := by decide +kernel
theorem dJ6_bitCount_0f7a4_18 : decode cJ6_bitCount_0f7a4 18 = .ok (.ldc_w 266, 3) := by decide +kernel
theorem dJ6_bitCount_0f7a4_21 : decode cJ6_bitCount_0f7a4 21 = .ok (.iand, 1) := by decide +kernel
theorem dJ6_bitCount_0f7a4_22 : decode cJ6_bitCount_0f7a4 22 = .ok (.iadd, 1) := by decide +kernel
theorem dJ6_bitCount_0f7a4_23 : decode cJ6_bitCount_0f7a4 23 = .ok (.istore_n 0, 1) := by decide +kernel
theorem dJ6_bitCount_0f7a4_24 : decode cJ6_bitCount_0f7a4 24 = .ok (.iload_n 0, 1) := by decide +kernel
theorem dJ6_bitCount_0f7a4_25 : decode cJ6_bitCount_0f7a4 25 = .ok (.iload_n 0, 1) := by decide +kernel
theorem dJ6_bitCount_0f7a4_26 : decode cJ6_bitCount_0f7a4 26 = .ok (.iconst 4, 1) := by decide +kernel
theorem dJ6_bitCount_0f7a4_27 : decode cJ6_bitCount_0f7a4 27 = .ok (.iushr, 1) := by decide +kernel
theorem dJ6_bitCount_0f7a4_28 : decode cJ6_bitCount_0f7a4 28 = .ok (.iadd, 1) := by decide +kernel
theorem dJ6_bitCount_0f7a4_29 : decode cJ6_bitCount_0f7a4 29 = .ok (.ldc_w 267, 3) := by decide +kernel
theorem dJ6_bitCount_0f7a4_32 : decode cJ6_bitCount_0f7a4 32 = .ok (.iand, 1) := by decide +kernel
theorem dJ6_bitCount_0f7a4_33 : decode cJ6_bitCount_0f7a4 33 = .ok (.istore_n 0, 1) := by decide +kernel
theorem dJ6_bitCount_0f7a4_34 : decode cJ6_bitCount_0f7a4 34 = .ok (.iload_n 0, 1) := by decide +kernel
theorem dJ6_bitCount_0f7a4_35 : decode cJ6_bitCount_0f7a4 35 = .ok (.iload_n 0, 1) := by decide +kernel
theorem dJ6_bitCount_0f7a4_36 : decode cJ6_bitCount_0f7a4 36 = .ok (.bipush 8, 2) := by decide +kernel
theorem dJ6_bitCount_0f7a4_38 : decode cJ6_bitCount_0f7a4 38 = .ok (.iushr, 1) := by decide +kernel
theorem dJ6_bitCount_0f7a4_39 : decode cJ6_bitCount_0f7a4 39 = .ok (.iadd, 1) := by decide +kernel
theorem dJ6_bitCount_0f7a4_40 : decode cJ6_bitCount_0f7a4 40 = .ok (.istore_n 0, 1) := by decide +kernel
theorem dJ6_bitCount_0f7a4_41 : decode cJ6_bitCount_0f7a4 41 = .ok (.iload_n 0, 1) := by decide +kernel
theorem dJ6_bitCount_0f7a4_42 : decode cJ6_bitCount_0f7a4 42 = .ok (.iload_n 0, 1) := by decide +kernel
theorem dJ6_bitCount_0f7a4_43 : decode cJ6_bitCount_0f7a4 43 = .ok (.bipush 16, 2) := by decide +kernel
theorem dJ6_bitCount_0f7a4_45 : decode cJ6_bitCount_0f7a4 45 = .ok (.iushr, 1) := by decide +kernel
theorem dJ6_bitCount_0f7a4_46 : decode cJ6_bitCount_0f7a4 46 = .ok (.iadd, 1) := by decide +kernel
theorem dJ6_bitCount_0f7a4_47 : decode cJ6_bitCount_0f7a4 47 = .ok (.istore_n 0, 1) := by decide +kernel
theorem dJ6_bitCount_0f7a4_48 : decode cJ6_bitCount_0f7a4 48 = .ok (.iload_n 0, 1) := by decide +kernel
theorem dJ6_bitCount_0f7a4_49 : decode cJ6_bitCount_0f7a4 49 = .ok (.bipush 63, 2) := by decide +kernel
theorem dJ6_bitCount_0f7a4_51 : decode cJ6_bitCount_0f7a4 51 = .ok (.iand, 1) := by decide +kernel
theorem dJ6_bitCount_0f7a4_52 : decode cJ6_bitCount_0f7a4 52 = .ok (.ireturn, 1) := by decide +kernel
theorem dJ13_bitCount_95d88_0 : decode cJ13_bitCount_95d88 0 = .ok (.lload_n 0, 1) := by decide +kernel
theorem dJ13_bitCount_95d88_1 : decode cJ13_bitCount_95d88 1 = .ok (.lload_n 0, 1) := by decide +kernel
theorem dJ13_bitCount_95d88_2 : decode cJ13_bitCount_95d88 2 = .ok (.iconst 1, 1) := by decide +kernel
theorem dJ13_bitCount_95d88_3 : decode cJ13_bitCount_95d88 3 = .ok (.lushr, 1) := by decide +kernel
theorem dJ13_bitCount_95d88_4 : decode cJ13_bitCount_95d88 4 = .ok (.ldc2_w 314, 3) := by decide +kernel
theorem dJ13_bitCount_95d88_7 : decode cJ13_bitCount_95d88 7 = .ok (.land, 1) := by decide +kernel
theorem dJ13_bitCount_95d88_8 : decode cJ13_bitCount_95d88 8 = .ok (.lsub, 1) := by decide +kernel
theorem dJ13_bitCount_95d88_9 : decode cJ13_bitCount_95d88 9 = .ok (.lstore_n 0, 1) := by decide +kernel
theorem dJ13_bitCount_95d88_10 : decode cJ13_bitCount_95d88 10 = .ok (.lload_n 0, 1) := by decide +kernel
theorem dJ13_bitCount_95d88_11 : decode cJ13_bitCount_95d88 11 = .ok (.ldc2_w 316, 3) := by decide +kernel
theorem dJ13_bitCount_95d88_14 : decode cJ13_bitCount_95d88 14 = .ok (.land, 1) := by decide +kernel
theorem dJ13_bitCount_95d88_15 : decode cJ13_bitCount_95d88 15 = .ok (.lload_n 0, 1) := by decide +kernel
theorem dJ13_bitCount_95d88_16 : decode cJ13_bitCount_95d88 16 = .ok (.iconst 2, 1) := by decide +kernel
theorem dJ13_bitCount_95d88_17 : decode cJ13_bitCount_95d88 17 = .ok (.lushr, 1) := by decide +kernel
theorem dJ13_bitCount_95d88_18 : decode cJ13_bitCount_95d88 18 = .ok (.ldc2_w 316, 3) := by decide +kernel
theorem dJ13_bitCount_95d88_21 : decode cJ13_bitCount_95d88 21 = .ok (.land, 1) := by decide +kernel
theorem dJ13_bitCount_95d88_22 : decode cJ13_bitCount_95d88 22 = .ok (.ladd, 1) := by decide +kernel
theorem dJ13_bitCount_95d88_23 : decode cJ13_bitCount_95d88 23 = .ok (.lstore_n 0, 1) := by decide +kernel
theorem dJ13_bitCount_95d88_24 : decode cJ13_bitCount_95d88 24 = .ok (.lload_n 0, 1) := by decide +kernel
theorem dJ13_bitCount_95d88_25 : decode cJ13_bitCount_95d88 25 = .ok (.lload_n 0, 1) := by decide +kernel
theorem dJ13_bitCount_95d88_26 : decode cJ13_bitCount_95d88 26 = .ok (.iconst 4, 1) := by decide +kernel
theorem dJ13_bitCount_95d88_27 : decode cJ13_bitCount_95d88 27 = .ok (.lushr, 1) := by decide +kernel
theorem dJ13_bitCount_95d88_28 : decode cJ13_bitCount_95d88 28 = .ok (.ladd, 1) := by decide +kernel
theorem dJ13_bitCount_95d88_29 : decode cJ13_bitCount_95d88 29 = .ok (.ldc2_w 318, 3) := by decide +kernel
theorem dJ13_bitCount_95d88_32 : decode cJ13_bitCount_95d88 32 = .ok (.land, 1) := by decide +kernel
theorem dJ13_bitCount_95d88_33 : decode cJ13_bitCount_95d88 33 = .ok (.lstore_n 0, 1) := by decide +kernel
theorem dJ13_bitCount_95d88_34 : decode cJ13_bitCount_95d88 34 = .ok (.lload_n 0, 1) := by decide +kernel
theorem dJ13_bitCount_95d88_35 : decode cJ13_bitCount_95d88 35 = .ok (.lload_n 0, 1) := by decide +kernel
theorem dJ13_bitCount_95d88_36 : decode cJ13_bitCount_95d88 36 = .ok (.bipush 8, 2) := by decide +kernel
theorem dJ13_bitCount_95d88_38 : decode cJ13_bitCount_95d88 38 = .ok (.lushr, 1) := by decide +kernel
theorem dJ13_bitCount_95d88_39 : decode cJ13_bitCount_95d88 39 = .ok (.ladd, 1) := by decide +kernel
theorem dJ13_bitCount_95d88_40 : decode cJ13_bitCount_95d88 40 = .ok (.lstore_n 0, 1) := by decide +kernel
theorem dJ13_bitCount_95d88_41 : decode cJ13_bitCount_95d88 41 = .ok (.lload_n 0, 1) := by decide +kernel
theorem dJ13_bitCount_95d88_42 : decode cJ13_bitCount_95d88 42 = .ok (.lload_n 0, 1) := by decide +kernel
theorem dJ13_bitCount_95d88_43 : decode cJ13_bitCount_95d88 43 = .ok (.bipush 16, 2) := by decide +kernel
theorem dJ13_bitCount_95d88_45 : decode cJ13_bitCount_95d88 45 = .ok (.lushr, 1) := by decide +kernel
theorem dJ13_bitCount_95d88_46 : decode cJ13_bitCount_95d88 46 = .ok (.ladd, 1) := by decide +kernel
theorem dJ13_bitCount_95d88_47 : decode cJ13_bitCount_95d88 47 = .ok (.lstore_n 0, 1) := by decide +kernel
theorem dJ13_bitCount_95d88_48 : decode cJ13_bitCount_95d88 48 = .ok (.lload_n 0, 1) := by decide +kernel
theorem dJ13_bitCount_95d88_49 : decode cJ13_bitCount_95d88 49 = .ok (.lload_n 0, 1) := by decide +kernel
theorem dJ13_bitCount_95d88_50 : decode cJ13_bitCount_95d88 50 = .ok (.bipush 32, 2) := by decide +kernel
theorem dJ13_bitCount_95d88_52 : decode cJ13_bitCount_95d88 52 = .ok (.lushr, 1) := by decide +kernel
theorem dJ13_bitCount_95d88_53 : decode cJ13_bitCount_95d88 53 = .ok (.ladd, 1) := by decide +kernel
theorem dJ13_bitCount_95d88_54 : decode cJ13_bitCount_95d88 54 = .ok (.lstore_n 0, 1) := by decide +kernel
theorem dJ13_bitCount_95d88_55 : decode cJ13_bitCount_95d88 55 = .ok (.lload_n 0, 1) := by decide +kernel
theorem dJ13_bitCount_95d88_56 : decode cJ13_bitCount_95d88 56 = .ok (.l2i, 1) := by decide +kernel
theorem dJ13_bitCount_95d88_57 : decode cJ13_bitCount_95d88 57 = .ok (.bipush 127, 2) := by decide +kernel
theorem dJ13_bitCount_95d88_59 : decode cJ13_bitCount_95d88 59 = .ok (.iand, 1) := by decide +kernel
theorem dJ13_bitCount_95d88_60 : decode cJ13_bitCount_95d88 60 = .ok (.ireturn, 1) := by decide +kernel
theorem dJ9_max_7cf53_0 : decode cJ9_max_7cf53 0 = .ok (.iload_n 0, 1) := by decide +kernel
theorem dJ9_max_7cf53_1 : decode cJ9_max_7cf53 1 = .ok (.iload_n 1, 1) := by decide +kernel
theorem dJ9_max_7cf53_2 : decode cJ9_max_7cf53 2 = .ok (.if_icmp .lt 7, 3) := by decide +kernel
theorem dJ9_max_7cf53_5 : decode cJ9_max_7cf53 5 = .ok (.iload_n 0, 1) := by decide +kernel
theorem dJ9_max_7cf53_6 : decode cJ9_max_7cf53 6 = .ok (.goto 4, 3) := by decide +kernel
theorem dJ9_max_7cf53_9 : decode cJ9_max_7cf53 9 = .ok (.iload_n 1, 1) := by decide +kernel
theorem dJ9_max_7cf53_10 : decode cJ9_max_7cf53 10 = .ok (.ireturn, 1) := by decide +kernel
theorem dJ9_min_7cf53_0 : decode cJ9_min_7cf53 0 = .ok (.iload_n 0, 1) := by decide +kernel
theorem dJ9_min_7cf53_1 : decode cJ9_min_7cf53 1 = .ok (.iload_n 1, 1) := by decide +kernel
theorem dJ9_min_7cf53_2 : decode cJ9_min_7cf53 2 = .ok (.if_icmp .gt 7, 3) := by decide +kernel
theorem dJ9_min_7cf53_5 : decode cJ9_min_7cf53 5 = .ok (.iload_n 0, 1) := by decide +kernel
theorem dJ9_min_7cf53_6 : decode cJ9_min_7cf53 6 = .ok (.goto 4, 3) := by decide +kernel
theorem dJ9_min_7cf53_9 : decode cJ9_min_7cf53 9 = .ok (.iload_n 1, 1) := by decide +kernel
theorem dJ9_min_7cf53_10 : decode cJ9_min_7cf53 10 = .ok (.ireturn, 1) := by decide +kernel
theorem dJxa1e45_init_da8c8_0 : decode cJxa1e45_init_da8c8 0 = .ok (.aload_n 0, 1) := by decide +kernel
theorem dJxa1e45_init_da8c8_1 : decode cJxa1e45_init_da8c8 1 = .ok (.invokespecial 1, 3) := by decide +kernel
theorem dJxa1e45_init_da8c8_4 : decode cJxa1e45_init_da8c8 4 = .ok (.return_, 1) := by decide +kernel
set_option maxRecDepth 1000000 in
theorem ggJxc12de_init_da8c8_Jxa1e45_init_da8c8 : GoodIn wsJxc12de_init_da8c8 wsJxa1e45_init_da8c8 := goodIn_r _ [5, 6, 7, 8] rfl (by decide +kernel)
set_option maxRecDepth 20000 in
theorem gJxc12de_init_da8c8_Jxa1e45_init_da8c8 : GoodIn wsJxc12de_init_da8c8 (wsJxa1e45_init_da8c8) := ggJxc12de_init_da8c8_Jxa1e45_init_da8c8
theorem dJxc12de_init_da8c8_0 : decode cJxc12de_init_da8c8 0 = .ok (.aload_n 0, 1) := by decide +kernel
theorem dJxc12de_init_da8c8_1 : decode cJxc12de_init_da8c8 1 = .ok (.invokespecial 1, 3) := by decide +kernel
theorem dJxc12de_init_da8c8_4 : decode cJxc12de_init_da8c8 4 = .ok (.aload_n 0, 1) := by decide +kernel
theorem dJxc12de_init_da8c8_5 : decode cJxc12de_init_da8c8 5 = .ok (.iconst 0, 1) := by decide +kernel
theorem dJxc12de_init_da8c8_6 : decode cJxc12de_init_da8c8 6 = .ok (.putfield 7, 3) := by decide +kernel
theorem dJxc12de_init_da8c8_9 : decode cJxc12de_init_da8c8 9 = .ok (.return_, 1) := by decide +kernel
set_option maxRecDepth 1000000 in
theorem ggJx4a65c_init_da8c8_Jxc12de_init_da8c8 : GoodIn wsJx4a65c_init_da8c8 wsJxc12de_init_da8c8 := goodIn_r _ [6, 7, 8, 9, 10, 11, 12, 13, 14, 15, 16, 17] rfl (by decide +kernel)
set_option maxRecDepth 20000 in
theorem gJx4a65c_init_da8c8_Jxc12de_init_da8c8 : GoodIn wsJx4a65c_init_da8c8 (wsJxc12de_init_da8c8) := ggJx4a65c_init_da8c8_Jxc12de_init_da8c8
theorem dJx4a65c_init_da8c8_0 : decode cJx4a65c_init_da8c8 0 = .ok (.aload_n 0, 1) := by decide +kernel
theorem dJx4a65c_init_da8c8_1 : decode cJx4a65c_init_da8c8 1 = .ok (.invokespecial 1, 3) := by decide +kernel
theorem dJx4a65c_init_da8c8_4 : decode cJx4a65c_init_da8c8 4 = .ok (.aload_n 0, 1) := by decide +kernel
theorem dJx4a65c_init_da8c8_5 : decode cJx4a65c_init_da8c8 5 = .ok (.getstatic 39, 3) := by decide +kernel
theorem dJx4a65c_init_da8c8_8 : decode cJx4a65c_init_da8c8 8 = .ok (.putfield 9, 3) := by decide +kernel
theorem dJx4a65c_init_da8c8_11 : decode cJx4a65c_init_da8c8 11 = .ok (.return_, 1) := by decide +kernel
set_option maxRecDepth 1000000 in
theorem ggJx4a65c_grow_92f84_J8_newLength_cabcc : GoodIn wsJx4a65c_grow_92f84 wsJ8_newLength_cabcc := goodIn_r _ [11, 12, 4, 5, 6, 13, 14, 15, 10, 16] rfl (by decide +kernel)
set_option maxRecDepth 20000 in
theorem gJx4a65c_grow_92f84_J8_newLength_cabcc : GoodIn wsJx4a65c_grow_92f84 (va_wsS RJx4a65c 73 yJ8_newLength_cabcc wsJ8_newLength_cabcc) := goodIn_app (goodIn_of _ (by decide +kernel)) ggJx4a65c_grow_92f84_J8_newLength_cabcc
set_option maxRecDepth 1000000 in
theorem ggJx4a65c_grow_92f84_J7_copyOf_1904c : GoodIn wsJx4a65c_grow_92f84 wsJ7_copyOf_1904c := goodIn_r _ [20, 21, 22, 23, 24, 25, 26, 19, 27, 28, 29, 30, 31, 5, 32, 33, 34, 35, 36] rfl (by decide +kernel)
set_option maxRecDepth 20000 in
theorem gJx4a65c_grow_92f84_J7_copyOf_1904c : GoodIn wsJx4a65c_grow_92f84 (va_wsS RJx4a65c 66 yJ7_copyOf_1904c wsJ7_copyOf_1904c) := goodIn_app (goodIn_of _ (by decide +kernel)) ggJx4a65c_grow_92f84_J7_copyOf_1904c
theorem dJx4a65c_grow_92f84_0 : decode cJx4a65c_grow_92f84 0 = .ok (.aload_n 0, 1) := by decide +kernel
theorem dJx4a65c_grow_92f84_1 : decode cJx4a65c_grow_92f84 1 = .ok (.getfield 9, 3) := by decide +kernel
theorem dJx4a65c_grow_92f84_4 : decode cJx4a65c_grow_92f84 4 = .ok (.arraylength, 1) := by decide +kernel
theorem dJx4a65c_grow_92f84_5 : decode cJx4a65c_grow_92f84 5 = .ok (.istore_n 2, 1) := by decide +kernel
theorem dJx4a65c_grow_92f84_6 : decode cJx4a65c_grow_92f84 6 = .ok (.iload_n 2, 1) := by decide +kernel
theorem dJx4a65c_grow_92f84_7 : decode cJx4a65c_grow_92f84 7 = .ok (.ifCond .gt 13, 3) := by decide +kernel
theorem dJx4a65c_grow_92f84_10 : decode cJx4a65c_grow_92f84 10 = .ok (.aload_n 0, 1) := by decide +kernel
theorem dJx4a65c_grow_92f84_11 : decode cJx4a65c_grow_92f84 11 = .ok (.getfield 9, 3) := by decide +kernel
theorem dJx4a65c_grow_92f84_14 : decode cJx4a65c_grow_92f84 14 = .ok (.getstatic 39, 3) := by decide +kernel
theorem dJx4a65c_grow_92f84_17 : decode cJx4a65c_grow_92f84 17 = .ok (.if_acmp .eq 28, 3) := by decide +kernel
theorem dJx4a65c_grow_92f84_20 : decode cJx4a65c_grow_92f84 20 = .ok (.iload_n 2, 1) := by decide +kernel
theorem dJx4a65c_grow_92f84_21 : decode cJx4a65c_grow_92f84 21 = .ok (.iload_n 1, 1) := by decide +kernel
theorem dJx4a65c_grow_92f84_22 : decode cJx4a65c_grow_92f84 22 = .ok (.iload_n 2, 1) := by decide +kernel
theorem dJx4a65c_grow_92f84_23 : decode cJx4a65c_grow_92f84 23 = .ok (.isub, 1) := by decide +kernel
theorem dJx4a65c_grow_92f84_24 : decode cJx4a65c_grow_92f84 24 = .ok (.iload_n 2, 1) := by decide +kernel
theorem dJx4a65c_grow_92f84_25 : decode cJx4a65c_grow_92f84 25 = .ok (.iconst 1, 1) := by decide +kernel
theorem dJx4a65c_grow_92f84_26 : decode cJx4a65c_grow_92f84 26 = .ok (.ishr, 1) := by decide +kernel
theorem dJx4a65c_grow_92f84_27 : decode cJx4a65c_grow_92f84 27 = .ok (.invokestatic 73, 3) := by decide +kernel
theorem dJx4a65c_grow_92f84_30 : decode cJx4a65c_grow_92f84 30 = .ok (.istore_n 3, 1) := by decide +kernel
theorem dJx4a65c_grow_92f84_31 : decode cJx4a65c_grow_92f84 31 = .ok (.aload_n 0, 1) := by decide +kernel
theorem dJx4a65c_grow_92f84_32 : decode cJx4a65c_grow_92f84 32 = .ok (.aload_n 0, 1) := by decide +kernel
theorem dJx4a65c_grow_92f84_33 : decode cJx4a65c_grow_92f84 33 = .ok (.getfield 9, 3) := by decide +kernel
theorem dJx4a65c_grow_92f84_36 : decode cJx4a65c_grow_92f84 36 = .ok (.iload_n 3, 1) := by decide +kernel
theorem dJx4a65c_grow_92f84_37 : decode cJx4a65c_grow_92f84 37 = .ok (.invokestatic 66, 3) := by decide +kernel
theorem dJx4a65c_grow_92f84_40 : decode cJx4a65c_grow_92f84 40 = .ok (.dup_x1, 1) := by decide +kernel
theorem dJx4a65c_grow_92f84_41 : decode cJx4a65c_grow_92f84 41 = .ok (.putfield 9, 3) := by decide +kernel
theorem dJx4a65c_grow_92f84_44 : decode cJx4a65c_grow_92f84 44 = .ok (.areturn, 1) := by decide +kernel
theorem dJx4a65c_grow_92f84_45 : decode cJx4a65c_grow_92f84 45 = .ok (.aload_n 0, 1) := by decide +kernel
theorem dJx4a65c_grow_92f84_46 : decode cJx4a65c_grow_92f84 46 = .ok (.bipush 10, 2) := by decide +kernel
theorem dJx4a65c_grow_92f84_48 : decode cJx4a65c_grow_92f84 48 = .ok (.iload_n 1, 1) := by decide +kernel
theorem dJx4a65c_grow_92f84_49 : decode cJx4a65c_grow_92f84 49 = .ok (.invokestatic 79, 3) := by decide +kernel
theorem dJx4a65c_grow_92f84_52 : decode cJx4a65c_grow_92f84 52 = .ok (.anewarray 7, 3) := by decide +kernel
theorem dJx4a65c_grow_92f84_55 : decode cJx4a65c_grow_92f84 55 = .ok (.dup_x1, 1) := by decide +kernel
theorem dJx4a65c_grow_92f84_56 : decode cJx4a65c_grow_92f84 56 = .ok (.putfield 9, 3) := by decide +kernel
theorem dJx4a65c_grow_92f84_59 : decode cJx4a65c_grow_92f84 59 = .ok (.areturn, 1) := by decide +kernel
set_option maxRecDepth 1000000 in
theorem ggJx4a65c_grow_d5877_Jx4a65c_grow_92f84 : GoodIn wsJx4a65c_grow_d5877 wsJx4a65c_grow_92f84 := goodIn_r _ [6, 7, 8, 9, 10, 11, 12, 13, 14, 15, 16, 17, 18, 19, 20, 21, 22, 23, 24, 25, 26, 27, 28, 29, 30, 31, 32, 33, 34, 35, 36, 37, 38, 39, 40, 41, 42, 43, 44, 45] rfl (by decide +kernel)
set_option maxRecDepth 20000 in
theorem gJx4a65c_grow_d5877_Jx4a65c_grow_92f84 : GoodIn wsJx4a65c_grow_d5877 (wsV RJx4a65c 69 RJx4a65c yJx4a65c_grow_92f84 wsJx4a65c_grow_92f84) := goodIn_app (goodIn_of _ (by decide +kernel)) ggJx4a65c_grow_d5877_Jx4a65c_grow_92f84
theorem dJx4a65c_grow_d5877_0 : decode cJx4a65c_grow_d5877 0 = .ok (.aload_n 0, 1) := by decide +kernel
theorem dJx4a65c_grow_d5877_1 : decode cJx4a65c_grow_d5877 1 = .ok (.aload_n 0, 1) := by decide +kernel
theorem dJx4a65c_grow_d5877_2 : decode cJx4a65c_grow_d5877 2 = .ok (.getfield 48, 3) := by decide +kernel
theorem dJx4a65c_grow_d5877_5 : decode cJx4a65c_grow_d5877 5 = .ok (.iconst 1, 1) := by decide +kernel
theorem dJx4a65c_grow_d5877_6 : decode cJx4a65c_grow_d5877 6 = .ok (.iadd, 1) := by decide +kernel
theorem dJx4a65c_grow_d5877_7 : decode cJx4a65c_grow_d5877 7 = .ok (.invokevirtual 69, 3) := by decide +kernel
theorem dJx4a65c_grow_d5877_10 : decode cJx4a65c_grow_d5877 10 = .ok (.areturn, 1) := by decide +kernel
theorem dJx4a65c_size_8abf5_0 : decode cJx4a65c_size_8abf5 0 = .ok (.aload_n 0, 1) := by decide +kernel
theorem dJx4a65c_size_8abf5_1 : decode cJx4a65c_size_8abf5 1 = .ok (.getfield 48, 3) := by decide +kernel
theorem dJx4a65c_size_8abf5_4 : decode cJx4a65c_size_8abf5 4 = .ok (.ireturn, 1) := by decide +kernel
theorem dJx4a65c_elementData_915e3_0 : decode cJx4a65c_elementData_915e3 0 = .ok (.aload_n 0, 1) := by decide +kernel
theorem dJx4a65c_elementData_915e3_1 : decode cJx4a65c_elementData_915e3 1 = .ok (.getfield 9, 3) := by decide +kernel
theorem dJx4a65c_elementData_915e3_4 : decode cJx4a65c_elementData_915e3 4 = .ok (.iload_n 1, 1) := by decide +kernel
theorem dJx4a65c_elementData_915e3_5 : decode cJx4a65c_elementData_915e3 5 = .ok (.aaload, 1) := by decide +kernel
theorem dJx4a65c_elementData_915e3_6 : decode cJx4a65c_elementData_915e3 6 = .ok (.areturn, 1) := by decide +kernel
set_option maxRecDepth 1000000 in
theorem ggJx4a65c_get_915e3_J15_checkIndex_7cf53 : GoodIn wsJx4a65c_get_915e3 wsJ15_checkIndex_7cf53 := goodIn_r _ [5, 6, 7, 8, 9] rfl (by decide +kernel)
set_option maxRecDepth 20000 in
theorem gJx4a65c_get_915e3_J15_checkIndex_7cf53 : GoodIn wsJx4a65c_get_915e3 (va_wsS RJx4a65c 118 yJ15_checkIndex_7cf53 wsJ15_checkIndex_7cf53) := goodIn_app (goodIn_of _ (by decide +kernel)) ggJx4a65c_get_915e3_J15_checkIndex_7cf53
set_option maxRecDepth 1000000 in
theorem ggJx4a65c_get_915e3_Jx4a65c_elementData_915e3 : GoodIn wsJx4a65c_get_915e3 wsJx4a65c_elementData_915e3 := goodIn_r _ [14, 15, 16, 17, 18] rfl (by decide +kernel)
set_option maxRecDepth 20000 in
theorem gJx4a65c_get_915e3_Jx4a65c_elementData_915e3 : GoodIn wsJx4a65c_get_915e3 (wsV RJx4a65c 123 RJx4a65c yJx4a65c_elementData_915e3 wsJx4a65c_elementData_915e3) := goodIn_app (goodIn_of _ (by decide +kernel)) ggJx4a65c_get_915e3_Jx4a65c_elementData_915e3
theorem dJx4a65c_get_915e3_0 : decode cJx4a65c_get_915e3 0 = .ok (.iload_n 1, 1) := by decide +kernel
theorem dJx4a65c_get_915e3_1 : decode cJx4a65c_get_915e3 1 = .ok (.aload_n 0, 1) := by decide +kernel
theorem dJx4a65c_get_915e3_2 : decode cJx4a65c_get_915e3 2 = .ok (.getfield 48, 3) := by decide +kernel
theorem dJx4a65c_get_915e3_5 : decode cJx4a65c_get_915e3 5 = .ok (.invokestatic 118, 3) := by decide +kernel
theorem dJx4a65c_get_915e3_8 : decode cJx4a65c_get_915e3 8 = .ok (.pop, 1) := by decide +kernel
theorem dJx4a65c_get_915e3_9 : decode cJx4a65c_get_915e3 9 = .ok (.aload_n 0, 1) := by decide +kernel
theorem dJx4a65c_get_915e3_10 : decode cJx4a65c_get_915e3 10 = .ok (.iload_n 1, 1) := by decide +kernel
theorem dJx4a65c_get_915e3_11 : decode cJx4a65c_get_915e3 11 = .ok (.invokevirtual 123, 3) := by decide +kernel
theorem dJx4a65c_get_915e3_14 : decode cJx4a65c_get_915e3 14 = .ok (.areturn, 1) := by decide +kernel
set_option maxRecDepth 1000000 in
theorem ggJx4a65c_add_72be8_Jx4a65c_grow_d5877 : GoodIn wsJx4a65c_add_72be8 wsJx4a65c_grow_d5877 := goodIn_r _ [6, 1, 7, 8, 9, 5, 10, 11, 12, 13, 14, 15, 16, 17, 18, 19, 20, 21, 22, 23, 24, 25, 26, 27, 28, 29, 30, 31, 32, 33, 34, 35, 36, 37, 38, 39, 40, 41, 42, 43, 44, 45, 46, 47, 48, 49] rfl (by decide +kernel)
set_option maxRecDepth 20000 in
theorem gJx4a65c_add_72be8_Jx4a65c_grow_d5877 : GoodIn wsJx4a65c_add_72be8 (wsV RJx4a65c 129 RJx4a65c yJx4a65c_grow_d5877 wsJx4a65c_grow_d5877) := goodIn_app (goodIn_of _ (by decide +kernel)) ggJx4a65c_add_72be8_Jx4a65c_grow_d5877
theorem dJx4a65c_add_72be8_0 : decode cJx4a65c_add_72be8 0 = .ok (.iload_n 3, 1) := by decide +kernel
theorem dJx4a65c_add_72be8_1 : decode cJx4a65c_add_72be8 1 = .ok (.aload_n 2, 1) := by decide +kernel
theorem dJx4a65c_add_72be8_2 : decode cJx4a65c_add_72be8 2 = .ok (.arraylength, 1) := by decide +kernel
theorem dJx4a65c_add_72be8_3 : decode cJx4a65c_add_72be8 3 = .ok (.if_icmp .ne 8, 3) := by decide +kernel
theorem dJx4a65c_add_72be8_6 : decode cJx4a65c_add_72be8 6 = .ok (.aload_n 0, 1) := by decide +kernel
theorem dJx4a65c_add_72be8_7 : decode cJx4a65c_add_72be8 7 = .ok (.invokevirtual 129, 3) := by decide +kernel
theorem dJx4a65c_add_72be8_10 : decode cJx4a65c_add_72be8 10 = .ok (.astore_n 2, 1) := by decide +kernel
theorem dJx4a65c_add_72be8_11 : decode cJx4a65c_add_72be8 11 = .ok (.aload_n 2, 1) := by decide +kernel
theorem dJx4a65c_add_72be8_12 : decode cJx4a65c_add_72be8 12 = .ok (.iload_n 3, 1) := by decide +kernel
theorem dJx4a65c_add_72be8_13 : decode cJx4a65c_add_72be8 13 = .ok (.aload_n 1, 1) := by decide +kernel
theorem dJx4a65c_add_72be8_14 : decode cJx4a65c_add_72be8 14 = .ok (.aastore, 1) := by decide +kernel
theorem dJx4a65c_add_72be8_15 : decode cJx4a65c_add_72be8 15 = .ok (.aload_n 0, 1) := by decide +kernel
theorem dJx4a65c_add_72be8_16 : decode cJx4a65c_add_72be8 16 = .ok (.iload_n 3, 1) := by decide +kernel
theorem dJx4a65c_add_72be8_17 : decode cJx4a65c_add_72be8 17 = .ok (.iconst 1, 1) := by decide +kernel
theorem dJx4a65c_add_72be8_18 : decode cJx4a65c_add_72be8 18 = .ok (.iadd, 1) := by decide +kernel
theorem dJx4a65c_add_72be8_19 : decode cJx4a65c_add_72be8 19 = .ok (.putfield 48, 3) := by decide +kernel
theorem dJx4a65c_add_72be8_22 : decode cJx4a65c_add_72be8 22 = .ok (.return_, 1) := by decide +kernel
set_option maxRecDepth 1000000 in
theorem ggJx4a65c_add_9ea2d_Jx4a65c_add_72be8 : GoodIn wsJx4a65c_add_9ea2d wsJx4a65c_add_72be8 := goodIn_r _ [9, 4, 10, 11, 12, 8, 13, 14, 15, 16, 17, 3, 18, 19, 20, 21, 22, 23, 24, 25, 26, 27, 28, 29, 30, 31, 32, 33, 34, 35, 36, 37, 38, 39, 40, 41, 42, 43, 44, 45, 46, 47, 48, 49, 50, 51, 52, 53, 54, 55] rfl (by decide +kernel)
set_option maxRecDepth 20000 in
theorem gJx4a65c_add_9ea2d_Jx4a65c_add_72be8 : GoodIn wsJx4a65c_add_9ea2d (wsV RJx4a65c 131 RJx4a65c yJx4a65c_add_72be8 wsJx4a65c_add_72be8) := goodIn_app (goodIn_of _ (by decide +kernel)) ggJx4a65c_add_9ea2d_Jx4a65c_add_72be8
theorem dJx4a65c_add_9ea2d_0 : decode cJx4a65c_add_9ea2d 0 = .ok (.aload_n 0, 1) := by decide +kernel
theorem dJx4a65c_add_9ea2d_1 : decode cJx4a65c_add_9ea2d 1 = .ok (.dup, 1) := by decide +kernel
theorem dJx4a65c_add_9ea2d_2 : decode cJx4a65c_add_9ea2d 2 = .ok (.getfield 63, 3) := by decide +kernel
theorem dJx4a65c_add_9ea2d_5 : decode cJx4a65c_add_9ea2d 5 = .ok (.iconst 1, 1) := by decide +kernel
theorem dJx4a65c_add_9ea2d_6 : decode cJx4a65c_add_9ea2d 6 = .ok (.iadd, 1) := by decide +kernel
theorem dJx4a65c_add_9ea2d_7 : decode cJx4a65c_add_9ea2d 7 = .ok (.putfield 63, 3) := by decide +kernel
theorem dJx4a65c_add_9ea2d_10 : decode cJx4a65c_add_9ea2d 10 = .ok (.aload_n 0, 1) := by decide +kernel
theorem dJx4a65c_add_9ea2d_11 : decode cJx4a65c_add_9ea2d 11 = .ok (.aload_n 1, 1) := by decide +kernel
theorem dJx4a65c_add_9ea2d_12 : decode cJx4a65c_add_9ea2d 12 = .ok (.aload_n 0, 1) := by decide +kernel
theorem dJx4a65c_add_9ea2d_13 : decode cJx4a65c_add_9ea2d 13 = .ok (.getfield 9, 3) := by decide +kernel
theorem dJx4a65c_add_9ea2d_16 : decode cJx4a65c_add_9ea2d 16 = .ok (.aload_n 0, 1) := by decide +kernel
theorem dJx4a65c_add_9ea2d_17 : decode cJx4a65c_add_9ea2d 17 = .ok (.getfield 48, 3) := by decide +kernel
theorem dJx4a65c_add_9ea2d_20 : decode cJx4a65c_add_9ea2d 20 = .ok (.invokevirtual 131, 3) := by decide +kernel
theorem dJx4a65c_add_9ea2d_23 : decode cJx4a65c_add_9ea2d 23 = .ok (.iconst 1, 1) := by decide +kernel
theorem dJx4a65c_add_9ea2d_24 : decode cJx4a65c_add_9ea2d 24 = .ok (.ireturn, 1) := by decide +kernel
set_option maxRecDepth 1000000 in
theorem ggJ7_copyOf_1904c_J7_copyOf_6403c : GoodIn wsJ7_copyOf_1904c wsJ7_copyOf_6403c := goodIn_r _ [8, 9, 10, 11, 12, 13, 14, 15, 16, 17, 18] rfl (by decide +kernel)
set_option maxRecDepth 20000 in
theorem gJ7_copyOf_1904c_J7_copyOf_6403c : GoodIn wsJ7_copyOf_1904c (va_wsS RJ7 300 yJ7_copyOf_6403c wsJ7_copyOf_6403c) := goodIn_app (goodIn_of _ (by decide +kernel)) ggJ7_copyOf_1904c_J7_copyOf_6403c
theorem dJ7_copyOf_1904c_0 : decode cJ7_copyOf_1904c 0 = .ok (.aload_n 0, 1) := by decide +kernel
theorem dJ7_copyOf_1904c_1 : decode cJ7_copyOf_1904c 1 = .ok (.iload_n 1, 1) := by decide +kernel
theorem dJ7_copyOf_1904c_2 : decode cJ7_copyOf_1904c 2 = .ok (.aload_n 0, 1) := by decide +kernel
theorem dJ7_copyOf_1904c_3 : decode cJ7_copyOf_1904c 3 = .ok (.invokevirtual 86, 3) := by decide +kernel
theorem dJ7_copyOf_1904c_6 : decode cJ7_copyOf_1904c 6 = .ok (.invokestatic 300, 3) := by decide +kernel
theorem dJ7_copyOf_1904c_9 : decode cJ7_copyOf_1904c 9 = .ok (.areturn, 1) := by decide +kernel
theorem dJ7_copyOf_6403c_0 : decode cJ7_copyOf_6403c 0 = .ok (.aload_n 2, 1) := by decide +kernel
theorem dJ7_copyOf_6403c_1 : decode cJ7_copyOf_6403c 1 = .ok (.ldc 110, 2) := by decide +kernel
theorem dJ7_copyOf_6403c_3 : decode cJ7_copyOf_6403c 3 = .ok (.if_acmp .ne 10, 3) := by decide +kernel
theorem dJ7_copyOf_6403c_6 : decode cJ7_copyOf_6403c 6 = .ok (.iload_n 1, 1) := by decide +kernel
theorem dJ7_copyOf_6403c_7 : decode cJ7_copyOf_6403c 7 = .ok (.anewarray 2, 3) := by decide +kernel
theorem dJ7_copyOf_6403c_10 : decode cJ7_copyOf_6403c 10 = .ok (.goto 14, 3) := by decide +kernel
theorem dJ7_copyOf_6403c_13 : decode cJ7_copyOf_6403c 13 = .ok (.aload_n 2, 1) := by decide +kernel
theorem dJ7_copyOf_6403c_14 : decode cJ7_copyOf_6403c 14 = .ok (.invokevirtual 90, 3) := by decide +kernel
theorem dJ7_copyOf_6403c_17 : decode cJ7_copyOf_6403c 17 = .ok (.iload_n 1, 1) := by decide +kernel
theorem dJ7_copyOf_6403c_18 : decode cJ7_copyOf_6403c 18 = .ok (.invokestatic 95, 3) := by decide +kernel
theorem dJ7_copyOf_6403c_21 : decode cJ7_copyOf_6403c 21 = .ok (.checkcast 110, 3) := by decide +kernel
theorem dJ7_copyOf_6403c_24 : decode cJ7_copyOf_6403c 24 = .ok (.astore_n 3, 1) := by decide +kernel
theorem dJ7_copyOf_6403c_25 : decode cJ7_copyOf_6403c 25 = .ok (.aload_n 0, 1) := by decide +kernel
theorem dJ7_copyOf_6403c_26 : decode cJ7_copyOf_6403c 26 = .ok (.iconst 0, 1) := by decide +kernel
theorem dJ7_copyOf_6403c_27 : decode cJ7_copyOf_6403c 27 = .ok (.aload_n 3, 1) := by decide +kernel
theorem dJ7_copyOf_6403c_28 : decode cJ7_copyOf_6403c 28 = .ok (.iconst 0, 1) := by decide +kernel
theorem dJ7_copyOf_6403c_29 : decode cJ7_copyOf_6403c 29 = .ok (.aload_n 0, 1) := by decide +kernel
theorem dJ7_copyOf_6403c_30 : decode cJ7_copyOf_6403c 30 = .ok (.arraylength, 1) := by decide +kernel
theorem dJ7_copyOf_6403c_31 : decode cJ7_copyOf_6403c 31 = .ok (.iload_n 1, 1) := by decide +kernel
theorem dJ7_copyOf_6403c_32 : decode cJ7_copyOf_6403c 32 = .ok (.invokestatic 304, 3) := by decide +kernel
theorem dJ7_copyOf_6403c_35 : decode cJ7_copyOf_6403c 35 = .ok (.invokestatic 150, 3) := by decide +kernel
theorem dJ7_copyOf_6403c_38 : decode cJ7_copyOf_6403c 38 = .ok (.aload_n 3, 1) := by decide +kernel
theorem dJ7_copyOf_6403c_39 : decode cJ7_copyOf_6403c 39 = .ok (.areturn, 1) := by decide +kernel
set_option maxRecDepth 1000000 in
theorem ggJ15_checkIndex_7cf53_J3_checkIndex_8e157 : GoodIn wsJ15_checkIndex_7cf53 wsJ3_checkIndex_8e157 := goodIn_r _ [4] rfl (by decide +kernel)
set_option maxRecDepth 20000 in
theorem gJ15_checkIndex_7cf53_J3_checkIndex_8e157 : GoodIn wsJ15_checkIndex_7cf53 (va_wsS RJ15 105 yJ3_checkIndex_8e157 wsJ3_checkIndex_8e157) := goodIn_app (goodIn_of _ (by decide +kernel)) ggJ15_checkIndex_7cf53_J3_checkIndex_8e157
theorem dJ15_checkIndex_7cf53_0 : decode cJ15_checkIndex_7cf53 0 = .ok (.iload_n 0, 1) := by decide +kernel
theorem dJ15_checkIndex_7cf53_1 : decode cJ15_checkIndex_7cf53 1 = .ok (.iload_n 1, 1) := by decide +kernel
theorem dJ15_checkIndex_7cf53_2 : decode cJ15_checkIndex_7cf53 2 = .ok (.aconst_null, 1) := by decide +kernel
theorem dJ15_checkIndex_7cf53_3 : decode cJ15_checkIndex_7cf53 3 = .ok (.invokestatic 105, 3) := by decide +kernel
theorem dJ15_checkIndex_7cf53_6 : decode cJ15_checkIndex_7cf53 6 = .ok (.ireturn, 1) := by decide +kernel
set_option maxRecDepth 1000000 in
theorem ggJ8_newLength_cabcc_J8_hugeLength_7cf53 : GoodIn wsJ8_newLength_cabcc wsJ8_hugeLength_7cf53 := goodIn_r _ [9, 5] rfl (by decide +kernel)
set_option maxRecDepth 20000 in
theorem gJ8_newLength_cabcc_J8_hugeLength_7cf53 : GoodIn wsJ8_newLength_cabcc (va_wsS RJ8 201 yJ8_hugeLength_7cf53 wsJ8_hugeLength_7cf53) := goodIn_app (goodIn_of _ (by decide +kernel)) ggJ8_newLength_cabcc_J8_hugeLength_7cf53
theorem dJ8_newLength_cabcc_0 : decode cJ8_newLength_cabcc 0 = .ok (.iload_n 0, 1) := by decide +kernel
theorem dJ8_newLength_cabcc_1 : decode cJ8_newLength_cabcc 1 = .ok (.iload_n 1, 1) := by decide +kernel
theorem dJ8_newLength_cabcc_2 : decode cJ8_newLength_cabcc 2 = .ok (.iload_n 2, 1) := by decide +kernel
theorem dJ8_newLength_cabcc_3 : decode cJ8_newLength_cabcc 3 = .ok (.invokestatic 194, 3) := by decide +kernel
theorem dJ8_newLength_cabcc_6 : decode cJ8_newLength_cabcc 6 = .ok (.iadd, 1) := by decide +kernel
theorem dJ8_newLength_cabcc_7 : decode cJ8_newLength_cabcc 7 = .ok (.istore_n 3, 1) := by decide +kernel
theorem dJ8_newLength_cabcc_8 : decode cJ8_newLength_cabcc 8 = .ok (.iconst 0, 1) := by decide +kernel
theorem dJ8_newLength_cabcc_9 : decode cJ8_newLength_cabcc 9 = .ok (.iload_n 3, 1) := by decide +kernel
theorem dJ8_newLength_cabcc_10 : decode cJ8_newLength_cabcc 10 = .ok (.if_icmp .ge 11, 3) := by decide +kernel
theorem dJ8_newLength_cabcc_13 : decode cJ8_newLength_cabcc 13 = .ok (.iload_n 3, 1) := by decide +kernel
theorem dJ8_newLength_cabcc_14 : decode cJ8_newLength_cabcc 14 = .ok (.ldc 200, 2) := by decide +kernel
theorem dJ8_newLength_cabcc_16 : decode cJ8_newLength_cabcc 16 = .ok (.if_icmp .gt 5, 3) := by decide +kernel
theorem dJ8_newLength_cabcc_19 : decode cJ8_newLength_cabcc 19 = .ok (.iload_n 3, 1) := by decide +kernel
theorem dJ8_newLength_cabcc_20 : decode cJ8_newLength_cabcc 20 = .ok (.ireturn, 1) := by decide +kernel
theorem dJ8_newLength_cabcc_21 : decode cJ8_newLength_cabcc 21 = .ok (.iload_n 0, 1) := by decide +kernel
theorem dJ8_newLength_cabcc_22 : decode cJ8_newLength_cabcc 22 = .ok (.iload_n 1, 1) := by decide +kernel
theorem dJ8_newLength_cabcc_23 : decode cJ8_newLength_cabcc 23 = .ok (.invokestatic 201, 3) := by decide +kernel
theorem dJ8_newLength_cabcc_26 : decode cJ8_newLength_cabcc 26 = .ok (.ireturn, 1) := by decide +kernel
theorem dJ8_hugeLength_7cf53_0 : decode cJ8_hugeLength_7cf53 0 = .ok (.iload_n 0, 1) := by decide +kernel
theorem dJ8_hugeLength_7cf53_1 : decode cJ8_hugeLength_7cf53 1 = .ok (.iload_n 1, 1) := by decide +kernel
theorem dJ8_hugeLength_7cf53_2 : decode cJ8_hugeLength_7cf53 2 = .ok (.iadd, 1) := by decide +kernel
theorem dJ8_hugeLength_7cf53_3 : decode cJ8_hugeLength_7cf53 3 = .ok (.istore_n 2, 1) := by decide +kernel
theorem dJ8_hugeLength_7cf53_4 : decode cJ8_hugeLength_7cf53 4 = .ok (.iload_n 2, 1) := by decide +kernel
theorem dJ8_hugeLength_7cf53_5 : decode cJ8_hugeLength_7cf53 5 = .ok (.ifCond .ge 44, 3) := by decide +kernel
theorem dJ8_hugeLength_7cf53_8 : decode cJ8_hugeLength_7cf53 8 = .ok (.new 204, 3) := by decide +kernel
theorem dJ8_hugeLength_7cf53_11 : decode cJ8_hugeLength_7cf53 11 = .ok (.dup, 1) := by decide +kernel
theorem dJ8_hugeLength_7cf53_12 : decode cJ8_hugeLength_7cf53 12 = .ok (.new 89, 3) := by decide +kernel
theorem dJ8_hugeLength_7cf53_15 : decode cJ8_hugeLength_7cf53 15 = .ok (.dup, 1) := by decide +kernel
theorem dJ8_hugeLength_7cf53_16 : decode cJ8_hugeLength_7cf53 16 = .ok (.invokespecial 91, 3) := by decide +kernel
theorem dJ8_hugeLength_7cf53_19 : decode cJ8_hugeLength_7cf53 19 = .ok (.ldc 206, 2) := by decide +kernel
theorem dJ8_hugeLength_7cf53_21 : decode cJ8_hugeLength_7cf53 21 = .ok (.invokevirtual 94, 3) := by decide +kernel
theorem dJ8_hugeLength_7cf53_24 : decode cJ8_hugeLength_7cf53 24 = .ok (.iload_n 0, 1) := by decide +kernel
theorem dJ8_hugeLength_7cf53_25 : decode cJ8_hugeLength_7cf53 25 = .ok (.invokevirtual 98, 3) := by decide +kernel
theorem dJ8_hugeLength_7cf53_28 : decode cJ8_hugeLength_7cf53 28 = .ok (.ldc 208, 2) := by decide +kernel
theorem dJ8_hugeLength_7cf53_30 : decode cJ8_hugeLength_7cf53 30 = .ok (.invokevirtual 94, 3) := by decide +kernel
theorem dJ8_hugeLength_7cf53_33 : decode cJ8_hugeLength_7cf53 33 = .ok (.iload_n 1, 1) := by decide +kernel
theorem dJ8_hugeLength_7cf53_34 : decode cJ8_hugeLength_7cf53 34 = .ok (.invokevirtual 98, 3) := by decide +kernel
theorem dJ8_hugeLength_7cf53_37 : decode cJ8_hugeLength_7cf53 37 = .ok (.ldc 210, 2) := by decide +kernel
theorem dJ8_hugeLength_7cf53_39 : decode cJ8_hugeLength_7cf53 39 = .ok (.invokevirtual 94, 3) := by decide +kernel
theorem dJ8_hugeLength_7cf53_42 : decode cJ8_hugeLength_7cf53 42 = .ok (.invokevirtual 101, 3) := by decide +kernel
theorem dJ8_hugeLength_7cf53_45 : decode cJ8_hugeLength_7cf53 45 = .ok (.invokespecial 212, 3) := by decide +kernel
theorem dJ8_hugeLength_7cf53_48 : decode cJ8_hugeLength_7cf53 48 = .ok (.athrow, 1) := by decide +kernel
theorem dJ8_hugeLength_7cf53_49 : decode cJ8_hugeLength_7cf53 49 = .ok (.iload_n 2, 1) := by decide +kernel
theorem dJ8_hugeLength_7cf53_50 : decode cJ8_hugeLength_7cf53 50 = .ok (.ldc 200, 2) := by decide +kernel
theorem dJ8_hugeLength_7cf53_52 : decode cJ8_hugeLength_7cf53 52 = .ok (.if_icmp .gt 6, 3) := by decide +kernel
theorem dJ8_hugeLength_7cf53_55 : decode cJ8_hugeLength_7cf53 55 = .ok (.ldc 200, 2) := by decide +kernel
theorem dJ8_hugeLength_7cf53_57 : decode cJ8_hugeLength_7cf53 57 = .ok (.ireturn, 1) := by decide +kernel
theorem dJ8_hugeLength_7cf53_58 : decode cJ8_hugeLength_7cf53 58 = .ok (.iload_n 2, 1) := by decide +kernel
theorem dJ8_hugeLength_7cf53_59 : decode cJ8_hugeLength_7cf53 59 = .ok (.ireturn, 1) := by decide +kernel
theorem dJ3_checkIndex_8e157_0 : decode cJ3_checkIndex_8e157 0 = .ok (.iload_n 0, 1) := by decide +kernel
theorem dJ3_checkIndex_8e157_1 : decode cJ3_checkIndex_8e157 1 = .ok (.ifCond .lt 8, 3) := by decide +kernel
theorem dJ3_checkIndex_8e157_4 : decode cJ3_checkIndex_8e157 4 = .ok (.iload_n 0, 1) := by decide +kernel
theorem dJ3_checkIndex_8e157_5 : decode cJ3_checkIndex_8e157 5 = .ok (.iload_n 1, 1) := by decide +kernel
theorem dJ3_checkIndex_8e157_6 : decode cJ3_checkIndex_8e157 6 = .ok (.if_icmp .lt 10, 3) := by decide +kernel
theorem dJ3_checkIndex_8e157_9 : decode cJ3_checkIndex_8e157 9 = .ok (.aload_n 2, 1) := by decide +kernel
theorem dJ3_checkIndex_8e157_10 : decode cJ3_checkIndex_8e157 10 = .ok (.iload_n 0, 1) := by decide +kernel
theorem dJ3_checkIndex_8e157_11 : decode cJ3_checkIndex_8e157 11 = .ok (.iload_n 1, 1) := by decide +kernel
theorem dJ3_checkIndex_8e157_12 : decode cJ3_checkIndex_8e157 12 = .ok (.invokestatic 95, 3) := by decide +kernel
theorem dJ3_checkIndex_8e157_15 : decode cJ3_checkIndex_8e157 15 = .ok (.athrow, 1) := by decide +kernel
theorem dJ3_checkIndex_8e157_16 : decode cJ3_checkIndex_8e157 16 = .ok (.iload_n 0, 1) := by decide +kernel
theorem dJ3_checkIndex_8e157_17 : decode cJ3_checkIndex_8e157 17 = .ok (.ireturn, 1) := by decide +kernel
