theorem dX5_greedy_57 : decode cX5_greedy 57 = .ok (.ldc 227, 2) := by decide +kernel
theorem dX5_greedy_59 : decode cX5_greedy 59 = .ok (.iload 6, 2) := by decide +kernel
theorem dX5_greedy_61 : decode cX5_greedy 61 = .ok (.idiv, 1) := by decide +kernel
theorem dX5_greedy_62 : decode cX5_greedy 62 = .ok (.iload_n 3, 1) := by decide +kernel
theorem dX5_greedy_63 : decode cX5_greedy 63 = .ok (.if_icmp .gt 18, 3) := by decide +kernel
theorem dX5_greedy_66 : decode cX5_greedy 66 = .ok (.iload_n 3, 1) := by decide +kernel
theorem dX5_greedy_67 : decode cX5_greedy 67 = .ok (.ldc 227, 2) := by decide +kernel
theorem dX5_greedy_69 : decode cX5_greedy 69 = .ok (.iload 6, 2) := by decide +kernel
theorem dX5_greedy_71 : decode cX5_greedy 71 = .ok (.idiv, 1) := by decide +kernel
theorem dX5_greedy_72 : decode cX5_greedy 72 = .ok (.isub, 1) := by decide +kernel
theorem dX5_greedy_73 : decode cX5_greedy 73 = .ok (.istore_n 3, 1) := by decide +kernel
theorem dX5_greedy_74 : decode cX5_greedy 74 = .ok (.iinc 4 1, 3) := by decide +kernel
theorem dX5_greedy_77 : decode cX5_greedy 77 = .ok (.iload 6, 2) := by decide +kernel
theorem dX5_greedy_79 : decode cX5_greedy 79 = .ok (.istore 5, 2) := by decide +kernel
theorem dX5_greedy_81 : decode cX5_greedy 81 = .ok (.iinc 6 1, 3) := by decide +kernel
theorem dX5_greedy_84 : decode cX5_greedy 84 = .ok (.goto (-43), 3) := by decide +kernel
theorem dX5_greedy_87 : decode cX5_greedy 87 = .ok (.iload_n 3, 1) := by decide +kernel
theorem dX5_greedy_88 : decode cX5_greedy 88 = .ok (.ifCond .eq 6, 3) := by decide +kernel
theorem dX5_greedy_91 : decode cX5_greedy 91 = .ok (.bipush (-9), 2) := by decide +kernel
theorem dX5_greedy_93 : decode cX5_greedy 93 = .ok (.ireturn, 1) := by decide +kernel
theorem dX5_greedy_94 : decode cX5_greedy 94 = .ok (.aload_n 0, 1) := by decide +kernel
theorem dX5_greedy_95 : decode cX5_greedy 95 = .ok (.iload 5, 2) := by decide +kernel
theorem dX5_greedy_97 : decode cX5_greedy 97 = .ok (.putfield 77, 3) := by decide +kernel
theorem dX5_greedy_100 : decode cX5_greedy 100 = .ok (.iload 4, 2) := by decide +kernel
theorem dX5_greedy_102 : decode cX5_greedy 102 = .ok (.ireturn, 1) := by decide +kernel
set_option maxRecDepth 20000 in
theorem ggX5_serve_X4_isWorker : GoodIn wsX5_serve wsX4_isWorker := goodIn_r _ [8, 9, 75, 76, 77, 78, 79, 80, 81, 82, 83, 84, 85, 86, 87] (by decide +kernel) (by decide +kernel)
set_option maxRecDepth 20000 in
theorem gX5_serve_X4_isWorker : GoodIn wsX5_serve (wsV RX5 119 RX4 yX4_isWorker wsX4_isWorker) := goodIn_app (goodIn_of _ (by decide +kernel)) ggX5_serve_X4_isWorker
set_option maxRecDepth 20000 in
theorem ggX5_serve_X4_openTo : GoodIn wsX5_serve wsX4_openTo := goodIn_r _ [13, 14, 15, 16, 17, 18, 19, 20, 21, 22, 23, 24, 25, 75, 76, 77, 78, 79, 80, 81, 82, 83, 84, 85, 86, 87] (by decide +kernel) (by decide +kernel)
set_option maxRecDepth 20000 in
theorem gX5_serve_X4_openTo : GoodIn wsX5_serve (wsV RX5 209 RX4 yX4_openTo wsX4_openTo) := goodIn_app (goodIn_of _ (by decide +kernel)) ggX5_serve_X4_openTo
set_option maxRecDepth 20000 in
theorem ggX5_serve_X1_lookFor : GoodIn wsX5_serve wsX1_lookFor := goodIn_r _ [30, 31, 32, 33, 34, 35, 36, 37, 38, 29, 39, 40, 41, 42, 43, 44, 45, 46, 47, 48, 49, 50, 51, 52, 53, 54, 55, 56, 57, 58, 59, 60, 61, 62, 88, 89, 90, 91, 92] (by decide +kernel) (by decide +kernel)
set_option maxRecDepth 20000 in
theorem gX5_serve_X1_lookFor : GoodIn wsX5_serve (wsV RX5 212 RX1 yX1_lookFor wsX1_lookFor) := goodIn_app (goodIn_of _ (by decide +kernel)) ggX5_serve_X1_lookFor
theorem dX5_serve_0 : decode cX5_serve 0 = .ok (.aload_n 0, 1) := by decide +kernel
theorem dX5_serve_1 : decode cX5_serve 1 = .ok (.getfield 31, 3) := by decide +kernel
theorem dX5_serve_4 : decode cX5_serve 4 = .ok (.iload_n 1, 1) := by decide +kernel
theorem dX5_serve_5 : decode cX5_serve 5 = .ok (.invokevirtual 119, 3) := by decide +kernel
theorem dX5_serve_8 : decode cX5_serve 8 = .ok (.ifCond .ne 5, 3) := by decide +kernel
theorem dX5_serve_11 : decode cX5_serve 11 = .ok (.iconst (-1), 1) := by decide +kernel
theorem dX5_serve_12 : decode cX5_serve 12 = .ok (.ireturn, 1) := by decide +kernel
theorem dX5_serve_13 : decode cX5_serve 13 = .ok (.aload_n 0, 1) := by decide +kernel
theorem dX5_serve_14 : decode cX5_serve 14 = .ok (.getfield 42, 3) := by decide +kernel
theorem dX5_serve_17 : decode cX5_serve 17 = .ok (.aload_n 0, 1) := by decide +kernel
theorem dX5_serve_18 : decode cX5_serve 18 = .ok (.getfield 31, 3) := by decide +kernel
theorem dX5_serve_21 : decode cX5_serve 21 = .ok (.getfield 200, 3) := by decide +kernel
theorem dX5_serve_24 : decode cX5_serve 24 = .ok (.iload_n 1, 1) := by decide +kernel
theorem dX5_serve_25 : decode cX5_serve 25 = .ok (.iaload, 1) := by decide +kernel
theorem dX5_serve_26 : decode cX5_serve 26 = .ok (.aload_n 0, 1) := by decide +kernel
theorem dX5_serve_27 : decode cX5_serve 27 = .ok (.getfield 31, 3) := by decide +kernel
theorem dX5_serve_30 : decode cX5_serve 30 = .ok (.iload_n 1, 1) := by decide +kernel
theorem dX5_serve_31 : decode cX5_serve 31 = .ok (.invokevirtual 209, 3) := by decide +kernel
theorem dX5_serve_34 : decode cX5_serve 34 = .ok (.aload_n 0, 1) := by decide +kernel
theorem dX5_serve_35 : decode cX5_serve 35 = .ok (.getfield 31, 3) := by decide +kernel
theorem dX5_serve_38 : decode cX5_serve 38 = .ok (.getfield 142, 3) := by decide +kernel
theorem dX5_serve_41 : decode cX5_serve 41 = .ok (.iand, 1) := by decide +kernel
theorem dX5_serve_42 : decode cX5_serve 42 = .ok (.invokevirtual 212, 3) := by decide +kernel
theorem dX5_serve_45 : decode cX5_serve 45 = .ok (.aload_n 0, 1) := by decide +kernel
theorem dX5_serve_46 : decode cX5_serve 46 = .ok (.getfield 42, 3) := by decide +kernel
theorem dX5_serve_49 : decode cX5_serve 49 = .ok (.getfield 215, 3) := by decide +kernel
theorem dX5_serve_52 : decode cX5_serve 52 = .ok (.ifCond .ne 6, 3) := by decide +kernel
theorem dX5_serve_55 : decode cX5_serve 55 = .ok (.bipush (-9), 2) := by decide +kernel
theorem dX5_serve_57 : decode cX5_serve 57 = .ok (.ireturn, 1) := by decide +kernel
theorem dX5_serve_58 : decode cX5_serve 58 = .ok (.aload_n 0, 1) := by decide +kernel
theorem dX5_serve_59 : decode cX5_serve 59 = .ok (.aload_n 0, 1) := by decide +kernel
theorem dX5_serve_60 : decode cX5_serve 60 = .ok (.getfield 42, 3) := by decide +kernel
theorem dX5_serve_63 : decode cX5_serve 63 = .ok (.getfield 221, 3) := by decide +kernel
theorem dX5_serve_66 : decode cX5_serve 66 = .ok (.putfield 77, 3) := by decide +kernel
theorem dX5_serve_69 : decode cX5_serve 69 = .ok (.aload_n 0, 1) := by decide +kernel
theorem dX5_serve_70 : decode cX5_serve 70 = .ok (.getfield 42, 3) := by decide +kernel
theorem dX5_serve_73 : decode cX5_serve 73 = .ok (.getfield 224, 3) := by decide +kernel
theorem dX5_serve_76 : decode cX5_serve 76 = .ok (.ireturn, 1) := by decide +kernel
set_option maxRecDepth 20000 in
theorem ggX5_need_X5_countWanted : GoodIn wsX5_need wsX5_countWanted := goodIn_r _ [8, 3, 1, 9, 10, 11, 12, 13, 14, 15, 16, 17, 18, 19, 20, 21, 22, 23, 24, 25, 26, 27, 28, 29, 30, 31, 32, 33, 34, 35, 36, 37, 38, 39, 40, 41, 42, 43, 44, 45, 46, 47, 48, 49, 50, 51, 52, 53, 54, 55, 56, 57, 58, 7, 59, 60, 61, 62, 63, 64, 65, 66, 67, 68, 69, 70, 71, 72, 73, 74, 75, 76, 77, 78, 79, 80, 81, 82, 83, 84, 85, 86, 87, 88, 89, 90, 91, 92, 93] (by decide +kernel) (by decide +kernel)
set_option maxRecDepth 20000 in
theorem gX5_need_X5_countWanted : GoodIn wsX5_need (wsV RX5 228 RX5 yX5_countWanted wsX5_countWanted) := goodIn_app (goodIn_of _ (by decide +kernel)) ggX5_need_X5_countWanted
theorem dX5_need_0 : decode cX5_need 0 = .ok (.aload_n 0, 1) := by decide +kernel
theorem dX5_need_1 : decode cX5_need 1 = .ok (.getfield 31, 3) := by decide +kernel
theorem dX5_need_4 : decode cX5_need 4 = .ok (.getfield 116, 3) := by decide +kernel
theorem dX5_need_7 : decode cX5_need 7 = .ok (.ifCond .ne 6, 3) := by decide +kernel
theorem dX5_need_10 : decode cX5_need 10 = .ok (.bipush (-4), 2) := by decide +kernel
theorem dX5_need_12 : decode cX5_need 12 = .ok (.ireturn, 1) := by decide +kernel
theorem dX5_need_13 : decode cX5_need 13 = .ok (.aload_n 0, 1) := by decide +kernel
theorem dX5_need_14 : decode cX5_need 14 = .ok (.aload_n 0, 1) := by decide +kernel
theorem dX5_need_15 : decode cX5_need 15 = .ok (.invokevirtual 228, 3) := by decide +kernel
theorem dX5_need_18 : decode cX5_need 18 = .ok (.putfield 77, 3) := by decide +kernel
theorem dX5_need_21 : decode cX5_need 21 = .ok (.iconst 0, 1) := by decide +kernel
theorem dX5_need_22 : decode cX5_need 22 = .ok (.istore_n 1, 1) := by decide +kernel
theorem dX5_need_23 : decode cX5_need 23 = .ok (.iconst 2, 1) := by decide +kernel
theorem dX5_need_24 : decode cX5_need 24 = .ok (.istore_n 2, 1) := by decide +kernel
theorem dX5_need_25 : decode cX5_need 25 = .ok (.iload_n 2, 1) := by decide +kernel
theorem dX5_need_26 : decode cX5_need 26 = .ok (.bipush 16, 2) := by decide +kernel
theorem dX5_need_28 : decode cX5_need 28 = .ok (.if_icmp .gt 40, 3) := by decide +kernel
theorem dX5_need_31 : decode cX5_need 31 = .ok (.aload_n 0, 1) := by decide +kernel
theorem dX5_need_32 : decode cX5_need 32 = .ok (.getfield 46, 3) := by decide +kernel
theorem dX5_need_35 : decode cX5_need 35 = .ok (.iload_n 2, 1) := by decide +kernel
theorem dX5_need_36 : decode cX5_need 36 = .ok (.iaload, 1) := by decide +kernel
theorem dX5_need_37 : decode cX5_need 37 = .ok (.aload_n 0, 1) := by decide +kernel
theorem dX5_need_38 : decode cX5_need 38 = .ok (.getfield 31, 3) := by decide +kernel
theorem dX5_need_41 : decode cX5_need 41 = .ok (.getfield 163, 3) := by decide +kernel
theorem dX5_need_44 : decode cX5_need 44 = .ok (.iload_n 2, 1) := by decide +kernel
theorem dX5_need_45 : decode cX5_need 45 = .ok (.iaload, 1) := by decide +kernel
theorem dX5_need_46 : decode cX5_need 46 = .ok (.isub, 1) := by decide +kernel
theorem dX5_need_47 : decode cX5_need 47 = .ok (.istore_n 3, 1) := by decide +kernel
theorem dX5_need_48 : decode cX5_need 48 = .ok (.iload_n 3, 1) := by decide +kernel
theorem dX5_need_49 : decode cX5_need 49 = .ok (.ifCond .le 13, 3) := by decide +kernel
theorem dX5_need_52 : decode cX5_need 52 = .ok (.iload_n 1, 1) := by decide +kernel
theorem dX5_need_53 : decode cX5_need 53 = .ok (.iload_n 3, 1) := by decide +kernel
theorem dX5_need_54 : decode cX5_need 54 = .ok (.iload_n 2, 1) := by decide +kernel
theorem dX5_need_55 : decode cX5_need 55 = .ok (.iadd, 1) := by decide +kernel
theorem dX5_need_56 : decode cX5_need 56 = .ok (.iconst 1, 1) := by decide +kernel
theorem dX5_need_57 : decode cX5_need 57 = .ok (.isub, 1) := by decide +kernel
theorem dX5_need_58 : decode cX5_need 58 = .ok (.iload_n 2, 1) := by decide +kernel
theorem dX5_need_59 : decode cX5_need 59 = .ok (.idiv, 1) := by decide +kernel
theorem dX5_need_60 : decode cX5_need 60 = .ok (.iadd, 1) := by decide +kernel
theorem dX5_need_61 : decode cX5_need 61 = .ok (.istore_n 1, 1) := by decide +kernel
theorem dX5_need_62 : decode cX5_need 62 = .ok (.iinc 2 1, 3) := by decide +kernel
theorem dX5_need_65 : decode cX5_need 65 = .ok (.goto (-40), 3) := by decide +kernel
theorem dX5_need_68 : decode cX5_need 68 = .ok (.iload_n 1, 1) := by decide +kernel
theorem dX5_need_69 : decode cX5_need 69 = .ok (.ireturn, 1) := by decide +kernel
set_option maxRecDepth 20000 in
theorem ggX5_poor_X5_tellFraction : GoodIn wsX5_poor wsX5_tellFraction := goodIn_r _ [7, 8, 9, 10, 11, 6, 12, 13, 14, 15, 16, 17, 18, 19, 20, 21, 22, 23, 24] (by decide +kernel) (by decide +kernel)
set_option maxRecDepth 20000 in
theorem gX5_poor_X5_tellFraction : GoodIn wsX5_poor (wsV RX5 205 RX5 yX5_tellFraction wsX5_tellFraction) := goodIn_app (goodIn_of _ (by decide +kernel)) ggX5_poor_X5_tellFraction
theorem dX5_poor_0 : decode cX5_poor 0 = .ok (.aload_n 0, 1) := by decide +kernel
theorem dX5_poor_1 : decode cX5_poor 1 = .ok (.getfield 31, 3) := by decide +kernel
theorem dX5_poor_4 : decode cX5_poor 4 = .ok (.getfield 116, 3) := by decide +kernel
theorem dX5_poor_7 : decode cX5_poor 7 = .ok (.ifCond .ne 6, 3) := by decide +kernel
theorem dX5_poor_10 : decode cX5_poor 10 = .ok (.bipush (-4), 2) := by decide +kernel
theorem dX5_poor_12 : decode cX5_poor 12 = .ok (.ireturn, 1) := by decide +kernel
theorem dX5_poor_13 : decode cX5_poor 13 = .ok (.iconst 0, 1) := by decide +kernel
theorem dX5_poor_14 : decode cX5_poor 14 = .ok (.istore_n 1, 1) := by decide +kernel
theorem dX5_poor_15 : decode cX5_poor 15 = .ok (.iconst 1, 1) := by decide +kernel
theorem dX5_poor_16 : decode cX5_poor 16 = .ok (.istore_n 2, 1) := by decide +kernel
theorem dX5_poor_17 : decode cX5_poor 17 = .ok (.iload_n 2, 1) := by decide +kernel
theorem dX5_poor_18 : decode cX5_poor 18 = .ok (.aload_n 0, 1) := by decide +kernel
theorem dX5_poor_19 : decode cX5_poor 19 = .ok (.getfield 31, 3) := by decide +kernel
theorem dX5_poor_22 : decode cX5_poor 22 = .ok (.getfield 116, 3) := by decide +kernel
theorem dX5_poor_25 : decode cX5_poor 25 = .ok (.if_icmp .ge 32, 3) := by decide +kernel
theorem dX5_poor_28 : decode cX5_poor 28 = .ok (.aload_n 0, 1) := by decide +kernel
theorem dX5_poor_29 : decode cX5_poor 29 = .ok (.getfield 31, 3) := by decide +kernel
theorem dX5_poor_32 : decode cX5_poor 32 = .ok (.getfield 200, 3) := by decide +kernel
theorem dX5_poor_35 : decode cX5_poor 35 = .ok (.iload_n 2, 1) := by decide +kernel
theorem dX5_poor_36 : decode cX5_poor 36 = .ok (.iaload, 1) := by decide +kernel
theorem dX5_poor_37 : decode cX5_poor 37 = .ok (.aload_n 0, 1) := by decide +kernel
theorem dX5_poor_38 : decode cX5_poor 38 = .ok (.getfield 31, 3) := by decide +kernel
theorem dX5_poor_41 : decode cX5_poor 41 = .ok (.getfield 200, 3) := by decide +kernel
theorem dX5_poor_44 : decode cX5_poor 44 = .ok (.iload_n 1, 1) := by decide +kernel
theorem dX5_poor_45 : decode cX5_poor 45 = .ok (.iaload, 1) := by decide +kernel
theorem dX5_poor_46 : decode cX5_poor 46 = .ok (.if_icmp .le 5, 3) := by decide +kernel
theorem dX5_poor_49 : decode cX5_poor 49 = .ok (.iload_n 2, 1) := by decide +kernel
theorem dX5_poor_50 : decode cX5_poor 50 = .ok (.istore_n 1, 1) := by decide +kernel
theorem dX5_poor_51 : decode cX5_poor 51 = .ok (.iinc 2 1, 3) := by decide +kernel
theorem dX5_poor_54 : decode cX5_poor 54 = .ok (.goto (-37), 3) := by decide +kernel
theorem dX5_poor_57 : decode cX5_poor 57 = .ok (.aload_n 0, 1) := by decide +kernel
theorem dX5_poor_58 : decode cX5_poor 58 = .ok (.aload_n 0, 1) := by decide +kernel
theorem dX5_poor_59 : decode cX5_poor 59 = .ok (.getfield 31, 3) := by decide +kernel
theorem dX5_poor_62 : decode cX5_poor 62 = .ok (.getfield 200, 3) := by decide +kernel
theorem dX5_poor_65 : decode cX5_poor 65 = .ok (.iload_n 1, 1) := by decide +kernel
theorem dX5_poor_66 : decode cX5_poor 66 = .ok (.iaload, 1) := by decide +kernel
theorem dX5_poor_67 : decode cX5_poor 67 = .ok (.i2l, 1) := by decide +kernel
theorem dX5_poor_68 : decode cX5_poor 68 = .ok (.ldc2_w 203, 3) := by decide +kernel
theorem dX5_poor_71 : decode cX5_poor 71 = .ok (.invokevirtual 205, 3) := by decide +kernel
theorem dX5_poor_74 : decode cX5_poor 74 = .ok (.iload_n 1, 1) := by decide +kernel
theorem dX5_poor_75 : decode cX5_poor 75 = .ok (.ireturn, 1) := by decide +kernel
set_option maxRecDepth 20000 in
theorem ggX5_ready_X5_payableBy : GoodIn wsX5_ready wsX5_payableBy := goodIn_r _ [7, 1, 8, 9, 10, 11, 12, 13, 14, 15, 16, 17, 18, 19, 20, 21, 22, 23, 24, 25, 26, 27, 28, 29, 30, 31, 32, 33, 34, 35, 36, 37, 38, 39, 40, 41, 42, 43, 44, 45, 46, 47, 48, 49, 50, 51, 52, 53, 54, 55, 56, 57, 6, 58, 59, 60, 61, 63, 64, 65, 66, 67, 68, 69, 70, 71, 72, 73, 74, 75, 76, 77, 78, 79, 80, 81, 82, 83, 84, 85, 86, 87, 88, 89, 90, 91, 92] (by decide +kernel) (by decide +kernel)
set_option maxRecDepth 20000 in
theorem gX5_ready_X5_payableBy : GoodIn wsX5_ready (wsV RX5 232 RX5 yX5_payableBy wsX5_payableBy) := goodIn_app (goodIn_of _ (by decide +kernel)) ggX5_ready_X5_payableBy
set_option maxRecDepth 20000 in
theorem ggX5_ready_J6_bitCount_0f7a4 : GoodIn wsX5_ready wsJ6_bitCount_0f7a4 := goodIn_r _ [53, 54, 55, 56] (by decide +kernel) (by decide +kernel)
set_option maxRecDepth 20000 in
theorem gX5_ready_J6_bitCount_0f7a4 : GoodIn wsX5_ready (va_wsS RX5 137 yJ6_bitCount_0f7a4 wsJ6_bitCount_0f7a4) := goodIn_app (goodIn_of _ (by decide +kernel)) ggX5_ready_J6_bitCount_0f7a4
theorem dX5_ready_0 : decode cX5_ready 0 = .ok (.aload_n 0, 1) := by decide +kernel
theorem dX5_ready_1 : decode cX5_ready 1 = .ok (.getfield 31, 3) := by decide +kernel
theorem dX5_ready_4 : decode cX5_ready 4 = .ok (.getfield 116, 3) := by decide +kernel
theorem dX5_ready_7 : decode cX5_ready 7 = .ok (.ifCond .ne 6, 3) := by decide +kernel
theorem dX5_ready_10 : decode cX5_ready 10 = .ok (.bipush (-4), 2) := by decide +kernel
theorem dX5_ready_12 : decode cX5_ready 12 = .ok (.ireturn, 1) := by decide +kernel
theorem dX5_ready_13 : decode cX5_ready 13 = .ok (.aload_n 0, 1) := by decide +kernel
theorem dX5_ready_14 : decode cX5_ready 14 = .ok (.aload_n 0, 1) := by decide +kernel
theorem dX5_ready_15 : decode cX5_ready 15 = .ok (.getfield 31, 3) := by decide +kernel
theorem dX5_ready_18 : decode cX5_ready 18 = .ok (.getfield 142, 3) := by decide +kernel
theorem dX5_ready_21 : decode cX5_ready 21 = .ok (.invokevirtual 232, 3) := by decide +kernel
theorem dX5_ready_24 : decode cX5_ready 24 = .ok (.istore_n 1, 1) := by decide +kernel
theorem dX5_ready_25 : decode cX5_ready 25 = .ok (.aload_n 0, 1) := by decide +kernel
theorem dX5_ready_26 : decode cX5_ready 26 = .ok (.iload_n 1, 1) := by decide +kernel
theorem dX5_ready_27 : decode cX5_ready 27 = .ok (.invokestatic 137, 3) := by decide +kernel
theorem dX5_ready_30 : decode cX5_ready 30 = .ok (.putfield 77, 3) := by decide +kernel
theorem dX5_ready_33 : decode cX5_ready 33 = .ok (.iload_n 1, 1) := by decide +kernel
theorem dX5_ready_34 : decode cX5_ready 34 = .ok (.ireturn, 1) := by decide +kernel
set_option maxRecDepth 20000 in
theorem ggX5_best_X4_canCut : GoodIn wsX5_best wsX4_canCut := goodIn_r _ [7, 8, 80, 81, 82, 83, 84, 85, 86, 87, 88, 89, 90, 91, 92] (by decide +kernel) (by decide +kernel)
set_option maxRecDepth 20000 in
theorem gX5_best_X4_canCut : GoodIn wsX5_best (wsV RX5 153 RX4 yX4_canCut wsX4_canCut) := goodIn_app (goodIn_of _ (by decide +kernel)) ggX5_best_X4_canCut
set_option maxRecDepth 20000 in
theorem ggX5_best_X5_payableBy : GoodIn wsX5_best wsX5_payableBy := goodIn_r _ [13, 1, 14, 15, 16, 17, 6, 18, 19, 20, 21, 22, 23, 24, 25, 26, 27, 28, 29, 30, 31, 32, 33, 34, 35, 36, 37, 38, 39, 40, 41, 42, 43, 44, 45, 46, 47, 48, 49, 50, 51, 52, 53, 54, 55, 56, 57, 58, 59, 60, 61, 62, 12, 63, 64, 65, 66, 68, 69, 70, 71, 72, 73, 74, 75, 76, 77, 78, 79, 80, 81, 82, 83, 84, 85, 86, 87, 88, 89, 90, 91, 92, 93, 94, 95, 96, 97] (by decide +kernel) (by decide +kernel)
set_option maxRecDepth 20000 in
theorem gX5_best_X5_payableBy : GoodIn wsX5_best (wsV RX5 232 RX5 yX5_payableBy wsX5_payableBy) := goodIn_app (goodIn_of _ (by decide +kernel)) ggX5_best_X5_payableBy
set_option maxRecDepth 20000 in
theorem ggX5_best_J6_bitCount_0f7a4 : GoodIn wsX5_best wsJ6_bitCount_0f7a4 := goodIn_r _ [58, 59, 60, 61] (by decide +kernel) (by decide +kernel)
set_option maxRecDepth 20000 in
theorem gX5_best_J6_bitCount_0f7a4 : GoodIn wsX5_best (va_wsS RX5 137 yJ6_bitCount_0f7a4 wsJ6_bitCount_0f7a4) := goodIn_app (goodIn_of _ (by decide +kernel)) ggX5_best_J6_bitCount_0f7a4
theorem dX5_best_0 : decode cX5_best 0 = .ok (.aload_n 0, 1) := by decide +kernel
theorem dX5_best_1 : decode cX5_best 1 = .ok (.getfield 31, 3) := by decide +kernel
theorem dX5_best_4 : decode cX5_best 4 = .ok (.invokevirtual 153, 3) := by decide +kernel
theorem dX5_best_7 : decode cX5_best 7 = .ok (.ifCond .ne 6, 3) := by decide +kernel
theorem dX5_best_10 : decode cX5_best 10 = .ok (.bipush (-4), 2) := by decide +kernel
theorem dX5_best_12 : decode cX5_best 12 = .ok (.ireturn, 1) := by decide +kernel
theorem dX5_best_13 : decode cX5_best 13 = .ok (.aload_n 0, 1) := by decide +kernel
theorem dX5_best_14 : decode cX5_best 14 = .ok (.aload_n 0, 1) := by decide +kernel
theorem dX5_best_15 : decode cX5_best 15 = .ok (.getfield 31, 3) := by decide +kernel
theorem dX5_best_18 : decode cX5_best 18 = .ok (.getfield 142, 3) := by decide +kernel
theorem dX5_best_21 : decode cX5_best 21 = .ok (.invokevirtual 232, 3) := by decide +kernel
theorem dX5_best_24 : decode cX5_best 24 = .ok (.invokestatic 137, 3) := by decide +kernel
theorem dX5_best_27 : decode cX5_best 27 = .ok (.istore_n 1, 1) := by decide +kernel
theorem dX5_best_28 : decode cX5_best 28 = .ok (.bipush (-9), 2) := by decide +kernel
theorem dX5_best_30 : decode cX5_best 30 = .ok (.istore_n 2, 1) := by decide +kernel
theorem dX5_best_31 : decode cX5_best 31 = .ok (.iconst 2, 1) := by decide +kernel
theorem dX5_best_32 : decode cX5_best 32 = .ok (.istore_n 3, 1) := by decide +kernel
theorem dX5_best_33 : decode cX5_best 33 = .ok (.iload_n 3, 1) := by decide +kernel
theorem dX5_best_34 : decode cX5_best 34 = .ok (.bipush 16, 2) := by decide +kernel
theorem dX5_best_36 : decode cX5_best 36 = .ok (.if_icmp .gt 40, 3) := by decide +kernel
theorem dX5_best_39 : decode cX5_best 39 = .ok (.aload_n 0, 1) := by decide +kernel
theorem dX5_best_40 : decode cX5_best 40 = .ok (.aload_n 0, 1) := by decide +kernel
theorem dX5_best_41 : decode cX5_best 41 = .ok (.getfield 31, 3) := by decide +kernel
theorem dX5_best_44 : decode cX5_best 44 = .ok (.getfield 142, 3) := by decide +kernel
theorem dX5_best_47 : decode cX5_best 47 = .ok (.iconst 1, 1) := by decide +kernel
theorem dX5_best_48 : decode cX5_best 48 = .ok (.iload_n 3, 1) := by decide +kernel
theorem dX5_best_49 : decode cX5_best 49 = .ok (.ishl, 1) := by decide +kernel
theorem dX5_best_50 : decode cX5_best 50 = .ok (.ior, 1) := by decide +kernel
theorem dX5_best_51 : decode cX5_best 51 = .ok (.invokevirtual 232, 3) := by decide +kernel
theorem dX5_best_54 : decode cX5_best 54 = .ok (.invokestatic 137, 3) := by decide +kernel
theorem dX5_best_57 : decode cX5_best 57 = .ok (.istore 4, 2) := by decide +kernel
theorem dX5_best_59 : decode cX5_best 59 = .ok (.iload 4, 2) := by decide +kernel
theorem dX5_best_61 : decode cX5_best 61 = .ok (.iload_n 1, 1) := by decide +kernel
theorem dX5_best_62 : decode cX5_best 62 = .ok (.if_icmp .le 8, 3) := by decide +kernel
theorem dX5_best_65 : decode cX5_best 65 = .ok (.iload 4, 2) := by decide +kernel
theorem dX5_best_67 : decode cX5_best 67 = .ok (.istore_n 1, 1) := by decide +kernel
theorem dX5_best_68 : decode cX5_best 68 = .ok (.iload_n 3, 1) := by decide +kernel
theorem dX5_best_69 : decode cX5_best 69 = .ok (.istore_n 2, 1) := by decide +kernel
theorem dX5_best_70 : decode cX5_best 70 = .ok (.iinc 3 1, 3) := by decide +kernel
theorem dX5_best_73 : decode cX5_best 73 = .ok (.goto (-40), 3) := by decide +kernel
theorem dX5_best_76 : decode cX5_best 76 = .ok (.iload_n 2, 1) := by decide +kernel
theorem dX5_best_77 : decode cX5_best 77 = .ok (.bipush (-9), 2) := by decide +kernel
theorem dX5_best_79 : decode cX5_best 79 = .ok (.if_icmp .eq 8, 3) := by decide +kernel
theorem dX5_best_82 : decode cX5_best 82 = .ok (.aload_n 0, 1) := by decide +kernel
theorem dX5_best_83 : decode cX5_best 83 = .ok (.iload_n 1, 1) := by decide +kernel
theorem dX5_best_84 : decode cX5_best 84 = .ok (.putfield 77, 3) := by decide +kernel
theorem dX5_best_87 : decode cX5_best 87 = .ok (.iload_n 2, 1) := by decide +kernel
theorem dX5_best_88 : decode cX5_best 88 = .ok (.ireturn, 1) := by decide +kernel
set_option maxRecDepth 20000 in
theorem ggX5_dues_X5_refuseMissing : GoodIn wsX5_dues wsX5_refuseMissing := goodIn_r _ [8, 9, 10, 11, 12, 13, 14, 15, 16, 17, 18, 19, 20, 21, 22, 23, 24, 25, 26, 7, 27, 28, 29, 66, 67, 68, 54, 55, 56, 57, 58, 59, 60, 61, 62, 63, 64, 65] (by decide +kernel) (by decide +kernel)
set_option maxRecDepth 20000 in
theorem gX5_dues_X5_refuseMissing : GoodIn wsX5_dues (wsV RX5 84 RX5 yX5_refuseMissing wsX5_refuseMissing) := goodIn_app (goodIn_of _ (by decide +kernel)) ggX5_dues_X5_refuseMissing
set_option maxRecDepth 20000 in
theorem ggX5_dues_X5_isSetOfParts : GoodIn wsX5_dues wsX5_isSetOfParts := goodIn_r _ [33, 1, 34, 20, 21, 12, 22, 14, 23, 10, 11, 13, 35, 36, 37, 38, 39, 40, 41, 42, 43, 44, 45, 46, 7, 47, 48, 49, 50, 54, 55, 56, 57, 58, 59, 60, 61, 62, 63, 64, 65, 66, 67, 68] (by decide +kernel) (by decide +kernel)
set_option maxRecDepth 20000 in
theorem gX5_dues_X5_isSetOfParts : GoodIn wsX5_dues (wsV RX5 235 RX5 yX5_isSetOfParts wsX5_isSetOfParts) := goodIn_app (goodIn_of _ (by decide +kernel)) ggX5_dues_X5_isSetOfParts
set_option maxRecDepth 20000 in
theorem ggX5_dues_X5_found : GoodIn wsX5_dues wsX5_found := goodIn_r _ [27, 28, 29, 54, 55, 56, 57, 58, 59, 60, 61, 62, 63, 64, 65] (by decide +kernel) (by decide +kernel)
set_option maxRecDepth 20000 in
theorem gX5_dues_X5_found : GoodIn wsX5_dues (wsV RX5 61 RX5 yX5_found wsX5_found) := goodIn_app (goodIn_of _ (by decide +kernel)) ggX5_dues_X5_found
set_option maxRecDepth 20000 in
theorem ggX5_dues_X3_sizeOf : GoodIn wsX5_dues wsX3_sizeOf := goodIn_r _ [22, 14, 23, 10, 11, 12, 13, 66, 67, 68] (by decide +kernel) (by decide +kernel)
set_option maxRecDepth 20000 in
theorem gX5_dues_X3_sizeOf : GoodIn wsX5_dues (wsV RX5 103 RX3 yX3_sizeOf wsX3_sizeOf) := goodIn_app (goodIn_of _ (by decide +kernel)) ggX5_dues_X3_sizeOf
set_option maxRecDepth 20000 in
theorem ggX5_dues_X3_read : GoodIn wsX5_dues wsX3_read := goodIn_r _ [38, 39, 40, 41, 42, 43, 12, 44, 14, 23, 10, 11, 13, 66, 67, 68] (by decide +kernel) (by decide +kernel)
set_option maxRecDepth 20000 in
theorem gX5_dues_X3_read : GoodIn wsX5_dues (wsV RX5 73 RX3 yX3_read wsX3_read) := goodIn_app (goodIn_of _ (by decide +kernel)) ggX5_dues_X3_read
set_option maxRecDepth 20000 in
theorem ggX5_dues_X5_partSize : GoodIn wsX5_dues wsX5_partSize := goodIn_r _ [53, 2] (by decide +kernel) (by decide +kernel)
set_option maxRecDepth 20000 in
theorem gX5_dues_X5_partSize : GoodIn wsX5_dues (va_wsS RX5 238 yX5_partSize wsX5_partSize) := goodIn_app (goodIn_of _ (by decide +kernel)) ggX5_dues_X5_partSize
theorem dX5_dues_0 : decode cX5_dues 0 = .ok (.aload_n 0, 1) := by decide +kernel
theorem dX5_dues_1 : decode cX5_dues 1 = .ok (.aload_n 0, 1) := by decide +kernel
theorem dX5_dues_2 : decode cX5_dues 2 = .ok (.getfield 14, 3) := by decide +kernel
theorem dX5_dues_5 : decode cX5_dues 5 = .ok (.iload_n 1, 1) := by decide +kernel
theorem dX5_dues_6 : decode cX5_dues 6 = .ok (.invokevirtual 84, 3) := by decide +kernel
theorem dX5_dues_9 : decode cX5_dues 9 = .ok (.istore_n 2, 1) := by decide +kernel
theorem dX5_dues_10 : decode cX5_dues 10 = .ok (.iload_n 2, 1) := by decide +kernel
theorem dX5_dues_11 : decode cX5_dues 11 = .ok (.ifCond .eq 5, 3) := by decide +kernel
theorem dX5_dues_14 : decode cX5_dues 14 = .ok (.iload_n 2, 1) := by decide +kernel
theorem dX5_dues_15 : decode cX5_dues 15 = .ok (.ireturn, 1) := by decide +kernel
theorem dX5_dues_16 : decode cX5_dues 16 = .ok (.aload_n 0, 1) := by decide +kernel
theorem dX5_dues_17 : decode cX5_dues 17 = .ok (.iload_n 1, 1) := by decide +kernel
theorem dX5_dues_18 : decode cX5_dues 18 = .ok (.invokevirtual 235, 3) := by decide +kernel
theorem dX5_dues_21 : decode cX5_dues 21 = .ok (.ifCond .ne 9, 3) := by decide +kernel
theorem dX5_dues_24 : decode cX5_dues 24 = .ok (.aload_n 0, 1) := by decide +kernel
theorem dX5_dues_25 : decode cX5_dues 25 = .ok (.iconst 3, 1) := by decide +kernel
theorem dX5_dues_26 : decode cX5_dues 26 = .ok (.invokevirtual 61, 3) := by decide +kernel
theorem dX5_dues_29 : decode cX5_dues 29 = .ok (.ireturn, 1) := by decide +kernel
theorem dX5_dues_30 : decode cX5_dues 30 = .ok (.iconst 0, 1) := by decide +kernel
theorem dX5_dues_31 : decode cX5_dues 31 = .ok (.istore_n 3, 1) := by decide +kernel
theorem dX5_dues_32 : decode cX5_dues 32 = .ok (.iconst 0, 1) := by decide +kernel
theorem dX5_dues_33 : decode cX5_dues 33 = .ok (.istore 4, 2) := by decide +kernel
theorem dX5_dues_35 : decode cX5_dues 35 = .ok (.iload 4, 2) := by decide +kernel
theorem dX5_dues_37 : decode cX5_dues 37 = .ok (.aload_n 0, 1) := by decide +kernel
theorem dX5_dues_38 : decode cX5_dues 38 = .ok (.getfield 14, 3) := by decide +kernel
theorem dX5_dues_41 : decode cX5_dues 41 = .ok (.iload_n 1, 1) := by decide +kernel
theorem dX5_dues_42 : decode cX5_dues 42 = .ok (.invokevirtual 103, 3) := by decide +kernel
theorem dX5_dues_45 : decode cX5_dues 45 = .ok (.if_icmp .ge 25, 3) := by decide +kernel
theorem dX5_dues_48 : decode cX5_dues 48 = .ok (.iload_n 3, 1) := by decide +kernel
theorem dX5_dues_49 : decode cX5_dues 49 = .ok (.aload_n 0, 1) := by decide +kernel
theorem dX5_dues_50 : decode cX5_dues 50 = .ok (.getfield 14, 3) := by decide +kernel
theorem dX5_dues_53 : decode cX5_dues 53 = .ok (.iload_n 1, 1) := by decide +kernel
theorem dX5_dues_54 : decode cX5_dues 54 = .ok (.iload 4, 2) := by decide +kernel
theorem dX5_dues_56 : decode cX5_dues 56 = .ok (.invokevirtual 73, 3) := by decide +kernel
theorem dX5_dues_59 : decode cX5_dues 59 = .ok (.invokestatic 238, 3) := by decide +kernel
theorem dX5_dues_62 : decode cX5_dues 62 = .ok (.iadd, 1) := by decide +kernel
theorem dX5_dues_63 : decode cX5_dues 63 = .ok (.istore_n 3, 1) := by decide +kernel
theorem dX5_dues_64 : decode cX5_dues 64 = .ok (.iinc 4 1, 3) := by decide +kernel
theorem dX5_dues_67 : decode cX5_dues 67 = .ok (.goto (-32), 3) := by decide +kernel
theorem dX5_dues_70 : decode cX5_dues 70 = .ok (.iconst 0, 1) := by decide +kernel
theorem dX5_dues_71 : decode cX5_dues 71 = .ok (.istore 4, 2) := by decide +kernel
theorem dX5_dues_73 : decode cX5_dues 73 = .ok (.iconst 0, 1) := by decide +kernel
theorem dX5_dues_74 : decode cX5_dues 74 = .ok (.istore 5, 2) := by decide +kernel
theorem dX5_dues_76 : decode cX5_dues 76 = .ok (.iconst 1, 1) := by decide +kernel
theorem dX5_dues_77 : decode cX5_dues 77 = .ok (.istore 6, 2) := by decide +kernel
theorem dX5_dues_79 : decode cX5_dues 79 = .ok (.iload 6, 2) := by decide +kernel
theorem dX5_dues_81 : decode cX5_dues 81 = .ok (.bipush 9, 2) := by decide +kernel
theorem dX5_dues_83 : decode cX5_dues 83 = .ok (.if_icmp .gt 60, 3) := by decide +kernel
theorem dX5_dues_86 : decode cX5_dues 86 = .ok (.iconst 1, 1) := by decide +kernel
theorem dX5_dues_87 : decode cX5_dues 87 = .ok (.istore 7, 2) := by decide +kernel
theorem dX5_dues_89 : decode cX5_dues 89 = .ok (.iload 7, 2) := by decide +kernel
theorem dX5_dues_91 : decode cX5_dues 91 = .ok (.bipush 9, 2) := by decide +kernel
theorem dX5_dues_93 : decode cX5_dues 93 = .ok (.if_icmp .gt 44, 3) := by decide +kernel
theorem dX5_dues_96 : decode cX5_dues 96 = .ok (.ldc 227, 2) := by decide +kernel
theorem dX5_dues_98 : decode cX5_dues 98 = .ok (.iload 7, 2) := by decide +kernel
theorem dX5_dues_100 : decode cX5_dues 100 = .ok (.idiv, 1) := by decide +kernel
theorem dX5_dues_101 : decode cX5_dues 101 = .ok (.iload 6, 2) := by decide +kernel
theorem dX5_dues_103 : decode cX5_dues 103 = .ok (.imul, 1) := by decide +kernel
theorem dX5_dues_104 : decode cX5_dues 104 = .ok (.iload_n 3, 1) := by decide +kernel
theorem dX5_dues_105 : decode cX5_dues 105 = .ok (.if_icmp .ne 26, 3) := by decide +kernel
theorem dX5_dues_108 : decode cX5_dues 108 = .ok (.iload 4, 2) := by decide +kernel
theorem dX5_dues_110 : decode cX5_dues 110 = .ok (.ifCond .ne 14, 3) := by decide +kernel
theorem dX5_dues_113 : decode cX5_dues 113 = .ok (.bipush 10, 2) := by decide +kernel
theorem dX5_dues_115 : decode cX5_dues 115 = .ok (.iload 6, 2) := by decide +kernel
theorem dX5_dues_117 : decode cX5_dues 117 = .ok (.imul, 1) := by decide +kernel
theorem dX5_dues_118 : decode cX5_dues 118 = .ok (.iload 7, 2) := by decide +kernel
theorem dX5_dues_120 : decode cX5_dues 120 = .ok (.iadd, 1) := by decide +kernel
theorem dX5_dues_121 : decode cX5_dues 121 = .ok (.goto 5, 3) := by decide +kernel
theorem dX5_dues_124 : decode cX5_dues 124 = .ok (.iload 5, 2) := by decide +kernel
theorem dX5_dues_126 : decode cX5_dues 126 = .ok (.istore 5, 2) := by decide +kernel
theorem dX5_dues_128 : decode cX5_dues 128 = .ok (.iinc 4 1, 3) := by decide +kernel
theorem dX5_dues_131 : decode cX5_dues 131 = .ok (.iinc 7 1, 3) := by decide +kernel
theorem dX5_dues_134 : decode cX5_dues 134 = .ok (.goto (-45), 3) := by decide +kernel
theorem dX5_dues_137 : decode cX5_dues 137 = .ok (.iinc 6 1, 3) := by decide +kernel
theorem dX5_dues_140 : decode cX5_dues 140 = .ok (.goto (-61), 3) := by decide +kernel
theorem dX5_dues_143 : decode cX5_dues 143 = .ok (.iload 4, 2) := by decide +kernel
theorem dX5_dues_145 : decode cX5_dues 145 = .ok (.ifCond .ne 6, 3) := by decide +kernel
theorem dX5_dues_148 : decode cX5_dues 148 = .ok (.bipush (-9), 2) := by decide +kernel
theorem dX5_dues_150 : decode cX5_dues 150 = .ok (.ireturn, 1) := by decide +kernel
theorem dX5_dues_151 : decode cX5_dues 151 = .ok (.aload_n 0, 1) := by decide +kernel
theorem dX5_dues_152 : decode cX5_dues 152 = .ok (.iload 5, 2) := by decide +kernel
theorem dX5_dues_154 : decode cX5_dues 154 = .ok (.putfield 77, 3) := by decide +kernel
theorem dX5_dues_157 : decode cX5_dues 157 = .ok (.iload 4, 2) := by decide +kernel
theorem dX5_dues_159 : decode cX5_dues 159 = .ok (.ireturn, 1) := by decide +kernel
set_option maxRecDepth 20000 in
theorem ggX5_kinds_X5_refusePairs : GoodIn wsX5_kinds wsX5_refusePairs := goodIn_r _ [5, 6, 7, 8, 9, 4, 10, 11, 12, 13, 14, 15, 16, 17, 18, 19, 20, 21, 22, 23, 24, 25, 26, 27, 28, 29, 30, 31, 32, 33, 34, 35, 36, 37, 38, 39, 40, 41, 42, 43, 44, 45, 65, 66, 67, 68, 69, 70, 71, 72, 73, 74, 75, 76, 77, 78, 79] (by decide +kernel) (by decide +kernel)
set_option maxRecDepth 20000 in
theorem gX5_kinds_X5_refusePairs : GoodIn wsX5_kinds (wsV RX5 241 RX5 yX5_refusePairs wsX5_refusePairs) := goodIn_app (goodIn_of _ (by decide +kernel)) ggX5_kinds_X5_refusePairs
set_option maxRecDepth 20000 in
theorem ggX5_kinds_X5_kindsByPairs : GoodIn wsX5_kinds wsX5_kindsByPairs := goodIn_r _ [49, 6, 32, 22, 23, 14, 24, 16, 25, 12, 13, 15, 33, 34, 35, 36, 37, 38, 39, 40, 41, 42, 50, 51, 52, 53, 54, 4, 55, 56, 57, 58, 59, 60, 61, 62, 63, 64, 65, 66, 67, 68, 69, 70, 71, 72, 73, 74, 75, 76, 77, 78, 79] (by decide +kernel) (by decide +kernel)
set_option maxRecDepth 20000 in
theorem gX5_kinds_X5_kindsByPairs : GoodIn wsX5_kinds (wsV RX5 244 RX5 yX5_kindsByPairs wsX5_kindsByPairs) := goodIn_app (goodIn_of _ (by decide +kernel)) ggX5_kinds_X5_kindsByPairs
theorem dX5_kinds_0 : decode cX5_kinds 0 = .ok (.aload_n 0, 1) := by decide +kernel
theorem dX5_kinds_1 : decode cX5_kinds 1 = .ok (.iload_n 1, 1) := by decide +kernel
theorem dX5_kinds_2 : decode cX5_kinds 2 = .ok (.invokevirtual 241, 3) := by decide +kernel
theorem dX5_kinds_5 : decode cX5_kinds 5 = .ok (.istore_n 2, 1) := by decide +kernel
theorem dX5_kinds_6 : decode cX5_kinds 6 = .ok (.iload_n 2, 1) := by decide +kernel
theorem dX5_kinds_7 : decode cX5_kinds 7 = .ok (.ifCond .eq 7, 3) := by decide +kernel
theorem dX5_kinds_10 : decode cX5_kinds 10 = .ok (.iload_n 2, 1) := by decide +kernel
theorem dX5_kinds_11 : decode cX5_kinds 11 = .ok (.goto 8, 3) := by decide +kernel
theorem dX5_kinds_14 : decode cX5_kinds 14 = .ok (.aload_n 0, 1) := by decide +kernel
theorem dX5_kinds_15 : decode cX5_kinds 15 = .ok (.iload_n 1, 1) := by decide +kernel
theorem dX5_kinds_16 : decode cX5_kinds 16 = .ok (.invokevirtual 244, 3) := by decide +kernel
theorem dX5_kinds_19 : decode cX5_kinds 19 = .ok (.ireturn, 1) := by decide +kernel
set_option maxRecDepth 20000 in
theorem ggX5_test_X5_refusePairs : GoodIn wsX5_test wsX5_refusePairs := goodIn_r _ [10, 11, 12, 13, 14, 9, 15, 16, 17, 18, 19, 20, 21, 22, 23, 24, 25, 26, 27, 28, 29, 30, 31, 32, 33, 34, 35, 36, 37, 38, 39, 40, 41, 42, 43, 44, 45, 46, 47, 48, 49, 50, 77, 78, 79, 80, 81, 82, 83, 84, 85, 86, 87, 88, 89, 90, 91] (by decide +kernel) (by decide +kernel)
set_option maxRecDepth 20000 in
theorem gX5_test_X5_refusePairs : GoodIn wsX5_test (wsV RX5 241 RX5 yX5_refusePairs wsX5_refusePairs) := goodIn_app (goodIn_of _ (by decide +kernel)) ggX5_test_X5_refusePairs
set_option maxRecDepth 20000 in
theorem ggX5_test_X5_kindsByPairs : GoodIn wsX5_test wsX5_kindsByPairs := goodIn_r _ [54, 11, 37, 27, 28, 19, 29, 21, 30, 17, 18, 20, 38, 39, 40, 41, 42, 43, 44, 45, 46, 47, 55, 56, 57, 58, 59, 9, 60, 61, 62, 63, 64, 65, 66, 67, 68, 69, 77, 78, 79, 80, 81, 82, 83, 84, 85, 86, 87, 88, 89, 90, 91] (by decide +kernel) (by decide +kernel)
set_option maxRecDepth 20000 in
theorem gX5_test_X5_kindsByPairs : GoodIn wsX5_test (wsV RX5 244 RX5 yX5_kindsByPairs wsX5_kindsByPairs) := goodIn_app (goodIn_of _ (by decide +kernel)) ggX5_test_X5_kindsByPairs
set_option maxRecDepth 20000 in
theorem ggX5_test_J6_bitCount_0f7a4 : GoodIn wsX5_test wsJ6_bitCount_0f7a4 := goodIn_r _ [73, 74, 75, 76] (by decide +kernel) (by decide +kernel)
set_option maxRecDepth 20000 in
theorem gX5_test_J6_bitCount_0f7a4 : GoodIn wsX5_test (va_wsS RX5 137 yJ6_bitCount_0f7a4 wsJ6_bitCount_0f7a4) := goodIn_app (goodIn_of _ (by decide +kernel)) ggX5_test_J6_bitCount_0f7a4
set_option maxRecDepth 20000 in
theorem ggX5_test_X0_answeringAlike : GoodIn wsX5_test wsX0_answeringAlike := goodIn_r _ [58, 59, 9, 60, 61, 62, 57, 63, 64, 65, 66, 67, 68, 69] (by decide +kernel) (by decide +kernel)
set_option maxRecDepth 20000 in
theorem gX5_test_X0_answeringAlike : GoodIn wsX5_test (va_wsS RX5 247 yX0_answeringAlike wsX0_answeringAlike) := goodIn_app (goodIn_of _ (by decide +kernel)) ggX5_test_X0_answeringAlike
theorem dX5_test_0 : decode cX5_test 0 = .ok (.aload_n 0, 1) := by decide +kernel
theorem dX5_test_1 : decode cX5_test 1 = .ok (.iload_n 1, 1) := by decide +kernel
theorem dX5_test_2 : decode cX5_test 2 = .ok (.invokevirtual 241, 3) := by decide +kernel
theorem dX5_test_5 : decode cX5_test 5 = .ok (.istore_n 2, 1) := by decide +kernel
theorem dX5_test_6 : decode cX5_test 6 = .ok (.iload_n 2, 1) := by decide +kernel
theorem dX5_test_7 : decode cX5_test 7 = .ok (.ifCond .eq 5, 3) := by decide +kernel
theorem dX5_test_10 : decode cX5_test 10 = .ok (.iload_n 2, 1) := by decide +kernel
theorem dX5_test_11 : decode cX5_test 11 = .ok (.ireturn, 1) := by decide +kernel
theorem dX5_test_12 : decode cX5_test 12 = .ok (.aload_n 0, 1) := by decide +kernel
theorem dX5_test_13 : decode cX5_test 13 = .ok (.iload_n 1, 1) := by decide +kernel
theorem dX5_test_14 : decode cX5_test 14 = .ok (.invokevirtual 244, 3) := by decide +kernel
theorem dX5_test_17 : decode cX5_test 17 = .ok (.istore_n 3, 1) := by decide +kernel
theorem dX5_test_18 : decode cX5_test 18 = .ok (.iload_n 3, 1) := by decide +kernel
theorem dX5_test_19 : decode cX5_test 19 = .ok (.ifCond .ne 6, 3) := by decide +kernel
theorem dX5_test_22 : decode cX5_test 22 = .ok (.bipush (-9), 2) := by decide +kernel
theorem dX5_test_24 : decode cX5_test 24 = .ok (.ireturn, 1) := by decide +kernel
theorem dX5_test_25 : decode cX5_test 25 = .ok (.iload_n 3, 1) := by decide +kernel
theorem dX5_test_26 : decode cX5_test 26 = .ok (.invokestatic 137, 3) := by decide +kernel
theorem dX5_test_29 : decode cX5_test 29 = .ok (.istore 4, 2) := by decide +kernel
theorem dX5_test_31 : decode cX5_test 31 = .ok (.iload 4, 2) := by decide +kernel
theorem dX5_test_33 : decode cX5_test 33 = .ok (.iconst 1, 1) := by decide +kernel
theorem dX5_test_34 : decode cX5_test 34 = .ok (.iadd, 1) := by decide +kernel
theorem dX5_test_35 : decode cX5_test 35 = .ok (.istore 5, 2) := by decide +kernel
theorem dX5_test_37 : decode cX5_test 37 = .ok (.iconst 2, 1) := by decide +kernel
theorem dX5_test_38 : decode cX5_test 38 = .ok (.istore 6, 2) := by decide +kernel
theorem dX5_test_40 : decode cX5_test 40 = .ok (.iconst 2, 1) := by decide +kernel
theorem dX5_test_41 : decode cX5_test 41 = .ok (.istore 7, 2) := by decide +kernel
theorem dX5_test_43 : decode cX5_test 43 = .ok (.iload 7, 2) := by decide +kernel
theorem dX5_test_45 : decode cX5_test 45 = .ok (.bipush 16, 2) := by decide +kernel
theorem dX5_test_47 : decode cX5_test 47 = .ok (.if_icmp .gt 48, 3) := by decide +kernel
theorem dX5_test_50 : decode cX5_test 50 = .ok (.iload_n 3, 1) := by decide +kernel
theorem dX5_test_51 : decode cX5_test 51 = .ok (.iload 7, 2) := by decide +kernel
theorem dX5_test_53 : decode cX5_test 53 = .ok (.iconst 1, 1) := by decide +kernel
theorem dX5_test_54 : decode cX5_test 54 = .ok (.invokestatic 247, 3) := by decide +kernel
theorem dX5_test_57 : decode cX5_test 57 = .ok (.invokestatic 137, 3) := by decide +kernel
theorem dX5_test_60 : decode cX5_test 60 = .ok (.istore 8, 2) := by decide +kernel
theorem dX5_test_62 : decode cX5_test 62 = .ok (.iload 8, 2) := by decide +kernel
theorem dX5_test_64 : decode cX5_test 64 = .ok (.iload 4, 2) := by decide +kernel
theorem dX5_test_66 : decode cX5_test 66 = .ok (.iload 8, 2) := by decide +kernel
theorem dX5_test_68 : decode cX5_test 68 = .ok (.isub, 1) := by decide +kernel
theorem dX5_test_69 : decode cX5_test 69 = .ok (.invokestatic 251, 3) := by decide +kernel
theorem dX5_test_72 : decode cX5_test 72 = .ok (.istore 9, 2) := by decide +kernel
theorem dX5_test_74 : decode cX5_test 74 = .ok (.iload 9, 2) := by decide +kernel
theorem dX5_test_76 : decode cX5_test 76 = .ok (.iload 5, 2) := by decide +kernel
theorem dX5_test_78 : decode cX5_test 78 = .ok (.if_icmp .ge 11, 3) := by decide +kernel
theorem dX5_test_81 : decode cX5_test 81 = .ok (.iload 9, 2) := by decide +kernel
theorem dX5_test_83 : decode cX5_test 83 = .ok (.istore 5, 2) := by decide +kernel
theorem dX5_test_85 : decode cX5_test 85 = .ok (.iload 7, 2) := by decide +kernel
theorem dX5_test_87 : decode cX5_test 87 = .ok (.istore 6, 2) := by decide +kernel
theorem dX5_test_89 : decode cX5_test 89 = .ok (.iinc 7 1, 3) := by decide +kernel
theorem dX5_test_92 : decode cX5_test 92 = .ok (.goto (-49), 3) := by decide +kernel
theorem dX5_test_95 : decode cX5_test 95 = .ok (.aload_n 0, 1) := by decide +kernel
theorem dX5_test_96 : decode cX5_test 96 = .ok (.iload 5, 2) := by decide +kernel
theorem dX5_test_98 : decode cX5_test 98 = .ok (.putfield 77, 3) := by decide +kernel
theorem dX5_test_101 : decode cX5_test 101 = .ok (.iload 6, 2) := by decide +kernel
theorem dX5_test_103 : decode cX5_test 103 = .ok (.ireturn, 1) := by decide +kernel
set_option maxRecDepth 20000 in
theorem ggX5_duel_X4_isWorker : GoodIn wsX5_duel wsX4_isWorker := goodIn_r _ [6, 7, 98, 99, 100, 101, 102, 103, 104, 105, 106, 107, 108, 109, 110] (by decide +kernel) (by decide +kernel)
set_option maxRecDepth 20000 in
theorem gX5_duel_X4_isWorker : GoodIn wsX5_duel (wsV RX5 119 RX4 yX4_isWorker wsX4_isWorker) := goodIn_app (goodIn_of _ (by decide +kernel)) ggX5_duel_X4_isWorker
set_option maxRecDepth 20000 in
theorem ggX5_duel_X4_sizeOfHad : GoodIn wsX5_duel wsX4_sizeOfHad := goodIn_r _ [11, 12, 13, 14, 15, 5, 16, 17, 18, 19, 98, 99, 100, 101, 102, 103, 104, 105, 106, 107, 108, 109, 110] (by decide +kernel) (by decide +kernel)
set_option maxRecDepth 20000 in
theorem gX5_duel_X4_sizeOfHad : GoodIn wsX5_duel (wsV RX5 256 RX4 yX4_sizeOfHad wsX4_sizeOfHad) := goodIn_app (goodIn_of _ (by decide +kernel)) ggX5_duel_X4_sizeOfHad
set_option maxRecDepth 20000 in
theorem ggX5_duel_X4_gainByTurns : GoodIn wsX5_duel wsX4_gainByTurns := goodIn_r _ [23, 24, 25, 26, 27, 5, 28, 29, 30, 31, 32, 33, 34, 35, 36, 37, 12, 38, 39, 40, 41, 42, 43, 44, 45, 46, 47, 48, 49, 50, 51, 52, 53, 54, 55, 56, 18, 57, 58, 59, 60, 61, 62, 63, 64, 65, 66, 67, 68, 69, 70, 71, 72, 73, 74, 75, 76, 77, 78, 79, 80, 81, 98, 99, 100, 101, 102, 103, 104, 105, 106, 107, 108, 109, 110] (by decide +kernel) (by decide +kernel)
set_option maxRecDepth 20000 in
theorem gX5_duel_X4_gainByTurns : GoodIn wsX5_duel (wsV RX5 259 RX4 yX4_gainByTurns wsX4_gainByTurns) := goodIn_app (goodIn_of _ (by decide +kernel)) ggX5_duel_X4_gainByTurns
set_option maxRecDepth 20000 in
theorem ggX5_duel_J9_floorDiv_7cf53 : GoodIn wsX5_duel wsJ9_floorDiv_7cf53 := goodIn_r _ [85] (by decide +kernel) (by decide +kernel)
set_option maxRecDepth 20000 in
theorem gX5_duel_J9_floorDiv_7cf53 : GoodIn wsX5_duel (va_wsS RX5 263 yJ9_floorDiv_7cf53 wsJ9_floorDiv_7cf53) := goodIn_app (goodIn_of _ (by decide +kernel)) ggX5_duel_J9_floorDiv_7cf53
theorem dX5_duel_0 : decode cX5_duel 0 = .ok (.aload_n 0, 1) := by decide +kernel
theorem dX5_duel_1 : decode cX5_duel 1 = .ok (.getfield 31, 3) := by decide +kernel
theorem dX5_duel_4 : decode cX5_duel 4 = .ok (.iload_n 1, 1) := by decide +kernel
theorem dX5_duel_5 : decode cX5_duel 5 = .ok (.invokevirtual 119, 3) := by decide +kernel
theorem dX5_duel_8 : decode cX5_duel 8 = .ok (.ifCond .eq 28, 3) := by decide +kernel
theorem dX5_duel_11 : decode cX5_duel 11 = .ok (.aload_n 0, 1) := by decide +kernel
theorem dX5_duel_12 : decode cX5_duel 12 = .ok (.getfield 31, 3) := by decide +kernel
theorem dX5_duel_15 : decode cX5_duel 15 = .ok (.iload_n 2, 1) := by decide +kernel
theorem dX5_duel_16 : decode cX5_duel 16 = .ok (.invokevirtual 119, 3) := by decide +kernel
theorem dX5_duel_19 : decode cX5_duel 19 = .ok (.ifCond .eq 17, 3) := by decide +kernel
theorem dX5_duel_22 : decode cX5_duel 22 = .ok (.iload_n 1, 1) := by decide +kernel
theorem dX5_duel_23 : decode cX5_duel 23 = .ok (.iload_n 2, 1) := by decide +kernel
theorem dX5_duel_24 : decode cX5_duel 24 = .ok (.if_icmp .eq 12, 3) := by decide +kernel
theorem dX5_duel_27 : decode cX5_duel 27 = .ok (.iload_n 3, 1) := by decide +kernel
theorem dX5_duel_28 : decode cX5_duel 28 = .ok (.ifCond .lt 8, 3) := by decide +kernel
theorem dX5_duel_31 : decode cX5_duel 31 = .ok (.iload_n 3, 1) := by decide +kernel
theorem dX5_duel_32 : decode cX5_duel 32 = .ok (.iconst 4, 1) := by decide +kernel
theorem dX5_duel_33 : decode cX5_duel 33 = .ok (.if_icmp .le 5, 3) := by decide +kernel
theorem dX5_duel_36 : decode cX5_duel 36 = .ok (.iconst (-1), 1) := by decide +kernel
theorem dX5_duel_37 : decode cX5_duel 37 = .ok (.ireturn, 1) := by decide +kernel
theorem dX5_duel_38 : decode cX5_duel 38 = .ok (.aload_n 0, 1) := by decide +kernel
theorem dX5_duel_39 : decode cX5_duel 39 = .ok (.getfield 31, 3) := by decide +kernel
theorem dX5_duel_42 : decode cX5_duel 42 = .ok (.iload_n 1, 1) := by decide +kernel
theorem dX5_duel_43 : decode cX5_duel 43 = .ok (.invokevirtual 256, 3) := by decide +kernel
theorem dX5_duel_46 : decode cX5_duel 46 = .ok (.aload_n 0, 1) := by decide +kernel
theorem dX5_duel_47 : decode cX5_duel 47 = .ok (.getfield 31, 3) := by decide +kernel
theorem dX5_duel_50 : decode cX5_duel 50 = .ok (.iload_n 2, 1) := by decide +kernel
theorem dX5_duel_51 : decode cX5_duel 51 = .ok (.invokevirtual 256, 3) := by decide +kernel
theorem dX5_duel_54 : decode cX5_duel 54 = .ok (.isub, 1) := by decide +kernel
theorem dX5_duel_55 : decode cX5_duel 55 = .ok (.istore 4, 2) := by decide +kernel
theorem dX5_duel_57 : decode cX5_duel 57 = .ok (.iload 4, 2) := by decide +kernel
theorem dX5_duel_59 : decode cX5_duel 59 = .ok (.aload_n 0, 1) := by decide +kernel
theorem dX5_duel_60 : decode cX5_duel 60 = .ok (.getfield 31, 3) := by decide +kernel
theorem dX5_duel_63 : decode cX5_duel 63 = .ok (.iload_n 1, 1) := by decide +kernel
theorem dX5_duel_64 : decode cX5_duel 64 = .ok (.iload_n 2, 1) := by decide +kernel
theorem dX5_duel_65 : decode cX5_duel 65 = .ok (.iload_n 3, 1) := by decide +kernel
theorem dX5_duel_66 : decode cX5_duel 66 = .ok (.invokevirtual 259, 3) := by decide +kernel
theorem dX5_duel_69 : decode cX5_duel 69 = .ok (.iadd, 1) := by decide +kernel
theorem dX5_duel_70 : decode cX5_duel 70 = .ok (.istore 4, 2) := by decide +kernel
theorem dX5_duel_72 : decode cX5_duel 72 = .ok (.iload 4, 2) := by decide +kernel
theorem dX5_duel_74 : decode cX5_duel 74 = .ok (.sipush 1000, 3) := by decide +kernel
theorem dX5_duel_77 : decode cX5_duel 77 = .ok (.invokestatic 263, 3) := by decide +kernel
theorem dX5_duel_80 : decode cX5_duel 80 = .ok (.sipush 5000, 3) := by decide +kernel
theorem dX5_duel_83 : decode cX5_duel 83 = .ok (.iadd, 1) := by decide +kernel
theorem dX5_duel_84 : decode cX5_duel 84 = .ok (.ireturn, 1) := by decide +kernel
set_option maxRecDepth 20000 in
theorem ggX5_odds_X4_isWorker : GoodIn wsX5_odds wsX4_isWorker := goodIn_r _ [6, 7, 64, 65, 66, 67, 68, 69, 70, 71, 72, 73, 74, 75, 76] (by decide +kernel) (by decide +kernel)
set_option maxRecDepth 20000 in
theorem gX5_odds_X4_isWorker : GoodIn wsX5_odds (wsV RX5 119 RX4 yX4_isWorker wsX4_isWorker) := goodIn_app (goodIn_of _ (by decide +kernel)) ggX5_odds_X4_isWorker
set_option maxRecDepth 20000 in
theorem ggX5_odds_X4_dueOf : GoodIn wsX5_odds wsX4_dueOf := goodIn_r _ [11, 12, 13, 14, 64, 65, 66, 67, 68, 69, 70, 71, 72, 73, 74, 75, 76] (by decide +kernel) (by decide +kernel)
set_option maxRecDepth 20000 in
theorem gX5_odds_X4_dueOf : GoodIn wsX5_odds (wsV RX5 266 RX4 yX4_dueOf wsX4_dueOf) := goodIn_app (goodIn_of _ (by decide +kernel)) ggX5_odds_X4_dueOf
set_option maxRecDepth 20000 in
theorem ggX5_odds_X4_sizeOfHad : GoodIn wsX5_odds wsX4_sizeOfHad := goodIn_r _ [18, 19, 20, 9, 10, 5, 11, 12, 13, 14, 64, 65, 66, 67, 68, 69, 70, 71, 72, 73, 74, 75, 76] (by decide +kernel) (by decide +kernel)
set_option maxRecDepth 20000 in
theorem gX5_odds_X4_sizeOfHad : GoodIn wsX5_odds (wsV RX5 256 RX4 yX4_sizeOfHad wsX4_sizeOfHad) := goodIn_app (goodIn_of _ (by decide +kernel)) ggX5_odds_X4_sizeOfHad
set_option maxRecDepth 20000 in
theorem ggX5_odds_X5_enoughLeft : GoodIn wsX5_odds wsX5_enoughLeft := goodIn_r _ [24, 25, 26, 27, 28, 29, 30, 31, 32, 33, 23, 34, 35, 36, 37, 38, 21, 22, 39, 40, 41, 42] (by decide +kernel) (by decide +kernel)
set_option maxRecDepth 20000 in
theorem gX5_odds_X5_enoughLeft : GoodIn wsX5_odds (va_wsS RX5 269 yX5_enoughLeft wsX5_enoughLeft) := goodIn_app (goodIn_of _ (by decide +kernel)) ggX5_odds_X5_enoughLeft
set_option maxRecDepth 20000 in
theorem ggX5_odds_J6_bitCount_0f7a4 : GoodIn wsX5_odds wsJ6_bitCount_0f7a4 := goodIn_r _ [28, 29, 30, 31] (by decide +kernel) (by decide +kernel)
set_option maxRecDepth 20000 in
theorem gX5_odds_J6_bitCount_0f7a4 : GoodIn wsX5_odds (va_wsS RX5 137 yJ6_bitCount_0f7a4 wsJ6_bitCount_0f7a4) := goodIn_app (goodIn_of _ (by decide +kernel)) ggX5_odds_J6_bitCount_0f7a4
set_option maxRecDepth 20000 in
theorem ggX5_odds_X5_powerOfCrumbles : GoodIn wsX5_odds wsX5_powerOfCrumbles := goodIn_r _ [34, 35] (by decide +kernel) (by decide +kernel)
set_option maxRecDepth 20000 in
theorem gX5_odds_X5_powerOfCrumbles : GoodIn wsX5_odds (va_wsS RX5 273 yX5_powerOfCrumbles wsX5_powerOfCrumbles) := goodIn_app (goodIn_of _ (by decide +kernel)) ggX5_odds_X5_powerOfCrumbles
set_option maxRecDepth 20000 in
theorem ggX5_odds_X5_tellFraction : GoodIn wsX5_odds wsX5_tellFraction := goodIn_r _ [46, 47, 48, 49, 50, 23, 51, 52, 53, 54, 55, 56, 57, 58, 59, 60, 61, 62, 63] (by decide +kernel) (by decide +kernel)
set_option maxRecDepth 20000 in
theorem gX5_odds_X5_tellFraction : GoodIn wsX5_odds (wsV RX5 205 RX5 yX5_tellFraction wsX5_tellFraction) := goodIn_app (goodIn_of _ (by decide +kernel)) ggX5_odds_X5_tellFraction
theorem dX5_odds_0 : decode cX5_odds 0 = .ok (.aload_n 0, 1) := by decide +kernel
theorem dX5_odds_1 : decode cX5_odds 1 = .ok (.getfield 31, 3) := by decide +kernel
theorem dX5_odds_4 : decode cX5_odds 4 = .ok (.iload_n 1, 1) := by decide +kernel
theorem dX5_odds_5 : decode cX5_odds 5 = .ok (.invokevirtual 119, 3) := by decide +kernel
theorem dX5_odds_8 : decode cX5_odds 8 = .ok (.ifCond .eq 13, 3) := by decide +kernel
theorem dX5_odds_11 : decode cX5_odds 11 = .ok (.iload_n 2, 1) := by decide +kernel
theorem dX5_odds_12 : decode cX5_odds 12 = .ok (.ifCond .lt 9, 3) := by decide +kernel
theorem dX5_odds_15 : decode cX5_odds 15 = .ok (.iload_n 2, 1) := by decide +kernel
theorem dX5_odds_16 : decode cX5_odds 16 = .ok (.bipush 12, 2) := by decide +kernel
theorem dX5_odds_18 : decode cX5_odds 18 = .ok (.if_icmp .le 5, 3) := by decide +kernel
theorem dX5_odds_21 : decode cX5_odds 21 = .ok (.iconst (-1), 1) := by decide +kernel
theorem dX5_odds_22 : decode cX5_odds 22 = .ok (.ireturn, 1) := by decide +kernel
theorem dX5_odds_23 : decode cX5_odds 23 = .ok (.aload_n 0, 1) := by decide +kernel
theorem dX5_odds_24 : decode cX5_odds 24 = .ok (.getfield 31, 3) := by decide +kernel
theorem dX5_odds_27 : decode cX5_odds 27 = .ok (.getfield 172, 3) := by decide +kernel
theorem dX5_odds_30 : decode cX5_odds 30 = .ok (.iload_n 1, 1) := by decide +kernel
theorem dX5_odds_31 : decode cX5_odds 31 = .ok (.iaload, 1) := by decide +kernel
theorem dX5_odds_32 : decode cX5_odds 32 = .ok (.istore_n 3, 1) := by decide +kernel
theorem dX5_odds_33 : decode cX5_odds 33 = .ok (.iconst 2, 1) := by decide +kernel
theorem dX5_odds_34 : decode cX5_odds 34 = .ok (.iload_n 3, 1) := by decide +kernel
theorem dX5_odds_35 : decode cX5_odds 35 = .ok (.aload_n 0, 1) := by decide +kernel
theorem dX5_odds_36 : decode cX5_odds 36 = .ok (.getfield 31, 3) := by decide +kernel
theorem dX5_odds_39 : decode cX5_odds 39 = .ok (.iload_n 1, 1) := by decide +kernel
theorem dX5_odds_40 : decode cX5_odds 40 = .ok (.invokevirtual 266, 3) := by decide +kernel
theorem dX5_odds_43 : decode cX5_odds 43 = .ok (.iconst 2, 1) := by decide +kernel
theorem dX5_odds_44 : decode cX5_odds 44 = .ok (.aload_n 0, 1) := by decide +kernel
theorem dX5_odds_45 : decode cX5_odds 45 = .ok (.getfield 31, 3) := by decide +kernel
theorem dX5_odds_48 : decode cX5_odds 48 = .ok (.iload_n 1, 1) := by decide +kernel
theorem dX5_odds_49 : decode cX5_odds 49 = .ok (.invokevirtual 256, 3) := by decide +kernel
theorem dX5_odds_52 : decode cX5_odds 52 = .ok (.imul, 1) := by decide +kernel
theorem dX5_odds_53 : decode cX5_odds 53 = .ok (.iload_n 2, 1) := by decide +kernel
theorem dX5_odds_54 : decode cX5_odds 54 = .ok (.invokestatic 269, 3) := by decide +kernel
theorem dX5_odds_57 : decode cX5_odds 57 = .ok (.lstore 4, 2) := by decide +kernel
theorem dX5_odds_59 : decode cX5_odds 59 = .ok (.aload_n 0, 1) := by decide +kernel
theorem dX5_odds_60 : decode cX5_odds 60 = .ok (.lload 4, 2) := by decide +kernel
theorem dX5_odds_62 : decode cX5_odds 62 = .ok (.iload_n 3, 1) := by decide +kernel
theorem dX5_odds_63 : decode cX5_odds 63 = .ok (.invokestatic 137, 3) := by decide +kernel
theorem dX5_odds_66 : decode cX5_odds 66 = .ok (.invokestatic 273, 3) := by decide +kernel
theorem dX5_odds_69 : decode cX5_odds 69 = .ok (.invokevirtual 205, 3) := by decide +kernel
theorem dX5_odds_72 : decode cX5_odds 72 = .ok (.iconst 1, 1) := by decide +kernel
theorem dX5_odds_73 : decode cX5_odds 73 = .ok (.ireturn, 1) := by decide +kernel
set_option maxRecDepth 20000 in
theorem ggX5_mid_X4_isWorker : GoodIn wsX5_mid wsX4_isWorker := goodIn_r _ [7, 8, 43, 44, 45, 46, 47, 48, 49, 50, 51, 52, 53, 54, 55] (by decide +kernel) (by decide +kernel)
set_option maxRecDepth 20000 in
theorem gX5_mid_X4_isWorker : GoodIn wsX5_mid (wsV RX5 119 RX4 yX4_isWorker wsX4_isWorker) := goodIn_app (goodIn_of _ (by decide +kernel)) ggX5_mid_X4_isWorker
set_option maxRecDepth 20000 in
theorem ggX5_mid_X4_sizeOfHad : GoodIn wsX5_mid wsX4_sizeOfHad := goodIn_r _ [12, 13, 14, 15, 16, 6, 17, 18, 19, 20, 43, 44, 45, 46, 47, 48, 49, 50, 51, 52, 53, 54, 55] (by decide +kernel) (by decide +kernel)
set_option maxRecDepth 20000 in
theorem gX5_mid_X4_sizeOfHad : GoodIn wsX5_mid (wsV RX5 256 RX4 yX4_sizeOfHad wsX4_sizeOfHad) := goodIn_app (goodIn_of _ (by decide +kernel)) ggX5_mid_X4_sizeOfHad
set_option maxRecDepth 20000 in
theorem ggX5_mid_X5_tellFraction : GoodIn wsX5_mid wsX5_tellFraction := goodIn_r _ [25, 26, 27, 28, 29, 24, 30, 31, 32, 33, 34, 35, 36, 37, 38, 39, 40, 41, 42] (by decide +kernel) (by decide +kernel)
set_option maxRecDepth 20000 in
theorem gX5_mid_X5_tellFraction : GoodIn wsX5_mid (wsV RX5 205 RX5 yX5_tellFraction wsX5_tellFraction) := goodIn_app (goodIn_of _ (by decide +kernel)) ggX5_mid_X5_tellFraction
theorem dX5_mid_0 : decode cX5_mid 0 = .ok (.aload_n 0, 1) := by decide +kernel
theorem dX5_mid_1 : decode cX5_mid 1 = .ok (.getfield 31, 3) := by decide +kernel
theorem dX5_mid_4 : decode cX5_mid 4 = .ok (.iload_n 1, 1) := by decide +kernel
theorem dX5_mid_5 : decode cX5_mid 5 = .ok (.invokevirtual 119, 3) := by decide +kernel
theorem dX5_mid_8 : decode cX5_mid 8 = .ok (.ifCond .eq 13, 3) := by decide +kernel
theorem dX5_mid_11 : decode cX5_mid 11 = .ok (.iload_n 2, 1) := by decide +kernel
theorem dX5_mid_12 : decode cX5_mid 12 = .ok (.ifCond .lt 9, 3) := by decide +kernel
theorem dX5_mid_15 : decode cX5_mid 15 = .ok (.iload_n 2, 1) := by decide +kernel
theorem dX5_mid_16 : decode cX5_mid 16 = .ok (.bipush 12, 2) := by decide +kernel
theorem dX5_mid_18 : decode cX5_mid 18 = .ok (.if_icmp .le 5, 3) := by decide +kernel
theorem dX5_mid_21 : decode cX5_mid 21 = .ok (.iconst (-1), 1) := by decide +kernel
theorem dX5_mid_22 : decode cX5_mid 22 = .ok (.ireturn, 1) := by decide +kernel
theorem dX5_mid_23 : decode cX5_mid 23 = .ok (.aload_n 0, 1) := by decide +kernel
theorem dX5_mid_24 : decode cX5_mid 24 = .ok (.aload_n 0, 1) := by decide +kernel
theorem dX5_mid_25 : decode cX5_mid 25 = .ok (.getfield 31, 3) := by decide +kernel
theorem dX5_mid_28 : decode cX5_mid 28 = .ok (.iload_n 1, 1) := by decide +kernel
theorem dX5_mid_29 : decode cX5_mid 29 = .ok (.invokevirtual 256, 3) := by decide +kernel
theorem dX5_mid_32 : decode cX5_mid 32 = .ok (.i2l, 1) := by decide +kernel
theorem dX5_mid_33 : decode cX5_mid 33 = .ok (.bipush 12, 2) := by decide +kernel
theorem dX5_mid_35 : decode cX5_mid 35 = .ok (.iload_n 2, 1) := by decide +kernel
theorem dX5_mid_36 : decode cX5_mid 36 = .ok (.isub, 1) := by decide +kernel
theorem dX5_mid_37 : decode cX5_mid 37 = .ok (.i2l, 1) := by decide +kernel
theorem dX5_mid_38 : decode cX5_mid 38 = .ok (.lmul, 1) := by decide +kernel
theorem dX5_mid_39 : decode cX5_mid 39 = .ok (.ldc2_w 277, 3) := by decide +kernel
theorem dX5_mid_42 : decode cX5_mid 42 = .ok (.invokevirtual 205, 3) := by decide +kernel
theorem dX5_mid_45 : decode cX5_mid 45 = .ok (.iconst 1, 1) := by decide +kernel
theorem dX5_mid_46 : decode cX5_mid 46 = .ok (.ireturn, 1) := by decide +kernel
set_option maxRecDepth 20000 in
theorem ggX5_lots_X4_hasRoomFor : GoodIn wsX5_lots wsX4_hasRoomFor := goodIn_r _ [9, 10, 114, 115, 116, 117, 118, 119, 120, 121, 122, 123, 124, 125, 126] (by decide +kernel) (by decide +kernel)
set_option maxRecDepth 20000 in
theorem gX5_lots_X4_hasRoomFor : GoodIn wsX5_lots (wsV RX5 157 RX4 yX4_hasRoomFor wsX4_hasRoomFor) := goodIn_app (goodIn_of _ (by decide +kernel)) ggX5_lots_X4_hasRoomFor
set_option maxRecDepth 20000 in
theorem ggX5_lots_X4_deedByLot : GoodIn wsX5_lots wsX4_deedByLot := goodIn_r _ [14, 15, 16, 17, 18, 8, 19, 20, 21, 22, 23, 24, 25, 26, 27, 28, 29, 30, 31, 32, 33, 34, 10, 35, 36, 37, 38, 39, 40, 41, 42, 43, 44, 45, 46, 47, 48, 49, 50, 51, 52, 53, 54, 55, 56, 57, 58, 59, 60, 61, 62, 63, 64, 65, 66, 67, 68, 69, 70, 71, 72, 73, 74, 75, 76, 77, 78, 79, 80, 81, 82, 83, 84, 85, 86, 87, 88, 89, 90, 91, 92, 93, 94, 95, 96, 97, 114, 115, 116, 117, 118, 119, 120, 121, 122, 123, 124, 125, 126] (by decide +kernel) (by decide +kernel)
set_option maxRecDepth 20000 in
theorem gX5_lots_X4_deedByLot : GoodIn wsX5_lots (wsV RX5 284 RX4 yX4_deedByLot wsX4_deedByLot) := goodIn_app (goodIn_of _ (by decide +kernel)) ggX5_lots_X4_deedByLot
set_option maxRecDepth 20000 in
theorem ggX5_lots_X4_lyingInAll : GoodIn wsX5_lots wsX4_lyingInAll := goodIn_r _ [101, 29, 114, 115, 116, 117, 118, 119, 120, 121, 122, 123, 124, 125, 126] (by decide +kernel) (by decide +kernel)
set_option maxRecDepth 20000 in
theorem gX5_lots_X4_lyingInAll : GoodIn wsX5_lots (wsV RX5 287 RX4 yX4_lyingInAll wsX4_lyingInAll) := goodIn_app (goodIn_of _ (by decide +kernel)) ggX5_lots_X4_lyingInAll
theorem dX5_lots_0 : decode cX5_lots 0 = .ok (.iload_n 1, 1) := by decide +kernel
theorem dX5_lots_1 : decode cX5_lots 1 = .ok (.iconst 1, 1) := by decide +kernel
theorem dX5_lots_2 : decode cX5_lots 2 = .ok (.if_icmp .lt 21, 3) := by decide +kernel
theorem dX5_lots_5 : decode cX5_lots 5 = .ok (.iload_n 1, 1) := by decide +kernel
theorem dX5_lots_6 : decode cX5_lots 6 = .ok (.bipush 20, 2) := by decide +kernel
theorem dX5_lots_8 : decode cX5_lots 8 = .ok (.if_icmp .gt 15, 3) := by decide +kernel
theorem dX5_lots_11 : decode cX5_lots 11 = .ok (.iload_n 2, 1) := by decide +kernel
theorem dX5_lots_12 : decode cX5_lots 12 = .ok (.iconst 1, 1) := by decide +kernel
theorem dX5_lots_13 : decode cX5_lots 13 = .ok (.if_icmp .lt 10, 3) := by decide +kernel
theorem dX5_lots_16 : decode cX5_lots 16 = .ok (.iload_n 2, 1) := by decide +kernel
theorem dX5_lots_17 : decode cX5_lots 17 = .ok (.ldc_w 279, 3) := by decide +kernel
theorem dX5_lots_20 : decode cX5_lots 20 = .ok (.if_icmp .lt 5, 3) := by decide +kernel
theorem dX5_lots_23 : decode cX5_lots 23 = .ok (.iconst (-1), 1) := by decide +kernel
theorem dX5_lots_24 : decode cX5_lots 24 = .ok (.ireturn, 1) := by decide +kernel
theorem dX5_lots_25 : decode cX5_lots 25 = .ok (.aload_n 0, 1) := by decide +kernel
theorem dX5_lots_26 : decode cX5_lots 26 = .ok (.getfield 31, 3) := by decide +kernel
theorem dX5_lots_29 : decode cX5_lots 29 = .ok (.getfield 116, 3) := by decide +kernel
theorem dX5_lots_32 : decode cX5_lots 32 = .ok (.ifCond .ne 6, 3) := by decide +kernel
theorem dX5_lots_35 : decode cX5_lots 35 = .ok (.bipush (-4), 2) := by decide +kernel
theorem dX5_lots_37 : decode cX5_lots 37 = .ok (.ireturn, 1) := by decide +kernel
theorem dX5_lots_38 : decode cX5_lots 38 = .ok (.aload_n 0, 1) := by decide +kernel
theorem dX5_lots_39 : decode cX5_lots 39 = .ok (.getfield 31, 3) := by decide +kernel
theorem dX5_lots_42 : decode cX5_lots 42 = .ok (.iload_n 1, 1) := by decide +kernel
theorem dX5_lots_43 : decode cX5_lots 43 = .ok (.invokevirtual 157, 3) := by decide +kernel
theorem dX5_lots_46 : decode cX5_lots 46 = .ok (.ifCond .ne 6, 3) := by decide +kernel
theorem dX5_lots_49 : decode cX5_lots 49 = .ok (.bipush (-2), 2) := by decide +kernel
theorem dX5_lots_51 : decode cX5_lots 51 = .ok (.ireturn, 1) := by decide +kernel
theorem dX5_lots_52 : decode cX5_lots 52 = .ok (.iload_n 2, 1) := by decide +kernel
theorem dX5_lots_53 : decode cX5_lots 53 = .ok (.i2l, 1) := by decide +kernel
theorem dX5_lots_54 : decode cX5_lots 54 = .ok (.lstore_n 3, 1) := by decide +kernel
theorem dX5_lots_55 : decode cX5_lots 55 = .ok (.iconst 0, 1) := by decide +kernel
theorem dX5_lots_56 : decode cX5_lots 56 = .ok (.istore 5, 2) := by decide +kernel
theorem dX5_lots_58 : decode cX5_lots 58 = .ok (.iload 5, 2) := by decide +kernel
theorem dX5_lots_60 : decode cX5_lots 60 = .ok (.iload_n 1, 1) := by decide +kernel
theorem dX5_lots_61 : decode cX5_lots 61 = .ok (.if_icmp .ge 28, 3) := by decide +kernel
theorem dX5_lots_64 : decode cX5_lots 64 = .ok (.lload_n 3, 1) := by decide +kernel
theorem dX5_lots_65 : decode cX5_lots 65 = .ok (.ldc2_w 280, 3) := by decide +kernel
theorem dX5_lots_68 : decode cX5_lots 68 = .ok (.lmul, 1) := by decide +kernel
theorem dX5_lots_69 : decode cX5_lots 69 = .ok (.ldc2_w 282, 3) := by decide +kernel
theorem dX5_lots_72 : decode cX5_lots 72 = .ok (.lrem, 1) := by decide +kernel
theorem dX5_lots_73 : decode cX5_lots 73 = .ok (.lstore_n 3, 1) := by decide +kernel
theorem dX5_lots_74 : decode cX5_lots 74 = .ok (.aload_n 0, 1) := by decide +kernel
theorem dX5_lots_75 : decode cX5_lots 75 = .ok (.getfield 31, 3) := by decide +kernel
theorem dX5_lots_78 : decode cX5_lots 78 = .ok (.lload_n 3, 1) := by decide +kernel
theorem dX5_lots_79 : decode cX5_lots 79 = .ok (.l2i, 1) := by decide +kernel
theorem dX5_lots_80 : decode cX5_lots 80 = .ok (.invokevirtual 284, 3) := by decide +kernel
theorem dX5_lots_83 : decode cX5_lots 83 = .ok (.iinc 5 1, 3) := by decide +kernel
theorem dX5_lots_86 : decode cX5_lots 86 = .ok (.goto (-28), 3) := by decide +kernel
theorem dX5_lots_89 : decode cX5_lots 89 = .ok (.aload_n 0, 1) := by decide +kernel
theorem dX5_lots_90 : decode cX5_lots 90 = .ok (.getfield 31, 3) := by decide +kernel
theorem dX5_lots_93 : decode cX5_lots 93 = .ok (.invokevirtual 287, 3) := by decide +kernel
theorem dX5_lots_96 : decode cX5_lots 96 = .ok (.ireturn, 1) := by decide +kernel
theorem dX5_asked_0 : decode cX5_asked 0 = .ok (.aload_n 0, 1) := by decide +kernel
theorem dX5_asked_1 : decode cX5_asked 1 = .ok (.getfield 77, 3) := by decide +kernel
theorem dX5_asked_4 : decode cX5_asked 4 = .ok (.ireturn, 1) := by decide +kernel
theorem dX5_upper_0 : decode cX5_upper 0 = .ok (.aload_n 0, 1) := by decide +kernel
theorem dX5_upper_1 : decode cX5_upper 1 = .ok (.getfield 290, 3) := by decide +kernel
theorem dX5_upper_4 : decode cX5_upper 4 = .ok (.lreturn, 1) := by decide +kernel
theorem dX5_lower_0 : decode cX5_lower 0 = .ok (.aload_n 0, 1) := by decide +kernel
theorem dX5_lower_1 : decode cX5_lower 1 = .ok (.getfield 53, 3) := by decide +kernel
theorem dX5_lower_4 : decode cX5_lower 4 = .ok (.lreturn, 1) := by decide +kernel
set_option maxRecDepth 20000 in
theorem ggX5_count_X4_lyingInAll : GoodIn wsX5_count wsX4_lyingInAll := goodIn_r _ [8, 9, 73, 74, 75, 76, 77, 78, 79, 80, 81, 82, 83, 84, 85] (by decide +kernel) (by decide +kernel)
set_option maxRecDepth 20000 in
theorem gX5_count_X4_lyingInAll : GoodIn wsX5_count (wsV RX5 287 RX4 yX4_lyingInAll wsX4_lyingInAll) := goodIn_app (goodIn_of _ (by decide +kernel)) ggX5_count_X4_lyingInAll
set_option maxRecDepth 20000 in
theorem ggX5_count_X4_hadInAll : GoodIn wsX5_count wsX4_hadInAll := goodIn_r _ [13, 14, 15, 16, 17, 18, 19, 20, 21, 22, 73, 74, 75, 76, 77, 78, 79, 80, 81, 82, 83, 84, 85] (by decide +kernel) (by decide +kernel)
set_option maxRecDepth 20000 in
theorem gX5_count_X4_hadInAll : GoodIn wsX5_count (wsV RX5 293 RX4 yX4_hadInAll wsX4_hadInAll) := goodIn_app (goodIn_of _ (by decide +kernel)) ggX5_count_X4_hadInAll
set_option maxRecDepth 20000 in
theorem ggX5_count_X4_paidSet : GoodIn wsX5_count wsX4_paidSet := goodIn_r _ [26, 14, 27, 73, 74, 75, 76, 77, 78, 79, 80, 81, 82, 83, 84, 85] (by decide +kernel) (by decide +kernel)
set_option maxRecDepth 20000 in
theorem gX5_count_X4_paidSet : GoodIn wsX5_count (wsV RX5 296 RX4 yX4_paidSet wsX4_paidSet) := goodIn_app (goodIn_of _ (by decide +kernel)) ggX5_count_X4_paidSet
set_option maxRecDepth 20000 in
theorem ggX5_count_X3_howMany : GoodIn wsX5_count wsX3_howMany := goodIn_r _ [32, 33, 34, 35, 36, 31, 37, 38, 39, 40, 41, 42, 43, 44, 45, 86, 87, 88] (by decide +kernel) (by decide +kernel)
set_option maxRecDepth 20000 in
theorem gX5_count_X3_howMany : GoodIn wsX5_count (wsV RX5 299 RX3 yX3_howMany wsX3_howMany) := goodIn_app (goodIn_of _ (by decide +kernel)) ggX5_count_X3_howMany
set_option maxRecDepth 20000 in
theorem ggX5_count_X5_keptTables : GoodIn wsX5_count wsX5_keptTables := goodIn_r _ [50, 51, 61, 62, 63, 64, 65, 66, 67, 68, 69, 70, 71, 72, 73, 74, 75, 76, 77, 78, 79, 80, 81, 82, 83, 84, 85] (by decide +kernel) (by decide +kernel)
set_option maxRecDepth 20000 in
theorem gX5_count_X5_keptTables : GoodIn wsX5_count (wsV RX5 302 RX5 yX5_keptTables wsX5_keptTables) := goodIn_app (goodIn_of _ (by decide +kernel)) ggX5_count_X5_keptTables
set_option maxRecDepth 20000 in
theorem ggX5_count_X4_howManyOf : GoodIn wsX5_count wsX4_howManyOf := goodIn_r _ [55, 14, 56, 57, 58, 59, 60, 73, 74, 75, 76, 77, 78, 79, 80, 81, 82, 83, 84, 85] (by decide +kernel) (by decide +kernel)
set_option maxRecDepth 20000 in
theorem gX5_count_X4_howManyOf : GoodIn wsX5_count (wsV RX5 305 RX4 yX4_howManyOf wsX4_howManyOf) := goodIn_app (goodIn_of _ (by decide +kernel)) ggX5_count_X4_howManyOf
theorem dX5_count_0 : decode cX5_count 0 = .ok (.iload_n 1, 1) := by decide +kernel
theorem dX5_count_1 : decode cX5_count 1 = .ok (.tableswitch 158 0 11 #[63, 71, 79, 87, 95, 103, 111, 119, 127, 135, 140, 149], 63) := by decide +kernel
theorem dX5_count_64 : decode cX5_count 64 = .ok (.aload_n 0, 1) := by decide +kernel
theorem dX5_count_65 : decode cX5_count 65 = .ok (.getfield 31, 3) := by decide +kernel
theorem dX5_count_68 : decode cX5_count 68 = .ok (.getfield 116, 3) := by decide +kernel
theorem dX5_count_71 : decode cX5_count 71 = .ok (.ireturn, 1) := by decide +kernel
theorem dX5_count_72 : decode cX5_count 72 = .ok (.aload_n 0, 1) := by decide +kernel
theorem dX5_count_73 : decode cX5_count 73 = .ok (.getfield 31, 3) := by decide +kernel
theorem dX5_count_76 : decode cX5_count 76 = .ok (.getfield 187, 3) := by decide +kernel
theorem dX5_count_79 : decode cX5_count 79 = .ok (.ireturn, 1) := by decide +kernel
theorem dX5_count_80 : decode cX5_count 80 = .ok (.aload_n 0, 1) := by decide +kernel
theorem dX5_count_81 : decode cX5_count 81 = .ok (.getfield 31, 3) := by decide +kernel
theorem dX5_count_84 : decode cX5_count 84 = .ok (.getfield 190, 3) := by decide +kernel
theorem dX5_count_87 : decode cX5_count 87 = .ok (.ireturn, 1) := by decide +kernel
theorem dX5_count_88 : decode cX5_count 88 = .ok (.aload_n 0, 1) := by decide +kernel
theorem dX5_count_89 : decode cX5_count 89 = .ok (.getfield 31, 3) := by decide +kernel
theorem dX5_count_92 : decode cX5_count 92 = .ok (.invokevirtual 287, 3) := by decide +kernel
theorem dX5_count_95 : decode cX5_count 95 = .ok (.ireturn, 1) := by decide +kernel
theorem dX5_count_96 : decode cX5_count 96 = .ok (.aload_n 0, 1) := by decide +kernel
theorem dX5_count_97 : decode cX5_count 97 = .ok (.getfield 31, 3) := by decide +kernel
theorem dX5_count_100 : decode cX5_count 100 = .ok (.invokevirtual 293, 3) := by decide +kernel
theorem dX5_count_103 : decode cX5_count 103 = .ok (.ireturn, 1) := by decide +kernel
theorem dX5_count_104 : decode cX5_count 104 = .ok (.aload_n 0, 1) := by decide +kernel
theorem dX5_count_105 : decode cX5_count 105 = .ok (.getfield 31, 3) := by decide +kernel
theorem dX5_count_108 : decode cX5_count 108 = .ok (.invokevirtual 296, 3) := by decide +kernel
theorem dX5_count_111 : decode cX5_count 111 = .ok (.ireturn, 1) := by decide +kernel
theorem dX5_count_112 : decode cX5_count 112 = .ok (.aload_n 0, 1) := by decide +kernel
theorem dX5_count_113 : decode cX5_count 113 = .ok (.getfield 31, 3) := by decide +kernel
theorem dX5_count_116 : decode cX5_count 116 = .ok (.getfield 142, 3) := by decide +kernel
theorem dX5_count_119 : decode cX5_count 119 = .ok (.ireturn, 1) := by decide +kernel
theorem dX5_count_120 : decode cX5_count 120 = .ok (.aload_n 0, 1) := by decide +kernel
theorem dX5_count_121 : decode cX5_count 121 = .ok (.getfield 14, 3) := by decide +kernel
theorem dX5_count_124 : decode cX5_count 124 = .ok (.invokevirtual 299, 3) := by decide +kernel
theorem dX5_count_127 : decode cX5_count 127 = .ok (.ireturn, 1) := by decide +kernel
theorem dX5_count_128 : decode cX5_count 128 = .ok (.aload_n 0, 1) := by decide +kernel
theorem dX5_count_129 : decode cX5_count 129 = .ok (.getfield 18, 3) := by decide +kernel
theorem dX5_count_132 : decode cX5_count 132 = .ok (.invokevirtual 299, 3) := by decide +kernel
theorem dX5_count_135 : decode cX5_count 135 = .ok (.ireturn, 1) := by decide +kernel
theorem dX5_count_136 : decode cX5_count 136 = .ok (.aload_n 0, 1) := by decide +kernel
theorem dX5_count_137 : decode cX5_count 137 = .ok (.invokevirtual 302, 3) := by decide +kernel
theorem dX5_count_140 : decode cX5_count 140 = .ok (.ireturn, 1) := by decide +kernel
theorem dX5_count_141 : decode cX5_count 141 = .ok (.aload_n 0, 1) := by decide +kernel
theorem dX5_count_142 : decode cX5_count 142 = .ok (.getfield 31, 3) := by decide +kernel
theorem dX5_count_145 : decode cX5_count 145 = .ok (.iconst 1, 1) := by decide +kernel
theorem dX5_count_146 : decode cX5_count 146 = .ok (.invokevirtual 305, 3) := by decide +kernel
theorem dX5_count_149 : decode cX5_count 149 = .ok (.ireturn, 1) := by decide +kernel
theorem dX5_count_150 : decode cX5_count 150 = .ok (.aload_n 0, 1) := by decide +kernel
theorem dX5_count_151 : decode cX5_count 151 = .ok (.getfield 31, 3) := by decide +kernel
theorem dX5_count_154 : decode cX5_count 154 = .ok (.iconst 3, 1) := by decide +kernel
theorem dX5_count_155 : decode cX5_count 155 = .ok (.invokevirtual 305, 3) := by decide +kernel
theorem dX5_count_158 : decode cX5_count 158 = .ok (.ireturn, 1) := by decide +kernel
theorem dX5_count_159 : decode cX5_count 159 = .ok (.iconst (-1), 1) := by decide +kernel
theorem dX5_count_160 : decode cX5_count 160 = .ok (.ireturn, 1) := by decide +kernel
theorem dX5_finding_0 : decode cX5_finding 0 = .ok (.aload_n 0, 1) := by decide +kernel
theorem dX5_finding_1 : decode cX5_finding 1 = .ok (.getfield 308, 3) := by decide +kernel
theorem dX5_finding_4 : decode cX5_finding 4 = .ok (.ireturn, 1) := by decide +kernel
theorem dX5_findings_0 : decode cX5_findings 0 = .ok (.iload_n 1, 1) := by decide +kernel
theorem dX5_findings_1 : decode cX5_findings 1 = .ok (.iconst 1, 1) := by decide +kernel
theorem dX5_findings_2 : decode cX5_findings 2 = .ok (.if_icmp .lt 8, 3) := by decide +kernel
theorem dX5_findings_5 : decode cX5_findings 5 = .ok (.iload_n 1, 1) := by decide +kernel
theorem dX5_findings_6 : decode cX5_findings 6 = .ok (.iconst 5, 1) := by decide +kernel
theorem dX5_findings_7 : decode cX5_findings 7 = .ok (.if_icmp .le 7, 3) := by decide +kernel
theorem dX5_findings_10 : decode cX5_findings 10 = .ok (.iconst (-1), 1) := by decide +kernel
theorem dX5_findings_11 : decode cX5_findings 11 = .ok (.goto 9, 3) := by decide +kernel
theorem dX5_findings_14 : decode cX5_findings 14 = .ok (.aload_n 0, 1) := by decide +kernel
theorem dX5_findings_15 : decode cX5_findings 15 = .ok (.getfield 50, 3) := by decide +kernel
theorem dX5_findings_18 : decode cX5_findings 18 = .ok (.iload_n 1, 1) := by decide +kernel
theorem dX5_findings_19 : decode cX5_findings 19 = .ok (.iaload, 1) := by decide +kernel
theorem dX5_findings_20 : decode cX5_findings 20 = .ok (.ireturn, 1) := by decide +kernel
set_option maxRecDepth 20000 in
theorem ggX5_digest_X5_count : GoodIn wsX5_digest wsX5_count := goodIn_r _ [11, 3, 6, 5, 12, 13, 14, 15, 16, 17, 18, 19, 20, 21, 22, 23, 24, 25, 26, 27, 28, 29, 30, 31, 32, 33, 34, 35, 36, 37, 38, 39, 40, 41, 42, 43, 44, 45, 46, 47, 48, 49, 50, 51, 52, 53, 54, 55, 56, 10, 57, 4, 58, 59, 60, 61, 62, 63, 64, 65, 66, 115, 116, 117, 118, 119, 120, 121, 122, 123, 124, 125, 126, 127, 128, 129, 130, 131, 132, 133, 134, 135, 136, 137, 138, 139, 140, 141, 142] (by decide +kernel) (by decide +kernel)
set_option maxRecDepth 20000 in
theorem gX5_digest_X5_count : GoodIn wsX5_digest (wsV RX5 315 RX5 yX5_count wsX5_count) := goodIn_app (goodIn_of _ (by decide +kernel)) ggX5_digest_X5_count
set_option maxRecDepth 20000 in
theorem ggX5_digest_X4_factOf : GoodIn wsX5_digest wsX4_factOf := goodIn_r _ [70, 62, 71, 72, 23, 35, 73, 74, 75, 15, 76, 77, 78, 79, 80, 81, 82, 83, 65, 84, 85, 86, 87, 88, 89, 90, 91, 92, 93, 94, 95, 96, 97, 98, 99, 127, 128, 129, 130, 131, 132, 133, 134, 135, 136, 137, 138, 139] (by decide +kernel) (by decide +kernel)
set_option maxRecDepth 20000 in
theorem gX5_digest_X4_factOf : GoodIn wsX5_digest (wsV RX5 122 RX4 yX4_factOf wsX4_factOf) := goodIn_app (goodIn_of _ (by decide +kernel)) ggX5_digest_X4_factOf
set_option maxRecDepth 20000 in
theorem ggX5_digest_X3_addTo : GoodIn wsX5_digest wsX3_addTo := goodIn_r _ [103, 41, 104, 105, 106, 107, 39, 108, 109, 110, 111, 112, 113, 114, 50, 51, 52, 53, 140, 141, 142] (by decide +kernel) (by decide +kernel)
set_option maxRecDepth 20000 in
theorem gX5_digest_X3_addTo : GoodIn wsX5_digest (wsV RX5 318 RX3 yX3_addTo wsX3_addTo) := goodIn_app (goodIn_of _ (by decide +kernel)) ggX5_digest_X3_addTo
theorem dX5_digest_0 : decode cX5_digest 0 = .ok (.ldc2_w 311, 3) := by decide +kernel
theorem dX5_digest_3 : decode cX5_digest 3 = .ok (.lstore_n 1, 1) := by decide +kernel
theorem dX5_digest_4 : decode cX5_digest 4 = .ok (.iconst 0, 1) := by decide +kernel
theorem dX5_digest_5 : decode cX5_digest 5 = .ok (.istore_n 3, 1) := by decide +kernel
theorem dX5_digest_6 : decode cX5_digest 6 = .ok (.iload_n 3, 1) := by decide +kernel
theorem dX5_digest_7 : decode cX5_digest 7 = .ok (.bipush 12, 2) := by decide +kernel
theorem dX5_digest_9 : decode cX5_digest 9 = .ok (.if_icmp .ge 22, 3) := by decide +kernel
theorem dX5_digest_12 : decode cX5_digest 12 = .ok (.ldc2_w 313, 3) := by decide +kernel
theorem dX5_digest_15 : decode cX5_digest 15 = .ok (.lload_n 1, 1) := by decide +kernel
theorem dX5_digest_16 : decode cX5_digest 16 = .ok (.lmul, 1) := by decide +kernel
theorem dX5_digest_17 : decode cX5_digest 17 = .ok (.aload_n 0, 1) := by decide +kernel
theorem dX5_digest_18 : decode cX5_digest 18 = .ok (.iload_n 3, 1) := by decide +kernel
theorem dX5_digest_19 : decode cX5_digest 19 = .ok (.invokevirtual 315, 3) := by decide +kernel
theorem dX5_digest_22 : decode cX5_digest 22 = .ok (.i2l, 1) := by decide +kernel
theorem dX5_digest_23 : decode cX5_digest 23 = .ok (.ladd, 1) := by decide +kernel
theorem dX5_digest_24 : decode cX5_digest 24 = .ok (.lstore_n 1, 1) := by decide +kernel
theorem dX5_digest_25 : decode cX5_digest 25 = .ok (.iinc 3 1, 3) := by decide +kernel
theorem dX5_digest_28 : decode cX5_digest 28 = .ok (.goto (-22), 3) := by decide +kernel
theorem dX5_digest_31 : decode cX5_digest 31 = .ok (.iconst 0, 1) := by decide +kernel
theorem dX5_digest_32 : decode cX5_digest 32 = .ok (.istore_n 3, 1) := by decide +kernel
theorem dX5_digest_33 : decode cX5_digest 33 = .ok (.iload_n 3, 1) := by decide +kernel
theorem dX5_digest_34 : decode cX5_digest 34 = .ok (.aload_n 0, 1) := by decide +kernel
theorem dX5_digest_35 : decode cX5_digest 35 = .ok (.getfield 31, 3) := by decide +kernel
theorem dX5_digest_38 : decode cX5_digest 38 = .ok (.getfield 116, 3) := by decide +kernel
theorem dX5_digest_41 : decode cX5_digest 41 = .ok (.if_icmp .ge 43, 3) := by decide +kernel
theorem dX5_digest_44 : decode cX5_digest 44 = .ok (.iconst 0, 1) := by decide +kernel
theorem dX5_digest_45 : decode cX5_digest 45 = .ok (.istore 4, 2) := by decide +kernel
theorem dX5_digest_47 : decode cX5_digest 47 = .ok (.iload 4, 2) := by decide +kernel
theorem dX5_digest_49 : decode cX5_digest 49 = .ok (.bipush 6, 2) := by decide +kernel
theorem dX5_digest_51 : decode cX5_digest 51 = .ok (.if_icmp .ge 27, 3) := by decide +kernel
theorem dX5_digest_54 : decode cX5_digest 54 = .ok (.ldc2_w 313, 3) := by decide +kernel
theorem dX5_digest_57 : decode cX5_digest 57 = .ok (.lload_n 1, 1) := by decide +kernel
theorem dX5_digest_58 : decode cX5_digest 58 = .ok (.lmul, 1) := by decide +kernel
theorem dX5_digest_59 : decode cX5_digest 59 = .ok (.aload_n 0, 1) := by decide +kernel
theorem dX5_digest_60 : decode cX5_digest 60 = .ok (.getfield 31, 3) := by decide +kernel
theorem dX5_digest_63 : decode cX5_digest 63 = .ok (.iload_n 3, 1) := by decide +kernel
theorem dX5_digest_64 : decode cX5_digest 64 = .ok (.iload 4, 2) := by decide +kernel
theorem dX5_digest_66 : decode cX5_digest 66 = .ok (.invokevirtual 122, 3) := by decide +kernel
theorem dX5_digest_69 : decode cX5_digest 69 = .ok (.i2l, 1) := by decide +kernel
theorem dX5_digest_70 : decode cX5_digest 70 = .ok (.ladd, 1) := by decide +kernel
theorem dX5_digest_71 : decode cX5_digest 71 = .ok (.lstore_n 1, 1) := by decide +kernel
theorem dX5_digest_72 : decode cX5_digest 72 = .ok (.iinc 4 1, 3) := by decide +kernel
theorem dX5_digest_75 : decode cX5_digest 75 = .ok (.goto (-28), 3) := by decide +kernel
theorem dX5_digest_78 : decode cX5_digest 78 = .ok (.iinc 3 1, 3) := by decide +kernel
theorem dX5_digest_81 : decode cX5_digest 81 = .ok (.goto (-48), 3) := by decide +kernel
theorem dX5_digest_84 : decode cX5_digest 84 = .ok (.iconst 2, 1) := by decide +kernel
theorem dX5_digest_85 : decode cX5_digest 85 = .ok (.istore_n 3, 1) := by decide +kernel
theorem dX5_digest_86 : decode cX5_digest 86 = .ok (.iload_n 3, 1) := by decide +kernel
theorem dX5_digest_87 : decode cX5_digest 87 = .ok (.bipush 16, 2) := by decide +kernel
theorem dX5_digest_89 : decode cX5_digest 89 = .ok (.if_icmp .gt 26, 3) := by decide +kernel
theorem dX5_digest_92 : decode cX5_digest 92 = .ok (.ldc2_w 313, 3) := by decide +kernel
theorem dX5_digest_95 : decode cX5_digest 95 = .ok (.lload_n 1, 1) := by decide +kernel
theorem dX5_digest_96 : decode cX5_digest 96 = .ok (.lmul, 1) := by decide +kernel
theorem dX5_digest_97 : decode cX5_digest 97 = .ok (.aload_n 0, 1) := by decide +kernel
theorem dX5_digest_98 : decode cX5_digest 98 = .ok (.getfield 31, 3) := by decide +kernel
theorem dX5_digest_101 : decode cX5_digest 101 = .ok (.getfield 163, 3) := by decide +kernel
theorem dX5_digest_104 : decode cX5_digest 104 = .ok (.iload_n 3, 1) := by decide +kernel
theorem dX5_digest_105 : decode cX5_digest 105 = .ok (.iaload, 1) := by decide +kernel
theorem dX5_digest_106 : decode cX5_digest 106 = .ok (.i2l, 1) := by decide +kernel
theorem dX5_digest_107 : decode cX5_digest 107 = .ok (.ladd, 1) := by decide +kernel
theorem dX5_digest_108 : decode cX5_digest 108 = .ok (.lstore_n 1, 1) := by decide +kernel
theorem dX5_digest_109 : decode cX5_digest 109 = .ok (.iinc 3 1, 3) := by decide +kernel
theorem dX5_digest_112 : decode cX5_digest 112 = .ok (.goto (-26), 3) := by decide +kernel
theorem dX5_digest_115 : decode cX5_digest 115 = .ok (.iconst 0, 1) := by decide +kernel
theorem dX5_digest_116 : decode cX5_digest 116 = .ok (.istore_n 3, 1) := by decide +kernel
theorem dX5_digest_117 : decode cX5_digest 117 = .ok (.iload_n 3, 1) := by decide +kernel
theorem dX5_digest_118 : decode cX5_digest 118 = .ok (.iconst 3, 1) := by decide +kernel
theorem dX5_digest_119 : decode cX5_digest 119 = .ok (.if_icmp .ge 42, 3) := by decide +kernel
theorem dX5_digest_122 : decode cX5_digest 122 = .ok (.ldc2_w 313, 3) := by decide +kernel
theorem dX5_digest_125 : decode cX5_digest 125 = .ok (.lload_n 1, 1) := by decide +kernel
theorem dX5_digest_126 : decode cX5_digest 126 = .ok (.lmul, 1) := by decide +kernel
theorem dX5_digest_127 : decode cX5_digest 127 = .ok (.aload_n 0, 1) := by decide +kernel
theorem dX5_digest_128 : decode cX5_digest 128 = .ok (.getfield 35, 3) := by decide +kernel
theorem dX5_digest_131 : decode cX5_digest 131 = .ok (.iload_n 3, 1) := by decide +kernel
theorem dX5_digest_132 : decode cX5_digest 132 = .ok (.aaload, 1) := by decide +kernel
theorem dX5_digest_133 : decode cX5_digest 133 = .ok (.getfield 116, 3) := by decide +kernel
theorem dX5_digest_136 : decode cX5_digest 136 = .ok (.ifCond .ne 7, 3) := by decide +kernel
theorem dX5_digest_139 : decode cX5_digest 139 = .ok (.iconst (-1), 1) := by decide +kernel
theorem dX5_digest_140 : decode cX5_digest 140 = .ok (.goto 12, 3) := by decide +kernel
theorem dX5_digest_143 : decode cX5_digest 143 = .ok (.aload_n 0, 1) := by decide +kernel
theorem dX5_digest_144 : decode cX5_digest 144 = .ok (.getfield 35, 3) := by decide +kernel
theorem dX5_digest_147 : decode cX5_digest 147 = .ok (.iload_n 3, 1) := by decide +kernel
theorem dX5_digest_148 : decode cX5_digest 148 = .ok (.aaload, 1) := by decide +kernel
theorem dX5_digest_149 : decode cX5_digest 149 = .ok (.getfield 190, 3) := by decide +kernel
theorem dX5_digest_152 : decode cX5_digest 152 = .ok (.i2l, 1) := by decide +kernel
theorem dX5_digest_153 : decode cX5_digest 153 = .ok (.ladd, 1) := by decide +kernel
theorem dX5_digest_154 : decode cX5_digest 154 = .ok (.lstore_n 1, 1) := by decide +kernel
theorem dX5_digest_155 : decode cX5_digest 155 = .ok (.iinc 3 1, 3) := by decide +kernel
theorem dX5_digest_158 : decode cX5_digest 158 = .ok (.goto (-41), 3) := by decide +kernel
theorem dX5_digest_161 : decode cX5_digest 161 = .ok (.aload_n 0, 1) := by decide +kernel
theorem dX5_digest_162 : decode cX5_digest 162 = .ok (.getfield 18, 3) := by decide +kernel
theorem dX5_digest_165 : decode cX5_digest 165 = .ok (.aload_n 0, 1) := by decide +kernel
theorem dX5_digest_166 : decode cX5_digest 166 = .ok (.getfield 14, 3) := by decide +kernel
theorem dX5_digest_169 : decode cX5_digest 169 = .ok (.lload_n 1, 1) := by decide +kernel
theorem dX5_digest_170 : decode cX5_digest 170 = .ok (.invokevirtual 318, 3) := by decide +kernel
theorem dX5_digest_173 : decode cX5_digest 173 = .ok (.invokevirtual 318, 3) := by decide +kernel
theorem dX5_digest_176 : decode cX5_digest 176 = .ok (.lreturn, 1) := by decide +kernel
theorem dX5_found_0 : decode cX5_found 0 = .ok (.aload_n 0, 1) := by decide +kernel
theorem dX5_found_1 : decode cX5_found 1 = .ok (.iload_n 1, 1) := by decide +kernel
theorem dX5_found_2 : decode cX5_found 2 = .ok (.putfield 308, 3) := by decide +kernel
theorem dX5_found_5 : decode cX5_found 5 = .ok (.aload_n 0, 1) := by decide +kernel
theorem dX5_found_6 : decode cX5_found 6 = .ok (.getfield 50, 3) := by decide +kernel
theorem dX5_found_9 : decode cX5_found 9 = .ok (.iload_n 1, 1) := by decide +kernel
theorem dX5_found_10 : decode cX5_found 10 = .ok (.dup2, 1) := by decide +kernel
theorem dX5_found_11 : decode cX5_found 11 = .ok (.iaload, 1) := by decide +kernel
theorem dX5_found_12 : decode cX5_found 12 = .ok (.iconst 1, 1) := by decide +kernel
theorem dX5_found_13 : decode cX5_found 13 = .ok (.iadd, 1) := by decide +kernel
theorem dX5_found_14 : decode cX5_found 14 = .ok (.iastore, 1) := by decide +kernel
theorem dX5_found_15 : decode cX5_found 15 = .ok (.bipush (-3), 2) := by decide +kernel
theorem dX5_found_17 : decode cX5_found 17 = .ok (.ireturn, 1) := by decide +kernel
set_option maxRecDepth 20000 in
theorem ggX5_refuseMissing_X3_isNumber : GoodIn wsX5_refuseMissing wsX3_isNumber := goodIn_r _ [5, 6, 23, 24, 25] (by decide +kernel) (by decide +kernel)
set_option maxRecDepth 20000 in
theorem gX5_refuseMissing_X3_isNumber : GoodIn wsX5_refuseMissing (wsV RX5 57 RX3 yX3_isNumber wsX3_isNumber) := goodIn_app (goodIn_of _ (by decide +kernel)) ggX5_refuseMissing_X3_isNumber
set_option maxRecDepth 20000 in
theorem ggX5_refuseMissing_X3_isThere : GoodIn wsX5_refuseMissing wsX3_isThere := goodIn_r _ [10, 11, 12, 13, 4, 14, 6, 15, 2, 3, 5, 23, 24, 25] (by decide +kernel) (by decide +kernel)
set_option maxRecDepth 20000 in
theorem gX5_refuseMissing_X3_isThere : GoodIn wsX5_refuseMissing (wsV RX5 92 RX3 yX3_isThere wsX3_isThere) := goodIn_app (goodIn_of _ (by decide +kernel)) ggX5_refuseMissing_X3_isThere
set_option maxRecDepth 20000 in
theorem ggX5_refuseMissing_X5_found : GoodIn wsX5_refuseMissing wsX5_found := goodIn_r _ [20, 21, 22, 26, 27, 28, 29, 30, 31, 32, 33, 34, 35, 36, 37] (by decide +kernel) (by decide +kernel)
set_option maxRecDepth 20000 in
theorem gX5_refuseMissing_X5_found : GoodIn wsX5_refuseMissing (wsV RX5 61 RX5 yX5_found wsX5_found) := goodIn_app (goodIn_of _ (by decide +kernel)) ggX5_refuseMissing_X5_found
theorem dX5_refuseMissing_0 : decode cX5_refuseMissing 0 = .ok (.aload_n 1, 1) := by decide +kernel
theorem dX5_refuseMissing_1 : decode cX5_refuseMissing 1 = .ok (.iload_n 2, 1) := by decide +kernel
theorem dX5_refuseMissing_2 : decode cX5_refuseMissing 2 = .ok (.invokevirtual 57, 3) := by decide +kernel
theorem dX5_refuseMissing_5 : decode cX5_refuseMissing 5 = .ok (.ifCond .ne 5, 3) := by decide +kernel
theorem dX5_refuseMissing_8 : decode cX5_refuseMissing 8 = .ok (.iconst (-1), 1) := by decide +kernel
theorem dX5_refuseMissing_9 : decode cX5_refuseMissing 9 = .ok (.ireturn, 1) := by decide +kernel
theorem dX5_refuseMissing_10 : decode cX5_refuseMissing 10 = .ok (.aload_n 1, 1) := by decide +kernel
theorem dX5_refuseMissing_11 : decode cX5_refuseMissing 11 = .ok (.iload_n 2, 1) := by decide +kernel
theorem dX5_refuseMissing_12 : decode cX5_refuseMissing 12 = .ok (.invokevirtual 92, 3) := by decide +kernel
theorem dX5_refuseMissing_15 : decode cX5_refuseMissing 15 = .ok (.ifCond .eq 7, 3) := by decide +kernel
theorem dX5_refuseMissing_18 : decode cX5_refuseMissing 18 = .ok (.iconst 0, 1) := by decide +kernel
theorem dX5_refuseMissing_19 : decode cX5_refuseMissing 19 = .ok (.goto 8, 3) := by decide +kernel
theorem dX5_refuseMissing_22 : decode cX5_refuseMissing 22 = .ok (.aload_n 0, 1) := by decide +kernel
theorem dX5_refuseMissing_23 : decode cX5_refuseMissing 23 = .ok (.iconst 1, 1) := by decide +kernel
theorem dX5_refuseMissing_24 : decode cX5_refuseMissing 24 = .ok (.invokevirtual 61, 3) := by decide +kernel
theorem dX5_refuseMissing_27 : decode cX5_refuseMissing 27 = .ok (.ireturn, 1) := by decide +kernel
set_option maxRecDepth 20000 in
theorem ggX5_refusePlace_X5_refuseMissing : GoodIn wsX5_refusePlace wsX5_refuseMissing := goodIn_r _ [5, 6, 7, 8, 9, 10, 11, 12, 13, 14, 15, 16, 17, 18, 19, 20, 21, 22, 23, 4, 24, 25, 26, 31, 32, 33, 34, 35, 36, 37, 38, 39, 40, 41, 42, 43, 44, 45] (by decide +kernel) (by decide +kernel)
set_option maxRecDepth 20000 in
theorem gX5_refusePlace_X5_refuseMissing : GoodIn wsX5_refusePlace (wsV RX5 84 RX5 yX5_refuseMissing wsX5_refuseMissing) := goodIn_app (goodIn_of _ (by decide +kernel)) ggX5_refusePlace_X5_refuseMissing
set_option maxRecDepth 20000 in
theorem ggX5_refusePlace_X3_hasPlace : GoodIn wsX5_refusePlace wsX3_hasPlace := goodIn_r _ [30, 11, 20, 7, 8, 9, 10, 31, 32, 33] (by decide +kernel) (by decide +kernel)
set_option maxRecDepth 20000 in
theorem gX5_refusePlace_X3_hasPlace : GoodIn wsX5_refusePlace (wsV RX5 322 RX3 yX3_hasPlace wsX3_hasPlace) := goodIn_app (goodIn_of _ (by decide +kernel)) ggX5_refusePlace_X3_hasPlace
set_option maxRecDepth 20000 in
theorem ggX5_refusePlace_X5_found : GoodIn wsX5_refusePlace wsX5_found := goodIn_r _ [24, 25, 26, 34, 35, 36, 37, 38, 39, 40, 41, 42, 43, 44, 45] (by decide +kernel) (by decide +kernel)
set_option maxRecDepth 20000 in
theorem gX5_refusePlace_X5_found : GoodIn wsX5_refusePlace (wsV RX5 61 RX5 yX5_found wsX5_found) := goodIn_app (goodIn_of _ (by decide +kernel)) ggX5_refusePlace_X5_found
theorem dX5_refusePlace_0 : decode cX5_refusePlace 0 = .ok (.aload_n 0, 1) := by decide +kernel
theorem dX5_refusePlace_1 : decode cX5_refusePlace 1 = .ok (.aload_n 1, 1) := by decide +kernel
theorem dX5_refusePlace_2 : decode cX5_refusePlace 2 = .ok (.iload_n 2, 1) := by decide +kernel
theorem dX5_refusePlace_3 : decode cX5_refusePlace 3 = .ok (.invokevirtual 84, 3) := by decide +kernel
theorem dX5_refusePlace_6 : decode cX5_refusePlace 6 = .ok (.istore 4, 2) := by decide +kernel
theorem dX5_refusePlace_8 : decode cX5_refusePlace 8 = .ok (.iload 4, 2) := by decide +kernel
theorem dX5_refusePlace_10 : decode cX5_refusePlace 10 = .ok (.ifCond .eq 6, 3) := by decide +kernel
theorem dX5_refusePlace_13 : decode cX5_refusePlace 13 = .ok (.iload 4, 2) := by decide +kernel
theorem dX5_refusePlace_15 : decode cX5_refusePlace 15 = .ok (.ireturn, 1) := by decide +kernel
theorem dX5_refusePlace_16 : decode cX5_refusePlace 16 = .ok (.aload_n 1, 1) := by decide +kernel
theorem dX5_refusePlace_17 : decode cX5_refusePlace 17 = .ok (.iload_n 2, 1) := by decide +kernel
theorem dX5_refusePlace_18 : decode cX5_refusePlace 18 = .ok (.iload_n 3, 1) := by decide +kernel
theorem dX5_refusePlace_19 : decode cX5_refusePlace 19 = .ok (.invokevirtual 322, 3) := by decide +kernel
theorem dX5_refusePlace_22 : decode cX5_refusePlace 22 = .ok (.ifCond .eq 7, 3) := by decide +kernel
theorem dX5_refusePlace_25 : decode cX5_refusePlace 25 = .ok (.iconst 0, 1) := by decide +kernel
theorem dX5_refusePlace_26 : decode cX5_refusePlace 26 = .ok (.goto 8, 3) := by decide +kernel
theorem dX5_refusePlace_29 : decode cX5_refusePlace 29 = .ok (.aload_n 0, 1) := by decide +kernel
theorem dX5_refusePlace_30 : decode cX5_refusePlace 30 = .ok (.iconst 2, 1) := by decide +kernel
theorem dX5_refusePlace_31 : decode cX5_refusePlace 31 = .ok (.invokevirtual 61, 3) := by decide +kernel
theorem dX5_refusePlace_34 : decode cX5_refusePlace 34 = .ok (.ireturn, 1) := by decide +kernel
set_option maxRecDepth 20000 in
theorem ggX5_refusePairs_X5_refuseMissing : GoodIn wsX5_refusePairs wsX5_refuseMissing := goodIn_r _ [6, 7, 8, 9, 10, 11, 12, 13, 14, 15, 16, 17, 18, 19, 20, 21, 22, 23, 24, 5, 25, 26, 27, 54, 55, 56, 42, 43, 44, 45, 46, 47, 48, 49, 50, 51, 52, 53] (by decide +kernel) (by decide +kernel)
set_option maxRecDepth 20000 in
theorem gX5_refusePairs_X5_refuseMissing : GoodIn wsX5_refusePairs (wsV RX5 84 RX5 yX5_refuseMissing wsX5_refuseMissing) := goodIn_app (goodIn_of _ (by decide +kernel)) ggX5_refusePairs_X5_refuseMissing
set_option maxRecDepth 20000 in
theorem ggX5_refusePairs_X3_sizeOf : GoodIn wsX5_refusePairs wsX3_sizeOf := goodIn_r _ [20, 12, 21, 8, 9, 10, 11, 54, 55, 56] (by decide +kernel) (by decide +kernel)
set_option maxRecDepth 20000 in
theorem gX5_refusePairs_X3_sizeOf : GoodIn wsX5_refusePairs (wsV RX5 103 RX3 yX3_sizeOf wsX3_sizeOf) := goodIn_app (goodIn_of _ (by decide +kernel)) ggX5_refusePairs_X3_sizeOf
set_option maxRecDepth 20000 in
theorem ggX5_refusePairs_X5_found : GoodIn wsX5_refusePairs wsX5_found := goodIn_r _ [25, 26, 27, 42, 43, 44, 45, 46, 47, 48, 49, 50, 51, 52, 53] (by decide +kernel) (by decide +kernel)
set_option maxRecDepth 20000 in
theorem gX5_refusePairs_X5_found : GoodIn wsX5_refusePairs (wsV RX5 61 RX5 yX5_found wsX5_found) := goodIn_app (goodIn_of _ (by decide +kernel)) ggX5_refusePairs_X5_found
set_option maxRecDepth 20000 in
theorem ggX5_refusePairs_X3_read : GoodIn wsX5_refusePairs wsX3_read := goodIn_r _ [32, 33, 34, 35, 36, 37, 10, 38, 12, 21, 8, 9, 11, 54, 55, 56] (by decide +kernel) (by decide +kernel)
set_option maxRecDepth 20000 in
theorem gX5_refusePairs_X3_read : GoodIn wsX5_refusePairs (wsV RX5 73 RX3 yX3_read wsX3_read) := goodIn_app (goodIn_of _ (by decide +kernel)) ggX5_refusePairs_X3_read
set_option maxRecDepth 20000 in
theorem ggX5_refusePairs_X5_isPart : GoodIn wsX5_refusePairs wsX5_isPart := goodIn_r _ [41] (by decide +kernel) (by decide +kernel)
set_option maxRecDepth 20000 in
theorem gX5_refusePairs_X5_isPart : GoodIn wsX5_refusePairs (va_wsS RX5 147 yX5_isPart wsX5_isPart) := goodIn_app (goodIn_of _ (by decide +kernel)) ggX5_refusePairs_X5_isPart
theorem dX5_refusePairs_0 : decode cX5_refusePairs 0 = .ok (.aload_n 0, 1) := by decide +kernel
theorem dX5_refusePairs_1 : decode cX5_refusePairs 1 = .ok (.aload_n 0, 1) := by decide +kernel
theorem dX5_refusePairs_2 : decode cX5_refusePairs 2 = .ok (.getfield 14, 3) := by decide +kernel
theorem dX5_refusePairs_5 : decode cX5_refusePairs 5 = .ok (.iload_n 1, 1) := by decide +kernel
theorem dX5_refusePairs_6 : decode cX5_refusePairs 6 = .ok (.invokevirtual 84, 3) := by decide +kernel
theorem dX5_refusePairs_9 : decode cX5_refusePairs 9 = .ok (.istore_n 2, 1) := by decide +kernel
theorem dX5_refusePairs_10 : decode cX5_refusePairs 10 = .ok (.iload_n 2, 1) := by decide +kernel
theorem dX5_refusePairs_11 : decode cX5_refusePairs 11 = .ok (.ifCond .eq 5, 3) := by decide +kernel
theorem dX5_refusePairs_14 : decode cX5_refusePairs 14 = .ok (.iload_n 2, 1) := by decide +kernel
theorem dX5_refusePairs_15 : decode cX5_refusePairs 15 = .ok (.ireturn, 1) := by decide +kernel
theorem dX5_refusePairs_16 : decode cX5_refusePairs 16 = .ok (.aload_n 0, 1) := by decide +kernel
theorem dX5_refusePairs_17 : decode cX5_refusePairs 17 = .ok (.getfield 14, 3) := by decide +kernel
theorem dX5_refusePairs_20 : decode cX5_refusePairs 20 = .ok (.iload_n 1, 1) := by decide +kernel
theorem dX5_refusePairs_21 : decode cX5_refusePairs 21 = .ok (.invokevirtual 103, 3) := by decide +kernel
theorem dX5_refusePairs_24 : decode cX5_refusePairs 24 = .ok (.istore_n 3, 1) := by decide +kernel
theorem dX5_refusePairs_25 : decode cX5_refusePairs 25 = .ok (.iload_n 3, 1) := by decide +kernel
theorem dX5_refusePairs_26 : decode cX5_refusePairs 26 = .ok (.iconst 2, 1) := by decide +kernel
theorem dX5_refusePairs_27 : decode cX5_refusePairs 27 = .ok (.irem, 1) := by decide +kernel
theorem dX5_refusePairs_28 : decode cX5_refusePairs 28 = .ok (.ifCond .eq 9, 3) := by decide +kernel
theorem dX5_refusePairs_31 : decode cX5_refusePairs 31 = .ok (.aload_n 0, 1) := by decide +kernel
theorem dX5_refusePairs_32 : decode cX5_refusePairs 32 = .ok (.iconst 5, 1) := by decide +kernel
theorem dX5_refusePairs_33 : decode cX5_refusePairs 33 = .ok (.invokevirtual 61, 3) := by decide +kernel
theorem dX5_refusePairs_36 : decode cX5_refusePairs 36 = .ok (.ireturn, 1) := by decide +kernel
theorem dX5_refusePairs_37 : decode cX5_refusePairs 37 = .ok (.iconst 0, 1) := by decide +kernel
theorem dX5_refusePairs_38 : decode cX5_refusePairs 38 = .ok (.istore 4, 2) := by decide +kernel
theorem dX5_refusePairs_40 : decode cX5_refusePairs 40 = .ok (.iload 4, 2) := by decide +kernel
theorem dX5_refusePairs_42 : decode cX5_refusePairs 42 = .ok (.iload_n 3, 1) := by decide +kernel
theorem dX5_refusePairs_43 : decode cX5_refusePairs 43 = .ok (.if_icmp .ge 56, 3) := by decide +kernel
theorem dX5_refusePairs_46 : decode cX5_refusePairs 46 = .ok (.aload_n 0, 1) := by decide +kernel
theorem dX5_refusePairs_47 : decode cX5_refusePairs 47 = .ok (.getfield 14, 3) := by decide +kernel
theorem dX5_refusePairs_50 : decode cX5_refusePairs 50 = .ok (.iload_n 1, 1) := by decide +kernel
theorem dX5_refusePairs_51 : decode cX5_refusePairs 51 = .ok (.iload 4, 2) := by decide +kernel
theorem dX5_refusePairs_53 : decode cX5_refusePairs 53 = .ok (.iconst 1, 1) := by decide +kernel
theorem dX5_refusePairs_54 : decode cX5_refusePairs 54 = .ok (.iadd, 1) := by decide +kernel
theorem dX5_refusePairs_55 : decode cX5_refusePairs 55 = .ok (.invokevirtual 73, 3) := by decide +kernel
theorem dX5_refusePairs_58 : decode cX5_refusePairs 58 = .ok (.istore 5, 2) := by decide +kernel
theorem dX5_refusePairs_60 : decode cX5_refusePairs 60 = .ok (.aload_n 0, 1) := by decide +kernel
theorem dX5_refusePairs_61 : decode cX5_refusePairs 61 = .ok (.getfield 14, 3) := by decide +kernel
theorem dX5_refusePairs_64 : decode cX5_refusePairs 64 = .ok (.iload_n 1, 1) := by decide +kernel
theorem dX5_refusePairs_65 : decode cX5_refusePairs 65 = .ok (.iload 4, 2) := by decide +kernel
theorem dX5_refusePairs_67 : decode cX5_refusePairs 67 = .ok (.invokevirtual 73, 3) := by decide +kernel
theorem dX5_refusePairs_70 : decode cX5_refusePairs 70 = .ok (.invokestatic 147, 3) := by decide +kernel
theorem dX5_refusePairs_73 : decode cX5_refusePairs 73 = .ok (.ifCond .eq 14, 3) := by decide +kernel
theorem dX5_refusePairs_76 : decode cX5_refusePairs 76 = .ok (.iload 5, 2) := by decide +kernel
theorem dX5_refusePairs_78 : decode cX5_refusePairs 78 = .ok (.ifCond .lt 9, 3) := by decide +kernel
theorem dX5_refusePairs_81 : decode cX5_refusePairs 81 = .ok (.iload 5, 2) := by decide +kernel
theorem dX5_refusePairs_83 : decode cX5_refusePairs 83 = .ok (.iconst 1, 1) := by decide +kernel
theorem dX5_refusePairs_84 : decode cX5_refusePairs 84 = .ok (.if_icmp .le 9, 3) := by decide +kernel
theorem dX5_refusePairs_87 : decode cX5_refusePairs 87 = .ok (.aload_n 0, 1) := by decide +kernel
theorem dX5_refusePairs_88 : decode cX5_refusePairs 88 = .ok (.iconst 3, 1) := by decide +kernel
theorem dX5_refusePairs_89 : decode cX5_refusePairs 89 = .ok (.invokevirtual 61, 3) := by decide +kernel
theorem dX5_refusePairs_92 : decode cX5_refusePairs 92 = .ok (.ireturn, 1) := by decide +kernel
theorem dX5_refusePairs_93 : decode cX5_refusePairs 93 = .ok (.iinc 4 2, 3) := by decide +kernel
theorem dX5_refusePairs_96 : decode cX5_refusePairs 96 = .ok (.goto (-56), 3) := by decide +kernel
theorem dX5_refusePairs_99 : decode cX5_refusePairs 99 = .ok (.iconst 0, 1) := by decide +kernel
theorem dX5_refusePairs_100 : decode cX5_refusePairs 100 = .ok (.ireturn, 1) := by decide +kernel
set_option maxRecDepth 20000 in
theorem ggX5_kindsByPairs_X3_sizeOf : GoodIn wsX5_kindsByPairs wsX3_sizeOf := goodIn_r _ [6, 7, 8, 9, 10, 5, 11, 50, 51, 52] (by decide +kernel) (by decide +kernel)
set_option maxRecDepth 20000 in
theorem gX5_kindsByPairs_X3_sizeOf : GoodIn wsX5_kindsByPairs (wsV RX5 103 RX3 yX3_sizeOf wsX3_sizeOf) := goodIn_app (goodIn_of _ (by decide +kernel)) ggX5_kindsByPairs_X3_sizeOf
set_option maxRecDepth 20000 in
theorem ggX5_kindsByPairs_X3_read : GoodIn wsX5_kindsByPairs wsX3_read := goodIn_r _ [15, 16, 17, 18, 19, 20, 5, 21, 7, 8, 9, 10, 11, 50, 51, 52] (by decide +kernel) (by decide +kernel)
set_option maxRecDepth 20000 in
theorem gX5_kindsByPairs_X3_read : GoodIn wsX5_kindsByPairs (wsV RX5 73 RX3 yX3_read wsX3_read) := goodIn_app (goodIn_of _ (by decide +kernel)) ggX5_kindsByPairs_X3_read
set_option maxRecDepth 20000 in
theorem ggX5_kindsByPairs_X0_answeringAlike : GoodIn wsX5_kindsByPairs wsX0_answeringAlike := goodIn_r _ [25, 26, 27, 28, 29, 30, 24, 31, 32, 33, 34, 35, 36, 37] (by decide +kernel) (by decide +kernel)
set_option maxRecDepth 20000 in
theorem gX5_kindsByPairs_X0_answeringAlike : GoodIn wsX5_kindsByPairs (va_wsS RX5 247 yX0_answeringAlike wsX0_answeringAlike) := goodIn_app (goodIn_of _ (by decide +kernel)) ggX5_kindsByPairs_X0_answeringAlike
theorem dX5_kindsByPairs_0 : decode cX5_kindsByPairs 0 = .ok (.bipush 63, 2) := by decide +kernel
theorem dX5_kindsByPairs_2 : decode cX5_kindsByPairs 2 = .ok (.istore_n 2, 1) := by decide +kernel
theorem dX5_kindsByPairs_3 : decode cX5_kindsByPairs 3 = .ok (.iconst 0, 1) := by decide +kernel
theorem dX5_kindsByPairs_4 : decode cX5_kindsByPairs 4 = .ok (.istore_n 3, 1) := by decide +kernel
theorem dX5_kindsByPairs_5 : decode cX5_kindsByPairs 5 = .ok (.iload_n 3, 1) := by decide +kernel
theorem dX5_kindsByPairs_6 : decode cX5_kindsByPairs 6 = .ok (.aload_n 0, 1) := by decide +kernel
theorem dX5_kindsByPairs_7 : decode cX5_kindsByPairs 7 = .ok (.getfield 14, 3) := by decide +kernel
theorem dX5_kindsByPairs_10 : decode cX5_kindsByPairs 10 = .ok (.iload_n 1, 1) := by decide +kernel
theorem dX5_kindsByPairs_11 : decode cX5_kindsByPairs 11 = .ok (.invokevirtual 103, 3) := by decide +kernel
theorem dX5_kindsByPairs_14 : decode cX5_kindsByPairs 14 = .ok (.if_icmp .ge 43, 3) := by decide +kernel
theorem dX5_kindsByPairs_17 : decode cX5_kindsByPairs 17 = .ok (.iload_n 2, 1) := by decide +kernel
theorem dX5_kindsByPairs_18 : decode cX5_kindsByPairs 18 = .ok (.aload_n 0, 1) := by decide +kernel
theorem dX5_kindsByPairs_19 : decode cX5_kindsByPairs 19 = .ok (.getfield 14, 3) := by decide +kernel
theorem dX5_kindsByPairs_22 : decode cX5_kindsByPairs 22 = .ok (.iload_n 1, 1) := by decide +kernel
theorem dX5_kindsByPairs_23 : decode cX5_kindsByPairs 23 = .ok (.iload_n 3, 1) := by decide +kernel
theorem dX5_kindsByPairs_24 : decode cX5_kindsByPairs 24 = .ok (.invokevirtual 73, 3) := by decide +kernel
theorem dX5_kindsByPairs_27 : decode cX5_kindsByPairs 27 = .ok (.aload_n 0, 1) := by decide +kernel
theorem dX5_kindsByPairs_28 : decode cX5_kindsByPairs 28 = .ok (.getfield 14, 3) := by decide +kernel
theorem dX5_kindsByPairs_31 : decode cX5_kindsByPairs 31 = .ok (.iload_n 1, 1) := by decide +kernel
theorem dX5_kindsByPairs_32 : decode cX5_kindsByPairs 32 = .ok (.iload_n 3, 1) := by decide +kernel
theorem dX5_kindsByPairs_33 : decode cX5_kindsByPairs 33 = .ok (.iconst 1, 1) := by decide +kernel
theorem dX5_kindsByPairs_34 : decode cX5_kindsByPairs 34 = .ok (.iadd, 1) := by decide +kernel
theorem dX5_kindsByPairs_35 : decode cX5_kindsByPairs 35 = .ok (.invokevirtual 73, 3) := by decide +kernel
theorem dX5_kindsByPairs_38 : decode cX5_kindsByPairs 38 = .ok (.iconst 1, 1) := by decide +kernel
theorem dX5_kindsByPairs_39 : decode cX5_kindsByPairs 39 = .ok (.if_icmp .ne 7, 3) := by decide +kernel
theorem dX5_kindsByPairs_42 : decode cX5_kindsByPairs 42 = .ok (.iconst 1, 1) := by decide +kernel
theorem dX5_kindsByPairs_43 : decode cX5_kindsByPairs 43 = .ok (.goto 4, 3) := by decide +kernel
theorem dX5_kindsByPairs_46 : decode cX5_kindsByPairs 46 = .ok (.iconst 0, 1) := by decide +kernel
theorem dX5_kindsByPairs_47 : decode cX5_kindsByPairs 47 = .ok (.invokestatic 247, 3) := by decide +kernel
theorem dX5_kindsByPairs_50 : decode cX5_kindsByPairs 50 = .ok (.istore_n 2, 1) := by decide +kernel
theorem dX5_kindsByPairs_51 : decode cX5_kindsByPairs 51 = .ok (.iinc 3 2, 3) := by decide +kernel
theorem dX5_kindsByPairs_54 : decode cX5_kindsByPairs 54 = .ok (.goto (-49), 3) := by decide +kernel
theorem dX5_kindsByPairs_57 : decode cX5_kindsByPairs 57 = .ok (.iload_n 2, 1) := by decide +kernel
theorem dX5_kindsByPairs_58 : decode cX5_kindsByPairs 58 = .ok (.ireturn, 1) := by decide +kernel
set_option maxRecDepth 20000 in
theorem ggX5_isSetOfParts_X3_sizeOf : GoodIn wsX5_isSetOfParts wsX3_sizeOf := goodIn_r _ [6, 7, 8, 9, 10, 5, 11, 41, 42, 43] (by decide +kernel) (by decide +kernel)
set_option maxRecDepth 20000 in
theorem gX5_isSetOfParts_X3_sizeOf : GoodIn wsX5_isSetOfParts (wsV RX5 103 RX3 yX3_sizeOf wsX3_sizeOf) := goodIn_app (goodIn_of _ (by decide +kernel)) ggX5_isSetOfParts_X3_sizeOf
set_option maxRecDepth 20000 in
theorem ggX5_isSetOfParts_X3_read : GoodIn wsX5_isSetOfParts wsX3_read := goodIn_r _ [15, 16, 17, 18, 19, 20, 5, 21, 7, 8, 9, 10, 11, 41, 42, 43] (by decide +kernel) (by decide +kernel)
set_option maxRecDepth 20000 in
theorem gX5_isSetOfParts_X3_read : GoodIn wsX5_isSetOfParts (wsV RX5 73 RX3 yX3_read wsX3_read) := goodIn_app (goodIn_of _ (by decide +kernel)) ggX5_isSetOfParts_X3_read
set_option maxRecDepth 20000 in
theorem ggX5_isSetOfParts_X5_isPart : GoodIn wsX5_isSetOfParts wsX5_isPart := goodIn_r _ [25] (by decide +kernel) (by decide +kernel)
set_option maxRecDepth 20000 in
theorem gX5_isSetOfParts_X5_isPart : GoodIn wsX5_isSetOfParts (va_wsS RX5 147 yX5_isPart wsX5_isPart) := goodIn_app (goodIn_of _ (by decide +kernel)) ggX5_isSetOfParts_X5_isPart
set_option maxRecDepth 20000 in
theorem ggX5_isSetOfParts_X5_holds : GoodIn wsX5_isSetOfParts wsX5_holds := goodIn_r _ [28] (by decide +kernel) (by decide +kernel)
set_option maxRecDepth 20000 in
theorem gX5_isSetOfParts_X5_holds : GoodIn wsX5_isSetOfParts (va_wsS RX5 150 yX5_holds wsX5_holds) := goodIn_app (goodIn_of _ (by decide +kernel)) ggX5_isSetOfParts_X5_holds
theorem dX5_isSetOfParts_0 : decode cX5_isSetOfParts 0 = .ok (.iconst 0, 1) := by decide +kernel
theorem dX5_isSetOfParts_1 : decode cX5_isSetOfParts 1 = .ok (.istore_n 2, 1) := by decide +kernel
theorem dX5_isSetOfParts_2 : decode cX5_isSetOfParts 2 = .ok (.iconst 0, 1) := by decide +kernel
theorem dX5_isSetOfParts_3 : decode cX5_isSetOfParts 3 = .ok (.istore_n 3, 1) := by decide +kernel
theorem dX5_isSetOfParts_4 : decode cX5_isSetOfParts 4 = .ok (.iload_n 3, 1) := by decide +kernel
theorem dX5_isSetOfParts_5 : decode cX5_isSetOfParts 5 = .ok (.aload_n 0, 1) := by decide +kernel
theorem dX5_isSetOfParts_6 : decode cX5_isSetOfParts 6 = .ok (.getfield 14, 3) := by decide +kernel
theorem dX5_isSetOfParts_9 : decode cX5_isSetOfParts 9 = .ok (.iload_n 1, 1) := by decide +kernel
theorem dX5_isSetOfParts_10 : decode cX5_isSetOfParts 10 = .ok (.invokevirtual 103, 3) := by decide +kernel
theorem dX5_isSetOfParts_13 : decode cX5_isSetOfParts 13 = .ok (.if_icmp .ge 46, 3) := by decide +kernel
theorem dX5_isSetOfParts_16 : decode cX5_isSetOfParts 16 = .ok (.aload_n 0, 1) := by decide +kernel
theorem dX5_isSetOfParts_17 : decode cX5_isSetOfParts 17 = .ok (.getfield 14, 3) := by decide +kernel
theorem dX5_isSetOfParts_20 : decode cX5_isSetOfParts 20 = .ok (.iload_n 1, 1) := by decide +kernel
theorem dX5_isSetOfParts_21 : decode cX5_isSetOfParts 21 = .ok (.iload_n 3, 1) := by decide +kernel
theorem dX5_isSetOfParts_22 : decode cX5_isSetOfParts 22 = .ok (.invokevirtual 73, 3) := by decide +kernel
theorem dX5_isSetOfParts_25 : decode cX5_isSetOfParts 25 = .ok (.istore 4, 2) := by decide +kernel
theorem dX5_isSetOfParts_27 : decode cX5_isSetOfParts 27 = .ok (.iload 4, 2) := by decide +kernel
theorem dX5_isSetOfParts_29 : decode cX5_isSetOfParts 29 = .ok (.invokestatic 147, 3) := by decide +kernel
theorem dX5_isSetOfParts_32 : decode cX5_isSetOfParts 32 = .ok (.ifCond .eq 12, 3) := by decide +kernel
theorem dX5_isSetOfParts_35 : decode cX5_isSetOfParts 35 = .ok (.iload_n 2, 1) := by decide +kernel
theorem dX5_isSetOfParts_36 : decode cX5_isSetOfParts 36 = .ok (.iload 4, 2) := by decide +kernel
theorem dX5_isSetOfParts_38 : decode cX5_isSetOfParts 38 = .ok (.invokestatic 150, 3) := by decide +kernel
theorem dX5_isSetOfParts_41 : decode cX5_isSetOfParts 41 = .ok (.ifCond .eq 5, 3) := by decide +kernel
theorem dX5_isSetOfParts_44 : decode cX5_isSetOfParts 44 = .ok (.iconst 0, 1) := by decide +kernel
theorem dX5_isSetOfParts_45 : decode cX5_isSetOfParts 45 = .ok (.ireturn, 1) := by decide +kernel
theorem dX5_isSetOfParts_46 : decode cX5_isSetOfParts 46 = .ok (.iload_n 2, 1) := by decide +kernel
theorem dX5_isSetOfParts_47 : decode cX5_isSetOfParts 47 = .ok (.iconst 1, 1) := by decide +kernel
theorem dX5_isSetOfParts_48 : decode cX5_isSetOfParts 48 = .ok (.iload 4, 2) := by decide +kernel
theorem dX5_isSetOfParts_50 : decode cX5_isSetOfParts 50 = .ok (.ishl, 1) := by decide +kernel
theorem dX5_isSetOfParts_51 : decode cX5_isSetOfParts 51 = .ok (.ior, 1) := by decide +kernel
theorem dX5_isSetOfParts_52 : decode cX5_isSetOfParts 52 = .ok (.istore_n 2, 1) := by decide +kernel
theorem dX5_isSetOfParts_53 : decode cX5_isSetOfParts 53 = .ok (.iinc 3 1, 3) := by decide +kernel
theorem dX5_isSetOfParts_56 : decode cX5_isSetOfParts 56 = .ok (.goto (-52), 3) := by decide +kernel
theorem dX5_isSetOfParts_59 : decode cX5_isSetOfParts 59 = .ok (.iconst 1, 1) := by decide +kernel
theorem dX5_isSetOfParts_60 : decode cX5_isSetOfParts 60 = .ok (.ireturn, 1) := by decide +kernel
set_option maxRecDepth 20000 in
theorem ggX5_tellFraction_X5_greatestDivisor : GoodIn wsX5_tellFraction wsX5_greatestDivisor := goodIn_r _ [6] (by decide +kernel) (by decide +kernel)
set_option maxRecDepth 20000 in
theorem gX5_tellFraction_X5_greatestDivisor : GoodIn wsX5_tellFraction (va_wsS RX5 325 yX5_greatestDivisor wsX5_greatestDivisor) := goodIn_app (goodIn_of _ (by decide +kernel)) ggX5_tellFraction_X5_greatestDivisor
theorem dX5_tellFraction_0 : decode cX5_tellFraction 0 = .ok (.lload_n 1, 1) := by decide +kernel
theorem dX5_tellFraction_1 : decode cX5_tellFraction 1 = .ok (.lload_n 3, 1) := by decide +kernel
theorem dX5_tellFraction_2 : decode cX5_tellFraction 2 = .ok (.invokestatic 325, 3) := by decide +kernel
theorem dX5_tellFraction_5 : decode cX5_tellFraction 5 = .ok (.lstore 5, 2) := by decide +kernel
theorem dX5_tellFraction_7 : decode cX5_tellFraction 7 = .ok (.lload 5, 2) := by decide +kernel
theorem dX5_tellFraction_9 : decode cX5_tellFraction 9 = .ok (.lconst 0, 1) := by decide +kernel
theorem dX5_tellFraction_10 : decode cX5_tellFraction 10 = .ok (.lcmp, 1) := by decide +kernel
theorem dX5_tellFraction_11 : decode cX5_tellFraction 11 = .ok (.ifCond .le 19, 3) := by decide +kernel
theorem dX5_tellFraction_14 : decode cX5_tellFraction 14 = .ok (.aload_n 0, 1) := by decide +kernel
theorem dX5_tellFraction_15 : decode cX5_tellFraction 15 = .ok (.lload_n 1, 1) := by decide +kernel
theorem dX5_tellFraction_16 : decode cX5_tellFraction 16 = .ok (.lload 5, 2) := by decide +kernel
theorem dX5_tellFraction_18 : decode cX5_tellFraction 18 = .ok (.ldiv, 1) := by decide +kernel
theorem dX5_tellFraction_19 : decode cX5_tellFraction 19 = .ok (.putfield 290, 3) := by decide +kernel
theorem dX5_tellFraction_22 : decode cX5_tellFraction 22 = .ok (.aload_n 0, 1) := by decide +kernel
theorem dX5_tellFraction_23 : decode cX5_tellFraction 23 = .ok (.lload_n 3, 1) := by decide +kernel
theorem dX5_tellFraction_24 : decode cX5_tellFraction 24 = .ok (.lload 5, 2) := by decide +kernel
theorem dX5_tellFraction_26 : decode cX5_tellFraction 26 = .ok (.ldiv, 1) := by decide +kernel
theorem dX5_tellFraction_27 : decode cX5_tellFraction 27 = .ok (.putfield 53, 3) := by decide +kernel
theorem dX5_tellFraction_30 : decode cX5_tellFraction 30 = .ok (.return_, 1) := by decide +kernel
set_option maxRecDepth 20000 in
theorem ggX5_countWanted_X4_openTo : GoodIn wsX5_countWanted wsX4_openTo := goodIn_r _ [8, 9, 10, 11, 12, 13, 14, 15, 16, 17, 18, 19, 20, 71, 72, 73, 74, 75, 76, 77, 78, 79, 80, 81, 82, 83] (by decide +kernel) (by decide +kernel)
set_option maxRecDepth 20000 in
theorem gX5_countWanted_X4_openTo : GoodIn wsX5_countWanted (wsV RX5 209 RX4 yX4_openTo wsX4_openTo) := goodIn_app (goodIn_of _ (by decide +kernel)) ggX5_countWanted_X4_openTo
set_option maxRecDepth 20000 in
theorem ggX5_countWanted_X1_lookFor : GoodIn wsX5_countWanted wsX1_lookFor := goodIn_r _ [25, 26, 27, 28, 29, 30, 31, 32, 33, 24, 34, 35, 36, 37, 38, 39, 40, 41, 42, 43, 44, 45, 46, 47, 48, 49, 50, 51, 52, 53, 54, 55, 56, 57, 84, 85, 86, 87, 88] (by decide +kernel) (by decide +kernel)
set_option maxRecDepth 20000 in
theorem gX5_countWanted_X1_lookFor : GoodIn wsX5_countWanted (wsV RX5 212 RX1 yX1_lookFor wsX1_lookFor) := goodIn_app (goodIn_of _ (by decide +kernel)) ggX5_countWanted_X1_lookFor
set_option maxRecDepth 20000 in
theorem ggX5_countWanted_X5_holds : GoodIn wsX5_countWanted wsX5_holds := goodIn_r _ [54] (by decide +kernel) (by decide +kernel)
set_option maxRecDepth 20000 in
theorem gX5_countWanted_X5_holds : GoodIn wsX5_countWanted (va_wsS RX5 150 yX5_holds wsX5_holds) := goodIn_app (goodIn_of _ (by decide +kernel)) ggX5_countWanted_X5_holds
theorem dX5_countWanted_0 : decode cX5_countWanted 0 = .ok (.iconst 0, 1) := by decide +kernel
theorem dX5_countWanted_1 : decode cX5_countWanted 1 = .ok (.istore_n 1, 1) := by decide +kernel
theorem dX5_countWanted_2 : decode cX5_countWanted 2 = .ok (.iload_n 1, 1) := by decide +kernel
theorem dX5_countWanted_3 : decode cX5_countWanted 3 = .ok (.aload_n 0, 1) := by decide +kernel
theorem dX5_countWanted_4 : decode cX5_countWanted 4 = .ok (.getfield 46, 3) := by decide +kernel
theorem dX5_countWanted_7 : decode cX5_countWanted 7 = .ok (.arraylength, 1) := by decide +kernel
theorem dX5_countWanted_8 : decode cX5_countWanted 8 = .ok (.if_icmp .ge 16, 3) := by decide +kernel
theorem dX5_countWanted_11 : decode cX5_countWanted 11 = .ok (.aload_n 0, 1) := by decide +kernel
theorem dX5_countWanted_12 : decode cX5_countWanted 12 = .ok (.getfield 46, 3) := by decide +kernel
theorem dX5_countWanted_15 : decode cX5_countWanted 15 = .ok (.iload_n 1, 1) := by decide +kernel
theorem dX5_countWanted_16 : decode cX5_countWanted 16 = .ok (.iconst 0, 1) := by decide +kernel
theorem dX5_countWanted_17 : decode cX5_countWanted 17 = .ok (.iastore, 1) := by decide +kernel
theorem dX5_countWanted_18 : decode cX5_countWanted 18 = .ok (.iinc 1 1, 3) := by decide +kernel
theorem dX5_countWanted_21 : decode cX5_countWanted 21 = .ok (.goto (-19), 3) := by decide +kernel
theorem dX5_countWanted_24 : decode cX5_countWanted 24 = .ok (.iconst 0, 1) := by decide +kernel
theorem dX5_countWanted_25 : decode cX5_countWanted 25 = .ok (.istore_n 1, 1) := by decide +kernel
theorem dX5_countWanted_26 : decode cX5_countWanted 26 = .ok (.iconst 0, 1) := by decide +kernel
theorem dX5_countWanted_27 : decode cX5_countWanted 27 = .ok (.istore_n 2, 1) := by decide +kernel
theorem dX5_countWanted_28 : decode cX5_countWanted 28 = .ok (.iload_n 2, 1) := by decide +kernel
theorem dX5_countWanted_29 : decode cX5_countWanted 29 = .ok (.aload_n 0, 1) := by decide +kernel
theorem dX5_countWanted_30 : decode cX5_countWanted 30 = .ok (.getfield 31, 3) := by decide +kernel
theorem dX5_countWanted_33 : decode cX5_countWanted 33 = .ok (.getfield 116, 3) := by decide +kernel
theorem dX5_countWanted_36 : decode cX5_countWanted 36 = .ok (.if_icmp .ge 88, 3) := by decide +kernel
theorem dX5_countWanted_39 : decode cX5_countWanted 39 = .ok (.aload_n 0, 1) := by decide +kernel
theorem dX5_countWanted_40 : decode cX5_countWanted 40 = .ok (.getfield 42, 3) := by decide +kernel
theorem dX5_countWanted_43 : decode cX5_countWanted 43 = .ok (.aload_n 0, 1) := by decide +kernel
theorem dX5_countWanted_44 : decode cX5_countWanted 44 = .ok (.getfield 31, 3) := by decide +kernel
theorem dX5_countWanted_47 : decode cX5_countWanted 47 = .ok (.getfield 200, 3) := by decide +kernel
theorem dX5_countWanted_50 : decode cX5_countWanted 50 = .ok (.iload_n 2, 1) := by decide +kernel
theorem dX5_countWanted_51 : decode cX5_countWanted 51 = .ok (.iaload, 1) := by decide +kernel
theorem dX5_countWanted_52 : decode cX5_countWanted 52 = .ok (.aload_n 0, 1) := by decide +kernel
theorem dX5_countWanted_53 : decode cX5_countWanted 53 = .ok (.getfield 31, 3) := by decide +kernel
theorem dX5_countWanted_56 : decode cX5_countWanted 56 = .ok (.iload_n 2, 1) := by decide +kernel
theorem dX5_countWanted_57 : decode cX5_countWanted 57 = .ok (.invokevirtual 209, 3) := by decide +kernel
theorem dX5_countWanted_60 : decode cX5_countWanted 60 = .ok (.invokevirtual 212, 3) := by decide +kernel
theorem dX5_countWanted_63 : decode cX5_countWanted 63 = .ok (.aload_n 0, 1) := by decide +kernel
theorem dX5_countWanted_64 : decode cX5_countWanted 64 = .ok (.getfield 42, 3) := by decide +kernel
theorem dX5_countWanted_67 : decode cX5_countWanted 67 = .ok (.getfield 215, 3) := by decide +kernel
theorem dX5_countWanted_70 : decode cX5_countWanted 70 = .ok (.ifCond .le 48, 3) := by decide +kernel
theorem dX5_countWanted_73 : decode cX5_countWanted 73 = .ok (.iinc 1 1, 3) := by decide +kernel
theorem dX5_countWanted_76 : decode cX5_countWanted 76 = .ok (.iconst 2, 1) := by decide +kernel
theorem dX5_countWanted_77 : decode cX5_countWanted 77 = .ok (.istore_n 3, 1) := by decide +kernel
theorem dX5_countWanted_78 : decode cX5_countWanted 78 = .ok (.iload_n 3, 1) := by decide +kernel
theorem dX5_countWanted_79 : decode cX5_countWanted 79 = .ok (.bipush 16, 2) := by decide +kernel
theorem dX5_countWanted_81 : decode cX5_countWanted 81 = .ok (.if_icmp .gt 37, 3) := by decide +kernel
theorem dX5_countWanted_84 : decode cX5_countWanted 84 = .ok (.aload_n 0, 1) := by decide +kernel
theorem dX5_countWanted_85 : decode cX5_countWanted 85 = .ok (.getfield 46, 3) := by decide +kernel
theorem dX5_countWanted_88 : decode cX5_countWanted 88 = .ok (.iload_n 3, 1) := by decide +kernel
theorem dX5_countWanted_89 : decode cX5_countWanted 89 = .ok (.dup2, 1) := by decide +kernel
theorem dX5_countWanted_90 : decode cX5_countWanted 90 = .ok (.iaload, 1) := by decide +kernel
theorem dX5_countWanted_91 : decode cX5_countWanted 91 = .ok (.aload_n 0, 1) := by decide +kernel
theorem dX5_countWanted_92 : decode cX5_countWanted 92 = .ok (.getfield 42, 3) := by decide +kernel
theorem dX5_countWanted_95 : decode cX5_countWanted 95 = .ok (.getfield 224, 3) := by decide +kernel
theorem dX5_countWanted_98 : decode cX5_countWanted 98 = .ok (.iload_n 3, 1) := by decide +kernel
theorem dX5_countWanted_99 : decode cX5_countWanted 99 = .ok (.invokestatic 150, 3) := by decide +kernel
theorem dX5_countWanted_102 : decode cX5_countWanted 102 = .ok (.ifCond .eq 7, 3) := by decide +kernel
theorem dX5_countWanted_105 : decode cX5_countWanted 105 = .ok (.iconst 1, 1) := by decide +kernel
theorem dX5_countWanted_106 : decode cX5_countWanted 106 = .ok (.goto 4, 3) := by decide +kernel
theorem dX5_countWanted_109 : decode cX5_countWanted 109 = .ok (.iconst 0, 1) := by decide +kernel
theorem dX5_countWanted_110 : decode cX5_countWanted 110 = .ok (.iadd, 1) := by decide +kernel
theorem dX5_countWanted_111 : decode cX5_countWanted 111 = .ok (.iastore, 1) := by decide +kernel
theorem dX5_countWanted_112 : decode cX5_countWanted 112 = .ok (.iinc 3 1, 3) := by decide +kernel
theorem dX5_countWanted_115 : decode cX5_countWanted 115 = .ok (.goto (-37), 3) := by decide +kernel
theorem dX5_countWanted_118 : decode cX5_countWanted 118 = .ok (.iinc 2 1, 3) := by decide +kernel
theorem dX5_countWanted_121 : decode cX5_countWanted 121 = .ok (.goto (-93), 3) := by decide +kernel
theorem dX5_countWanted_124 : decode cX5_countWanted 124 = .ok (.iload_n 1, 1) := by decide +kernel
theorem dX5_countWanted_125 : decode cX5_countWanted 125 = .ok (.ireturn, 1) := by decide +kernel
set_option maxRecDepth 20000 in
theorem ggX5_payableBy_X4_openTo : GoodIn wsX5_payableBy wsX4_openTo := goodIn_r _ [7, 8, 9, 10, 11, 12, 13, 14, 15, 16, 17, 18, 19, 69, 70, 71, 72, 73, 74, 75, 76, 77, 78, 79, 80, 81] (by decide +kernel) (by decide +kernel)
set_option maxRecDepth 20000 in
theorem gX5_payableBy_X4_openTo : GoodIn wsX5_payableBy (wsV RX5 209 RX4 yX4_openTo wsX4_openTo) := goodIn_app (goodIn_of _ (by decide +kernel)) ggX5_payableBy_X4_openTo
set_option maxRecDepth 20000 in
theorem ggX5_payableBy_X1_lookFor : GoodIn wsX5_payableBy wsX1_lookFor := goodIn_r _ [24, 25, 26, 27, 28, 29, 30, 31, 32, 23, 33, 34, 35, 36, 37, 38, 39, 40, 41, 42, 43, 44, 45, 46, 47, 48, 49, 50, 51, 52, 53, 54, 55, 56, 82, 83, 84, 85, 86] (by decide +kernel) (by decide +kernel)
set_option maxRecDepth 20000 in
theorem gX5_payableBy_X1_lookFor : GoodIn wsX5_payableBy (wsV RX5 212 RX1 yX1_lookFor wsX1_lookFor) := goodIn_app (goodIn_of _ (by decide +kernel)) ggX5_payableBy_X1_lookFor
theorem dX5_payableBy_0 : decode cX5_payableBy 0 = .ok (.iconst 0, 1) := by decide +kernel
theorem dX5_payableBy_1 : decode cX5_payableBy 1 = .ok (.istore_n 2, 1) := by decide +kernel
theorem dX5_payableBy_2 : decode cX5_payableBy 2 = .ok (.iconst 0, 1) := by decide +kernel
theorem dX5_payableBy_3 : decode cX5_payableBy 3 = .ok (.istore_n 3, 1) := by decide +kernel
theorem dX5_payableBy_4 : decode cX5_payableBy 4 = .ok (.iload_n 3, 1) := by decide +kernel
theorem dX5_payableBy_5 : decode cX5_payableBy 5 = .ok (.aload_n 0, 1) := by decide +kernel
theorem dX5_payableBy_6 : decode cX5_payableBy 6 = .ok (.getfield 31, 3) := by decide +kernel
theorem dX5_payableBy_9 : decode cX5_payableBy 9 = .ok (.getfield 116, 3) := by decide +kernel
theorem dX5_payableBy_12 : decode cX5_payableBy 12 = .ok (.if_icmp .ge 55, 3) := by decide +kernel
theorem dX5_payableBy_15 : decode cX5_payableBy 15 = .ok (.aload_n 0, 1) := by decide +kernel
theorem dX5_payableBy_16 : decode cX5_payableBy 16 = .ok (.getfield 42, 3) := by decide +kernel
theorem dX5_payableBy_19 : decode cX5_payableBy 19 = .ok (.aload_n 0, 1) := by decide +kernel
theorem dX5_payableBy_20 : decode cX5_payableBy 20 = .ok (.getfield 31, 3) := by decide +kernel
theorem dX5_payableBy_23 : decode cX5_payableBy 23 = .ok (.getfield 200, 3) := by decide +kernel
theorem dX5_payableBy_26 : decode cX5_payableBy 26 = .ok (.iload_n 3, 1) := by decide +kernel
theorem dX5_payableBy_27 : decode cX5_payableBy 27 = .ok (.iaload, 1) := by decide +kernel
theorem dX5_payableBy_28 : decode cX5_payableBy 28 = .ok (.aload_n 0, 1) := by decide +kernel
theorem dX5_payableBy_29 : decode cX5_payableBy 29 = .ok (.getfield 31, 3) := by decide +kernel
theorem dX5_payableBy_32 : decode cX5_payableBy 32 = .ok (.iload_n 3, 1) := by decide +kernel
theorem dX5_payableBy_33 : decode cX5_payableBy 33 = .ok (.invokevirtual 209, 3) := by decide +kernel
theorem dX5_payableBy_36 : decode cX5_payableBy 36 = .ok (.iload_n 1, 1) := by decide +kernel
theorem dX5_payableBy_37 : decode cX5_payableBy 37 = .ok (.iand, 1) := by decide +kernel
theorem dX5_payableBy_38 : decode cX5_payableBy 38 = .ok (.invokevirtual 212, 3) := by decide +kernel
theorem dX5_payableBy_41 : decode cX5_payableBy 41 = .ok (.iload_n 2, 1) := by decide +kernel
theorem dX5_payableBy_42 : decode cX5_payableBy 42 = .ok (.aload_n 0, 1) := by decide +kernel
theorem dX5_payableBy_43 : decode cX5_payableBy 43 = .ok (.getfield 42, 3) := by decide +kernel
theorem dX5_payableBy_46 : decode cX5_payableBy 46 = .ok (.getfield 215, 3) := by decide +kernel
theorem dX5_payableBy_49 : decode cX5_payableBy 49 = .ok (.ifCond .le 9, 3) := by decide +kernel
theorem dX5_payableBy_52 : decode cX5_payableBy 52 = .ok (.iconst 1, 1) := by decide +kernel
theorem dX5_payableBy_53 : decode cX5_payableBy 53 = .ok (.iload_n 3, 1) := by decide +kernel
theorem dX5_payableBy_54 : decode cX5_payableBy 54 = .ok (.ishl, 1) := by decide +kernel
theorem dX5_payableBy_55 : decode cX5_payableBy 55 = .ok (.goto 4, 3) := by decide +kernel
theorem dX5_payableBy_58 : decode cX5_payableBy 58 = .ok (.iconst 0, 1) := by decide +kernel
theorem dX5_payableBy_59 : decode cX5_payableBy 59 = .ok (.ior, 1) := by decide +kernel
theorem dX5_payableBy_60 : decode cX5_payableBy 60 = .ok (.istore_n 2, 1) := by decide +kernel
theorem dX5_payableBy_61 : decode cX5_payableBy 61 = .ok (.iinc 3 1, 3) := by decide +kernel
theorem dX5_payableBy_64 : decode cX5_payableBy 64 = .ok (.goto (-60), 3) := by decide +kernel
theorem dX5_payableBy_67 : decode cX5_payableBy 67 = .ok (.iload_n 2, 1) := by decide +kernel
theorem dX5_payableBy_68 : decode cX5_payableBy 68 = .ok (.ireturn, 1) := by decide +kernel
theorem dX5_keptTables_0 : decode cX5_keptTables 0 = .ok (.iconst 0, 1) := by decide +kernel
theorem dX5_keptTables_1 : decode cX5_keptTables 1 = .ok (.istore_n 1, 1) := by decide +kernel
theorem dX5_keptTables_2 : decode cX5_keptTables 2 = .ok (.iconst 0, 1) := by decide +kernel
theorem dX5_keptTables_3 : decode cX5_keptTables 3 = .ok (.istore_n 2, 1) := by decide +kernel
theorem dX5_keptTables_4 : decode cX5_keptTables 4 = .ok (.iload_n 2, 1) := by decide +kernel
theorem dX5_keptTables_5 : decode cX5_keptTables 5 = .ok (.iconst 3, 1) := by decide +kernel
theorem dX5_keptTables_6 : decode cX5_keptTables 6 = .ok (.if_icmp .ge 29, 3) := by decide +kernel
theorem dX5_keptTables_9 : decode cX5_keptTables 9 = .ok (.iload_n 1, 1) := by decide +kernel
theorem dX5_keptTables_10 : decode cX5_keptTables 10 = .ok (.aload_n 0, 1) := by decide +kernel
theorem dX5_keptTables_11 : decode cX5_keptTables 11 = .ok (.getfield 35, 3) := by decide +kernel
theorem dX5_keptTables_14 : decode cX5_keptTables 14 = .ok (.iload_n 2, 1) := by decide +kernel
theorem dX5_keptTables_15 : decode cX5_keptTables 15 = .ok (.aaload, 1) := by decide +kernel
theorem dX5_keptTables_16 : decode cX5_keptTables 16 = .ok (.getfield 116, 3) := by decide +kernel
theorem dX5_keptTables_19 : decode cX5_keptTables 19 = .ok (.ifCond .le 7, 3) := by decide +kernel
theorem dX5_keptTables_22 : decode cX5_keptTables 22 = .ok (.iconst 1, 1) := by decide +kernel
theorem dX5_keptTables_23 : decode cX5_keptTables 23 = .ok (.goto 4, 3) := by decide +kernel
theorem dX5_keptTables_26 : decode cX5_keptTables 26 = .ok (.iconst 0, 1) := by decide +kernel
theorem dX5_keptTables_27 : decode cX5_keptTables 27 = .ok (.iadd, 1) := by decide +kernel
theorem dX5_keptTables_28 : decode cX5_keptTables 28 = .ok (.istore_n 1, 1) := by decide +kernel
theorem dX5_keptTables_29 : decode cX5_keptTables 29 = .ok (.iinc 2 1, 3) := by decide +kernel
theorem dX5_keptTables_32 : decode cX5_keptTables 32 = .ok (.goto (-28), 3) := by decide +kernel
theorem dX5_keptTables_35 : decode cX5_keptTables 35 = .ok (.iload_n 1, 1) := by decide +kernel
theorem dX5_keptTables_36 : decode cX5_keptTables 36 = .ok (.ireturn, 1) := by decide +kernel
theorem dX5_isPart_0 : decode cX5_isPart 0 = .ok (.iload_n 0, 1) := by decide +kernel
theorem dX5_isPart_1 : decode cX5_isPart 1 = .ok (.iconst 2, 1) := by decide +kernel
theorem dX5_isPart_2 : decode cX5_isPart 2 = .ok (.if_icmp .lt 13, 3) := by decide +kernel
theorem dX5_isPart_5 : decode cX5_isPart 5 = .ok (.iload_n 0, 1) := by decide +kernel
theorem dX5_isPart_6 : decode cX5_isPart 6 = .ok (.bipush 16, 2) := by decide +kernel
theorem dX5_isPart_8 : decode cX5_isPart 8 = .ok (.if_icmp .gt 7, 3) := by decide +kernel
theorem dX5_isPart_11 : decode cX5_isPart 11 = .ok (.iconst 1, 1) := by decide +kernel
theorem dX5_isPart_12 : decode cX5_isPart 12 = .ok (.goto 4, 3) := by decide +kernel
theorem dX5_isPart_15 : decode cX5_isPart 15 = .ok (.iconst 0, 1) := by decide +kernel
theorem dX5_isPart_16 : decode cX5_isPart 16 = .ok (.ireturn, 1) := by decide +kernel
theorem dX5_partSize_0 : decode cX5_partSize 0 = .ok (.iload_n 0, 1) := by decide +kernel
theorem dX5_partSize_1 : decode cX5_partSize 1 = .ok (.ifCond .le 10, 3) := by decide +kernel
theorem dX5_partSize_4 : decode cX5_partSize 4 = .ok (.ldc 227, 2) := by decide +kernel
theorem dX5_partSize_6 : decode cX5_partSize 6 = .ok (.iload_n 0, 1) := by decide +kernel
theorem dX5_partSize_7 : decode cX5_partSize 7 = .ok (.idiv, 1) := by decide +kernel
theorem dX5_partSize_8 : decode cX5_partSize 8 = .ok (.goto 4, 3) := by decide +kernel
theorem dX5_partSize_11 : decode cX5_partSize 11 = .ok (.iconst 0, 1) := by decide +kernel
theorem dX5_partSize_12 : decode cX5_partSize 12 = .ok (.ireturn, 1) := by decide +kernel
theorem dX5_holds_0 : decode cX5_holds 0 = .ok (.iload_n 0, 1) := by decide +kernel
theorem dX5_holds_1 : decode cX5_holds 1 = .ok (.iload_n 1, 1) := by decide +kernel
theorem dX5_holds_2 : decode cX5_holds 2 = .ok (.ishr, 1) := by decide +kernel
theorem dX5_holds_3 : decode cX5_holds 3 = .ok (.iconst 1, 1) := by decide +kernel
theorem dX5_holds_4 : decode cX5_holds 4 = .ok (.iand, 1) := by decide +kernel
theorem dX5_holds_5 : decode cX5_holds 5 = .ok (.ifCond .eq 7, 3) := by decide +kernel
theorem dX5_holds_8 : decode cX5_holds 8 = .ok (.iconst 1, 1) := by decide +kernel
theorem dX5_holds_9 : decode cX5_holds 9 = .ok (.goto 4, 3) := by decide +kernel
theorem dX5_holds_12 : decode cX5_holds 12 = .ok (.iconst 0, 1) := by decide +kernel
theorem dX5_holds_13 : decode cX5_holds 13 = .ok (.ireturn, 1) := by decide +kernel
theorem dX5_greatestDivisor_0 : decode cX5_greatestDivisor 0 = .ok (.lload_n 0, 1) := by decide +kernel
theorem dX5_greatestDivisor_1 : decode cX5_greatestDivisor 1 = .ok (.lstore 4, 2) := by decide +kernel
theorem dX5_greatestDivisor_3 : decode cX5_greatestDivisor 3 = .ok (.lload_n 2, 1) := by decide +kernel
theorem dX5_greatestDivisor_4 : decode cX5_greatestDivisor 4 = .ok (.lstore 6, 2) := by decide +kernel
theorem dX5_greatestDivisor_6 : decode cX5_greatestDivisor 6 = .ok (.iconst 0, 1) := by decide +kernel
theorem dX5_greatestDivisor_7 : decode cX5_greatestDivisor 7 = .ok (.istore 8, 2) := by decide +kernel
theorem dX5_greatestDivisor_9 : decode cX5_greatestDivisor 9 = .ok (.iload 8, 2) := by decide +kernel
theorem dX5_greatestDivisor_11 : decode cX5_greatestDivisor 11 = .ok (.sipush 200, 3) := by decide +kernel
theorem dX5_greatestDivisor_14 : decode cX5_greatestDivisor 14 = .ok (.if_icmp .ge 31, 3) := by decide +kernel
theorem dX5_greatestDivisor_17 : decode cX5_greatestDivisor 17 = .ok (.lload 6, 2) := by decide +kernel
theorem dX5_greatestDivisor_19 : decode cX5_greatestDivisor 19 = .ok (.lconst 0, 1) := by decide +kernel
theorem dX5_greatestDivisor_20 : decode cX5_greatestDivisor 20 = .ok (.lcmp, 1) := by decide +kernel
theorem dX5_greatestDivisor_21 : decode cX5_greatestDivisor 21 = .ok (.ifCond .eq 24, 3) := by decide +kernel
theorem dX5_greatestDivisor_24 : decode cX5_greatestDivisor 24 = .ok (.lload 4, 2) := by decide +kernel
theorem dX5_greatestDivisor_26 : decode cX5_greatestDivisor 26 = .ok (.lload 6, 2) := by decide +kernel
theorem dX5_greatestDivisor_28 : decode cX5_greatestDivisor 28 = .ok (.lrem, 1) := by decide +kernel
theorem dX5_greatestDivisor_29 : decode cX5_greatestDivisor 29 = .ok (.lstore 9, 2) := by decide +kernel
theorem dX5_greatestDivisor_31 : decode cX5_greatestDivisor 31 = .ok (.lload 6, 2) := by decide +kernel
theorem dX5_greatestDivisor_33 : decode cX5_greatestDivisor 33 = .ok (.lstore 4, 2) := by decide +kernel
theorem dX5_greatestDivisor_35 : decode cX5_greatestDivisor 35 = .ok (.lload 9, 2) := by decide +kernel
theorem dX5_greatestDivisor_37 : decode cX5_greatestDivisor 37 = .ok (.lstore 6, 2) := by decide +kernel
theorem dX5_greatestDivisor_39 : decode cX5_greatestDivisor 39 = .ok (.iinc 8 1, 3) := by decide +kernel
theorem dX5_greatestDivisor_42 : decode cX5_greatestDivisor 42 = .ok (.goto (-33), 3) := by decide +kernel
theorem dX5_greatestDivisor_45 : decode cX5_greatestDivisor 45 = .ok (.lload 4, 2) := by decide +kernel
theorem dX5_greatestDivisor_47 : decode cX5_greatestDivisor 47 = .ok (.lreturn, 1) := by decide +kernel
theorem dX5_powerOfCrumbles_0 : decode cX5_powerOfCrumbles 0 = .ok (.lconst 1, 1) := by decide +kernel
theorem dX5_powerOfCrumbles_1 : decode cX5_powerOfCrumbles 1 = .ok (.lstore_n 1, 1) := by decide +kernel
theorem dX5_powerOfCrumbles_2 : decode cX5_powerOfCrumbles 2 = .ok (.iconst 0, 1) := by decide +kernel
theorem dX5_powerOfCrumbles_3 : decode cX5_powerOfCrumbles 3 = .ok (.istore_n 3, 1) := by decide +kernel
theorem dX5_powerOfCrumbles_4 : decode cX5_powerOfCrumbles 4 = .ok (.iload_n 3, 1) := by decide +kernel
theorem dX5_powerOfCrumbles_5 : decode cX5_powerOfCrumbles 5 = .ok (.iload_n 0, 1) := by decide +kernel
theorem dX5_powerOfCrumbles_6 : decode cX5_powerOfCrumbles 6 = .ok (.if_icmp .ge 15, 3) := by decide +kernel
theorem dX5_powerOfCrumbles_9 : decode cX5_powerOfCrumbles 9 = .ok (.lload_n 1, 1) := by decide +kernel
theorem dX5_powerOfCrumbles_10 : decode cX5_powerOfCrumbles 10 = .ok (.ldc2_w 329, 3) := by decide +kernel
theorem dX5_powerOfCrumbles_13 : decode cX5_powerOfCrumbles 13 = .ok (.lmul, 1) := by decide +kernel
theorem dX5_powerOfCrumbles_14 : decode cX5_powerOfCrumbles 14 = .ok (.lstore_n 1, 1) := by decide +kernel
theorem dX5_powerOfCrumbles_15 : decode cX5_powerOfCrumbles 15 = .ok (.iinc 3 1, 3) := by decide +kernel
theorem dX5_powerOfCrumbles_18 : decode cX5_powerOfCrumbles 18 = .ok (.goto (-14), 3) := by decide +kernel
theorem dX5_powerOfCrumbles_21 : decode cX5_powerOfCrumbles 21 = .ok (.lload_n 1, 1) := by decide +kernel
theorem dX5_powerOfCrumbles_22 : decode cX5_powerOfCrumbles 22 = .ok (.lreturn, 1) := by decide +kernel
set_option maxRecDepth 20000 in
theorem ggX5_enoughLeft_J6_bitCount_0f7a4 : GoodIn wsX5_enoughLeft wsJ6_bitCount_0f7a4 := goodIn_r _ [4, 5, 6, 7] (by decide +kernel) (by decide +kernel)
set_option maxRecDepth 20000 in
theorem gX5_enoughLeft_J6_bitCount_0f7a4 : GoodIn wsX5_enoughLeft (va_wsS RX5 137 yJ6_bitCount_0f7a4 wsJ6_bitCount_0f7a4) := goodIn_app (goodIn_of _ (by decide +kernel)) ggX5_enoughLeft_J6_bitCount_0f7a4
set_option maxRecDepth 20000 in
theorem ggX5_enoughLeft_X5_powerOfCrumbles : GoodIn wsX5_enoughLeft wsX5_powerOfCrumbles := goodIn_r _ [11, 12] (by decide +kernel) (by decide +kernel)
set_option maxRecDepth 20000 in
theorem gX5_enoughLeft_X5_powerOfCrumbles : GoodIn wsX5_enoughLeft (va_wsS RX5 273 yX5_powerOfCrumbles wsX5_powerOfCrumbles) := goodIn_app (goodIn_of _ (by decide +kernel)) ggX5_enoughLeft_X5_powerOfCrumbles
set_option maxRecDepth 20000 in
theorem ggX5_enoughLeft_X5_holds : GoodIn wsX5_enoughLeft wsX5_holds := goodIn_r _ [15] (by decide +kernel) (by decide +kernel)
set_option maxRecDepth 20000 in
theorem gX5_enoughLeft_X5_holds : GoodIn wsX5_enoughLeft (va_wsS RX5 150 yX5_holds wsX5_holds) := goodIn_app (goodIn_of _ (by decide +kernel)) ggX5_enoughLeft_X5_holds
set_option maxRecDepth 20000 in
theorem ggX5_enoughLeft_X5_enoughLeft : GoodIn wsX5_enoughLeft wsX5_enoughLeft := goodIn_r _ [0, 1, 2, 3, 4, 5, 6, 7, 8, 9, 10, 11, 12, 13, 14, 15, 16, 17, 18, 19, 20, 21] (by decide +kernel) (by decide +kernel)
set_option maxRecDepth 20000 in
theorem gX5_enoughLeft_X5_enoughLeft : GoodIn wsX5_enoughLeft (va_wsS RX5 269 yX5_enoughLeft wsX5_enoughLeft) := goodIn_app (goodIn_of _ (by decide +kernel)) ggX5_enoughLeft_X5_enoughLeft
set_option maxRecDepth 20000 in
theorem ggX5_enoughLeft_X5_partSize : GoodIn wsX5_enoughLeft wsX5_partSize := goodIn_r _ [20, 21] (by decide +kernel) (by decide +kernel)
set_option maxRecDepth 20000 in
theorem gX5_enoughLeft_X5_partSize : GoodIn wsX5_enoughLeft (va_wsS RX5 238 yX5_partSize wsX5_partSize) := goodIn_app (goodIn_of _ (by decide +kernel)) ggX5_enoughLeft_X5_partSize
theorem dX5_enoughLeft_0 : decode cX5_enoughLeft 0 = .ok (.iload_n 2, 1) := by decide +kernel
theorem dX5_enoughLeft_1 : decode cX5_enoughLeft 1 = .ok (.ifCond .gt 11, 3) := by decide +kernel
theorem dX5_enoughLeft_4 : decode cX5_enoughLeft 4 = .ok (.iload_n 1, 1) := by decide +kernel
theorem dX5_enoughLeft_5 : decode cX5_enoughLeft 5 = .ok (.invokestatic 137, 3) := by decide +kernel
theorem dX5_enoughLeft_8 : decode cX5_enoughLeft 8 = .ok (.invokestatic 273, 3) := by decide +kernel
theorem dX5_enoughLeft_11 : decode cX5_enoughLeft 11 = .ok (.lreturn, 1) := by decide +kernel
theorem dX5_enoughLeft_12 : decode cX5_enoughLeft 12 = .ok (.iload_n 0, 1) := by decide +kernel
theorem dX5_enoughLeft_13 : decode cX5_enoughLeft 13 = .ok (.bipush 16, 2) := by decide +kernel
theorem dX5_enoughLeft_15 : decode cX5_enoughLeft 15 = .ok (.if_icmp .gt 8, 3) := by decide +kernel
theorem dX5_enoughLeft_18 : decode cX5_enoughLeft 18 = .ok (.iload_n 3, 1) := by decide +kernel
theorem dX5_enoughLeft_19 : decode cX5_enoughLeft 19 = .ok (.iload_n 2, 1) := by decide +kernel
theorem dX5_enoughLeft_20 : decode cX5_enoughLeft 20 = .ok (.if_icmp .ge 5, 3) := by decide +kernel
theorem dX5_enoughLeft_23 : decode cX5_enoughLeft 23 = .ok (.lconst 0, 1) := by decide +kernel
theorem dX5_enoughLeft_24 : decode cX5_enoughLeft 24 = .ok (.lreturn, 1) := by decide +kernel
theorem dX5_enoughLeft_25 : decode cX5_enoughLeft 25 = .ok (.iload_n 1, 1) := by decide +kernel
theorem dX5_enoughLeft_26 : decode cX5_enoughLeft 26 = .ok (.iload_n 0, 1) := by decide +kernel
theorem dX5_enoughLeft_27 : decode cX5_enoughLeft 27 = .ok (.invokestatic 150, 3) := by decide +kernel
theorem dX5_enoughLeft_30 : decode cX5_enoughLeft 30 = .ok (.ifCond .ne 15, 3) := by decide +kernel
theorem dX5_enoughLeft_33 : decode cX5_enoughLeft 33 = .ok (.iload_n 0, 1) := by decide +kernel
theorem dX5_enoughLeft_34 : decode cX5_enoughLeft 34 = .ok (.iconst 1, 1) := by decide +kernel
theorem dX5_enoughLeft_35 : decode cX5_enoughLeft 35 = .ok (.iadd, 1) := by decide +kernel
theorem dX5_enoughLeft_36 : decode cX5_enoughLeft 36 = .ok (.iload_n 1, 1) := by decide +kernel
theorem dX5_enoughLeft_37 : decode cX5_enoughLeft 37 = .ok (.iload_n 2, 1) := by decide +kernel
theorem dX5_enoughLeft_38 : decode cX5_enoughLeft 38 = .ok (.iload_n 3, 1) := by decide +kernel
theorem dX5_enoughLeft_39 : decode cX5_enoughLeft 39 = .ok (.iload 4, 2) := by decide +kernel
theorem dX5_enoughLeft_41 : decode cX5_enoughLeft 41 = .ok (.invokestatic 269, 3) := by decide +kernel
theorem dX5_enoughLeft_44 : decode cX5_enoughLeft 44 = .ok (.lreturn, 1) := by decide +kernel
theorem dX5_enoughLeft_45 : decode cX5_enoughLeft 45 = .ok (.iconst 2, 1) := by decide +kernel
theorem dX5_enoughLeft_46 : decode cX5_enoughLeft 46 = .ok (.iload_n 0, 1) := by decide +kernel
theorem dX5_enoughLeft_47 : decode cX5_enoughLeft 47 = .ok (.invokestatic 238, 3) := by decide +kernel
theorem dX5_enoughLeft_50 : decode cX5_enoughLeft 50 = .ok (.imul, 1) := by decide +kernel
theorem dX5_enoughLeft_51 : decode cX5_enoughLeft 51 = .ok (.istore 5, 2) := by decide +kernel
theorem dX5_enoughLeft_53 : decode cX5_enoughLeft 53 = .ok (.iload_n 1, 1) := by decide +kernel
theorem dX5_enoughLeft_54 : decode cX5_enoughLeft 54 = .ok (.iconst 1, 1) := by decide +kernel
theorem dX5_enoughLeft_55 : decode cX5_enoughLeft 55 = .ok (.iload_n 0, 1) := by decide +kernel
theorem dX5_enoughLeft_56 : decode cX5_enoughLeft 56 = .ok (.ishl, 1) := by decide +kernel
theorem dX5_enoughLeft_57 : decode cX5_enoughLeft 57 = .ok (.iconst (-1), 1) := by decide +kernel
theorem dX5_enoughLeft_58 : decode cX5_enoughLeft 58 = .ok (.ixor, 1) := by decide +kernel
theorem dX5_enoughLeft_59 : decode cX5_enoughLeft 59 = .ok (.iand, 1) := by decide +kernel
theorem dX5_enoughLeft_60 : decode cX5_enoughLeft 60 = .ok (.istore 6, 2) := by decide +kernel
theorem dX5_enoughLeft_62 : decode cX5_enoughLeft 62 = .ok (.iload 4, 2) := by decide +kernel
theorem dX5_enoughLeft_64 : decode cX5_enoughLeft 64 = .ok (.i2l, 1) := by decide +kernel
theorem dX5_enoughLeft_65 : decode cX5_enoughLeft 65 = .ok (.iload_n 0, 1) := by decide +kernel
theorem dX5_enoughLeft_66 : decode cX5_enoughLeft 66 = .ok (.iconst 1, 1) := by decide +kernel
theorem dX5_enoughLeft_67 : decode cX5_enoughLeft 67 = .ok (.iadd, 1) := by decide +kernel
theorem dX5_enoughLeft_68 : decode cX5_enoughLeft 68 = .ok (.iload 6, 2) := by decide +kernel
theorem dX5_enoughLeft_70 : decode cX5_enoughLeft 70 = .ok (.iload_n 2, 1) := by decide +kernel
theorem dX5_enoughLeft_71 : decode cX5_enoughLeft 71 = .ok (.iload_n 3, 1) := by decide +kernel
theorem dX5_enoughLeft_72 : decode cX5_enoughLeft 72 = .ok (.iload 5, 2) := by decide +kernel
theorem dX5_enoughLeft_74 : decode cX5_enoughLeft 74 = .ok (.isub, 1) := by decide +kernel
theorem dX5_enoughLeft_75 : decode cX5_enoughLeft 75 = .ok (.iload 4, 2) := by decide +kernel
theorem dX5_enoughLeft_77 : decode cX5_enoughLeft 77 = .ok (.invokestatic 269, 3) := by decide +kernel
theorem dX5_enoughLeft_80 : decode cX5_enoughLeft 80 = .ok (.lmul, 1) := by decide +kernel
theorem dX5_enoughLeft_81 : decode cX5_enoughLeft 81 = .ok (.bipush 12, 2) := by decide +kernel
theorem dX5_enoughLeft_83 : decode cX5_enoughLeft 83 = .ok (.iload 4, 2) := by decide +kernel
theorem dX5_enoughLeft_85 : decode cX5_enoughLeft 85 = .ok (.isub, 1) := by decide +kernel
theorem dX5_enoughLeft_86 : decode cX5_enoughLeft 86 = .ok (.i2l, 1) := by decide +kernel
theorem dX5_enoughLeft_87 : decode cX5_enoughLeft 87 = .ok (.iload_n 0, 1) := by decide +kernel
theorem dX5_enoughLeft_88 : decode cX5_enoughLeft 88 = .ok (.iconst 1, 1) := by decide +kernel
theorem dX5_enoughLeft_89 : decode cX5_enoughLeft 89 = .ok (.iadd, 1) := by decide +kernel
theorem dX5_enoughLeft_90 : decode cX5_enoughLeft 90 = .ok (.iload 6, 2) := by decide +kernel
theorem dX5_enoughLeft_92 : decode cX5_enoughLeft 92 = .ok (.iload_n 2, 1) := by decide +kernel
theorem dX5_enoughLeft_93 : decode cX5_enoughLeft 93 = .ok (.iload 5, 2) := by decide +kernel
theorem dX5_enoughLeft_95 : decode cX5_enoughLeft 95 = .ok (.isub, 1) := by decide +kernel
theorem dX5_enoughLeft_96 : decode cX5_enoughLeft 96 = .ok (.iload_n 3, 1) := by decide +kernel
theorem dX5_enoughLeft_97 : decode cX5_enoughLeft 97 = .ok (.iload 5, 2) := by decide +kernel
theorem dX5_enoughLeft_99 : decode cX5_enoughLeft 99 = .ok (.isub, 1) := by decide +kernel
theorem dX5_enoughLeft_100 : decode cX5_enoughLeft 100 = .ok (.iload 4, 2) := by decide +kernel
theorem dX5_enoughLeft_102 : decode cX5_enoughLeft 102 = .ok (.invokestatic 269, 3) := by decide +kernel
theorem dX5_enoughLeft_105 : decode cX5_enoughLeft 105 = .ok (.lmul, 1) := by decide +kernel
theorem dX5_enoughLeft_106 : decode cX5_enoughLeft 106 = .ok (.ladd, 1) := by decide +kernel
theorem dX5_enoughLeft_107 : decode cX5_enoughLeft 107 = .ok (.lreturn, 1) := by decide +kernel
theorem dX6_init_0 : decode cX6_init 0 = .ok (.aload_n 0, 1) := by decide +kernel
theorem dX6_init_1 : decode cX6_init 1 = .ok (.invokespecial 1, 3) := by decide +kernel
theorem dX6_init_4 : decode cX6_init 4 = .ok (.aload_n 0, 1) := by decide +kernel
theorem dX6_init_5 : decode cX6_init 5 = .ok (.lconst 1, 1) := by decide +kernel
theorem dX6_init_6 : decode cX6_init 6 = .ok (.putfield 7, 3) := by decide +kernel
theorem dX6_init_9 : decode cX6_init 9 = .ok (.aload_n 0, 1) := by decide +kernel
theorem dX6_init_10 : decode cX6_init 10 = .ok (.bipush 6, 2) := by decide +kernel
theorem dX6_init_12 : decode cX6_init 12 = .ok (.newarray .int, 2) := by decide +kernel
theorem dX6_init_14 : decode cX6_init 14 = .ok (.putfield 13, 3) := by decide +kernel
theorem dX6_init_17 : decode cX6_init 17 = .ok (.aload_n 0, 1) := by decide +kernel
theorem dX6_init_18 : decode cX6_init 18 = .ok (.bipush 6, 2) := by decide +kernel
theorem dX6_init_20 : decode cX6_init 20 = .ok (.newarray .int, 2) := by decide +kernel
theorem dX6_init_22 : decode cX6_init 22 = .ok (.putfield 17, 3) := by decide +kernel
theorem dX6_init_25 : decode cX6_init 25 = .ok (.aload_n 0, 1) := by decide +kernel
theorem dX6_init_26 : decode cX6_init 26 = .ok (.sipush 240, 3) := by decide +kernel
theorem dX6_init_29 : decode cX6_init 29 = .ok (.newarray .int, 2) := by decide +kernel
theorem dX6_init_31 : decode cX6_init 31 = .ok (.putfield 20, 3) := by decide +kernel
theorem dX6_init_34 : decode cX6_init 34 = .ok (.aload_n 0, 1) := by decide +kernel
theorem dX6_init_35 : decode cX6_init 35 = .ok (.bipush 40, 2) := by decide +kernel
theorem dX6_init_37 : decode cX6_init 37 = .ok (.newarray .int, 2) := by decide +kernel
theorem dX6_init_39 : decode cX6_init 39 = .ok (.putfield 23, 3) := by decide +kernel
theorem dX6_init_42 : decode cX6_init 42 = .ok (.aload_n 0, 1) := by decide +kernel
theorem dX6_init_43 : decode cX6_init 43 = .ok (.iconst 4, 1) := by decide +kernel
theorem dX6_init_44 : decode cX6_init 44 = .ok (.newarray .int, 2) := by decide +kernel
