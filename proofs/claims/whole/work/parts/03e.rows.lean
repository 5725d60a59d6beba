set_option maxRecDepth 20000 in
theorem gX6_mark_X6_lying : GoodIn wsX6_mark (wsV RX6 180 RX6 yX6_lying wsX6_lying) := goodIn_app (goodIn_of _ (by decide +kernel)) ggX6_mark_X6_lying
theorem dX6_mark_0 : decode cX6_mark 0 = .ok (.aload_n 0, 1) := by decide +kernel
theorem dX6_mark_1 : decode cX6_mark 1 = .ok (.iload_n 1, 1) := by decide +kernel
theorem dX6_mark_2 : decode cX6_mark 2 = .ok (.invokevirtual 165, 3) := by decide +kernel
theorem dX6_mark_5 : decode cX6_mark 5 = .ok (.ifCond .eq 12, 3) := by decide +kernel
theorem dX6_mark_8 : decode cX6_mark 8 = .ok (.iload_n 2, 1) := by decide +kernel
theorem dX6_mark_9 : decode cX6_mark 9 = .ok (.iconst 1, 1) := by decide +kernel
theorem dX6_mark_10 : decode cX6_mark 10 = .ok (.iconst 5, 1) := by decide +kernel
theorem dX6_mark_11 : decode cX6_mark 11 = .ok (.invokestatic 83, 3) := by decide +kernel
theorem dX6_mark_14 : decode cX6_mark 14 = .ok (.ifCond .ne 5, 3) := by decide +kernel
theorem dX6_mark_17 : decode cX6_mark 17 = .ok (.iconst (-1), 1) := by decide +kernel
theorem dX6_mark_18 : decode cX6_mark 18 = .ok (.ireturn, 1) := by decide +kernel
theorem dX6_mark_19 : decode cX6_mark 19 = .ok (.aload_n 0, 1) := by decide +kernel
theorem dX6_mark_20 : decode cX6_mark 20 = .ok (.getfield 42, 3) := by decide +kernel
theorem dX6_mark_23 : decode cX6_mark 23 = .ok (.iload_n 1, 1) := by decide +kernel
theorem dX6_mark_24 : decode cX6_mark 24 = .ok (.iaload, 1) := by decide +kernel
theorem dX6_mark_25 : decode cX6_mark 25 = .ok (.iload_n 2, 1) := by decide +kernel
theorem dX6_mark_26 : decode cX6_mark 26 = .ok (.invokestatic 171, 3) := by decide +kernel
theorem dX6_mark_29 : decode cX6_mark 29 = .ok (.ifCond .ne 9, 3) := by decide +kernel
theorem dX6_mark_32 : decode cX6_mark 32 = .ok (.aload_n 0, 1) := by decide +kernel
theorem dX6_mark_33 : decode cX6_mark 33 = .ok (.iconst 3, 1) := by decide +kernel
theorem dX6_mark_34 : decode cX6_mark 34 = .ok (.invokevirtual 91, 3) := by decide +kernel
theorem dX6_mark_37 : decode cX6_mark 37 = .ok (.ireturn, 1) := by decide +kernel
theorem dX6_mark_38 : decode cX6_mark 38 = .ok (.aload_n 0, 1) := by decide +kernel
theorem dX6_mark_39 : decode cX6_mark 39 = .ok (.getfield 42, 3) := by decide +kernel
theorem dX6_mark_42 : decode cX6_mark 42 = .ok (.iload_n 1, 1) := by decide +kernel
theorem dX6_mark_43 : decode cX6_mark 43 = .ok (.iaload, 1) := by decide +kernel
theorem dX6_mark_44 : decode cX6_mark 44 = .ok (.invokestatic 174, 3) := by decide +kernel
theorem dX6_mark_47 : decode cX6_mark 47 = .ok (.istore_n 3, 1) := by decide +kernel
theorem dX6_mark_48 : decode cX6_mark 48 = .ok (.iload_n 2, 1) := by decide +kernel
theorem dX6_mark_49 : decode cX6_mark 49 = .ok (.tableswitch 71 1 4 #[31, 36, 46, 58], 31) := by decide +kernel
theorem dX6_mark_80 : decode cX6_mark 80 = .ok (.iload_n 3, 1) := by decide +kernel
theorem dX6_mark_81 : decode cX6_mark 81 = .ok (.invokestatic 177, 3) := by decide +kernel
theorem dX6_mark_84 : decode cX6_mark 84 = .ok (.ireturn, 1) := by decide +kernel
theorem dX6_mark_85 : decode cX6_mark 85 = .ok (.iload_n 3, 1) := by decide +kernel
theorem dX6_mark_86 : decode cX6_mark 86 = .ok (.aload_n 0, 1) := by decide +kernel
theorem dX6_mark_87 : decode cX6_mark 87 = .ok (.invokevirtual 180, 3) := by decide +kernel
theorem dX6_mark_90 : decode cX6_mark 90 = .ok (.iand, 1) := by decide +kernel
theorem dX6_mark_91 : decode cX6_mark 91 = .ok (.invokestatic 177, 3) := by decide +kernel
theorem dX6_mark_94 : decode cX6_mark 94 = .ok (.ireturn, 1) := by decide +kernel
theorem dX6_mark_95 : decode cX6_mark 95 = .ok (.aload_n 0, 1) := by decide +kernel
theorem dX6_mark_96 : decode cX6_mark 96 = .ok (.invokevirtual 180, 3) := by decide +kernel
theorem dX6_mark_99 : decode cX6_mark 99 = .ok (.iload_n 3, 1) := by decide +kernel
theorem dX6_mark_100 : decode cX6_mark 100 = .ok (.iconst (-1), 1) := by decide +kernel
theorem dX6_mark_101 : decode cX6_mark 101 = .ok (.ixor, 1) := by decide +kernel
theorem dX6_mark_102 : decode cX6_mark 102 = .ok (.iand, 1) := by decide +kernel
theorem dX6_mark_103 : decode cX6_mark 103 = .ok (.invokestatic 177, 3) := by decide +kernel
theorem dX6_mark_106 : decode cX6_mark 106 = .ok (.ireturn, 1) := by decide +kernel
theorem dX6_mark_107 : decode cX6_mark 107 = .ok (.iload_n 3, 1) := by decide +kernel
theorem dX6_mark_108 : decode cX6_mark 108 = .ok (.invokestatic 177, 3) := by decide +kernel
theorem dX6_mark_111 : decode cX6_mark 111 = .ok (.iconst 1, 1) := by decide +kernel
theorem dX6_mark_112 : decode cX6_mark 112 = .ok (.invokestatic 174, 3) := by decide +kernel
theorem dX6_mark_115 : decode cX6_mark 115 = .ok (.invokestatic 177, 3) := by decide +kernel
theorem dX6_mark_118 : decode cX6_mark 118 = .ok (.isub, 1) := by decide +kernel
theorem dX6_mark_119 : decode cX6_mark 119 = .ok (.ireturn, 1) := by decide +kernel
theorem dX6_mark_120 : decode cX6_mark 120 = .ok (.iconst 3, 1) := by decide +kernel
theorem dX6_mark_121 : decode cX6_mark 121 = .ok (.invokestatic 174, 3) := by decide +kernel
theorem dX6_mark_124 : decode cX6_mark 124 = .ok (.invokestatic 177, 3) := by decide +kernel
theorem dX6_mark_127 : decode cX6_mark 127 = .ok (.iload_n 3, 1) := by decide +kernel
theorem dX6_mark_128 : decode cX6_mark 128 = .ok (.invokestatic 177, 3) := by decide +kernel
theorem dX6_mark_131 : decode cX6_mark 131 = .ok (.isub, 1) := by decide +kernel
theorem dX6_mark_132 : decode cX6_mark 132 = .ok (.ireturn, 1) := by decide +kernel
set_option maxRecDepth 20000 in
theorem ggX6_takes_X6_isWorker : GoodIn wsX6_takes wsX6_isWorker := goodIn_r _ [6, 7, 8, 9, 5, 10, 17, 18, 19, 20, 21, 22, 23, 24, 25, 26, 27, 28, 29, 30, 31, 32, 33, 34, 35, 36, 37, 38, 39, 40, 41, 42, 43, 44, 45, 46, 47, 48, 49, 50] (by decide +kernel) (by decide +kernel)
set_option maxRecDepth 20000 in
theorem gX6_takes_X6_isWorker : GoodIn wsX6_takes (wsV RX6 165 RX6 yX6_isWorker wsX6_isWorker) := goodIn_app (goodIn_of _ (by decide +kernel)) ggX6_takes_X6_isWorker
set_option maxRecDepth 20000 in
theorem ggX6_takes_X6_isPart : GoodIn wsX6_takes wsX6_isPart := goodIn_r _ [13, 8, 9, 5, 10] (by decide +kernel) (by decide +kernel)
set_option maxRecDepth 20000 in
theorem gX6_takes_X6_isPart : GoodIn wsX6_takes (va_wsS RX6 184 yX6_isPart wsX6_isPart) := goodIn_app (goodIn_of _ (by decide +kernel)) ggX6_takes_X6_isPart
set_option maxRecDepth 20000 in
theorem ggX6_takes_X6_takesAs : GoodIn wsX6_takes wsX6_takesAs := goodIn_r _ [16] (by decide +kernel) (by decide +kernel)
set_option maxRecDepth 20000 in
theorem gX6_takes_X6_takesAs : GoodIn wsX6_takes (va_wsS RX6 142 yX6_takesAs wsX6_takesAs) := goodIn_app (goodIn_of _ (by decide +kernel)) ggX6_takes_X6_takesAs
theorem dX6_takes_0 : decode cX6_takes 0 = .ok (.aload_n 0, 1) := by decide +kernel
theorem dX6_takes_1 : decode cX6_takes 1 = .ok (.iload_n 1, 1) := by decide +kernel
theorem dX6_takes_2 : decode cX6_takes 2 = .ok (.invokevirtual 165, 3) := by decide +kernel
theorem dX6_takes_5 : decode cX6_takes 5 = .ok (.ifCond .eq 31, 3) := by decide +kernel
theorem dX6_takes_8 : decode cX6_takes 8 = .ok (.iload_n 2, 1) := by decide +kernel
theorem dX6_takes_9 : decode cX6_takes 9 = .ok (.invokestatic 184, 3) := by decide +kernel
theorem dX6_takes_12 : decode cX6_takes 12 = .ok (.ifCond .eq 24, 3) := by decide +kernel
theorem dX6_takes_15 : decode cX6_takes 15 = .ok (.aload_n 0, 1) := by decide +kernel
theorem dX6_takes_16 : decode cX6_takes 16 = .ok (.getfield 42, 3) := by decide +kernel
theorem dX6_takes_19 : decode cX6_takes 19 = .ok (.iload_n 1, 1) := by decide +kernel
theorem dX6_takes_20 : decode cX6_takes 20 = .ok (.iaload, 1) := by decide +kernel
theorem dX6_takes_21 : decode cX6_takes 21 = .ok (.iload_n 2, 1) := by decide +kernel
theorem dX6_takes_22 : decode cX6_takes 22 = .ok (.invokestatic 142, 3) := by decide +kernel
theorem dX6_takes_25 : decode cX6_takes 25 = .ok (.ifCond .eq 7, 3) := by decide +kernel
theorem dX6_takes_28 : decode cX6_takes 28 = .ok (.iconst 1, 1) := by decide +kernel
theorem dX6_takes_29 : decode cX6_takes 29 = .ok (.goto 8, 3) := by decide +kernel
theorem dX6_takes_32 : decode cX6_takes 32 = .ok (.iconst 0, 1) := by decide +kernel
theorem dX6_takes_33 : decode cX6_takes 33 = .ok (.goto 4, 3) := by decide +kernel
theorem dX6_takes_36 : decode cX6_takes 36 = .ok (.iconst (-1), 1) := by decide +kernel
theorem dX6_takes_37 : decode cX6_takes 37 = .ok (.ireturn, 1) := by decide +kernel
theorem dX6_remember_0 : decode cX6_remember 0 = .ok (.iconst 0, 1) := by decide +kernel
theorem dX6_remember_1 : decode cX6_remember 1 = .ok (.istore_n 1, 1) := by decide +kernel
theorem dX6_remember_2 : decode cX6_remember 2 = .ok (.iload_n 1, 1) := by decide +kernel
theorem dX6_remember_3 : decode cX6_remember 3 = .ok (.bipush 25, 2) := by decide +kernel
theorem dX6_remember_5 : decode cX6_remember 5 = .ok (.if_icmp .ge 29, 3) := by decide +kernel
theorem dX6_remember_8 : decode cX6_remember 8 = .ok (.aload_n 0, 1) := by decide +kernel
theorem dX6_remember_9 : decode cX6_remember 9 = .ok (.getfield 54, 3) := by decide +kernel
theorem dX6_remember_12 : decode cX6_remember 12 = .ok (.bipush 25, 2) := by decide +kernel
theorem dX6_remember_14 : decode cX6_remember 14 = .ok (.aload_n 0, 1) := by decide +kernel
theorem dX6_remember_15 : decode cX6_remember 15 = .ok (.getfield 139, 3) := by decide +kernel
theorem dX6_remember_18 : decode cX6_remember 18 = .ok (.imul, 1) := by decide +kernel
theorem dX6_remember_19 : decode cX6_remember 19 = .ok (.iload_n 1, 1) := by decide +kernel
theorem dX6_remember_20 : decode cX6_remember 20 = .ok (.iadd, 1) := by decide +kernel
theorem dX6_remember_21 : decode cX6_remember 21 = .ok (.aload_n 0, 1) := by decide +kernel
theorem dX6_remember_22 : decode cX6_remember 22 = .ok (.getfield 51, 3) := by decide +kernel
theorem dX6_remember_25 : decode cX6_remember 25 = .ok (.iload_n 1, 1) := by decide +kernel
theorem dX6_remember_26 : decode cX6_remember 26 = .ok (.iaload, 1) := by decide +kernel
theorem dX6_remember_27 : decode cX6_remember 27 = .ok (.iastore, 1) := by decide +kernel
theorem dX6_remember_28 : decode cX6_remember 28 = .ok (.iinc 1 1, 3) := by decide +kernel
theorem dX6_remember_31 : decode cX6_remember 31 = .ok (.goto (-29), 3) := by decide +kernel
theorem dX6_remember_34 : decode cX6_remember 34 = .ok (.aload_n 0, 1) := by decide +kernel
theorem dX6_remember_35 : decode cX6_remember 35 = .ok (.dup, 1) := by decide +kernel
theorem dX6_remember_36 : decode cX6_remember 36 = .ok (.getfield 139, 3) := by decide +kernel
theorem dX6_remember_39 : decode cX6_remember 39 = .ok (.iconst 1, 1) := by decide +kernel
theorem dX6_remember_40 : decode cX6_remember 40 = .ok (.iadd, 1) := by decide +kernel
theorem dX6_remember_41 : decode cX6_remember 41 = .ok (.putfield 139, 3) := by decide +kernel
theorem dX6_remember_44 : decode cX6_remember 44 = .ok (.return_, 1) := by decide +kernel
theorem dX6_cuts_0 : decode cX6_cuts 0 = .ok (.aload_n 0, 1) := by decide +kernel
theorem dX6_cuts_1 : decode cX6_cuts 1 = .ok (.getfield 51, 3) := by decide +kernel
theorem dX6_cuts_4 : decode cX6_cuts 4 = .ok (.iconst 0, 1) := by decide +kernel
theorem dX6_cuts_5 : decode cX6_cuts 5 = .ok (.dup2, 1) := by decide +kernel
theorem dX6_cuts_6 : decode cX6_cuts 6 = .ok (.iaload, 1) := by decide +kernel
theorem dX6_cuts_7 : decode cX6_cuts 7 = .ok (.iconst 1, 1) := by decide +kernel
theorem dX6_cuts_8 : decode cX6_cuts 8 = .ok (.isub, 1) := by decide +kernel
theorem dX6_cuts_9 : decode cX6_cuts 9 = .ok (.iastore, 1) := by decide +kernel
theorem dX6_cuts_10 : decode cX6_cuts 10 = .ok (.aload_n 0, 1) := by decide +kernel
theorem dX6_cuts_11 : decode cX6_cuts 11 = .ok (.getfield 51, 3) := by decide +kernel
theorem dX6_cuts_14 : decode cX6_cuts 14 = .ok (.iconst 1, 1) := by decide +kernel
theorem dX6_cuts_15 : decode cX6_cuts 15 = .ok (.iload_n 1, 1) := by decide +kernel
theorem dX6_cuts_16 : decode cX6_cuts 16 = .ok (.iadd, 1) := by decide +kernel
theorem dX6_cuts_17 : decode cX6_cuts 17 = .ok (.dup2, 1) := by decide +kernel
theorem dX6_cuts_18 : decode cX6_cuts 18 = .ok (.iaload, 1) := by decide +kernel
theorem dX6_cuts_19 : decode cX6_cuts 19 = .ok (.iload_n 1, 1) := by decide +kernel
theorem dX6_cuts_20 : decode cX6_cuts 20 = .ok (.iadd, 1) := by decide +kernel
theorem dX6_cuts_21 : decode cX6_cuts 21 = .ok (.iastore, 1) := by decide +kernel
theorem dX6_cuts_22 : decode cX6_cuts 22 = .ok (.return_, 1) := by decide +kernel
set_option maxRecDepth 20000 in
theorem ggX6_cut_X6_isPart : GoodIn wsX6_cut wsX6_isPart := goodIn_r _ [6, 7, 8, 5, 9] (by decide +kernel) (by decide +kernel)
set_option maxRecDepth 20000 in
theorem gX6_cut_X6_isPart : GoodIn wsX6_cut (va_wsS RX6 184 yX6_isPart wsX6_isPart) := goodIn_app (goodIn_of _ (by decide +kernel)) ggX6_cut_X6_isPart
set_option maxRecDepth 20000 in
theorem ggX6_cut_X6_remember : GoodIn wsX6_cut wsX6_remember := goodIn_r _ [13, 14, 2, 1, 19, 20, 21, 22, 23, 24, 25, 26, 27, 28, 29, 30, 31, 32, 33, 34, 35, 36, 37, 38, 39, 40, 41, 42, 43, 44, 45, 46, 47, 48, 49, 50, 51, 52] (by decide +kernel) (by decide +kernel)
set_option maxRecDepth 20000 in
theorem gX6_cut_X6_remember : GoodIn wsX6_cut (wsV RX6 187 RX6 yX6_remember wsX6_remember) := goodIn_app (goodIn_of _ (by decide +kernel)) ggX6_cut_X6_remember
set_option maxRecDepth 20000 in
theorem ggX6_cut_X6_cuts : GoodIn wsX6_cut wsX6_cuts := goodIn_r _ [18, 1, 19, 20, 21, 22, 23, 24, 25, 26, 27, 28, 29, 30, 31, 32, 33, 34, 35, 36, 37, 38, 39, 40, 41, 42, 43, 44, 45, 46, 47, 48, 49, 50, 51, 52] (by decide +kernel) (by decide +kernel)
set_option maxRecDepth 20000 in
theorem gX6_cut_X6_cuts : GoodIn wsX6_cut (wsV RX6 190 RX6 yX6_cuts wsX6_cuts) := goodIn_app (goodIn_of _ (by decide +kernel)) ggX6_cut_X6_cuts
theorem dX6_cut_0 : decode cX6_cut 0 = .ok (.iload_n 1, 1) := by decide +kernel
theorem dX6_cut_1 : decode cX6_cut 1 = .ok (.invokestatic 184, 3) := by decide +kernel
theorem dX6_cut_4 : decode cX6_cut 4 = .ok (.ifCond .ne 5, 3) := by decide +kernel
theorem dX6_cut_7 : decode cX6_cut 7 = .ok (.iconst (-1), 1) := by decide +kernel
theorem dX6_cut_8 : decode cX6_cut 8 = .ok (.ireturn, 1) := by decide +kernel
theorem dX6_cut_9 : decode cX6_cut 9 = .ok (.aload_n 0, 1) := by decide +kernel
theorem dX6_cut_10 : decode cX6_cut 10 = .ok (.getfield 51, 3) := by decide +kernel
theorem dX6_cut_13 : decode cX6_cut 13 = .ok (.iconst 0, 1) := by decide +kernel
theorem dX6_cut_14 : decode cX6_cut 14 = .ok (.iaload, 1) := by decide +kernel
theorem dX6_cut_15 : decode cX6_cut 15 = .ok (.ifCond .ne 6, 3) := by decide +kernel
theorem dX6_cut_18 : decode cX6_cut 18 = .ok (.bipush (-4), 2) := by decide +kernel
theorem dX6_cut_20 : decode cX6_cut 20 = .ok (.ireturn, 1) := by decide +kernel
theorem dX6_cut_21 : decode cX6_cut 21 = .ok (.aload_n 0, 1) := by decide +kernel
theorem dX6_cut_22 : decode cX6_cut 22 = .ok (.getfield 139, 3) := by decide +kernel
theorem dX6_cut_25 : decode cX6_cut 25 = .ok (.bipush 40, 2) := by decide +kernel
theorem dX6_cut_27 : decode cX6_cut 27 = .ok (.if_icmp .ne 6, 3) := by decide +kernel
theorem dX6_cut_30 : decode cX6_cut 30 = .ok (.bipush (-2), 2) := by decide +kernel
theorem dX6_cut_32 : decode cX6_cut 32 = .ok (.ireturn, 1) := by decide +kernel
theorem dX6_cut_33 : decode cX6_cut 33 = .ok (.aload_n 0, 1) := by decide +kernel
theorem dX6_cut_34 : decode cX6_cut 34 = .ok (.invokevirtual 187, 3) := by decide +kernel
theorem dX6_cut_37 : decode cX6_cut 37 = .ok (.aload_n 0, 1) := by decide +kernel
theorem dX6_cut_38 : decode cX6_cut 38 = .ok (.iload_n 1, 1) := by decide +kernel
theorem dX6_cut_39 : decode cX6_cut 39 = .ok (.invokevirtual 190, 3) := by decide +kernel
theorem dX6_cut_42 : decode cX6_cut 42 = .ok (.aload_n 0, 1) := by decide +kernel
theorem dX6_cut_43 : decode cX6_cut 43 = .ok (.getfield 51, 3) := by decide +kernel
theorem dX6_cut_46 : decode cX6_cut 46 = .ok (.iconst 1, 1) := by decide +kernel
theorem dX6_cut_47 : decode cX6_cut 47 = .ok (.iload_n 1, 1) := by decide +kernel
theorem dX6_cut_48 : decode cX6_cut 48 = .ok (.iadd, 1) := by decide +kernel
theorem dX6_cut_49 : decode cX6_cut 49 = .ok (.iaload, 1) := by decide +kernel
theorem dX6_cut_50 : decode cX6_cut 50 = .ok (.ireturn, 1) := by decide +kernel
theorem dX6_gives_0 : decode cX6_gives 0 = .ok (.aload_n 0, 1) := by decide +kernel
theorem dX6_gives_1 : decode cX6_gives 1 = .ok (.getfield 51, 3) := by decide +kernel
theorem dX6_gives_4 : decode cX6_gives 4 = .ok (.iconst 1, 1) := by decide +kernel
theorem dX6_gives_5 : decode cX6_gives 5 = .ok (.iload_n 2, 1) := by decide +kernel
theorem dX6_gives_6 : decode cX6_gives 6 = .ok (.iadd, 1) := by decide +kernel
theorem dX6_gives_7 : decode cX6_gives 7 = .ok (.dup2, 1) := by decide +kernel
theorem dX6_gives_8 : decode cX6_gives 8 = .ok (.iaload, 1) := by decide +kernel
theorem dX6_gives_9 : decode cX6_gives 9 = .ok (.iconst 1, 1) := by decide +kernel
theorem dX6_gives_10 : decode cX6_gives 10 = .ok (.isub, 1) := by decide +kernel
theorem dX6_gives_11 : decode cX6_gives 11 = .ok (.iastore, 1) := by decide +kernel
theorem dX6_gives_12 : decode cX6_gives 12 = .ok (.aload_n 0, 1) := by decide +kernel
theorem dX6_gives_13 : decode cX6_gives 13 = .ok (.getfield 51, 3) := by decide +kernel
theorem dX6_gives_16 : decode cX6_gives 16 = .ok (.bipush 18, 2) := by decide +kernel
theorem dX6_gives_18 : decode cX6_gives 18 = .ok (.iload_n 1, 1) := by decide +kernel
theorem dX6_gives_19 : decode cX6_gives 19 = .ok (.iadd, 1) := by decide +kernel
theorem dX6_gives_20 : decode cX6_gives 20 = .ok (.dup2, 1) := by decide +kernel
theorem dX6_gives_21 : decode cX6_gives 21 = .ok (.iaload, 1) := by decide +kernel
theorem dX6_gives_22 : decode cX6_gives 22 = .ok (.iconst 1, 1) := by decide +kernel
theorem dX6_gives_23 : decode cX6_gives 23 = .ok (.iload_n 2, 1) := by decide +kernel
theorem dX6_gives_24 : decode cX6_gives 24 = .ok (.ishl, 1) := by decide +kernel
theorem dX6_gives_25 : decode cX6_gives 25 = .ok (.ior, 1) := by decide +kernel
theorem dX6_gives_26 : decode cX6_gives 26 = .ok (.iastore, 1) := by decide +kernel
theorem dX6_gives_27 : decode cX6_gives 27 = .ok (.return_, 1) := by decide +kernel
set_option maxRecDepth 20000 in
theorem ggX6_give_X6_isWorker : GoodIn wsX6_give wsX6_isWorker := goodIn_r _ [7, 8, 9, 10, 6, 11, 56, 57, 58, 59, 60, 61, 62, 63, 64, 65, 66, 67, 68, 69, 70, 71, 72, 73, 74, 75, 76, 77, 78, 79, 80, 81, 82, 83, 84, 85, 86, 87, 88, 89] (by decide +kernel) (by decide +kernel)
set_option maxRecDepth 20000 in
theorem gX6_give_X6_isWorker : GoodIn wsX6_give (wsV RX6 165 RX6 yX6_isWorker wsX6_isWorker) := goodIn_app (goodIn_of _ (by decide +kernel)) ggX6_give_X6_isWorker
set_option maxRecDepth 20000 in
theorem ggX6_give_X6_isPart : GoodIn wsX6_give wsX6_isPart := goodIn_r _ [14, 9, 10, 6, 11] (by decide +kernel) (by decide +kernel)
set_option maxRecDepth 20000 in
theorem gX6_give_X6_isPart : GoodIn wsX6_give (va_wsS RX6 184 yX6_isPart wsX6_isPart) := goodIn_app (goodIn_of _ (by decide +kernel)) ggX6_give_X6_isPart
set_option maxRecDepth 20000 in
theorem ggX6_give_X6_fits : GoodIn wsX6_give wsX6_fits := goodIn_r _ [18, 2, 19, 20, 21, 6, 22, 23, 24, 25, 26, 27, 28, 29, 30, 31, 32, 33, 34, 35, 36, 37, 38, 39, 40, 41, 42, 43, 56, 57, 58, 59, 60, 61, 62, 63, 64, 65, 66, 67, 68, 69, 70, 71, 72, 73, 74, 75, 76, 77, 78, 79, 80, 81, 82, 83, 84, 85, 86, 87, 88, 89] (by decide +kernel) (by decide +kernel)
set_option maxRecDepth 20000 in
theorem gX6_give_X6_fits : GoodIn wsX6_give (wsV RX6 162 RX6 yX6_fits wsX6_fits) := goodIn_app (goodIn_of _ (by decide +kernel)) ggX6_give_X6_fits
set_option maxRecDepth 20000 in
theorem ggX6_give_X6_has : GoodIn wsX6_give wsX6_has := goodIn_r _ [30] (by decide +kernel) (by decide +kernel)
set_option maxRecDepth 20000 in
theorem gX6_give_X6_has : GoodIn wsX6_give (va_wsS RX6 146 yX6_has wsX6_has) := goodIn_app (goodIn_of _ (by decide +kernel)) ggX6_give_X6_has
set_option maxRecDepth 20000 in
theorem ggX6_give_X6_remember : GoodIn wsX6_give wsX6_remember := goodIn_r _ [47, 48, 1, 2, 56, 57, 58, 59, 60, 61, 62, 63, 64, 65, 66, 67, 68, 69, 70, 71, 72, 73, 74, 75, 76, 77, 78, 79, 80, 81, 82, 83, 84, 85, 86, 87, 88, 89] (by decide +kernel) (by decide +kernel)
set_option maxRecDepth 20000 in
theorem gX6_give_X6_remember : GoodIn wsX6_give (wsV RX6 187 RX6 yX6_remember wsX6_remember) := goodIn_app (goodIn_of _ (by decide +kernel)) ggX6_give_X6_remember
set_option maxRecDepth 20000 in
theorem ggX6_give_X6_gives : GoodIn wsX6_give wsX6_gives := goodIn_r _ [52, 2, 56, 57, 58, 59, 60, 61, 62, 63, 64, 65, 66, 67, 68, 69, 70, 71, 72, 73, 74, 75, 76, 77, 78, 79, 80, 81, 82, 83, 84, 85, 86, 87, 88, 89] (by decide +kernel) (by decide +kernel)
set_option maxRecDepth 20000 in
theorem gX6_give_X6_gives : GoodIn wsX6_give (wsV RX6 194 RX6 yX6_gives wsX6_gives) := goodIn_app (goodIn_of _ (by decide +kernel)) ggX6_give_X6_gives
set_option maxRecDepth 20000 in
theorem ggX6_give_X6_bits : GoodIn wsX6_give wsX6_bits := goodIn_r _ [55] (by decide +kernel) (by decide +kernel)
set_option maxRecDepth 20000 in
theorem gX6_give_X6_bits : GoodIn wsX6_give (va_wsS RX6 177 yX6_bits wsX6_bits) := goodIn_app (goodIn_of _ (by decide +kernel)) ggX6_give_X6_bits
theorem dX6_give_0 : decode cX6_give 0 = .ok (.aload_n 0, 1) := by decide +kernel
theorem dX6_give_1 : decode cX6_give 1 = .ok (.iload_n 1, 1) := by decide +kernel
theorem dX6_give_2 : decode cX6_give 2 = .ok (.invokevirtual 165, 3) := by decide +kernel
theorem dX6_give_5 : decode cX6_give 5 = .ok (.ifCond .eq 10, 3) := by decide +kernel
theorem dX6_give_8 : decode cX6_give 8 = .ok (.iload_n 2, 1) := by decide +kernel
theorem dX6_give_9 : decode cX6_give 9 = .ok (.invokestatic 184, 3) := by decide +kernel
theorem dX6_give_12 : decode cX6_give 12 = .ok (.ifCond .ne 5, 3) := by decide +kernel
theorem dX6_give_15 : decode cX6_give 15 = .ok (.iconst (-1), 1) := by decide +kernel
theorem dX6_give_16 : decode cX6_give 16 = .ok (.ireturn, 1) := by decide +kernel
theorem dX6_give_17 : decode cX6_give 17 = .ok (.aload_n 0, 1) := by decide +kernel
theorem dX6_give_18 : decode cX6_give 18 = .ok (.iload_n 1, 1) := by decide +kernel
theorem dX6_give_19 : decode cX6_give 19 = .ok (.invokevirtual 162, 3) := by decide +kernel
theorem dX6_give_22 : decode cX6_give 22 = .ok (.iload_n 2, 1) := by decide +kernel
theorem dX6_give_23 : decode cX6_give 23 = .ok (.invokestatic 146, 3) := by decide +kernel
theorem dX6_give_26 : decode cX6_give 26 = .ok (.ifCond .ne 6, 3) := by decide +kernel
theorem dX6_give_29 : decode cX6_give 29 = .ok (.bipush (-4), 2) := by decide +kernel
theorem dX6_give_31 : decode cX6_give 31 = .ok (.ireturn, 1) := by decide +kernel
theorem dX6_give_32 : decode cX6_give 32 = .ok (.aload_n 0, 1) := by decide +kernel
theorem dX6_give_33 : decode cX6_give 33 = .ok (.getfield 139, 3) := by decide +kernel
theorem dX6_give_36 : decode cX6_give 36 = .ok (.bipush 40, 2) := by decide +kernel
theorem dX6_give_38 : decode cX6_give 38 = .ok (.if_icmp .ne 6, 3) := by decide +kernel
theorem dX6_give_41 : decode cX6_give 41 = .ok (.bipush (-2), 2) := by decide +kernel
theorem dX6_give_43 : decode cX6_give 43 = .ok (.ireturn, 1) := by decide +kernel
theorem dX6_give_44 : decode cX6_give 44 = .ok (.aload_n 0, 1) := by decide +kernel
theorem dX6_give_45 : decode cX6_give 45 = .ok (.invokevirtual 187, 3) := by decide +kernel
theorem dX6_give_48 : decode cX6_give 48 = .ok (.aload_n 0, 1) := by decide +kernel
theorem dX6_give_49 : decode cX6_give 49 = .ok (.iload_n 1, 1) := by decide +kernel
theorem dX6_give_50 : decode cX6_give 50 = .ok (.iload_n 2, 1) := by decide +kernel
theorem dX6_give_51 : decode cX6_give 51 = .ok (.invokevirtual 194, 3) := by decide +kernel
theorem dX6_give_54 : decode cX6_give 54 = .ok (.aload_n 0, 1) := by decide +kernel
theorem dX6_give_55 : decode cX6_give 55 = .ok (.getfield 51, 3) := by decide +kernel
theorem dX6_give_58 : decode cX6_give 58 = .ok (.bipush 18, 2) := by decide +kernel
theorem dX6_give_60 : decode cX6_give 60 = .ok (.iload_n 1, 1) := by decide +kernel
theorem dX6_give_61 : decode cX6_give 61 = .ok (.iadd, 1) := by decide +kernel
theorem dX6_give_62 : decode cX6_give 62 = .ok (.iaload, 1) := by decide +kernel
theorem dX6_give_63 : decode cX6_give 63 = .ok (.invokestatic 177, 3) := by decide +kernel
theorem dX6_give_66 : decode cX6_give 66 = .ok (.ireturn, 1) := by decide +kernel
theorem dX6_comesBack_0 : decode cX6_comesBack 0 = .ok (.aload_n 0, 1) := by decide +kernel
theorem dX6_comesBack_1 : decode cX6_comesBack 1 = .ok (.getfield 51, 3) := by decide +kernel
theorem dX6_comesBack_4 : decode cX6_comesBack 4 = .ok (.iconst 1, 1) := by decide +kernel
theorem dX6_comesBack_5 : decode cX6_comesBack 5 = .ok (.iload_n 2, 1) := by decide +kernel
theorem dX6_comesBack_6 : decode cX6_comesBack 6 = .ok (.iadd, 1) := by decide +kernel
theorem dX6_comesBack_7 : decode cX6_comesBack 7 = .ok (.dup2, 1) := by decide +kernel
theorem dX6_comesBack_8 : decode cX6_comesBack 8 = .ok (.iaload, 1) := by decide +kernel
theorem dX6_comesBack_9 : decode cX6_comesBack 9 = .ok (.iconst 1, 1) := by decide +kernel
theorem dX6_comesBack_10 : decode cX6_comesBack 10 = .ok (.iadd, 1) := by decide +kernel
theorem dX6_comesBack_11 : decode cX6_comesBack 11 = .ok (.iastore, 1) := by decide +kernel
theorem dX6_comesBack_12 : decode cX6_comesBack 12 = .ok (.aload_n 0, 1) := by decide +kernel
theorem dX6_comesBack_13 : decode cX6_comesBack 13 = .ok (.getfield 51, 3) := by decide +kernel
theorem dX6_comesBack_16 : decode cX6_comesBack 16 = .ok (.bipush 18, 2) := by decide +kernel
theorem dX6_comesBack_18 : decode cX6_comesBack 18 = .ok (.iload_n 1, 1) := by decide +kernel
theorem dX6_comesBack_19 : decode cX6_comesBack 19 = .ok (.iadd, 1) := by decide +kernel
theorem dX6_comesBack_20 : decode cX6_comesBack 20 = .ok (.dup2, 1) := by decide +kernel
theorem dX6_comesBack_21 : decode cX6_comesBack 21 = .ok (.iaload, 1) := by decide +kernel
theorem dX6_comesBack_22 : decode cX6_comesBack 22 = .ok (.iconst 1, 1) := by decide +kernel
theorem dX6_comesBack_23 : decode cX6_comesBack 23 = .ok (.iload_n 2, 1) := by decide +kernel
theorem dX6_comesBack_24 : decode cX6_comesBack 24 = .ok (.ishl, 1) := by decide +kernel
theorem dX6_comesBack_25 : decode cX6_comesBack 25 = .ok (.iconst (-1), 1) := by decide +kernel
theorem dX6_comesBack_26 : decode cX6_comesBack 26 = .ok (.ixor, 1) := by decide +kernel
theorem dX6_comesBack_27 : decode cX6_comesBack 27 = .ok (.iand, 1) := by decide +kernel
theorem dX6_comesBack_28 : decode cX6_comesBack 28 = .ok (.iastore, 1) := by decide +kernel
theorem dX6_comesBack_29 : decode cX6_comesBack 29 = .ok (.return_, 1) := by decide +kernel
set_option maxRecDepth 20000 in
theorem ggX6_back_X6_isWorker : GoodIn wsX6_back wsX6_isWorker := goodIn_r _ [7, 8, 9, 10, 6, 11, 30, 31, 32, 33, 34, 35, 36, 37, 38, 39, 40, 41, 42, 43, 44, 45, 46, 47, 48, 49, 50, 51, 52, 53, 54, 55, 56, 57, 58, 59, 60, 61, 62, 63] (by decide +kernel) (by decide +kernel)
set_option maxRecDepth 20000 in
theorem gX6_back_X6_isWorker : GoodIn wsX6_back (wsV RX6 165 RX6 yX6_isWorker wsX6_isWorker) := goodIn_app (goodIn_of _ (by decide +kernel)) ggX6_back_X6_isWorker
set_option maxRecDepth 20000 in
theorem ggX6_back_X6_isPart : GoodIn wsX6_back wsX6_isPart := goodIn_r _ [14, 9, 10, 6, 11] (by decide +kernel) (by decide +kernel)
set_option maxRecDepth 20000 in
theorem gX6_back_X6_isPart : GoodIn wsX6_back (va_wsS RX6 184 yX6_isPart wsX6_isPart) := goodIn_app (goodIn_of _ (by decide +kernel)) ggX6_back_X6_isPart
set_option maxRecDepth 20000 in
theorem ggX6_back_X6_has : GoodIn wsX6_back wsX6_has := goodIn_r _ [17] (by decide +kernel) (by decide +kernel)
set_option maxRecDepth 20000 in
theorem gX6_back_X6_has : GoodIn wsX6_back (va_wsS RX6 146 yX6_has wsX6_has) := goodIn_app (goodIn_of _ (by decide +kernel)) ggX6_back_X6_has
set_option maxRecDepth 20000 in
theorem ggX6_back_X6_remember : GoodIn wsX6_back wsX6_remember := goodIn_r _ [21, 22, 2, 1, 30, 31, 32, 33, 34, 35, 36, 37, 38, 39, 40, 41, 42, 43, 44, 45, 46, 47, 48, 49, 50, 51, 52, 53, 54, 55, 56, 57, 58, 59, 60, 61, 62, 63] (by decide +kernel) (by decide +kernel)
set_option maxRecDepth 20000 in
theorem gX6_back_X6_remember : GoodIn wsX6_back (wsV RX6 187 RX6 yX6_remember wsX6_remember) := goodIn_app (goodIn_of _ (by decide +kernel)) ggX6_back_X6_remember
set_option maxRecDepth 20000 in
theorem ggX6_back_X6_comesBack : GoodIn wsX6_back wsX6_comesBack := goodIn_r _ [26, 1, 30, 31, 32, 33, 34, 35, 36, 37, 38, 39, 40, 41, 42, 43, 44, 45, 46, 47, 48, 49, 50, 51, 52, 53, 54, 55, 56, 57, 58, 59, 60, 61, 62, 63] (by decide +kernel) (by decide +kernel)
set_option maxRecDepth 20000 in
theorem gX6_back_X6_comesBack : GoodIn wsX6_back (wsV RX6 198 RX6 yX6_comesBack wsX6_comesBack) := goodIn_app (goodIn_of _ (by decide +kernel)) ggX6_back_X6_comesBack
set_option maxRecDepth 20000 in
theorem ggX6_back_X6_bits : GoodIn wsX6_back wsX6_bits := goodIn_r _ [29] (by decide +kernel) (by decide +kernel)
set_option maxRecDepth 20000 in
theorem gX6_back_X6_bits : GoodIn wsX6_back (va_wsS RX6 177 yX6_bits wsX6_bits) := goodIn_app (goodIn_of _ (by decide +kernel)) ggX6_back_X6_bits
theorem dX6_back_0 : decode cX6_back 0 = .ok (.aload_n 0, 1) := by decide +kernel
theorem dX6_back_1 : decode cX6_back 1 = .ok (.iload_n 1, 1) := by decide +kernel
theorem dX6_back_2 : decode cX6_back 2 = .ok (.invokevirtual 165, 3) := by decide +kernel
theorem dX6_back_5 : decode cX6_back 5 = .ok (.ifCond .eq 10, 3) := by decide +kernel
theorem dX6_back_8 : decode cX6_back 8 = .ok (.iload_n 2, 1) := by decide +kernel
theorem dX6_back_9 : decode cX6_back 9 = .ok (.invokestatic 184, 3) := by decide +kernel
theorem dX6_back_12 : decode cX6_back 12 = .ok (.ifCond .ne 5, 3) := by decide +kernel
theorem dX6_back_15 : decode cX6_back 15 = .ok (.iconst (-1), 1) := by decide +kernel
theorem dX6_back_16 : decode cX6_back 16 = .ok (.ireturn, 1) := by decide +kernel
theorem dX6_back_17 : decode cX6_back 17 = .ok (.aload_n 0, 1) := by decide +kernel
theorem dX6_back_18 : decode cX6_back 18 = .ok (.getfield 51, 3) := by decide +kernel
theorem dX6_back_21 : decode cX6_back 21 = .ok (.bipush 18, 2) := by decide +kernel
theorem dX6_back_23 : decode cX6_back 23 = .ok (.iload_n 1, 1) := by decide +kernel
theorem dX6_back_24 : decode cX6_back 24 = .ok (.iadd, 1) := by decide +kernel
theorem dX6_back_25 : decode cX6_back 25 = .ok (.iaload, 1) := by decide +kernel
theorem dX6_back_26 : decode cX6_back 26 = .ok (.iload_n 2, 1) := by decide +kernel
theorem dX6_back_27 : decode cX6_back 27 = .ok (.invokestatic 146, 3) := by decide +kernel
theorem dX6_back_30 : decode cX6_back 30 = .ok (.ifCond .ne 6, 3) := by decide +kernel
theorem dX6_back_33 : decode cX6_back 33 = .ok (.bipush (-4), 2) := by decide +kernel
theorem dX6_back_35 : decode cX6_back 35 = .ok (.ireturn, 1) := by decide +kernel
theorem dX6_back_36 : decode cX6_back 36 = .ok (.aload_n 0, 1) := by decide +kernel
theorem dX6_back_37 : decode cX6_back 37 = .ok (.getfield 139, 3) := by decide +kernel
theorem dX6_back_40 : decode cX6_back 40 = .ok (.bipush 40, 2) := by decide +kernel
theorem dX6_back_42 : decode cX6_back 42 = .ok (.if_icmp .ne 6, 3) := by decide +kernel
theorem dX6_back_45 : decode cX6_back 45 = .ok (.bipush (-2), 2) := by decide +kernel
theorem dX6_back_47 : decode cX6_back 47 = .ok (.ireturn, 1) := by decide +kernel
theorem dX6_back_48 : decode cX6_back 48 = .ok (.aload_n 0, 1) := by decide +kernel
theorem dX6_back_49 : decode cX6_back 49 = .ok (.invokevirtual 187, 3) := by decide +kernel
theorem dX6_back_52 : decode cX6_back 52 = .ok (.aload_n 0, 1) := by decide +kernel
theorem dX6_back_53 : decode cX6_back 53 = .ok (.iload_n 1, 1) := by decide +kernel
theorem dX6_back_54 : decode cX6_back 54 = .ok (.iload_n 2, 1) := by decide +kernel
theorem dX6_back_55 : decode cX6_back 55 = .ok (.invokevirtual 198, 3) := by decide +kernel
theorem dX6_back_58 : decode cX6_back 58 = .ok (.aload_n 0, 1) := by decide +kernel
theorem dX6_back_59 : decode cX6_back 59 = .ok (.getfield 51, 3) := by decide +kernel
theorem dX6_back_62 : decode cX6_back 62 = .ok (.bipush 18, 2) := by decide +kernel
theorem dX6_back_64 : decode cX6_back 64 = .ok (.iload_n 1, 1) := by decide +kernel
theorem dX6_back_65 : decode cX6_back 65 = .ok (.iadd, 1) := by decide +kernel
theorem dX6_back_66 : decode cX6_back 66 = .ok (.iaload, 1) := by decide +kernel
theorem dX6_back_67 : decode cX6_back 67 = .ok (.invokestatic 177, 3) := by decide +kernel
theorem dX6_back_70 : decode cX6_back 70 = .ok (.ireturn, 1) := by decide +kernel
set_option maxRecDepth 20000 in
theorem ggX6_bake_X6_in : GoodIn wsX6_bake wsX6_in := goodIn_r _ [7] (by decide +kernel) (by decide +kernel)
set_option maxRecDepth 20000 in
theorem gX6_bake_X6_in : GoodIn wsX6_bake (va_wsS RX6 83 yX6_in wsX6_in) := goodIn_app (goodIn_of _ (by decide +kernel)) ggX6_bake_X6_in
set_option maxRecDepth 20000 in
theorem ggX6_bake_X6_remember : GoodIn wsX6_bake wsX6_remember := goodIn_r _ [11, 12, 3, 2, 13, 14, 15, 16, 17, 18, 19, 20, 21, 22, 23, 24, 25, 26, 27, 28, 29, 30, 31, 32, 33, 34, 35, 36, 37, 38, 39, 40, 41, 42, 43, 44, 45, 46] (by decide +kernel) (by decide +kernel)
set_option maxRecDepth 20000 in
theorem gX6_bake_X6_remember : GoodIn wsX6_bake (wsV RX6 187 RX6 yX6_remember wsX6_remember) := goodIn_app (goodIn_of _ (by decide +kernel)) ggX6_bake_X6_remember
theorem dX6_bake_0 : decode cX6_bake 0 = .ok (.iload_n 1, 1) := by decide +kernel
theorem dX6_bake_1 : decode cX6_bake 1 = .ok (.iconst 1, 1) := by decide +kernel
theorem dX6_bake_2 : decode cX6_bake 2 = .ok (.bipush 9, 2) := by decide +kernel
theorem dX6_bake_4 : decode cX6_bake 4 = .ok (.invokestatic 83, 3) := by decide +kernel
theorem dX6_bake_7 : decode cX6_bake 7 = .ok (.ifCond .ne 5, 3) := by decide +kernel
theorem dX6_bake_10 : decode cX6_bake 10 = .ok (.iconst (-1), 1) := by decide +kernel
theorem dX6_bake_11 : decode cX6_bake 11 = .ok (.ireturn, 1) := by decide +kernel
theorem dX6_bake_12 : decode cX6_bake 12 = .ok (.aload_n 0, 1) := by decide +kernel
theorem dX6_bake_13 : decode cX6_bake 13 = .ok (.getfield 136, 3) := by decide +kernel
theorem dX6_bake_16 : decode cX6_bake 16 = .ok (.ifCond .eq 14, 3) := by decide +kernel
theorem dX6_bake_19 : decode cX6_bake 19 = .ok (.aload_n 0, 1) := by decide +kernel
theorem dX6_bake_20 : decode cX6_bake 20 = .ok (.getfield 51, 3) := by decide +kernel
theorem dX6_bake_23 : decode cX6_bake 23 = .ok (.iconst 0, 1) := by decide +kernel
theorem dX6_bake_24 : decode cX6_bake 24 = .ok (.iaload, 1) := by decide +kernel
theorem dX6_bake_25 : decode cX6_bake 25 = .ok (.bipush 99, 2) := by decide +kernel
theorem dX6_bake_27 : decode cX6_bake 27 = .ok (.if_icmp .ne 6, 3) := by decide +kernel
theorem dX6_bake_30 : decode cX6_bake 30 = .ok (.bipush (-4), 2) := by decide +kernel
theorem dX6_bake_32 : decode cX6_bake 32 = .ok (.ireturn, 1) := by decide +kernel
theorem dX6_bake_33 : decode cX6_bake 33 = .ok (.aload_n 0, 1) := by decide +kernel
theorem dX6_bake_34 : decode cX6_bake 34 = .ok (.getfield 139, 3) := by decide +kernel
theorem dX6_bake_37 : decode cX6_bake 37 = .ok (.bipush 40, 2) := by decide +kernel
theorem dX6_bake_39 : decode cX6_bake 39 = .ok (.if_icmp .ne 6, 3) := by decide +kernel
theorem dX6_bake_42 : decode cX6_bake 42 = .ok (.bipush (-2), 2) := by decide +kernel
theorem dX6_bake_44 : decode cX6_bake 44 = .ok (.ireturn, 1) := by decide +kernel
theorem dX6_bake_45 : decode cX6_bake 45 = .ok (.aload_n 0, 1) := by decide +kernel
theorem dX6_bake_46 : decode cX6_bake 46 = .ok (.invokevirtual 187, 3) := by decide +kernel
theorem dX6_bake_49 : decode cX6_bake 49 = .ok (.aload_n 0, 1) := by decide +kernel
theorem dX6_bake_50 : decode cX6_bake 50 = .ok (.getfield 51, 3) := by decide +kernel
theorem dX6_bake_53 : decode cX6_bake 53 = .ok (.iconst 0, 1) := by decide +kernel
theorem dX6_bake_54 : decode cX6_bake 54 = .ok (.aload_n 0, 1) := by decide +kernel
theorem dX6_bake_55 : decode cX6_bake 55 = .ok (.getfield 51, 3) := by decide +kernel
theorem dX6_bake_58 : decode cX6_bake 58 = .ok (.iconst 0, 1) := by decide +kernel
theorem dX6_bake_59 : decode cX6_bake 59 = .ok (.iaload, 1) := by decide +kernel
theorem dX6_bake_60 : decode cX6_bake 60 = .ok (.iload_n 1, 1) := by decide +kernel
theorem dX6_bake_61 : decode cX6_bake 61 = .ok (.iadd, 1) := by decide +kernel
theorem dX6_bake_62 : decode cX6_bake 62 = .ok (.bipush 99, 2) := by decide +kernel
theorem dX6_bake_64 : decode cX6_bake 64 = .ok (.if_icmp .le 8, 3) := by decide +kernel
theorem dX6_bake_67 : decode cX6_bake 67 = .ok (.bipush 99, 2) := by decide +kernel
theorem dX6_bake_69 : decode cX6_bake 69 = .ok (.goto 11, 3) := by decide +kernel
theorem dX6_bake_72 : decode cX6_bake 72 = .ok (.aload_n 0, 1) := by decide +kernel
theorem dX6_bake_73 : decode cX6_bake 73 = .ok (.getfield 51, 3) := by decide +kernel
theorem dX6_bake_76 : decode cX6_bake 76 = .ok (.iconst 0, 1) := by decide +kernel
theorem dX6_bake_77 : decode cX6_bake 77 = .ok (.iaload, 1) := by decide +kernel
theorem dX6_bake_78 : decode cX6_bake 78 = .ok (.iload_n 1, 1) := by decide +kernel
theorem dX6_bake_79 : decode cX6_bake 79 = .ok (.iadd, 1) := by decide +kernel
theorem dX6_bake_80 : decode cX6_bake 80 = .ok (.iastore, 1) := by decide +kernel
theorem dX6_bake_81 : decode cX6_bake 81 = .ok (.aload_n 0, 1) := by decide +kernel
theorem dX6_bake_82 : decode cX6_bake 82 = .ok (.getfield 51, 3) := by decide +kernel
theorem dX6_bake_85 : decode cX6_bake 85 = .ok (.iconst 0, 1) := by decide +kernel
theorem dX6_bake_86 : decode cX6_bake 86 = .ok (.iaload, 1) := by decide +kernel
theorem dX6_bake_87 : decode cX6_bake 87 = .ok (.ireturn, 1) := by decide +kernel
set_option maxRecDepth 20000 in
theorem ggX6_undo_X6_in : GoodIn wsX6_undo wsX6_in := goodIn_r _ [7] (by decide +kernel) (by decide +kernel)
set_option maxRecDepth 20000 in
theorem gX6_undo_X6_in : GoodIn wsX6_undo (va_wsS RX6 83 yX6_in wsX6_in) := goodIn_app (goodIn_of _ (by decide +kernel)) ggX6_undo_X6_in
theorem dX6_undo_0 : decode cX6_undo 0 = .ok (.iload_n 1, 1) := by decide +kernel
theorem dX6_undo_1 : decode cX6_undo 1 = .ok (.iconst 0, 1) := by decide +kernel
theorem dX6_undo_2 : decode cX6_undo 2 = .ok (.aload_n 0, 1) := by decide +kernel
theorem dX6_undo_3 : decode cX6_undo 3 = .ok (.getfield 139, 3) := by decide +kernel
theorem dX6_undo_6 : decode cX6_undo 6 = .ok (.invokestatic 83, 3) := by decide +kernel
theorem dX6_undo_9 : decode cX6_undo 9 = .ok (.ifCond .ne 5, 3) := by decide +kernel
theorem dX6_undo_12 : decode cX6_undo 12 = .ok (.iconst (-1), 1) := by decide +kernel
theorem dX6_undo_13 : decode cX6_undo 13 = .ok (.ireturn, 1) := by decide +kernel
theorem dX6_undo_14 : decode cX6_undo 14 = .ok (.aload_n 0, 1) := by decide +kernel
theorem dX6_undo_15 : decode cX6_undo 15 = .ok (.getfield 139, 3) := by decide +kernel
theorem dX6_undo_18 : decode cX6_undo 18 = .ok (.iload_n 1, 1) := by decide +kernel
theorem dX6_undo_19 : decode cX6_undo 19 = .ok (.isub, 1) := by decide +kernel
theorem dX6_undo_20 : decode cX6_undo 20 = .ok (.istore_n 2, 1) := by decide +kernel
theorem dX6_undo_21 : decode cX6_undo 21 = .ok (.iconst 0, 1) := by decide +kernel
theorem dX6_undo_22 : decode cX6_undo 22 = .ok (.istore_n 3, 1) := by decide +kernel
theorem dX6_undo_23 : decode cX6_undo 23 = .ok (.iload_n 3, 1) := by decide +kernel
theorem dX6_undo_24 : decode cX6_undo 24 = .ok (.bipush 25, 2) := by decide +kernel
theorem dX6_undo_26 : decode cX6_undo 26 = .ok (.if_icmp .ge 30, 3) := by decide +kernel
theorem dX6_undo_29 : decode cX6_undo 29 = .ok (.iload_n 2, 1) := by decide +kernel
theorem dX6_undo_30 : decode cX6_undo 30 = .ok (.ifCond .le 26, 3) := by decide +kernel
theorem dX6_undo_33 : decode cX6_undo 33 = .ok (.aload_n 0, 1) := by decide +kernel
theorem dX6_undo_34 : decode cX6_undo 34 = .ok (.getfield 51, 3) := by decide +kernel
theorem dX6_undo_37 : decode cX6_undo 37 = .ok (.iload_n 3, 1) := by decide +kernel
theorem dX6_undo_38 : decode cX6_undo 38 = .ok (.aload_n 0, 1) := by decide +kernel
theorem dX6_undo_39 : decode cX6_undo 39 = .ok (.getfield 54, 3) := by decide +kernel
theorem dX6_undo_42 : decode cX6_undo 42 = .ok (.bipush 25, 2) := by decide +kernel
theorem dX6_undo_44 : decode cX6_undo 44 = .ok (.iload_n 1, 1) := by decide +kernel
theorem dX6_undo_45 : decode cX6_undo 45 = .ok (.imul, 1) := by decide +kernel
theorem dX6_undo_46 : decode cX6_undo 46 = .ok (.iload_n 3, 1) := by decide +kernel
theorem dX6_undo_47 : decode cX6_undo 47 = .ok (.iadd, 1) := by decide +kernel
theorem dX6_undo_48 : decode cX6_undo 48 = .ok (.iaload, 1) := by decide +kernel
theorem dX6_undo_49 : decode cX6_undo 49 = .ok (.iastore, 1) := by decide +kernel
theorem dX6_undo_50 : decode cX6_undo 50 = .ok (.iinc 3 1, 3) := by decide +kernel
theorem dX6_undo_53 : decode cX6_undo 53 = .ok (.goto (-30), 3) := by decide +kernel
theorem dX6_undo_56 : decode cX6_undo 56 = .ok (.aload_n 0, 1) := by decide +kernel
theorem dX6_undo_57 : decode cX6_undo 57 = .ok (.iload_n 1, 1) := by decide +kernel
theorem dX6_undo_58 : decode cX6_undo 58 = .ok (.putfield 139, 3) := by decide +kernel
theorem dX6_undo_61 : decode cX6_undo 61 = .ok (.iload_n 2, 1) := by decide +kernel
theorem dX6_undo_62 : decode cX6_undo 62 = .ok (.ireturn, 1) := by decide +kernel
set_option maxRecDepth 20000 in
theorem ggX6_keep_X6_in : GoodIn wsX6_keep wsX6_in := goodIn_r _ [10] (by decide +kernel) (by decide +kernel)
set_option maxRecDepth 20000 in
theorem gX6_keep_X6_in : GoodIn wsX6_keep (va_wsS RX6 83 yX6_in wsX6_in) := goodIn_app (goodIn_of _ (by decide +kernel)) ggX6_keep_X6_in
theorem dX6_keep_0 : decode cX6_keep 0 = .ok (.iload_n 1, 1) := by decide +kernel
theorem dX6_keep_1 : decode cX6_keep 1 = .ok (.iconst 0, 1) := by decide +kernel
theorem dX6_keep_2 : decode cX6_keep 2 = .ok (.iconst 2, 1) := by decide +kernel
theorem dX6_keep_3 : decode cX6_keep 3 = .ok (.invokestatic 83, 3) := by decide +kernel
theorem dX6_keep_6 : decode cX6_keep 6 = .ok (.ifCond .ne 5, 3) := by decide +kernel
theorem dX6_keep_9 : decode cX6_keep 9 = .ok (.iconst (-1), 1) := by decide +kernel
theorem dX6_keep_10 : decode cX6_keep 10 = .ok (.ireturn, 1) := by decide +kernel
theorem dX6_keep_11 : decode cX6_keep 11 = .ok (.aload_n 0, 1) := by decide +kernel
theorem dX6_keep_12 : decode cX6_keep 12 = .ok (.getfield 136, 3) := by decide +kernel
theorem dX6_keep_15 : decode cX6_keep 15 = .ok (.ifCond .ne 6, 3) := by decide +kernel
theorem dX6_keep_18 : decode cX6_keep 18 = .ok (.bipush (-4), 2) := by decide +kernel
theorem dX6_keep_20 : decode cX6_keep 20 = .ok (.ireturn, 1) := by decide +kernel
theorem dX6_keep_21 : decode cX6_keep 21 = .ok (.aload_n 0, 1) := by decide +kernel
theorem dX6_keep_22 : decode cX6_keep 22 = .ok (.getfield 57, 3) := by decide +kernel
theorem dX6_keep_25 : decode cX6_keep 25 = .ok (.iload_n 1, 1) := by decide +kernel
theorem dX6_keep_26 : decode cX6_keep 26 = .ok (.aload_n 0, 1) := by decide +kernel
theorem dX6_keep_27 : decode cX6_keep 27 = .ok (.getfield 139, 3) := by decide +kernel
theorem dX6_keep_30 : decode cX6_keep 30 = .ok (.iastore, 1) := by decide +kernel
theorem dX6_keep_31 : decode cX6_keep 31 = .ok (.iconst 0, 1) := by decide +kernel
theorem dX6_keep_32 : decode cX6_keep 32 = .ok (.istore_n 2, 1) := by decide +kernel
theorem dX6_keep_33 : decode cX6_keep 33 = .ok (.iload_n 2, 1) := by decide +kernel
theorem dX6_keep_34 : decode cX6_keep 34 = .ok (.bipush 25, 2) := by decide +kernel
theorem dX6_keep_36 : decode cX6_keep 36 = .ok (.if_icmp .ge 27, 3) := by decide +kernel
theorem dX6_keep_39 : decode cX6_keep 39 = .ok (.aload_n 0, 1) := by decide +kernel
theorem dX6_keep_40 : decode cX6_keep 40 = .ok (.getfield 60, 3) := by decide +kernel
theorem dX6_keep_43 : decode cX6_keep 43 = .ok (.sipush 1025, 3) := by decide +kernel
theorem dX6_keep_46 : decode cX6_keep 46 = .ok (.iload_n 1, 1) := by decide +kernel
theorem dX6_keep_47 : decode cX6_keep 47 = .ok (.imul, 1) := by decide +kernel
theorem dX6_keep_48 : decode cX6_keep 48 = .ok (.iload_n 2, 1) := by decide +kernel
theorem dX6_keep_49 : decode cX6_keep 49 = .ok (.iadd, 1) := by decide +kernel
theorem dX6_keep_50 : decode cX6_keep 50 = .ok (.aload_n 0, 1) := by decide +kernel
theorem dX6_keep_51 : decode cX6_keep 51 = .ok (.getfield 51, 3) := by decide +kernel
theorem dX6_keep_54 : decode cX6_keep 54 = .ok (.iload_n 2, 1) := by decide +kernel
theorem dX6_keep_55 : decode cX6_keep 55 = .ok (.iaload, 1) := by decide +kernel
theorem dX6_keep_56 : decode cX6_keep 56 = .ok (.iastore, 1) := by decide +kernel
theorem dX6_keep_57 : decode cX6_keep 57 = .ok (.iinc 2 1, 3) := by decide +kernel
theorem dX6_keep_60 : decode cX6_keep 60 = .ok (.goto (-27), 3) := by decide +kernel
theorem dX6_keep_63 : decode cX6_keep 63 = .ok (.iconst 0, 1) := by decide +kernel
theorem dX6_keep_64 : decode cX6_keep 64 = .ok (.istore_n 2, 1) := by decide +kernel
theorem dX6_keep_65 : decode cX6_keep 65 = .ok (.iload_n 2, 1) := by decide +kernel
theorem dX6_keep_66 : decode cX6_keep 66 = .ok (.bipush 25, 2) := by decide +kernel
theorem dX6_keep_68 : decode cX6_keep 68 = .ok (.aload_n 0, 1) := by decide +kernel
theorem dX6_keep_69 : decode cX6_keep 69 = .ok (.getfield 139, 3) := by decide +kernel
theorem dX6_keep_72 : decode cX6_keep 72 = .ok (.imul, 1) := by decide +kernel
theorem dX6_keep_73 : decode cX6_keep 73 = .ok (.if_icmp .ge 30, 3) := by decide +kernel
theorem dX6_keep_76 : decode cX6_keep 76 = .ok (.aload_n 0, 1) := by decide +kernel
theorem dX6_keep_77 : decode cX6_keep 77 = .ok (.getfield 60, 3) := by decide +kernel
theorem dX6_keep_80 : decode cX6_keep 80 = .ok (.sipush 1025, 3) := by decide +kernel
theorem dX6_keep_83 : decode cX6_keep 83 = .ok (.iload_n 1, 1) := by decide +kernel
theorem dX6_keep_84 : decode cX6_keep 84 = .ok (.imul, 1) := by decide +kernel
theorem dX6_keep_85 : decode cX6_keep 85 = .ok (.bipush 25, 2) := by decide +kernel
theorem dX6_keep_87 : decode cX6_keep 87 = .ok (.iadd, 1) := by decide +kernel
theorem dX6_keep_88 : decode cX6_keep 88 = .ok (.iload_n 2, 1) := by decide +kernel
theorem dX6_keep_89 : decode cX6_keep 89 = .ok (.iadd, 1) := by decide +kernel
theorem dX6_keep_90 : decode cX6_keep 90 = .ok (.aload_n 0, 1) := by decide +kernel
theorem dX6_keep_91 : decode cX6_keep 91 = .ok (.getfield 54, 3) := by decide +kernel
theorem dX6_keep_94 : decode cX6_keep 94 = .ok (.iload_n 2, 1) := by decide +kernel
theorem dX6_keep_95 : decode cX6_keep 95 = .ok (.iaload, 1) := by decide +kernel
theorem dX6_keep_96 : decode cX6_keep 96 = .ok (.iastore, 1) := by decide +kernel
theorem dX6_keep_97 : decode cX6_keep 97 = .ok (.iinc 2 1, 3) := by decide +kernel
theorem dX6_keep_100 : decode cX6_keep 100 = .ok (.goto (-35), 3) := by decide +kernel
theorem dX6_keep_103 : decode cX6_keep 103 = .ok (.aload_n 0, 1) := by decide +kernel
theorem dX6_keep_104 : decode cX6_keep 104 = .ok (.getfield 139, 3) := by decide +kernel
theorem dX6_keep_107 : decode cX6_keep 107 = .ok (.ireturn, 1) := by decide +kernel
set_option maxRecDepth 20000 in
theorem ggX6_on_X6_in : GoodIn wsX6_on wsX6_in := goodIn_r _ [9] (by decide +kernel) (by decide +kernel)
set_option maxRecDepth 20000 in
theorem gX6_on_X6_in : GoodIn wsX6_on (va_wsS RX6 83 yX6_in wsX6_in) := goodIn_app (goodIn_of _ (by decide +kernel)) ggX6_on_X6_in
set_option maxRecDepth 20000 in
theorem ggX6_on_X6_meets : GoodIn wsX6_on wsX6_meets := goodIn_r _ [13, 14, 15, 16, 17, 18, 19, 20, 21, 22, 23, 24, 25, 26, 27, 28, 29, 30, 31, 32, 33, 34, 35, 36, 37, 38, 39, 40, 41, 42, 43, 44, 45, 46, 47, 48, 49] (by decide +kernel) (by decide +kernel)
set_option maxRecDepth 20000 in
theorem gX6_on_X6_meets : GoodIn wsX6_on (wsV RX6 91 RX6 yX6_meets wsX6_meets) := goodIn_app (goodIn_of _ (by decide +kernel)) ggX6_on_X6_meets
theorem dX6_on_0 : decode cX6_on 0 = .ok (.iload_n 1, 1) := by decide +kernel
theorem dX6_on_1 : decode cX6_on 1 = .ok (.iconst 0, 1) := by decide +kernel
theorem dX6_on_2 : decode cX6_on 2 = .ok (.iconst 2, 1) := by decide +kernel
theorem dX6_on_3 : decode cX6_on 3 = .ok (.invokestatic 83, 3) := by decide +kernel
theorem dX6_on_6 : decode cX6_on 6 = .ok (.ifCond .ne 5, 3) := by decide +kernel
theorem dX6_on_9 : decode cX6_on 9 = .ok (.iconst (-1), 1) := by decide +kernel
theorem dX6_on_10 : decode cX6_on 10 = .ok (.ireturn, 1) := by decide +kernel
theorem dX6_on_11 : decode cX6_on 11 = .ok (.aload_n 0, 1) := by decide +kernel
theorem dX6_on_12 : decode cX6_on 12 = .ok (.getfield 57, 3) := by decide +kernel
theorem dX6_on_15 : decode cX6_on 15 = .ok (.iload_n 1, 1) := by decide +kernel
theorem dX6_on_16 : decode cX6_on 16 = .ok (.iaload, 1) := by decide +kernel
theorem dX6_on_17 : decode cX6_on 17 = .ok (.ifCond .ge 9, 3) := by decide +kernel
theorem dX6_on_20 : decode cX6_on 20 = .ok (.aload_n 0, 1) := by decide +kernel
theorem dX6_on_21 : decode cX6_on 21 = .ok (.iconst 1, 1) := by decide +kernel
theorem dX6_on_22 : decode cX6_on 22 = .ok (.invokevirtual 91, 3) := by decide +kernel
theorem dX6_on_25 : decode cX6_on 25 = .ok (.ireturn, 1) := by decide +kernel
theorem dX6_on_26 : decode cX6_on 26 = .ok (.aload_n 0, 1) := by decide +kernel
theorem dX6_on_27 : decode cX6_on 27 = .ok (.aload_n 0, 1) := by decide +kernel
theorem dX6_on_28 : decode cX6_on 28 = .ok (.getfield 57, 3) := by decide +kernel
theorem dX6_on_31 : decode cX6_on 31 = .ok (.iload_n 1, 1) := by decide +kernel
theorem dX6_on_32 : decode cX6_on 32 = .ok (.iaload, 1) := by decide +kernel
theorem dX6_on_33 : decode cX6_on 33 = .ok (.putfield 139, 3) := by decide +kernel
theorem dX6_on_36 : decode cX6_on 36 = .ok (.iconst 0, 1) := by decide +kernel
theorem dX6_on_37 : decode cX6_on 37 = .ok (.istore_n 2, 1) := by decide +kernel
theorem dX6_on_38 : decode cX6_on 38 = .ok (.iload_n 2, 1) := by decide +kernel
theorem dX6_on_39 : decode cX6_on 39 = .ok (.bipush 25, 2) := by decide +kernel
theorem dX6_on_41 : decode cX6_on 41 = .ok (.if_icmp .ge 27, 3) := by decide +kernel
theorem dX6_on_44 : decode cX6_on 44 = .ok (.aload_n 0, 1) := by decide +kernel
theorem dX6_on_45 : decode cX6_on 45 = .ok (.getfield 51, 3) := by decide +kernel
theorem dX6_on_48 : decode cX6_on 48 = .ok (.iload_n 2, 1) := by decide +kernel
theorem dX6_on_49 : decode cX6_on 49 = .ok (.aload_n 0, 1) := by decide +kernel
theorem dX6_on_50 : decode cX6_on 50 = .ok (.getfield 60, 3) := by decide +kernel
theorem dX6_on_53 : decode cX6_on 53 = .ok (.sipush 1025, 3) := by decide +kernel
theorem dX6_on_56 : decode cX6_on 56 = .ok (.iload_n 1, 1) := by decide +kernel
theorem dX6_on_57 : decode cX6_on 57 = .ok (.imul, 1) := by decide +kernel
theorem dX6_on_58 : decode cX6_on 58 = .ok (.iload_n 2, 1) := by decide +kernel
theorem dX6_on_59 : decode cX6_on 59 = .ok (.iadd, 1) := by decide +kernel
theorem dX6_on_60 : decode cX6_on 60 = .ok (.iaload, 1) := by decide +kernel
theorem dX6_on_61 : decode cX6_on 61 = .ok (.iastore, 1) := by decide +kernel
theorem dX6_on_62 : decode cX6_on 62 = .ok (.iinc 2 1, 3) := by decide +kernel
theorem dX6_on_65 : decode cX6_on 65 = .ok (.goto (-27), 3) := by decide +kernel
theorem dX6_on_68 : decode cX6_on 68 = .ok (.iconst 0, 1) := by decide +kernel
theorem dX6_on_69 : decode cX6_on 69 = .ok (.istore_n 2, 1) := by decide +kernel
theorem dX6_on_70 : decode cX6_on 70 = .ok (.iload_n 2, 1) := by decide +kernel
theorem dX6_on_71 : decode cX6_on 71 = .ok (.bipush 25, 2) := by decide +kernel
theorem dX6_on_73 : decode cX6_on 73 = .ok (.aload_n 0, 1) := by decide +kernel
theorem dX6_on_74 : decode cX6_on 74 = .ok (.getfield 139, 3) := by decide +kernel
theorem dX6_on_77 : decode cX6_on 77 = .ok (.imul, 1) := by decide +kernel
theorem dX6_on_78 : decode cX6_on 78 = .ok (.if_icmp .ge 30, 3) := by decide +kernel
theorem dX6_on_81 : decode cX6_on 81 = .ok (.aload_n 0, 1) := by decide +kernel
theorem dX6_on_82 : decode cX6_on 82 = .ok (.getfield 54, 3) := by decide +kernel
theorem dX6_on_85 : decode cX6_on 85 = .ok (.iload_n 2, 1) := by decide +kernel
theorem dX6_on_86 : decode cX6_on 86 = .ok (.aload_n 0, 1) := by decide +kernel
theorem dX6_on_87 : decode cX6_on 87 = .ok (.getfield 60, 3) := by decide +kernel
theorem dX6_on_90 : decode cX6_on 90 = .ok (.sipush 1025, 3) := by decide +kernel
theorem dX6_on_93 : decode cX6_on 93 = .ok (.iload_n 1, 1) := by decide +kernel
theorem dX6_on_94 : decode cX6_on 94 = .ok (.imul, 1) := by decide +kernel
theorem dX6_on_95 : decode cX6_on 95 = .ok (.bipush 25, 2) := by decide +kernel
theorem dX6_on_97 : decode cX6_on 97 = .ok (.iadd, 1) := by decide +kernel
theorem dX6_on_98 : decode cX6_on 98 = .ok (.iload_n 2, 1) := by decide +kernel
theorem dX6_on_99 : decode cX6_on 99 = .ok (.iadd, 1) := by decide +kernel
theorem dX6_on_100 : decode cX6_on 100 = .ok (.iaload, 1) := by decide +kernel
theorem dX6_on_101 : decode cX6_on 101 = .ok (.iastore, 1) := by decide +kernel
theorem dX6_on_102 : decode cX6_on 102 = .ok (.iinc 2 1, 3) := by decide +kernel
theorem dX6_on_105 : decode cX6_on 105 = .ok (.goto (-35), 3) := by decide +kernel
theorem dX6_on_108 : decode cX6_on 108 = .ok (.aload_n 0, 1) := by decide +kernel
theorem dX6_on_109 : decode cX6_on 109 = .ok (.getfield 139, 3) := by decide +kernel
theorem dX6_on_112 : decode cX6_on 112 = .ok (.ireturn, 1) := by decide +kernel
set_option maxRecDepth 20000 in
theorem ggX6_lacks_X6_isWorker : GoodIn wsX6_lacks wsX6_isWorker := goodIn_r _ [6, 7, 8, 9, 5, 10, 35, 36, 37, 38, 39, 40, 41, 42, 43, 44, 45, 46, 47, 48, 49, 50, 51, 52, 53, 54, 55, 56, 57, 58, 59, 60, 61, 62, 63, 64, 65, 66, 67, 68] (by decide +kernel) (by decide +kernel)
set_option maxRecDepth 20000 in
theorem gX6_lacks_X6_isWorker : GoodIn wsX6_lacks (wsV RX6 165 RX6 yX6_isWorker wsX6_isWorker) := goodIn_app (goodIn_of _ (by decide +kernel)) ggX6_lacks_X6_isWorker
set_option maxRecDepth 20000 in
theorem ggX6_lacks_X6_lackOf : GoodIn wsX6_lacks wsX6_lackOf := goodIn_r _ [14, 15, 16, 17, 18, 5, 19, 20, 21, 22, 23, 24, 25, 26, 27, 28, 35, 36, 37, 38, 39, 40, 41, 42, 43, 44, 45, 46, 47, 48, 49, 50, 51, 52, 53, 54, 55, 56, 57, 58, 59, 60, 61, 62, 63, 64, 65, 66, 67, 68] (by decide +kernel) (by decide +kernel)
set_option maxRecDepth 20000 in
theorem gX6_lacks_X6_lackOf : GoodIn wsX6_lacks (wsV RX6 156 RX6 yX6_lackOf wsX6_lackOf) := goodIn_app (goodIn_of _ (by decide +kernel)) ggX6_lacks_X6_lackOf
set_option maxRecDepth 20000 in
theorem ggX6_lacks_X6_lowest : GoodIn wsX6_lacks wsX6_lowest := goodIn_r _ [32, 33, 34, 35, 36, 37, 38, 39, 40, 41, 42, 43, 44, 45, 46, 47, 48, 49, 50, 51, 52, 53, 54, 55, 56, 57, 58, 59, 60, 61, 62, 63, 64, 65, 66, 67, 68] (by decide +kernel) (by decide +kernel)
set_option maxRecDepth 20000 in
theorem gX6_lacks_X6_lowest : GoodIn wsX6_lacks (wsV RX6 203 RX6 yX6_lowest wsX6_lowest) := goodIn_app (goodIn_of _ (by decide +kernel)) ggX6_lacks_X6_lowest
theorem dX6_lacks_0 : decode cX6_lacks 0 = .ok (.aload_n 0, 1) := by decide +kernel
theorem dX6_lacks_1 : decode cX6_lacks 1 = .ok (.iload_n 1, 1) := by decide +kernel
theorem dX6_lacks_2 : decode cX6_lacks 2 = .ok (.invokevirtual 165, 3) := by decide +kernel
theorem dX6_lacks_5 : decode cX6_lacks 5 = .ok (.ifCond .eq 20, 3) := by decide +kernel
theorem dX6_lacks_8 : decode cX6_lacks 8 = .ok (.aload_n 0, 1) := by decide +kernel
theorem dX6_lacks_9 : decode cX6_lacks 9 = .ok (.aload_n 0, 1) := by decide +kernel
theorem dX6_lacks_10 : decode cX6_lacks 10 = .ok (.iload_n 1, 1) := by decide +kernel
theorem dX6_lacks_11 : decode cX6_lacks 11 = .ok (.invokevirtual 156, 3) := by decide +kernel
theorem dX6_lacks_14 : decode cX6_lacks 14 = .ok (.i2l, 1) := by decide +kernel
theorem dX6_lacks_15 : decode cX6_lacks 15 = .ok (.ldc2_w 201, 3) := by decide +kernel
theorem dX6_lacks_18 : decode cX6_lacks 18 = .ok (.iconst 1, 1) := by decide +kernel
theorem dX6_lacks_19 : decode cX6_lacks 19 = .ok (.invokevirtual 203, 3) := by decide +kernel
theorem dX6_lacks_22 : decode cX6_lacks 22 = .ok (.goto 4, 3) := by decide +kernel
theorem dX6_lacks_25 : decode cX6_lacks 25 = .ok (.iconst (-1), 1) := by decide +kernel
theorem dX6_lacks_26 : decode cX6_lacks 26 = .ok (.ireturn, 1) := by decide +kernel
set_option maxRecDepth 20000 in
theorem ggX6_laySets_X6_sumOf : GoodIn wsX6_laySets wsX6_sumOf := goodIn_r _ [8, 9, 10, 11, 7, 12] (by decide +kernel) (by decide +kernel)
set_option maxRecDepth 20000 in
theorem gX6_laySets_X6_sumOf : GoodIn wsX6_laySets (va_wsS RX6 153 yX6_sumOf wsX6_sumOf) := goodIn_app (goodIn_of _ (by decide +kernel)) ggX6_laySets_X6_sumOf
set_option maxRecDepth 20000 in
theorem ggX6_laySets_X6_bits : GoodIn wsX6_laySets wsX6_bits := goodIn_r _ [15] (by decide +kernel) (by decide +kernel)
set_option maxRecDepth 20000 in
theorem gX6_laySets_X6_bits : GoodIn wsX6_laySets (va_wsS RX6 177 yX6_bits wsX6_bits) := goodIn_app (goodIn_of _ (by decide +kernel)) ggX6_laySets_X6_bits
theorem dX6_laySets_0 : decode cX6_laySets 0 = .ok (.aload_n 0, 1) := by decide +kernel
theorem dX6_laySets_1 : decode cX6_laySets 1 = .ok (.iconst 0, 1) := by decide +kernel
theorem dX6_laySets_2 : decode cX6_laySets 2 = .ok (.putfield 207, 3) := by decide +kernel
theorem dX6_laySets_5 : decode cX6_laySets 5 = .ok (.aload_n 0, 1) := by decide +kernel
theorem dX6_laySets_6 : decode cX6_laySets 6 = .ok (.bipush 16, 2) := by decide +kernel
theorem dX6_laySets_8 : decode cX6_laySets 8 = .ok (.putfield 210, 3) := by decide +kernel
theorem dX6_laySets_11 : decode cX6_laySets 11 = .ok (.aload_n 0, 1) := by decide +kernel
theorem dX6_laySets_12 : decode cX6_laySets 12 = .ok (.bipush (-9), 2) := by decide +kernel
theorem dX6_laySets_14 : decode cX6_laySets 14 = .ok (.putfield 213, 3) := by decide +kernel
theorem dX6_laySets_17 : decode cX6_laySets 17 = .ok (.aload_n 0, 1) := by decide +kernel
theorem dX6_laySets_18 : decode cX6_laySets 18 = .ok (.bipush (-9), 2) := by decide +kernel
theorem dX6_laySets_20 : decode cX6_laySets 20 = .ok (.putfield 216, 3) := by decide +kernel
theorem dX6_laySets_23 : decode cX6_laySets 23 = .ok (.iconst 0, 1) := by decide +kernel
theorem dX6_laySets_24 : decode cX6_laySets 24 = .ok (.istore_n 3, 1) := by decide +kernel
theorem dX6_laySets_25 : decode cX6_laySets 25 = .ok (.iload_n 3, 1) := by decide +kernel
theorem dX6_laySets_26 : decode cX6_laySets 26 = .ok (.invokestatic 153, 3) := by decide +kernel
theorem dX6_laySets_29 : decode cX6_laySets 29 = .ok (.iload_n 2, 1) := by decide +kernel
theorem dX6_laySets_30 : decode cX6_laySets 30 = .ok (.if_icmp .ne 84, 3) := by decide +kernel
theorem dX6_laySets_33 : decode cX6_laySets 33 = .ok (.iload_n 3, 1) := by decide +kernel
theorem dX6_laySets_34 : decode cX6_laySets 34 = .ok (.invokestatic 177, 3) := by decide +kernel
theorem dX6_laySets_37 : decode cX6_laySets 37 = .ok (.istore 4, 2) := by decide +kernel
theorem dX6_laySets_39 : decode cX6_laySets 39 = .ok (.aload_n 0, 1) := by decide +kernel
theorem dX6_laySets_40 : decode cX6_laySets 40 = .ok (.dup, 1) := by decide +kernel
theorem dX6_laySets_41 : decode cX6_laySets 41 = .ok (.getfield 207, 3) := by decide +kernel
theorem dX6_laySets_44 : decode cX6_laySets 44 = .ok (.iconst 1, 1) := by decide +kernel
theorem dX6_laySets_45 : decode cX6_laySets 45 = .ok (.iadd, 1) := by decide +kernel
theorem dX6_laySets_46 : decode cX6_laySets 46 = .ok (.putfield 207, 3) := by decide +kernel
theorem dX6_laySets_49 : decode cX6_laySets 49 = .ok (.aload_n 0, 1) := by decide +kernel
theorem dX6_laySets_50 : decode cX6_laySets 50 = .ok (.iload 4, 2) := by decide +kernel
theorem dX6_laySets_52 : decode cX6_laySets 52 = .ok (.aload_n 0, 1) := by decide +kernel
theorem dX6_laySets_53 : decode cX6_laySets 53 = .ok (.getfield 210, 3) := by decide +kernel
theorem dX6_laySets_56 : decode cX6_laySets 56 = .ok (.if_icmp .ge 7, 3) := by decide +kernel
theorem dX6_laySets_59 : decode cX6_laySets 59 = .ok (.iload_n 3, 1) := by decide +kernel
theorem dX6_laySets_60 : decode cX6_laySets 60 = .ok (.goto 7, 3) := by decide +kernel
theorem dX6_laySets_63 : decode cX6_laySets 63 = .ok (.aload_n 0, 1) := by decide +kernel
theorem dX6_laySets_64 : decode cX6_laySets 64 = .ok (.getfield 213, 3) := by decide +kernel
theorem dX6_laySets_67 : decode cX6_laySets 67 = .ok (.putfield 213, 3) := by decide +kernel
theorem dX6_laySets_70 : decode cX6_laySets 70 = .ok (.aload_n 0, 1) := by decide +kernel
theorem dX6_laySets_71 : decode cX6_laySets 71 = .ok (.iload 4, 2) := by decide +kernel
theorem dX6_laySets_73 : decode cX6_laySets 73 = .ok (.aload_n 0, 1) := by decide +kernel
theorem dX6_laySets_74 : decode cX6_laySets 74 = .ok (.getfield 210, 3) := by decide +kernel
theorem dX6_laySets_77 : decode cX6_laySets 77 = .ok (.if_icmp .ge 8, 3) := by decide +kernel
theorem dX6_laySets_80 : decode cX6_laySets 80 = .ok (.iload 4, 2) := by decide +kernel
theorem dX6_laySets_82 : decode cX6_laySets 82 = .ok (.goto 7, 3) := by decide +kernel
theorem dX6_laySets_85 : decode cX6_laySets 85 = .ok (.aload_n 0, 1) := by decide +kernel
theorem dX6_laySets_86 : decode cX6_laySets 86 = .ok (.getfield 210, 3) := by decide +kernel
theorem dX6_laySets_89 : decode cX6_laySets 89 = .ok (.putfield 210, 3) := by decide +kernel
theorem dX6_laySets_92 : decode cX6_laySets 92 = .ok (.aload_n 0, 1) := by decide +kernel
theorem dX6_laySets_93 : decode cX6_laySets 93 = .ok (.iload 4, 2) := by decide +kernel
theorem dX6_laySets_95 : decode cX6_laySets 95 = .ok (.aload_n 0, 1) := by decide +kernel
theorem dX6_laySets_96 : decode cX6_laySets 96 = .ok (.getfield 216, 3) := by decide +kernel
theorem dX6_laySets_99 : decode cX6_laySets 99 = .ok (.if_icmp .le 8, 3) := by decide +kernel
theorem dX6_laySets_102 : decode cX6_laySets 102 = .ok (.iload 4, 2) := by decide +kernel
theorem dX6_laySets_104 : decode cX6_laySets 104 = .ok (.goto 7, 3) := by decide +kernel
theorem dX6_laySets_107 : decode cX6_laySets 107 = .ok (.aload_n 0, 1) := by decide +kernel
theorem dX6_laySets_108 : decode cX6_laySets 108 = .ok (.getfield 216, 3) := by decide +kernel
theorem dX6_laySets_111 : decode cX6_laySets 111 = .ok (.putfield 216, 3) := by decide +kernel
theorem dX6_laySets_114 : decode cX6_laySets 114 = .ok (.iload_n 3, 1) := by decide +kernel
theorem dX6_laySets_115 : decode cX6_laySets 115 = .ok (.iload_n 1, 1) := by decide +kernel
theorem dX6_laySets_116 : decode cX6_laySets 116 = .ok (.isub, 1) := by decide +kernel
theorem dX6_laySets_117 : decode cX6_laySets 117 = .ok (.iload_n 1, 1) := by decide +kernel
theorem dX6_laySets_118 : decode cX6_laySets 118 = .ok (.iand, 1) := by decide +kernel
theorem dX6_laySets_119 : decode cX6_laySets 119 = .ok (.istore_n 3, 1) := by decide +kernel
theorem dX6_laySets_120 : decode cX6_laySets 120 = .ok (.iload_n 3, 1) := by decide +kernel
theorem dX6_laySets_121 : decode cX6_laySets 121 = .ok (.ifCond .ne (-96), 3) := by decide +kernel
theorem dX6_laySets_124 : decode cX6_laySets 124 = .ok (.return_, 1) := by decide +kernel
set_option maxRecDepth 20000 in
theorem ggX6_mayTake_X6_allOf : GoodIn wsX6_mayTake wsX6_allOf := goodIn_r _ [6, 7, 8, 5, 9] (by decide +kernel) (by decide +kernel)
set_option maxRecDepth 20000 in
theorem gX6_mayTake_X6_allOf : GoodIn wsX6_mayTake (va_wsS RX6 174 yX6_allOf wsX6_allOf) := goodIn_app (goodIn_of _ (by decide +kernel)) ggX6_mayTake_X6_allOf
theorem dX6_mayTake_0 : decode cX6_mayTake 0 = .ok (.aload_n 0, 1) := by decide +kernel
theorem dX6_mayTake_1 : decode cX6_mayTake 1 = .ok (.getfield 42, 3) := by decide +kernel
theorem dX6_mayTake_4 : decode cX6_mayTake 4 = .ok (.iload_n 1, 1) := by decide +kernel
theorem dX6_mayTake_5 : decode cX6_mayTake 5 = .ok (.iaload, 1) := by decide +kernel
theorem dX6_mayTake_6 : decode cX6_mayTake 6 = .ok (.invokestatic 174, 3) := by decide +kernel
theorem dX6_mayTake_9 : decode cX6_mayTake 9 = .ok (.aload_n 0, 1) := by decide +kernel
theorem dX6_mayTake_10 : decode cX6_mayTake 10 = .ok (.getfield 51, 3) := by decide +kernel
theorem dX6_mayTake_13 : decode cX6_mayTake 13 = .ok (.bipush 18, 2) := by decide +kernel
theorem dX6_mayTake_15 : decode cX6_mayTake 15 = .ok (.iload_n 1, 1) := by decide +kernel
theorem dX6_mayTake_16 : decode cX6_mayTake 16 = .ok (.iadd, 1) := by decide +kernel
theorem dX6_mayTake_17 : decode cX6_mayTake 17 = .ok (.iaload, 1) := by decide +kernel
theorem dX6_mayTake_18 : decode cX6_mayTake 18 = .ok (.iconst (-1), 1) := by decide +kernel
theorem dX6_mayTake_19 : decode cX6_mayTake 19 = .ok (.ixor, 1) := by decide +kernel
theorem dX6_mayTake_20 : decode cX6_mayTake 20 = .ok (.iand, 1) := by decide +kernel
theorem dX6_mayTake_21 : decode cX6_mayTake 21 = .ok (.ireturn, 1) := by decide +kernel
set_option maxRecDepth 20000 in
theorem ggX6_ways_X6_isWorker : GoodIn wsX6_ways wsX6_isWorker := goodIn_r _ [7, 8, 9, 10, 6, 11, 55, 56, 57, 58, 59, 60, 61, 62, 63, 64, 65, 66, 67, 68, 69, 70, 71, 72, 73, 74, 75, 76, 77, 78, 79, 80, 81, 82, 83, 84, 85, 86, 87, 88] (by decide +kernel) (by decide +kernel)
set_option maxRecDepth 20000 in
theorem gX6_ways_X6_isWorker : GoodIn wsX6_ways (wsV RX6 165 RX6 yX6_isWorker wsX6_isWorker) := goodIn_app (goodIn_of _ (by decide +kernel)) ggX6_ways_X6_isWorker
set_option maxRecDepth 20000 in
theorem ggX6_ways_X6_mayTake : GoodIn wsX6_ways wsX6_mayTake := goodIn_r _ [15, 16, 17, 18, 19, 6, 20, 21, 22, 23, 55, 56, 57, 58, 59, 60, 61, 62, 63, 64, 65, 66, 67, 68, 69, 70, 71, 72, 73, 74, 75, 76, 77, 78, 79, 80, 81, 82, 83, 84, 85, 86, 87, 88] (by decide +kernel) (by decide +kernel)
set_option maxRecDepth 20000 in
theorem gX6_ways_X6_mayTake : GoodIn wsX6_ways (wsV RX6 219 RX6 yX6_mayTake wsX6_mayTake) := goodIn_app (goodIn_of _ (by decide +kernel)) ggX6_ways_X6_mayTake
set_option maxRecDepth 20000 in
theorem ggX6_ways_X6_lackOf : GoodIn wsX6_ways wsX6_lackOf := goodIn_r _ [27, 17, 28, 29, 30, 6, 31, 32, 33, 34, 35, 36, 37, 38, 39, 40, 55, 56, 57, 58, 59, 60, 61, 62, 63, 64, 65, 66, 67, 68, 69, 70, 71, 72, 73, 74, 75, 76, 77, 78, 79, 80, 81, 82, 83, 84, 85, 86, 87, 88] (by decide +kernel) (by decide +kernel)
set_option maxRecDepth 20000 in
theorem gX6_ways_X6_lackOf : GoodIn wsX6_ways (wsV RX6 156 RX6 yX6_lackOf wsX6_lackOf) := goodIn_app (goodIn_of _ (by decide +kernel)) ggX6_ways_X6_lackOf
set_option maxRecDepth 20000 in
theorem ggX6_ways_X6_laySets : GoodIn wsX6_ways wsX6_laySets := goodIn_r _ [44, 1, 45, 46, 2, 35, 36, 6, 37, 32, 38, 39, 40, 47, 48, 49, 55, 56, 57, 58, 59, 60, 61, 62, 63, 64, 65, 66, 67, 68, 69, 70, 71, 72, 73, 74, 75, 76, 77, 78, 79, 80, 81, 82, 83, 84, 85, 86, 87, 88] (by decide +kernel) (by decide +kernel)
set_option maxRecDepth 20000 in
theorem gX6_ways_X6_laySets : GoodIn wsX6_ways (wsV RX6 222 RX6 yX6_laySets wsX6_laySets) := goodIn_app (goodIn_of _ (by decide +kernel)) ggX6_ways_X6_laySets
set_option maxRecDepth 20000 in
theorem ggX6_ways_X6_tells : GoodIn wsX6_ways wsX6_tells := goodIn_r _ [53, 54, 55, 56, 57, 58, 59, 60, 61, 62, 63, 64, 65, 66, 67, 68, 69, 70, 71, 72, 73, 74, 75, 76, 77, 78, 79, 80, 81, 82, 83, 84, 85, 86, 87, 88] (by decide +kernel) (by decide +kernel)
set_option maxRecDepth 20000 in
theorem gX6_ways_X6_tells : GoodIn wsX6_ways (wsV RX6 99 RX6 yX6_tells wsX6_tells) := goodIn_app (goodIn_of _ (by decide +kernel)) ggX6_ways_X6_tells
theorem dX6_ways_0 : decode cX6_ways 0 = .ok (.aload_n 0, 1) := by decide +kernel
theorem dX6_ways_1 : decode cX6_ways 1 = .ok (.iload_n 1, 1) := by decide +kernel
theorem dX6_ways_2 : decode cX6_ways 2 = .ok (.invokevirtual 165, 3) := by decide +kernel
theorem dX6_ways_5 : decode cX6_ways 5 = .ok (.ifCond .ne 5, 3) := by decide +kernel
theorem dX6_ways_8 : decode cX6_ways 8 = .ok (.iconst (-1), 1) := by decide +kernel
theorem dX6_ways_9 : decode cX6_ways 9 = .ok (.ireturn, 1) := by decide +kernel
theorem dX6_ways_10 : decode cX6_ways 10 = .ok (.aload_n 0, 1) := by decide +kernel
theorem dX6_ways_11 : decode cX6_ways 11 = .ok (.aload_n 0, 1) := by decide +kernel
theorem dX6_ways_12 : decode cX6_ways 12 = .ok (.iload_n 1, 1) := by decide +kernel
theorem dX6_ways_13 : decode cX6_ways 13 = .ok (.invokevirtual 219, 3) := by decide +kernel
theorem dX6_ways_16 : decode cX6_ways 16 = .ok (.aload_n 0, 1) := by decide +kernel
theorem dX6_ways_17 : decode cX6_ways 17 = .ok (.iload_n 1, 1) := by decide +kernel
theorem dX6_ways_18 : decode cX6_ways 18 = .ok (.invokevirtual 156, 3) := by decide +kernel
theorem dX6_ways_21 : decode cX6_ways 21 = .ok (.invokevirtual 222, 3) := by decide +kernel
theorem dX6_ways_24 : decode cX6_ways 24 = .ok (.aload_n 0, 1) := by decide +kernel
theorem dX6_ways_25 : decode cX6_ways 25 = .ok (.getfield 207, 3) := by decide +kernel
theorem dX6_ways_28 : decode cX6_ways 28 = .ok (.ifCond .ne 8, 3) := by decide +kernel
theorem dX6_ways_31 : decode cX6_ways 31 = .ok (.bipush (-9), 2) := by decide +kernel
theorem dX6_ways_33 : decode cX6_ways 33 = .ok (.goto 15, 3) := by decide +kernel
theorem dX6_ways_36 : decode cX6_ways 36 = .ok (.aload_n 0, 1) := by decide +kernel
theorem dX6_ways_37 : decode cX6_ways 37 = .ok (.aload_n 0, 1) := by decide +kernel
theorem dX6_ways_38 : decode cX6_ways 38 = .ok (.getfield 216, 3) := by decide +kernel
theorem dX6_ways_41 : decode cX6_ways 41 = .ok (.aload_n 0, 1) := by decide +kernel
theorem dX6_ways_42 : decode cX6_ways 42 = .ok (.getfield 207, 3) := by decide +kernel
theorem dX6_ways_45 : decode cX6_ways 45 = .ok (.invokevirtual 99, 3) := by decide +kernel
theorem dX6_ways_48 : decode cX6_ways 48 = .ok (.ireturn, 1) := by decide +kernel
set_option maxRecDepth 20000 in
theorem ggX6_writes_X6_isWorker : GoodIn wsX6_writes wsX6_isWorker := goodIn_r _ [9, 10, 11, 12, 8, 13, 65, 66, 67, 68, 69, 70, 71, 72, 73, 74, 75, 76, 77, 78, 79, 80, 81, 82, 83, 84, 85, 86, 87, 88, 89, 90, 91, 92, 93, 94, 95, 96, 97, 98] (by decide +kernel) (by decide +kernel)
set_option maxRecDepth 20000 in
theorem gX6_writes_X6_isWorker : GoodIn wsX6_writes (wsV RX6 165 RX6 yX6_isWorker wsX6_isWorker) := goodIn_app (goodIn_of _ (by decide +kernel)) ggX6_writes_X6_isWorker
set_option maxRecDepth 20000 in
theorem ggX6_writes_X6_isRow : GoodIn wsX6_writes wsX6_isRow := goodIn_r _ [16, 11, 12, 8, 13] (by decide +kernel) (by decide +kernel)
set_option maxRecDepth 20000 in
theorem gX6_writes_X6_isRow : GoodIn wsX6_writes (va_wsS RX6 87 yX6_isRow wsX6_isRow) := goodIn_app (goodIn_of _ (by decide +kernel)) ggX6_writes_X6_isRow
set_option maxRecDepth 20000 in
theorem ggX6_writes_X6_mayTake : GoodIn wsX6_writes wsX6_mayTake := goodIn_r _ [20, 21, 22, 23, 24, 8, 25, 26, 27, 28, 65, 66, 67, 68, 69, 70, 71, 72, 73, 74, 75, 76, 77, 78, 79, 80, 81, 82, 83, 84, 85, 86, 87, 88, 89, 90, 91, 92, 93, 94, 95, 96, 97, 98] (by decide +kernel) (by decide +kernel)
set_option maxRecDepth 20000 in
theorem gX6_writes_X6_mayTake : GoodIn wsX6_writes (wsV RX6 219 RX6 yX6_mayTake wsX6_mayTake) := goodIn_app (goodIn_of _ (by decide +kernel)) ggX6_writes_X6_mayTake
set_option maxRecDepth 20000 in
theorem ggX6_writes_X6_lackOf : GoodIn wsX6_writes wsX6_lackOf := goodIn_r _ [32, 22, 33, 34, 35, 8, 36, 37, 38, 39, 40, 41, 42, 43, 44, 45, 65, 66, 67, 68, 69, 70, 71, 72, 73, 74, 75, 76, 77, 78, 79, 80, 81, 82, 83, 84, 85, 86, 87, 88, 89, 90, 91, 92, 93, 94, 95, 96, 97, 98] (by decide +kernel) (by decide +kernel)
set_option maxRecDepth 20000 in
theorem gX6_writes_X6_lackOf : GoodIn wsX6_writes (wsV RX6 156 RX6 yX6_lackOf wsX6_lackOf) := goodIn_app (goodIn_of _ (by decide +kernel)) ggX6_writes_X6_lackOf
set_option maxRecDepth 20000 in
theorem ggX6_writes_X6_laySets : GoodIn wsX6_writes wsX6_laySets := goodIn_r _ [49, 1, 2, 3, 50, 40, 41, 8, 42, 37, 43, 44, 45, 51, 52, 53, 65, 66, 67, 68, 69, 70, 71, 72, 73, 74, 75, 76, 77, 78, 79, 80, 81, 82, 83, 84, 85, 86, 87, 88, 89, 90, 91, 92, 93, 94, 95, 96, 97, 98] (by decide +kernel) (by decide +kernel)
set_option maxRecDepth 20000 in
theorem gX6_writes_X6_laySets : GoodIn wsX6_writes (wsV RX6 222 RX6 yX6_laySets wsX6_laySets) := goodIn_app (goodIn_of _ (by decide +kernel)) ggX6_writes_X6_laySets
set_option maxRecDepth 20000 in
theorem ggX6_writes_X6_row : GoodIn wsX6_writes wsX6_row := goodIn_r _ [57, 58, 4, 14, 15, 8, 16, 11, 12, 13, 59, 60, 61, 62, 63, 64, 65, 66, 67, 68, 69, 70, 71, 72, 73, 74, 75, 76, 77, 78, 79, 80, 81, 82, 83, 84, 85, 86, 87, 88, 89, 90, 91, 92, 93, 94, 95, 96, 97, 98] (by decide +kernel) (by decide +kernel)
set_option maxRecDepth 20000 in
theorem gX6_writes_X6_row : GoodIn wsX6_writes (wsV RX6 225 RX6 yX6_row wsX6_row) := goodIn_app (goodIn_of _ (by decide +kernel)) ggX6_writes_X6_row
set_option maxRecDepth 20000 in
theorem ggX6_writes_X6_has : GoodIn wsX6_writes wsX6_has := goodIn_r _ [45] (by decide +kernel) (by decide +kernel)
set_option maxRecDepth 20000 in
theorem gX6_writes_X6_has : GoodIn wsX6_writes (va_wsS RX6 146 yX6_has wsX6_has) := goodIn_app (goodIn_of _ (by decide +kernel)) ggX6_writes_X6_has
theorem dX6_writes_0 : decode cX6_writes 0 = .ok (.aload_n 0, 1) := by decide +kernel
theorem dX6_writes_1 : decode cX6_writes 1 = .ok (.iload_n 1, 1) := by decide +kernel
theorem dX6_writes_2 : decode cX6_writes 2 = .ok (.invokevirtual 165, 3) := by decide +kernel
theorem dX6_writes_5 : decode cX6_writes 5 = .ok (.ifCond .eq 10, 3) := by decide +kernel
theorem dX6_writes_8 : decode cX6_writes 8 = .ok (.iload_n 2, 1) := by decide +kernel
theorem dX6_writes_9 : decode cX6_writes 9 = .ok (.invokestatic 87, 3) := by decide +kernel
theorem dX6_writes_12 : decode cX6_writes 12 = .ok (.ifCond .ne 5, 3) := by decide +kernel
theorem dX6_writes_15 : decode cX6_writes 15 = .ok (.iconst (-1), 1) := by decide +kernel
theorem dX6_writes_16 : decode cX6_writes 16 = .ok (.ireturn, 1) := by decide +kernel
theorem dX6_writes_17 : decode cX6_writes 17 = .ok (.aload_n 0, 1) := by decide +kernel
theorem dX6_writes_18 : decode cX6_writes 18 = .ok (.aload_n 0, 1) := by decide +kernel
theorem dX6_writes_19 : decode cX6_writes 19 = .ok (.iload_n 1, 1) := by decide +kernel
theorem dX6_writes_20 : decode cX6_writes 20 = .ok (.invokevirtual 219, 3) := by decide +kernel
theorem dX6_writes_23 : decode cX6_writes 23 = .ok (.aload_n 0, 1) := by decide +kernel
theorem dX6_writes_24 : decode cX6_writes 24 = .ok (.iload_n 1, 1) := by decide +kernel
theorem dX6_writes_25 : decode cX6_writes 25 = .ok (.invokevirtual 156, 3) := by decide +kernel
theorem dX6_writes_28 : decode cX6_writes 28 = .ok (.invokevirtual 222, 3) := by decide +kernel
theorem dX6_writes_31 : decode cX6_writes 31 = .ok (.aload_n 0, 1) := by decide +kernel
theorem dX6_writes_32 : decode cX6_writes 32 = .ok (.getfield 207, 3) := by decide +kernel
theorem dX6_writes_35 : decode cX6_writes 35 = .ok (.ifCond .ne 6, 3) := by decide +kernel
theorem dX6_writes_38 : decode cX6_writes 38 = .ok (.bipush (-9), 2) := by decide +kernel
theorem dX6_writes_40 : decode cX6_writes 40 = .ok (.ireturn, 1) := by decide +kernel
theorem dX6_writes_41 : decode cX6_writes 41 = .ok (.aload_n 0, 1) := by decide +kernel
theorem dX6_writes_42 : decode cX6_writes 42 = .ok (.iload_n 2, 1) := by decide +kernel
theorem dX6_writes_43 : decode cX6_writes 43 = .ok (.aload_n 0, 1) := by decide +kernel
theorem dX6_writes_44 : decode cX6_writes 44 = .ok (.getfield 210, 3) := by decide +kernel
theorem dX6_writes_47 : decode cX6_writes 47 = .ok (.invokevirtual 225, 3) := by decide +kernel
theorem dX6_writes_50 : decode cX6_writes 50 = .ok (.pop, 1) := by decide +kernel
theorem dX6_writes_51 : decode cX6_writes 51 = .ok (.iconst 0, 1) := by decide +kernel
theorem dX6_writes_52 : decode cX6_writes 52 = .ok (.istore_n 3, 1) := by decide +kernel
theorem dX6_writes_53 : decode cX6_writes 53 = .ok (.iconst 2, 1) := by decide +kernel
theorem dX6_writes_54 : decode cX6_writes 54 = .ok (.istore 4, 2) := by decide +kernel
theorem dX6_writes_56 : decode cX6_writes 56 = .ok (.iload 4, 2) := by decide +kernel
theorem dX6_writes_58 : decode cX6_writes 58 = .ok (.bipush 16, 2) := by decide +kernel
theorem dX6_writes_60 : decode cX6_writes 60 = .ok (.if_icmp .gt 37, 3) := by decide +kernel
theorem dX6_writes_63 : decode cX6_writes 63 = .ok (.aload_n 0, 1) := by decide +kernel
theorem dX6_writes_64 : decode cX6_writes 64 = .ok (.getfield 213, 3) := by decide +kernel
theorem dX6_writes_67 : decode cX6_writes 67 = .ok (.iload 4, 2) := by decide +kernel
theorem dX6_writes_69 : decode cX6_writes 69 = .ok (.invokestatic 146, 3) := by decide +kernel
theorem dX6_writes_72 : decode cX6_writes 72 = .ok (.ifCond .eq 19, 3) := by decide +kernel
theorem dX6_writes_75 : decode cX6_writes 75 = .ok (.aload_n 0, 1) := by decide +kernel
theorem dX6_writes_76 : decode cX6_writes 76 = .ok (.getfield 20, 3) := by decide +kernel
theorem dX6_writes_79 : decode cX6_writes 79 = .ok (.bipush 40, 2) := by decide +kernel
theorem dX6_writes_81 : decode cX6_writes 81 = .ok (.iload_n 2, 1) := by decide +kernel
theorem dX6_writes_82 : decode cX6_writes 82 = .ok (.imul, 1) := by decide +kernel
theorem dX6_writes_83 : decode cX6_writes 83 = .ok (.iload_n 3, 1) := by decide +kernel
theorem dX6_writes_84 : decode cX6_writes 84 = .ok (.iadd, 1) := by decide +kernel
theorem dX6_writes_85 : decode cX6_writes 85 = .ok (.iload 4, 2) := by decide +kernel
theorem dX6_writes_87 : decode cX6_writes 87 = .ok (.iastore, 1) := by decide +kernel
theorem dX6_writes_88 : decode cX6_writes 88 = .ok (.iinc 3 1, 3) := by decide +kernel
theorem dX6_writes_91 : decode cX6_writes 91 = .ok (.iinc 4 1, 3) := by decide +kernel
theorem dX6_writes_94 : decode cX6_writes 94 = .ok (.goto (-38), 3) := by decide +kernel
theorem dX6_writes_97 : decode cX6_writes 97 = .ok (.aload_n 0, 1) := by decide +kernel
theorem dX6_writes_98 : decode cX6_writes 98 = .ok (.getfield 210, 3) := by decide +kernel
theorem dX6_writes_101 : decode cX6_writes 101 = .ok (.ireturn, 1) := by decide +kernel
set_option maxRecDepth 20000 in
theorem ggX6_greedy_X6_isWorker : GoodIn wsX6_greedy wsX6_isWorker := goodIn_r _ [6, 7, 8, 9, 5, 10, 44, 45, 46, 47, 48, 49, 50, 51, 52, 53, 54, 55, 56, 57, 58, 59, 60, 61, 62, 63, 64, 65, 66, 67, 68, 69, 70, 71, 72, 73, 74, 75, 76, 77] (by decide +kernel) (by decide +kernel)
set_option maxRecDepth 20000 in
theorem gX6_greedy_X6_isWorker : GoodIn wsX6_greedy (wsV RX6 165 RX6 yX6_isWorker wsX6_isWorker) := goodIn_app (goodIn_of _ (by decide +kernel)) ggX6_greedy_X6_isWorker
set_option maxRecDepth 20000 in
theorem ggX6_greedy_X6_lackOf : GoodIn wsX6_greedy wsX6_lackOf := goodIn_r _ [14, 15, 16, 17, 18, 5, 19, 1, 20, 21, 22, 23, 24, 25, 26, 27, 44, 45, 46, 47, 48, 49, 50, 51, 52, 53, 54, 55, 56, 57, 58, 59, 60, 61, 62, 63, 64, 65, 66, 67, 68, 69, 70, 71, 72, 73, 74, 75, 76, 77] (by decide +kernel) (by decide +kernel)
set_option maxRecDepth 20000 in
theorem gX6_greedy_X6_lackOf : GoodIn wsX6_greedy (wsV RX6 156 RX6 yX6_lackOf wsX6_lackOf) := goodIn_app (goodIn_of _ (by decide +kernel)) ggX6_greedy_X6_lackOf
set_option maxRecDepth 20000 in
theorem ggX6_greedy_X6_mayTake : GoodIn wsX6_greedy wsX6_mayTake := goodIn_r _ [31, 32, 15, 33, 34, 5, 35, 36, 37, 38, 44, 45, 46, 47, 48, 49, 50, 51, 52, 53, 54, 55, 56, 57, 58, 59, 60, 61, 62, 63, 64, 65, 66, 67, 68, 69, 70, 71, 72, 73, 74, 75, 76, 77] (by decide +kernel) (by decide +kernel)
set_option maxRecDepth 20000 in
theorem gX6_greedy_X6_mayTake : GoodIn wsX6_greedy (wsV RX6 219 RX6 yX6_mayTake wsX6_mayTake) := goodIn_app (goodIn_of _ (by decide +kernel)) ggX6_greedy_X6_mayTake
set_option maxRecDepth 20000 in
theorem ggX6_greedy_X6_has : GoodIn wsX6_greedy wsX6_has := goodIn_r _ [27] (by decide +kernel) (by decide +kernel)
set_option maxRecDepth 20000 in
theorem gX6_greedy_X6_has : GoodIn wsX6_greedy (va_wsS RX6 146 yX6_has wsX6_has) := goodIn_app (goodIn_of _ (by decide +kernel)) ggX6_greedy_X6_has
set_option maxRecDepth 20000 in
theorem ggX6_greedy_X6_tells : GoodIn wsX6_greedy wsX6_tells := goodIn_r _ [42, 43, 44, 45, 46, 47, 48, 49, 50, 51, 52, 53, 54, 55, 56, 57, 58, 59, 60, 61, 62, 63, 64, 65, 66, 67, 68, 69, 70, 71, 72, 73, 74, 75, 76, 77] (by decide +kernel) (by decide +kernel)
set_option maxRecDepth 20000 in
theorem gX6_greedy_X6_tells : GoodIn wsX6_greedy (wsV RX6 99 RX6 yX6_tells wsX6_tells) := goodIn_app (goodIn_of _ (by decide +kernel)) ggX6_greedy_X6_tells
theorem dX6_greedy_0 : decode cX6_greedy 0 = .ok (.aload_n 0, 1) := by decide +kernel
theorem dX6_greedy_1 : decode cX6_greedy 1 = .ok (.iload_n 1, 1) := by decide +kernel
theorem dX6_greedy_2 : decode cX6_greedy 2 = .ok (.invokevirtual 165, 3) := by decide +kernel
theorem dX6_greedy_5 : decode cX6_greedy 5 = .ok (.ifCond .ne 5, 3) := by decide +kernel
theorem dX6_greedy_8 : decode cX6_greedy 8 = .ok (.iconst (-1), 1) := by decide +kernel
theorem dX6_greedy_9 : decode cX6_greedy 9 = .ok (.ireturn, 1) := by decide +kernel
theorem dX6_greedy_10 : decode cX6_greedy 10 = .ok (.aload_n 0, 1) := by decide +kernel
theorem dX6_greedy_11 : decode cX6_greedy 11 = .ok (.iload_n 1, 1) := by decide +kernel
theorem dX6_greedy_12 : decode cX6_greedy 12 = .ok (.invokevirtual 156, 3) := by decide +kernel
theorem dX6_greedy_15 : decode cX6_greedy 15 = .ok (.istore_n 2, 1) := by decide +kernel
theorem dX6_greedy_16 : decode cX6_greedy 16 = .ok (.iconst 0, 1) := by decide +kernel
theorem dX6_greedy_17 : decode cX6_greedy 17 = .ok (.istore_n 3, 1) := by decide +kernel
theorem dX6_greedy_18 : decode cX6_greedy 18 = .ok (.iconst 0, 1) := by decide +kernel
theorem dX6_greedy_19 : decode cX6_greedy 19 = .ok (.istore 4, 2) := by decide +kernel
theorem dX6_greedy_21 : decode cX6_greedy 21 = .ok (.iconst 2, 1) := by decide +kernel
theorem dX6_greedy_22 : decode cX6_greedy 22 = .ok (.istore 5, 2) := by decide +kernel
theorem dX6_greedy_24 : decode cX6_greedy 24 = .ok (.iload 5, 2) := by decide +kernel
theorem dX6_greedy_26 : decode cX6_greedy 26 = .ok (.bipush 16, 2) := by decide +kernel
theorem dX6_greedy_28 : decode cX6_greedy 28 = .ok (.if_icmp .gt 46, 3) := by decide +kernel
theorem dX6_greedy_31 : decode cX6_greedy 31 = .ok (.aload_n 0, 1) := by decide +kernel
theorem dX6_greedy_32 : decode cX6_greedy 32 = .ok (.iload_n 1, 1) := by decide +kernel
theorem dX6_greedy_33 : decode cX6_greedy 33 = .ok (.invokevirtual 219, 3) := by decide +kernel
theorem dX6_greedy_36 : decode cX6_greedy 36 = .ok (.iload 5, 2) := by decide +kernel
theorem dX6_greedy_38 : decode cX6_greedy 38 = .ok (.invokestatic 146, 3) := by decide +kernel
theorem dX6_greedy_41 : decode cX6_greedy 41 = .ok (.ifCond .eq 27, 3) := by decide +kernel
theorem dX6_greedy_44 : decode cX6_greedy 44 = .ok (.iload_n 2, 1) := by decide +kernel
theorem dX6_greedy_45 : decode cX6_greedy 45 = .ok (.ldc 149, 2) := by decide +kernel
theorem dX6_greedy_47 : decode cX6_greedy 47 = .ok (.iload 5, 2) := by decide +kernel
theorem dX6_greedy_49 : decode cX6_greedy 49 = .ok (.idiv, 1) := by decide +kernel
theorem dX6_greedy_50 : decode cX6_greedy 50 = .ok (.if_icmp .lt 18, 3) := by decide +kernel
theorem dX6_greedy_53 : decode cX6_greedy 53 = .ok (.iload_n 2, 1) := by decide +kernel
theorem dX6_greedy_54 : decode cX6_greedy 54 = .ok (.ldc 149, 2) := by decide +kernel
theorem dX6_greedy_56 : decode cX6_greedy 56 = .ok (.iload 5, 2) := by decide +kernel
theorem dX6_greedy_58 : decode cX6_greedy 58 = .ok (.idiv, 1) := by decide +kernel
theorem dX6_greedy_59 : decode cX6_greedy 59 = .ok (.isub, 1) := by decide +kernel
theorem dX6_greedy_60 : decode cX6_greedy 60 = .ok (.istore_n 2, 1) := by decide +kernel
theorem dX6_greedy_61 : decode cX6_greedy 61 = .ok (.iinc 3 1, 3) := by decide +kernel
theorem dX6_greedy_64 : decode cX6_greedy 64 = .ok (.iload 5, 2) := by decide +kernel
theorem dX6_greedy_66 : decode cX6_greedy 66 = .ok (.istore 4, 2) := by decide +kernel
theorem dX6_greedy_68 : decode cX6_greedy 68 = .ok (.iinc 5 1, 3) := by decide +kernel
theorem dX6_greedy_71 : decode cX6_greedy 71 = .ok (.goto (-47), 3) := by decide +kernel
theorem dX6_greedy_74 : decode cX6_greedy 74 = .ok (.iload_n 2, 1) := by decide +kernel
theorem dX6_greedy_75 : decode cX6_greedy 75 = .ok (.ifCond .le 8, 3) := by decide +kernel
theorem dX6_greedy_78 : decode cX6_greedy 78 = .ok (.bipush (-9), 2) := by decide +kernel
theorem dX6_greedy_80 : decode cX6_greedy 80 = .ok (.goto 10, 3) := by decide +kernel
theorem dX6_greedy_83 : decode cX6_greedy 83 = .ok (.aload_n 0, 1) := by decide +kernel
theorem dX6_greedy_84 : decode cX6_greedy 84 = .ok (.iload 4, 2) := by decide +kernel
theorem dX6_greedy_86 : decode cX6_greedy 86 = .ok (.iload_n 3, 1) := by decide +kernel
theorem dX6_greedy_87 : decode cX6_greedy 87 = .ok (.invokevirtual 99, 3) := by decide +kernel
theorem dX6_greedy_90 : decode cX6_greedy 90 = .ok (.ireturn, 1) := by decide +kernel
set_option maxRecDepth 20000 in
theorem ggX6_isServed_X6_mayTake : GoodIn wsX6_isServed wsX6_mayTake := goodIn_r _ [6, 7, 8, 9, 10, 5, 11, 12, 13, 14, 42, 43, 44, 45, 46, 47, 48, 49, 50, 51, 52, 53, 54, 55, 56, 57, 58, 59, 60, 61, 62, 63, 64, 65, 66, 67, 68, 69, 70, 71, 72, 73, 74, 75] (by decide +kernel) (by decide +kernel)
set_option maxRecDepth 20000 in
theorem gX6_isServed_X6_mayTake : GoodIn wsX6_isServed (wsV RX6 219 RX6 yX6_mayTake wsX6_mayTake) := goodIn_app (goodIn_of _ (by decide +kernel)) ggX6_isServed_X6_mayTake
set_option maxRecDepth 20000 in
theorem ggX6_isServed_X6_lackOf : GoodIn wsX6_isServed wsX6_lackOf := goodIn_r _ [18, 8, 19, 20, 21, 5, 22, 23, 24, 25, 26, 27, 28, 29, 30, 31, 42, 43, 44, 45, 46, 47, 48, 49, 50, 51, 52, 53, 54, 55, 56, 57, 58, 59, 60, 61, 62, 63, 64, 65, 66, 67, 68, 69, 70, 71, 72, 73, 74, 75] (by decide +kernel) (by decide +kernel)
set_option maxRecDepth 20000 in
theorem gX6_isServed_X6_lackOf : GoodIn wsX6_isServed (wsV RX6 156 RX6 yX6_lackOf wsX6_lackOf) := goodIn_app (goodIn_of _ (by decide +kernel)) ggX6_isServed_X6_lackOf
set_option maxRecDepth 20000 in
theorem ggX6_isServed_X6_laySets : GoodIn wsX6_isServed wsX6_laySets := goodIn_r _ [35, 1, 36, 37, 38, 26, 27, 5, 28, 23, 29, 30, 31, 39, 40, 41, 42, 43, 44, 45, 46, 47, 48, 49, 50, 51, 52, 53, 54, 55, 56, 57, 58, 59, 60, 61, 62, 63, 64, 65, 66, 67, 68, 69, 70, 71, 72, 73, 74, 75] (by decide +kernel) (by decide +kernel)
set_option maxRecDepth 20000 in
theorem gX6_isServed_X6_laySets : GoodIn wsX6_isServed (wsV RX6 222 RX6 yX6_laySets wsX6_laySets) := goodIn_app (goodIn_of _ (by decide +kernel)) ggX6_isServed_X6_laySets
theorem dX6_isServed_0 : decode cX6_isServed 0 = .ok (.aload_n 0, 1) := by decide +kernel
theorem dX6_isServed_1 : decode cX6_isServed 1 = .ok (.aload_n 0, 1) := by decide +kernel
theorem dX6_isServed_2 : decode cX6_isServed 2 = .ok (.iload_n 1, 1) := by decide +kernel
theorem dX6_isServed_3 : decode cX6_isServed 3 = .ok (.invokevirtual 219, 3) := by decide +kernel
theorem dX6_isServed_6 : decode cX6_isServed 6 = .ok (.iload_n 2, 1) := by decide +kernel
theorem dX6_isServed_7 : decode cX6_isServed 7 = .ok (.iand, 1) := by decide +kernel
theorem dX6_isServed_8 : decode cX6_isServed 8 = .ok (.aload_n 0, 1) := by decide +kernel
theorem dX6_isServed_9 : decode cX6_isServed 9 = .ok (.iload_n 1, 1) := by decide +kernel
theorem dX6_isServed_10 : decode cX6_isServed 10 = .ok (.invokevirtual 156, 3) := by decide +kernel
theorem dX6_isServed_13 : decode cX6_isServed 13 = .ok (.invokevirtual 222, 3) := by decide +kernel
theorem dX6_isServed_16 : decode cX6_isServed 16 = .ok (.aload_n 0, 1) := by decide +kernel
theorem dX6_isServed_17 : decode cX6_isServed 17 = .ok (.getfield 207, 3) := by decide +kernel
theorem dX6_isServed_20 : decode cX6_isServed 20 = .ok (.ifCond .le 7, 3) := by decide +kernel
theorem dX6_isServed_23 : decode cX6_isServed 23 = .ok (.iconst 1, 1) := by decide +kernel
theorem dX6_isServed_24 : decode cX6_isServed 24 = .ok (.goto 4, 3) := by decide +kernel
theorem dX6_isServed_27 : decode cX6_isServed 27 = .ok (.iconst 0, 1) := by decide +kernel
theorem dX6_isServed_28 : decode cX6_isServed 28 = .ok (.ireturn, 1) := by decide +kernel
set_option maxRecDepth 20000 in
theorem ggX6_serve_X6_isWorker : GoodIn wsX6_serve wsX6_isWorker := goodIn_r _ [7, 8, 9, 10, 6, 11, 63, 64, 65, 66, 67, 68, 69, 70, 71, 72, 73, 74, 75, 76, 77, 78, 79, 80, 81, 82, 83, 84, 85, 86, 87, 88, 89, 90, 91, 92, 93, 94, 95, 96] (by decide +kernel) (by decide +kernel)
set_option maxRecDepth 20000 in
theorem gX6_serve_X6_isWorker : GoodIn wsX6_serve (wsV RX6 165 RX6 yX6_isWorker wsX6_isWorker) := goodIn_app (goodIn_of _ (by decide +kernel)) ggX6_serve_X6_isWorker
set_option maxRecDepth 20000 in
theorem ggX6_serve_X6_lying : GoodIn wsX6_serve wsX6_lying := goodIn_r _ [15, 16, 63, 64, 65, 66, 67, 68, 69, 70, 71, 72, 73, 74, 75, 76, 77, 78, 79, 80, 81, 82, 83, 84, 85, 86, 87, 88, 89, 90, 91, 92, 93, 94, 95, 96] (by decide +kernel) (by decide +kernel)
set_option maxRecDepth 20000 in
theorem gX6_serve_X6_lying : GoodIn wsX6_serve (wsV RX6 180 RX6 yX6_lying wsX6_lying) := goodIn_app (goodIn_of _ (by decide +kernel)) ggX6_serve_X6_lying
set_option maxRecDepth 20000 in
theorem ggX6_serve_X6_isServed : GoodIn wsX6_serve wsX6_isServed := goodIn_r _ [20, 21, 22, 23, 24, 6, 25, 26, 16, 27, 28, 29, 30, 31, 32, 33, 34, 35, 36, 37, 38, 39, 40, 41, 42, 43, 44, 45, 46, 47, 48, 49, 50, 51, 52, 53, 1, 2, 54, 55, 56, 57, 63, 64, 65, 66, 67, 68, 69, 70, 71, 72, 73, 74, 75, 76, 77, 78, 79, 80, 81, 82, 83, 84, 85, 86, 87, 88, 89, 90, 91, 92, 93, 94, 95, 96] (by decide +kernel) (by decide +kernel)
set_option maxRecDepth 20000 in
theorem gX6_serve_X6_isServed : GoodIn wsX6_serve (wsV RX6 228 RX6 yX6_isServed wsX6_isServed) := goodIn_app (goodIn_of _ (by decide +kernel)) ggX6_serve_X6_isServed
set_option maxRecDepth 20000 in
theorem ggX6_serve_X6_tells : GoodIn wsX6_serve wsX6_tells := goodIn_r _ [61, 62, 63, 64, 65, 66, 67, 68, 69, 70, 71, 72, 73, 74, 75, 76, 77, 78, 79, 80, 81, 82, 83, 84, 85, 86, 87, 88, 89, 90, 91, 92, 93, 94, 95, 96] (by decide +kernel) (by decide +kernel)
set_option maxRecDepth 20000 in
theorem gX6_serve_X6_tells : GoodIn wsX6_serve (wsV RX6 99 RX6 yX6_tells wsX6_tells) := goodIn_app (goodIn_of _ (by decide +kernel)) ggX6_serve_X6_tells
theorem dX6_serve_0 : decode cX6_serve 0 = .ok (.aload_n 0, 1) := by decide +kernel
theorem dX6_serve_1 : decode cX6_serve 1 = .ok (.iload_n 1, 1) := by decide +kernel
theorem dX6_serve_2 : decode cX6_serve 2 = .ok (.invokevirtual 165, 3) := by decide +kernel
theorem dX6_serve_5 : decode cX6_serve 5 = .ok (.ifCond .ne 5, 3) := by decide +kernel
theorem dX6_serve_8 : decode cX6_serve 8 = .ok (.iconst (-1), 1) := by decide +kernel
theorem dX6_serve_9 : decode cX6_serve 9 = .ok (.ireturn, 1) := by decide +kernel
theorem dX6_serve_10 : decode cX6_serve 10 = .ok (.aload_n 0, 1) := by decide +kernel
theorem dX6_serve_11 : decode cX6_serve 11 = .ok (.iload_n 1, 1) := by decide +kernel
theorem dX6_serve_12 : decode cX6_serve 12 = .ok (.aload_n 0, 1) := by decide +kernel
theorem dX6_serve_13 : decode cX6_serve 13 = .ok (.invokevirtual 180, 3) := by decide +kernel
theorem dX6_serve_16 : decode cX6_serve 16 = .ok (.invokevirtual 228, 3) := by decide +kernel
theorem dX6_serve_19 : decode cX6_serve 19 = .ok (.ifCond .eq 18, 3) := by decide +kernel
theorem dX6_serve_22 : decode cX6_serve 22 = .ok (.aload_n 0, 1) := by decide +kernel
theorem dX6_serve_23 : decode cX6_serve 23 = .ok (.aload_n 0, 1) := by decide +kernel
theorem dX6_serve_24 : decode cX6_serve 24 = .ok (.getfield 210, 3) := by decide +kernel
theorem dX6_serve_27 : decode cX6_serve 27 = .ok (.aload_n 0, 1) := by decide +kernel
theorem dX6_serve_28 : decode cX6_serve 28 = .ok (.getfield 213, 3) := by decide +kernel
theorem dX6_serve_31 : decode cX6_serve 31 = .ok (.invokevirtual 99, 3) := by decide +kernel
theorem dX6_serve_34 : decode cX6_serve 34 = .ok (.goto 5, 3) := by decide +kernel
theorem dX6_serve_37 : decode cX6_serve 37 = .ok (.bipush (-9), 2) := by decide +kernel
theorem dX6_serve_39 : decode cX6_serve 39 = .ok (.ireturn, 1) := by decide +kernel
set_option maxRecDepth 20000 in
theorem ggX6_need_X6_isServed : GoodIn wsX6_need wsX6_isServed := goodIn_r _ [10, 11, 12, 13, 14, 9, 15, 16, 5, 17, 18, 19, 20, 21, 22, 23, 24, 25, 26, 27, 28, 29, 30, 31, 32, 33, 34, 35, 36, 37, 38, 39, 40, 41, 42, 43, 44, 4, 45, 46, 47, 48, 54, 55, 56, 57, 58, 59, 60, 61, 62, 63, 64, 65, 66, 67, 68, 69, 70, 71, 72, 73, 74, 75, 76, 77, 78, 79, 80, 81, 82, 83, 84, 85, 86, 87] (by decide +kernel) (by decide +kernel)
set_option maxRecDepth 20000 in
theorem gX6_need_X6_isServed : GoodIn wsX6_need (wsV RX6 228 RX6 yX6_isServed wsX6_isServed) := goodIn_app (goodIn_of _ (by decide +kernel)) ggX6_need_X6_isServed
set_option maxRecDepth 20000 in
theorem ggX6_need_X6_has : GoodIn wsX6_need wsX6_has := goodIn_r _ [39] (by decide +kernel) (by decide +kernel)
set_option maxRecDepth 20000 in
theorem gX6_need_X6_has : GoodIn wsX6_need (va_wsS RX6 146 yX6_has wsX6_has) := goodIn_app (goodIn_of _ (by decide +kernel)) ggX6_need_X6_has
set_option maxRecDepth 20000 in
theorem ggX6_need_X6_tells : GoodIn wsX6_need wsX6_tells := goodIn_r _ [52, 53, 54, 55, 56, 57, 58, 59, 60, 61, 62, 63, 64, 65, 66, 67, 68, 69, 70, 71, 72, 73, 74, 75, 76, 77, 78, 79, 80, 81, 82, 83, 84, 85, 86, 87] (by decide +kernel) (by decide +kernel)
set_option maxRecDepth 20000 in
theorem gX6_need_X6_tells : GoodIn wsX6_need (wsV RX6 99 RX6 yX6_tells wsX6_tells) := goodIn_app (goodIn_of _ (by decide +kernel)) ggX6_need_X6_tells
theorem dX6_need_0 : decode cX6_need 0 = .ok (.aload_n 0, 1) := by decide +kernel
theorem dX6_need_1 : decode cX6_need 1 = .ok (.getfield 136, 3) := by decide +kernel
theorem dX6_need_4 : decode cX6_need 4 = .ok (.ifCond .ne 6, 3) := by decide +kernel
theorem dX6_need_7 : decode cX6_need 7 = .ok (.bipush (-4), 2) := by decide +kernel
theorem dX6_need_9 : decode cX6_need 9 = .ok (.ireturn, 1) := by decide +kernel
theorem dX6_need_10 : decode cX6_need 10 = .ok (.iconst 0, 1) := by decide +kernel
theorem dX6_need_11 : decode cX6_need 11 = .ok (.istore_n 1, 1) := by decide +kernel
theorem dX6_need_12 : decode cX6_need 12 = .ok (.iload_n 1, 1) := by decide +kernel
theorem dX6_need_13 : decode cX6_need 13 = .ok (.bipush 16, 2) := by decide +kernel
theorem dX6_need_15 : decode cX6_need 15 = .ok (.if_icmp .gt 16, 3) := by decide +kernel
theorem dX6_need_18 : decode cX6_need 18 = .ok (.aload_n 0, 1) := by decide +kernel
theorem dX6_need_19 : decode cX6_need 19 = .ok (.getfield 63, 3) := by decide +kernel
theorem dX6_need_22 : decode cX6_need 22 = .ok (.iload_n 1, 1) := by decide +kernel
theorem dX6_need_23 : decode cX6_need 23 = .ok (.iconst 0, 1) := by decide +kernel
theorem dX6_need_24 : decode cX6_need 24 = .ok (.iastore, 1) := by decide +kernel
theorem dX6_need_25 : decode cX6_need 25 = .ok (.iinc 1 1, 3) := by decide +kernel
theorem dX6_need_28 : decode cX6_need 28 = .ok (.goto (-16), 3) := by decide +kernel
theorem dX6_need_31 : decode cX6_need 31 = .ok (.iconst 0, 1) := by decide +kernel
theorem dX6_need_32 : decode cX6_need 32 = .ok (.istore_n 1, 1) := by decide +kernel
theorem dX6_need_33 : decode cX6_need 33 = .ok (.iconst 0, 1) := by decide +kernel
theorem dX6_need_34 : decode cX6_need 34 = .ok (.istore_n 2, 1) := by decide +kernel
theorem dX6_need_35 : decode cX6_need 35 = .ok (.iload_n 2, 1) := by decide +kernel
theorem dX6_need_36 : decode cX6_need 36 = .ok (.aload_n 0, 1) := by decide +kernel
theorem dX6_need_37 : decode cX6_need 37 = .ok (.getfield 136, 3) := by decide +kernel
theorem dX6_need_40 : decode cX6_need 40 = .ok (.if_icmp .ge 76, 3) := by decide +kernel
theorem dX6_need_43 : decode cX6_need 43 = .ok (.aload_n 0, 1) := by decide +kernel
theorem dX6_need_44 : decode cX6_need 44 = .ok (.iload_n 2, 1) := by decide +kernel
theorem dX6_need_45 : decode cX6_need 45 = .ok (.ldc 231, 2) := by decide +kernel
theorem dX6_need_47 : decode cX6_need 47 = .ok (.invokevirtual 228, 3) := by decide +kernel
theorem dX6_need_50 : decode cX6_need 50 = .ok (.istore_n 3, 1) := by decide +kernel
theorem dX6_need_51 : decode cX6_need 51 = .ok (.iload_n 1, 1) := by decide +kernel
theorem dX6_need_52 : decode cX6_need 52 = .ok (.iload_n 3, 1) := by decide +kernel
theorem dX6_need_53 : decode cX6_need 53 = .ok (.ifCond .eq 7, 3) := by decide +kernel
theorem dX6_need_56 : decode cX6_need 56 = .ok (.iconst 1, 1) := by decide +kernel
theorem dX6_need_57 : decode cX6_need 57 = .ok (.goto 4, 3) := by decide +kernel
theorem dX6_need_60 : decode cX6_need 60 = .ok (.iconst 0, 1) := by decide +kernel
theorem dX6_need_61 : decode cX6_need 61 = .ok (.iadd, 1) := by decide +kernel
theorem dX6_need_62 : decode cX6_need 62 = .ok (.istore_n 1, 1) := by decide +kernel
theorem dX6_need_63 : decode cX6_need 63 = .ok (.iconst 2, 1) := by decide +kernel
theorem dX6_need_64 : decode cX6_need 64 = .ok (.istore 4, 2) := by decide +kernel
theorem dX6_need_66 : decode cX6_need 66 = .ok (.iload 4, 2) := by decide +kernel
theorem dX6_need_68 : decode cX6_need 68 = .ok (.bipush 16, 2) := by decide +kernel
theorem dX6_need_70 : decode cX6_need 70 = .ok (.if_icmp .gt 40, 3) := by decide +kernel
theorem dX6_need_73 : decode cX6_need 73 = .ok (.iload_n 3, 1) := by decide +kernel
theorem dX6_need_74 : decode cX6_need 74 = .ok (.ifCond .eq 36, 3) := by decide +kernel
theorem dX6_need_77 : decode cX6_need 77 = .ok (.aload_n 0, 1) := by decide +kernel
theorem dX6_need_78 : decode cX6_need 78 = .ok (.getfield 63, 3) := by decide +kernel
theorem dX6_need_81 : decode cX6_need 81 = .ok (.iload 4, 2) := by decide +kernel
theorem dX6_need_83 : decode cX6_need 83 = .ok (.dup2, 1) := by decide +kernel
theorem dX6_need_84 : decode cX6_need 84 = .ok (.iaload, 1) := by decide +kernel
theorem dX6_need_85 : decode cX6_need 85 = .ok (.aload_n 0, 1) := by decide +kernel
theorem dX6_need_86 : decode cX6_need 86 = .ok (.getfield 213, 3) := by decide +kernel
theorem dX6_need_89 : decode cX6_need 89 = .ok (.iload 4, 2) := by decide +kernel
theorem dX6_need_91 : decode cX6_need 91 = .ok (.invokestatic 146, 3) := by decide +kernel
theorem dX6_need_94 : decode cX6_need 94 = .ok (.ifCond .eq 7, 3) := by decide +kernel
theorem dX6_need_97 : decode cX6_need 97 = .ok (.iconst 1, 1) := by decide +kernel
theorem dX6_need_98 : decode cX6_need 98 = .ok (.goto 4, 3) := by decide +kernel
theorem dX6_need_101 : decode cX6_need 101 = .ok (.iconst 0, 1) := by decide +kernel
theorem dX6_need_102 : decode cX6_need 102 = .ok (.iadd, 1) := by decide +kernel
theorem dX6_need_103 : decode cX6_need 103 = .ok (.iastore, 1) := by decide +kernel
theorem dX6_need_104 : decode cX6_need 104 = .ok (.iinc 4 1, 3) := by decide +kernel
theorem dX6_need_107 : decode cX6_need 107 = .ok (.goto (-41), 3) := by decide +kernel
theorem dX6_need_110 : decode cX6_need 110 = .ok (.iinc 2 1, 3) := by decide +kernel
theorem dX6_need_113 : decode cX6_need 113 = .ok (.goto (-78), 3) := by decide +kernel
theorem dX6_need_116 : decode cX6_need 116 = .ok (.iconst 0, 1) := by decide +kernel
theorem dX6_need_117 : decode cX6_need 117 = .ok (.istore_n 2, 1) := by decide +kernel
theorem dX6_need_118 : decode cX6_need 118 = .ok (.iconst 2, 1) := by decide +kernel
theorem dX6_need_119 : decode cX6_need 119 = .ok (.istore_n 3, 1) := by decide +kernel
theorem dX6_need_120 : decode cX6_need 120 = .ok (.iload_n 3, 1) := by decide +kernel
theorem dX6_need_121 : decode cX6_need 121 = .ok (.bipush 16, 2) := by decide +kernel
theorem dX6_need_123 : decode cX6_need 123 = .ok (.if_icmp .gt 46, 3) := by decide +kernel
theorem dX6_need_126 : decode cX6_need 126 = .ok (.aload_n 0, 1) := by decide +kernel
theorem dX6_need_127 : decode cX6_need 127 = .ok (.getfield 63, 3) := by decide +kernel
theorem dX6_need_130 : decode cX6_need 130 = .ok (.iload_n 3, 1) := by decide +kernel
theorem dX6_need_131 : decode cX6_need 131 = .ok (.iaload, 1) := by decide +kernel
theorem dX6_need_132 : decode cX6_need 132 = .ok (.aload_n 0, 1) := by decide +kernel
theorem dX6_need_133 : decode cX6_need 133 = .ok (.getfield 51, 3) := by decide +kernel
theorem dX6_need_136 : decode cX6_need 136 = .ok (.iconst 1, 1) := by decide +kernel
theorem dX6_need_137 : decode cX6_need 137 = .ok (.iload_n 3, 1) := by decide +kernel
theorem dX6_need_138 : decode cX6_need 138 = .ok (.iadd, 1) := by decide +kernel
theorem dX6_need_139 : decode cX6_need 139 = .ok (.iaload, 1) := by decide +kernel
theorem dX6_need_140 : decode cX6_need 140 = .ok (.isub, 1) := by decide +kernel
theorem dX6_need_141 : decode cX6_need 141 = .ok (.istore 4, 2) := by decide +kernel
theorem dX6_need_143 : decode cX6_need 143 = .ok (.iload_n 2, 1) := by decide +kernel
theorem dX6_need_144 : decode cX6_need 144 = .ok (.iload 4, 2) := by decide +kernel
theorem dX6_need_146 : decode cX6_need 146 = .ok (.ifCond .le 14, 3) := by decide +kernel
theorem dX6_need_149 : decode cX6_need 149 = .ok (.iload 4, 2) := by decide +kernel
theorem dX6_need_151 : decode cX6_need 151 = .ok (.iload_n 3, 1) := by decide +kernel
theorem dX6_need_152 : decode cX6_need 152 = .ok (.iadd, 1) := by decide +kernel
theorem dX6_need_153 : decode cX6_need 153 = .ok (.iconst 1, 1) := by decide +kernel
theorem dX6_need_154 : decode cX6_need 154 = .ok (.isub, 1) := by decide +kernel
theorem dX6_need_155 : decode cX6_need 155 = .ok (.iload_n 3, 1) := by decide +kernel
theorem dX6_need_156 : decode cX6_need 156 = .ok (.idiv, 1) := by decide +kernel
theorem dX6_need_157 : decode cX6_need 157 = .ok (.goto 4, 3) := by decide +kernel
theorem dX6_need_160 : decode cX6_need 160 = .ok (.iconst 0, 1) := by decide +kernel
theorem dX6_need_161 : decode cX6_need 161 = .ok (.iadd, 1) := by decide +kernel
theorem dX6_need_162 : decode cX6_need 162 = .ok (.istore_n 2, 1) := by decide +kernel
theorem dX6_need_163 : decode cX6_need 163 = .ok (.iinc 3 1, 3) := by decide +kernel
theorem dX6_need_166 : decode cX6_need 166 = .ok (.goto (-46), 3) := by decide +kernel
theorem dX6_need_169 : decode cX6_need 169 = .ok (.aload_n 0, 1) := by decide +kernel
theorem dX6_need_170 : decode cX6_need 170 = .ok (.iload_n 1, 1) := by decide +kernel
theorem dX6_need_171 : decode cX6_need 171 = .ok (.iload_n 2, 1) := by decide +kernel
theorem dX6_need_172 : decode cX6_need 172 = .ok (.invokevirtual 99, 3) := by decide +kernel
theorem dX6_need_175 : decode cX6_need 175 = .ok (.ireturn, 1) := by decide +kernel
set_option maxRecDepth 20000 in
theorem ggX6_poor_X6_lackOf : GoodIn wsX6_poor wsX6_lackOf := goodIn_r _ [7, 8, 9, 10, 11, 6, 12, 13, 14, 15, 16, 17, 18, 19, 20, 21, 28, 29, 30, 31, 32, 33, 34, 35, 36, 37, 38, 39, 40, 41, 42, 43, 44, 45, 46, 47, 48, 49, 50, 51, 52, 53, 54, 55, 56, 57, 58, 59, 60, 61] (by decide +kernel) (by decide +kernel)
set_option maxRecDepth 20000 in
theorem gX6_poor_X6_lackOf : GoodIn wsX6_poor (wsV RX6 156 RX6 yX6_lackOf wsX6_lackOf) := goodIn_app (goodIn_of _ (by decide +kernel)) ggX6_poor_X6_lackOf
set_option maxRecDepth 20000 in
theorem ggX6_poor_X6_lowest : GoodIn wsX6_poor wsX6_lowest := goodIn_r _ [25, 26, 27, 28, 29, 30, 31, 32, 33, 34, 35, 36, 37, 38, 39, 40, 41, 42, 43, 44, 45, 46, 47, 48, 49, 50, 51, 52, 53, 54, 55, 56, 57, 58, 59, 60, 61] (by decide +kernel) (by decide +kernel)
set_option maxRecDepth 20000 in
theorem gX6_poor_X6_lowest : GoodIn wsX6_poor (wsV RX6 203 RX6 yX6_lowest wsX6_lowest) := goodIn_app (goodIn_of _ (by decide +kernel)) ggX6_poor_X6_lowest
theorem dX6_poor_0 : decode cX6_poor 0 = .ok (.aload_n 0, 1) := by decide +kernel
theorem dX6_poor_1 : decode cX6_poor 1 = .ok (.getfield 136, 3) := by decide +kernel
theorem dX6_poor_4 : decode cX6_poor 4 = .ok (.ifCond .ne 6, 3) := by decide +kernel
theorem dX6_poor_7 : decode cX6_poor 7 = .ok (.bipush (-4), 2) := by decide +kernel
theorem dX6_poor_9 : decode cX6_poor 9 = .ok (.ireturn, 1) := by decide +kernel
theorem dX6_poor_10 : decode cX6_poor 10 = .ok (.iconst 0, 1) := by decide +kernel
theorem dX6_poor_11 : decode cX6_poor 11 = .ok (.istore_n 1, 1) := by decide +kernel
theorem dX6_poor_12 : decode cX6_poor 12 = .ok (.iconst 0, 1) := by decide +kernel
theorem dX6_poor_13 : decode cX6_poor 13 = .ok (.istore_n 2, 1) := by decide +kernel
theorem dX6_poor_14 : decode cX6_poor 14 = .ok (.iload_n 2, 1) := by decide +kernel
theorem dX6_poor_15 : decode cX6_poor 15 = .ok (.aload_n 0, 1) := by decide +kernel
theorem dX6_poor_16 : decode cX6_poor 16 = .ok (.getfield 136, 3) := by decide +kernel
theorem dX6_poor_19 : decode cX6_poor 19 = .ok (.if_icmp .ge 28, 3) := by decide +kernel
theorem dX6_poor_22 : decode cX6_poor 22 = .ok (.aload_n 0, 1) := by decide +kernel
theorem dX6_poor_23 : decode cX6_poor 23 = .ok (.iload_n 2, 1) := by decide +kernel
theorem dX6_poor_24 : decode cX6_poor 24 = .ok (.invokevirtual 156, 3) := by decide +kernel
theorem dX6_poor_27 : decode cX6_poor 27 = .ok (.aload_n 0, 1) := by decide +kernel
theorem dX6_poor_28 : decode cX6_poor 28 = .ok (.iload_n 1, 1) := by decide +kernel
theorem dX6_poor_29 : decode cX6_poor 29 = .ok (.invokevirtual 156, 3) := by decide +kernel
theorem dX6_poor_32 : decode cX6_poor 32 = .ok (.if_icmp .le 7, 3) := by decide +kernel
theorem dX6_poor_35 : decode cX6_poor 35 = .ok (.iload_n 2, 1) := by decide +kernel
theorem dX6_poor_36 : decode cX6_poor 36 = .ok (.goto 4, 3) := by decide +kernel
theorem dX6_poor_39 : decode cX6_poor 39 = .ok (.iload_n 1, 1) := by decide +kernel
theorem dX6_poor_40 : decode cX6_poor 40 = .ok (.istore_n 1, 1) := by decide +kernel
theorem dX6_poor_41 : decode cX6_poor 41 = .ok (.iinc 2 1, 3) := by decide +kernel
theorem dX6_poor_44 : decode cX6_poor 44 = .ok (.goto (-30), 3) := by decide +kernel
theorem dX6_poor_47 : decode cX6_poor 47 = .ok (.aload_n 0, 1) := by decide +kernel
theorem dX6_poor_48 : decode cX6_poor 48 = .ok (.aload_n 0, 1) := by decide +kernel
theorem dX6_poor_49 : decode cX6_poor 49 = .ok (.iload_n 1, 1) := by decide +kernel
theorem dX6_poor_50 : decode cX6_poor 50 = .ok (.invokevirtual 156, 3) := by decide +kernel
theorem dX6_poor_53 : decode cX6_poor 53 = .ok (.i2l, 1) := by decide +kernel
theorem dX6_poor_54 : decode cX6_poor 54 = .ok (.ldc2_w 201, 3) := by decide +kernel
theorem dX6_poor_57 : decode cX6_poor 57 = .ok (.iload_n 1, 1) := by decide +kernel
theorem dX6_poor_58 : decode cX6_poor 58 = .ok (.invokevirtual 203, 3) := by decide +kernel
theorem dX6_poor_61 : decode cX6_poor 61 = .ok (.ireturn, 1) := by decide +kernel
set_option maxRecDepth 20000 in
theorem ggX6_served_X6_isServed : GoodIn wsX6_served wsX6_isServed := goodIn_r _ [6, 7, 8, 9, 10, 5, 11, 12, 13, 14, 15, 16, 17, 18, 19, 20, 21, 22, 23, 24, 25, 26, 27, 28, 29, 30, 31, 32, 33, 34, 35, 36, 37, 38, 39, 40, 41, 42, 43, 44, 45, 46, 47, 48, 49, 50, 51, 52, 53, 54, 55, 56, 57, 58, 59, 60, 61, 62, 63, 64, 65, 66, 67, 68, 69, 70, 71, 72, 73, 74, 75, 76, 77, 78, 79, 80] (by decide +kernel) (by decide +kernel)
set_option maxRecDepth 20000 in
theorem gX6_served_X6_isServed : GoodIn wsX6_served (wsV RX6 228 RX6 yX6_isServed wsX6_isServed) := goodIn_app (goodIn_of _ (by decide +kernel)) ggX6_served_X6_isServed
theorem dX6_served_0 : decode cX6_served 0 = .ok (.iconst 0, 1) := by decide +kernel
theorem dX6_served_1 : decode cX6_served 1 = .ok (.istore_n 2, 1) := by decide +kernel
theorem dX6_served_2 : decode cX6_served 2 = .ok (.iconst 0, 1) := by decide +kernel
theorem dX6_served_3 : decode cX6_served 3 = .ok (.istore_n 3, 1) := by decide +kernel
theorem dX6_served_4 : decode cX6_served 4 = .ok (.iload_n 3, 1) := by decide +kernel
theorem dX6_served_5 : decode cX6_served 5 = .ok (.aload_n 0, 1) := by decide +kernel
theorem dX6_served_6 : decode cX6_served 6 = .ok (.getfield 136, 3) := by decide +kernel
theorem dX6_served_9 : decode cX6_served 9 = .ok (.if_icmp .ge 28, 3) := by decide +kernel
theorem dX6_served_12 : decode cX6_served 12 = .ok (.iload_n 2, 1) := by decide +kernel
theorem dX6_served_13 : decode cX6_served 13 = .ok (.aload_n 0, 1) := by decide +kernel
theorem dX6_served_14 : decode cX6_served 14 = .ok (.iload_n 3, 1) := by decide +kernel
theorem dX6_served_15 : decode cX6_served 15 = .ok (.iload_n 1, 1) := by decide +kernel
theorem dX6_served_16 : decode cX6_served 16 = .ok (.invokevirtual 228, 3) := by decide +kernel
theorem dX6_served_19 : decode cX6_served 19 = .ok (.ifCond .eq 9, 3) := by decide +kernel
theorem dX6_served_22 : decode cX6_served 22 = .ok (.iconst 1, 1) := by decide +kernel
theorem dX6_served_23 : decode cX6_served 23 = .ok (.iload_n 3, 1) := by decide +kernel
theorem dX6_served_24 : decode cX6_served 24 = .ok (.ishl, 1) := by decide +kernel
theorem dX6_served_25 : decode cX6_served 25 = .ok (.goto 4, 3) := by decide +kernel
theorem dX6_served_28 : decode cX6_served 28 = .ok (.iconst 0, 1) := by decide +kernel
theorem dX6_served_29 : decode cX6_served 29 = .ok (.ior, 1) := by decide +kernel
theorem dX6_served_30 : decode cX6_served 30 = .ok (.istore_n 2, 1) := by decide +kernel
theorem dX6_served_31 : decode cX6_served 31 = .ok (.iinc 3 1, 3) := by decide +kernel
theorem dX6_served_34 : decode cX6_served 34 = .ok (.goto (-30), 3) := by decide +kernel
theorem dX6_served_37 : decode cX6_served 37 = .ok (.iload_n 2, 1) := by decide +kernel
theorem dX6_served_38 : decode cX6_served 38 = .ok (.ireturn, 1) := by decide +kernel
set_option maxRecDepth 20000 in
theorem ggX6_ready_X6_lying : GoodIn wsX6_ready wsX6_lying := goodIn_r _ [6, 7, 60, 61, 62, 63, 64, 65, 66, 67, 68, 69, 70, 71, 72, 73, 74, 75, 76, 77, 78, 79, 80, 81, 82, 83, 84, 85, 86, 87, 88, 89, 90, 91, 92, 93] (by decide +kernel) (by decide +kernel)
set_option maxRecDepth 20000 in
theorem gX6_ready_X6_lying : GoodIn wsX6_ready (wsV RX6 180 RX6 yX6_lying wsX6_lying) := goodIn_app (goodIn_of _ (by decide +kernel)) ggX6_ready_X6_lying
set_option maxRecDepth 20000 in
theorem ggX6_ready_X6_served : GoodIn wsX6_ready wsX6_served := goodIn_r _ [11, 1, 12, 13, 14, 5, 15, 16, 17, 18, 19, 20, 21, 7, 22, 23, 24, 25, 26, 27, 28, 29, 30, 31, 32, 33, 34, 35, 36, 37, 38, 39, 40, 41, 42, 43, 44, 45, 46, 47, 48, 49, 50, 51, 52, 53, 54, 60, 61, 62, 63, 64, 65, 66, 67, 68, 69, 70, 71, 72, 73, 74, 75, 76, 77, 78, 79, 80, 81, 82, 83, 84, 85, 86, 87, 88, 89, 90, 91, 92, 93] (by decide +kernel) (by decide +kernel)
set_option maxRecDepth 20000 in
theorem gX6_ready_X6_served : GoodIn wsX6_ready (wsV RX6 232 RX6 yX6_served wsX6_served) := goodIn_app (goodIn_of _ (by decide +kernel)) ggX6_ready_X6_served
set_option maxRecDepth 20000 in
theorem ggX6_ready_X6_bits : GoodIn wsX6_ready wsX6_bits := goodIn_r _ [54] (by decide +kernel) (by decide +kernel)
set_option maxRecDepth 20000 in
theorem gX6_ready_X6_bits : GoodIn wsX6_ready (va_wsS RX6 177 yX6_bits wsX6_bits) := goodIn_app (goodIn_of _ (by decide +kernel)) ggX6_ready_X6_bits
set_option maxRecDepth 20000 in
theorem ggX6_ready_X6_tells : GoodIn wsX6_ready wsX6_tells := goodIn_r _ [58, 59, 60, 61, 62, 63, 64, 65, 66, 67, 68, 69, 70, 71, 72, 73, 74, 75, 76, 77, 78, 79, 80, 81, 82, 83, 84, 85, 86, 87, 88, 89, 90, 91, 92, 93] (by decide +kernel) (by decide +kernel)
set_option maxRecDepth 20000 in
theorem gX6_ready_X6_tells : GoodIn wsX6_ready (wsV RX6 99 RX6 yX6_tells wsX6_tells) := goodIn_app (goodIn_of _ (by decide +kernel)) ggX6_ready_X6_tells
theorem dX6_ready_0 : decode cX6_ready 0 = .ok (.aload_n 0, 1) := by decide +kernel
theorem dX6_ready_1 : decode cX6_ready 1 = .ok (.getfield 136, 3) := by decide +kernel
theorem dX6_ready_4 : decode cX6_ready 4 = .ok (.ifCond .ne 6, 3) := by decide +kernel
theorem dX6_ready_7 : decode cX6_ready 7 = .ok (.bipush (-4), 2) := by decide +kernel
theorem dX6_ready_9 : decode cX6_ready 9 = .ok (.ireturn, 1) := by decide +kernel
theorem dX6_ready_10 : decode cX6_ready 10 = .ok (.aload_n 0, 1) := by decide +kernel
theorem dX6_ready_11 : decode cX6_ready 11 = .ok (.aload_n 0, 1) := by decide +kernel
theorem dX6_ready_12 : decode cX6_ready 12 = .ok (.invokevirtual 180, 3) := by decide +kernel
theorem dX6_ready_15 : decode cX6_ready 15 = .ok (.invokevirtual 232, 3) := by decide +kernel
theorem dX6_ready_18 : decode cX6_ready 18 = .ok (.istore_n 1, 1) := by decide +kernel
theorem dX6_ready_19 : decode cX6_ready 19 = .ok (.aload_n 0, 1) := by decide +kernel
theorem dX6_ready_20 : decode cX6_ready 20 = .ok (.iload_n 1, 1) := by decide +kernel
theorem dX6_ready_21 : decode cX6_ready 21 = .ok (.invokestatic 177, 3) := by decide +kernel
theorem dX6_ready_24 : decode cX6_ready 24 = .ok (.iload_n 1, 1) := by decide +kernel
theorem dX6_ready_25 : decode cX6_ready 25 = .ok (.invokevirtual 99, 3) := by decide +kernel
theorem dX6_ready_28 : decode cX6_ready 28 = .ok (.ireturn, 1) := by decide +kernel
set_option maxRecDepth 20000 in
theorem ggX6_best_X6_lying : GoodIn wsX6_best wsX6_lying := goodIn_r _ [6, 1, 60, 61, 62, 63, 64, 65, 66, 67, 68, 69, 70, 71, 72, 73, 74, 75, 76, 77, 78, 79, 80, 81, 82, 83, 84, 85, 86, 87, 88, 89, 90, 91, 92, 93] (by decide +kernel) (by decide +kernel)
set_option maxRecDepth 20000 in
theorem gX6_best_X6_lying : GoodIn wsX6_best (wsV RX6 180 RX6 yX6_lying wsX6_lying) := goodIn_app (goodIn_of _ (by decide +kernel)) ggX6_best_X6_lying
set_option maxRecDepth 20000 in
theorem ggX6_best_X6_served : GoodIn wsX6_best wsX6_served := goodIn_r _ [10, 11, 12, 13, 14, 5, 15, 16, 17, 18, 19, 20, 21, 1, 22, 23, 24, 25, 26, 27, 28, 29, 30, 31, 32, 33, 34, 35, 36, 37, 38, 39, 40, 41, 42, 43, 44, 45, 46, 47, 48, 49, 50, 51, 52, 53, 54, 60, 61, 62, 63, 64, 65, 66, 67, 68, 69, 70, 71, 72, 73, 74, 75, 76, 77, 78, 79, 80, 81, 82, 83, 84, 85, 86, 87, 88, 89, 90, 91, 92, 93] (by decide +kernel) (by decide +kernel)
set_option maxRecDepth 20000 in
theorem gX6_best_X6_served : GoodIn wsX6_best (wsV RX6 232 RX6 yX6_served wsX6_served) := goodIn_app (goodIn_of _ (by decide +kernel)) ggX6_best_X6_served
set_option maxRecDepth 20000 in
theorem ggX6_best_X6_bits : GoodIn wsX6_best wsX6_bits := goodIn_r _ [54] (by decide +kernel) (by decide +kernel)
set_option maxRecDepth 20000 in
theorem gX6_best_X6_bits : GoodIn wsX6_best (va_wsS RX6 177 yX6_bits wsX6_bits) := goodIn_app (goodIn_of _ (by decide +kernel)) ggX6_best_X6_bits
set_option maxRecDepth 20000 in
theorem ggX6_best_X6_has : GoodIn wsX6_best wsX6_has := goodIn_r _ [44] (by decide +kernel) (by decide +kernel)
set_option maxRecDepth 20000 in
theorem gX6_best_X6_has : GoodIn wsX6_best (va_wsS RX6 146 yX6_has wsX6_has) := goodIn_app (goodIn_of _ (by decide +kernel)) ggX6_best_X6_has
set_option maxRecDepth 20000 in
theorem ggX6_best_X6_tells : GoodIn wsX6_best wsX6_tells := goodIn_r _ [58, 59, 60, 61, 62, 63, 64, 65, 66, 67, 68, 69, 70, 71, 72, 73, 74, 75, 76, 77, 78, 79, 80, 81, 82, 83, 84, 85, 86, 87, 88, 89, 90, 91, 92, 93] (by decide +kernel) (by decide +kernel)
set_option maxRecDepth 20000 in
theorem gX6_best_X6_tells : GoodIn wsX6_best (wsV RX6 99 RX6 yX6_tells wsX6_tells) := goodIn_app (goodIn_of _ (by decide +kernel)) ggX6_best_X6_tells
theorem dX6_best_0 : decode cX6_best 0 = .ok (.aload_n 0, 1) := by decide +kernel
theorem dX6_best_1 : decode cX6_best 1 = .ok (.getfield 51, 3) := by decide +kernel
theorem dX6_best_4 : decode cX6_best 4 = .ok (.iconst 0, 1) := by decide +kernel
theorem dX6_best_5 : decode cX6_best 5 = .ok (.iaload, 1) := by decide +kernel
theorem dX6_best_6 : decode cX6_best 6 = .ok (.ifCond .ne 6, 3) := by decide +kernel
theorem dX6_best_9 : decode cX6_best 9 = .ok (.bipush (-4), 2) := by decide +kernel
theorem dX6_best_11 : decode cX6_best 11 = .ok (.ireturn, 1) := by decide +kernel
theorem dX6_best_12 : decode cX6_best 12 = .ok (.aload_n 0, 1) := by decide +kernel
theorem dX6_best_13 : decode cX6_best 13 = .ok (.invokevirtual 180, 3) := by decide +kernel
theorem dX6_best_16 : decode cX6_best 16 = .ok (.istore_n 1, 1) := by decide +kernel
theorem dX6_best_17 : decode cX6_best 17 = .ok (.bipush (-9), 2) := by decide +kernel
theorem dX6_best_19 : decode cX6_best 19 = .ok (.istore_n 2, 1) := by decide +kernel
theorem dX6_best_20 : decode cX6_best 20 = .ok (.aload_n 0, 1) := by decide +kernel
theorem dX6_best_21 : decode cX6_best 21 = .ok (.iload_n 1, 1) := by decide +kernel
theorem dX6_best_22 : decode cX6_best 22 = .ok (.invokevirtual 232, 3) := by decide +kernel
theorem dX6_best_25 : decode cX6_best 25 = .ok (.invokestatic 177, 3) := by decide +kernel
theorem dX6_best_28 : decode cX6_best 28 = .ok (.istore_n 3, 1) := by decide +kernel
theorem dX6_best_29 : decode cX6_best 29 = .ok (.iconst 2, 1) := by decide +kernel
theorem dX6_best_30 : decode cX6_best 30 = .ok (.istore 4, 2) := by decide +kernel
theorem dX6_best_32 : decode cX6_best 32 = .ok (.iload 4, 2) := by decide +kernel
theorem dX6_best_34 : decode cX6_best 34 = .ok (.bipush 16, 2) := by decide +kernel
theorem dX6_best_36 : decode cX6_best 36 = .ok (.if_icmp .gt 63, 3) := by decide +kernel
theorem dX6_best_39 : decode cX6_best 39 = .ok (.iload_n 1, 1) := by decide +kernel
theorem dX6_best_40 : decode cX6_best 40 = .ok (.iload 4, 2) := by decide +kernel
theorem dX6_best_42 : decode cX6_best 42 = .ok (.invokestatic 146, 3) := by decide +kernel
theorem dX6_best_45 : decode cX6_best 45 = .ok (.ifCond .eq 7, 3) := by decide +kernel
theorem dX6_best_48 : decode cX6_best 48 = .ok (.iconst 0, 1) := by decide +kernel
theorem dX6_best_49 : decode cX6_best 49 = .ok (.goto 16, 3) := by decide +kernel
theorem dX6_best_52 : decode cX6_best 52 = .ok (.aload_n 0, 1) := by decide +kernel
theorem dX6_best_53 : decode cX6_best 53 = .ok (.iload_n 1, 1) := by decide +kernel
theorem dX6_best_54 : decode cX6_best 54 = .ok (.iconst 1, 1) := by decide +kernel
theorem dX6_best_55 : decode cX6_best 55 = .ok (.iload 4, 2) := by decide +kernel
theorem dX6_best_57 : decode cX6_best 57 = .ok (.ishl, 1) := by decide +kernel
theorem dX6_best_58 : decode cX6_best 58 = .ok (.ior, 1) := by decide +kernel
theorem dX6_best_59 : decode cX6_best 59 = .ok (.invokevirtual 232, 3) := by decide +kernel
theorem dX6_best_62 : decode cX6_best 62 = .ok (.invokestatic 177, 3) := by decide +kernel
theorem dX6_best_65 : decode cX6_best 65 = .ok (.istore 5, 2) := by decide +kernel
theorem dX6_best_67 : decode cX6_best 67 = .ok (.iload 5, 2) := by decide +kernel
theorem dX6_best_69 : decode cX6_best 69 = .ok (.iload_n 3, 1) := by decide +kernel
theorem dX6_best_70 : decode cX6_best 70 = .ok (.if_icmp .le 8, 3) := by decide +kernel
theorem dX6_best_73 : decode cX6_best 73 = .ok (.iload 4, 2) := by decide +kernel
theorem dX6_best_75 : decode cX6_best 75 = .ok (.goto 4, 3) := by decide +kernel
theorem dX6_best_78 : decode cX6_best 78 = .ok (.iload_n 2, 1) := by decide +kernel
theorem dX6_best_79 : decode cX6_best 79 = .ok (.istore_n 2, 1) := by decide +kernel
theorem dX6_best_80 : decode cX6_best 80 = .ok (.iload 5, 2) := by decide +kernel
theorem dX6_best_82 : decode cX6_best 82 = .ok (.iload_n 3, 1) := by decide +kernel
theorem dX6_best_83 : decode cX6_best 83 = .ok (.if_icmp .le 8, 3) := by decide +kernel
theorem dX6_best_86 : decode cX6_best 86 = .ok (.iload 5, 2) := by decide +kernel
theorem dX6_best_88 : decode cX6_best 88 = .ok (.goto 4, 3) := by decide +kernel
theorem dX6_best_91 : decode cX6_best 91 = .ok (.iload_n 3, 1) := by decide +kernel
theorem dX6_best_92 : decode cX6_best 92 = .ok (.istore_n 3, 1) := by decide +kernel
theorem dX6_best_93 : decode cX6_best 93 = .ok (.iinc 4 1, 3) := by decide +kernel
theorem dX6_best_96 : decode cX6_best 96 = .ok (.goto (-64), 3) := by decide +kernel
theorem dX6_best_99 : decode cX6_best 99 = .ok (.iload_n 2, 1) := by decide +kernel
theorem dX6_best_100 : decode cX6_best 100 = .ok (.bipush (-9), 2) := by decide +kernel
theorem dX6_best_102 : decode cX6_best 102 = .ok (.if_icmp .ne 8, 3) := by decide +kernel
theorem dX6_best_105 : decode cX6_best 105 = .ok (.bipush (-9), 2) := by decide +kernel
theorem dX6_best_107 : decode cX6_best 107 = .ok (.goto 9, 3) := by decide +kernel
theorem dX6_best_110 : decode cX6_best 110 = .ok (.aload_n 0, 1) := by decide +kernel
theorem dX6_best_111 : decode cX6_best 111 = .ok (.iload_n 3, 1) := by decide +kernel
theorem dX6_best_112 : decode cX6_best 112 = .ok (.iload_n 2, 1) := by decide +kernel
theorem dX6_best_113 : decode cX6_best 113 = .ok (.invokevirtual 99, 3) := by decide +kernel
theorem dX6_best_116 : decode cX6_best 116 = .ok (.ireturn, 1) := by decide +kernel
set_option maxRecDepth 20000 in
theorem ggX6_dues_X6_isRow : GoodIn wsX6_dues wsX6_isRow := goodIn_r _ [6, 7, 8, 5, 9] (by decide +kernel) (by decide +kernel)
set_option maxRecDepth 20000 in
theorem gX6_dues_X6_isRow : GoodIn wsX6_dues (va_wsS RX6 87 yX6_isRow wsX6_isRow) := goodIn_app (goodIn_of _ (by decide +kernel)) ggX6_dues_X6_isRow
set_option maxRecDepth 20000 in
theorem ggX6_dues_X6_meets : GoodIn wsX6_dues wsX6_meets := goodIn_r _ [13, 14, 15, 35, 36, 37, 38, 39, 40, 41, 42, 43, 44, 45, 46, 47, 48, 49, 50, 51, 52, 53, 54, 55, 56, 57, 58, 59, 60, 61, 62, 63, 64, 65, 66, 67, 68] (by decide +kernel) (by decide +kernel)
set_option maxRecDepth 20000 in
theorem gX6_dues_X6_meets : GoodIn wsX6_dues (wsV RX6 91 RX6 yX6_meets wsX6_meets) := goodIn_app (goodIn_of _ (by decide +kernel)) ggX6_dues_X6_meets
set_option maxRecDepth 20000 in
theorem ggX6_dues_X6_rowAt : GoodIn wsX6_dues wsX6_rowAt := goodIn_r _ [19, 20, 35, 36, 37, 38, 39, 40, 41, 42, 43, 44, 45, 46, 47, 48, 49, 50, 51, 52, 53, 54, 55, 56, 57, 58, 59, 60, 61, 62, 63, 64, 65, 66, 67, 68] (by decide +kernel) (by decide +kernel)
set_option maxRecDepth 20000 in
theorem gX6_dues_X6_rowAt : GoodIn wsX6_dues (wsV RX6 95 RX6 yX6_rowAt wsX6_rowAt) := goodIn_app (goodIn_of _ (by decide +kernel)) ggX6_dues_X6_rowAt
set_option maxRecDepth 20000 in
theorem ggX6_dues_X6_isPart : GoodIn wsX6_dues wsX6_isPart := goodIn_r _ [23, 7, 8, 5, 9] (by decide +kernel) (by decide +kernel)
set_option maxRecDepth 20000 in
theorem gX6_dues_X6_isPart : GoodIn wsX6_dues (va_wsS RX6 184 yX6_isPart wsX6_isPart) := goodIn_app (goodIn_of _ (by decide +kernel)) ggX6_dues_X6_isPart
set_option maxRecDepth 20000 in
theorem ggX6_dues_X6_has : GoodIn wsX6_dues wsX6_has := goodIn_r _ [26] (by decide +kernel) (by decide +kernel)
set_option maxRecDepth 20000 in
theorem gX6_dues_X6_has : GoodIn wsX6_dues (va_wsS RX6 146 yX6_has wsX6_has) := goodIn_app (goodIn_of _ (by decide +kernel)) ggX6_dues_X6_has
set_option maxRecDepth 20000 in
theorem ggX6_dues_X6_sumOf : GoodIn wsX6_dues wsX6_sumOf := goodIn_r _ [29, 2, 24, 25, 5, 26] (by decide +kernel) (by decide +kernel)
set_option maxRecDepth 20000 in
theorem gX6_dues_X6_sumOf : GoodIn wsX6_dues (va_wsS RX6 153 yX6_sumOf wsX6_sumOf) := goodIn_app (goodIn_of _ (by decide +kernel)) ggX6_dues_X6_sumOf
set_option maxRecDepth 20000 in
theorem ggX6_dues_X6_tells : GoodIn wsX6_dues wsX6_tells := goodIn_r _ [33, 34, 35, 36, 37, 38, 39, 40, 41, 42, 43, 44, 45, 46, 47, 48, 49, 50, 51, 52, 53, 54, 55, 56, 57, 58, 59, 60, 61, 62, 63, 64, 65, 66, 67, 68] (by decide +kernel) (by decide +kernel)
set_option maxRecDepth 20000 in
theorem gX6_dues_X6_tells : GoodIn wsX6_dues (wsV RX6 99 RX6 yX6_tells wsX6_tells) := goodIn_app (goodIn_of _ (by decide +kernel)) ggX6_dues_X6_tells
theorem dX6_dues_0 : decode cX6_dues 0 = .ok (.iload_n 1, 1) := by decide +kernel
theorem dX6_dues_1 : decode cX6_dues 1 = .ok (.invokestatic 87, 3) := by decide +kernel
theorem dX6_dues_4 : decode cX6_dues 4 = .ok (.ifCond .ne 5, 3) := by decide +kernel
theorem dX6_dues_7 : decode cX6_dues 7 = .ok (.iconst (-1), 1) := by decide +kernel
theorem dX6_dues_8 : decode cX6_dues 8 = .ok (.ireturn, 1) := by decide +kernel
theorem dX6_dues_9 : decode cX6_dues 9 = .ok (.aload_n 0, 1) := by decide +kernel
theorem dX6_dues_10 : decode cX6_dues 10 = .ok (.getfield 17, 3) := by decide +kernel
theorem dX6_dues_13 : decode cX6_dues 13 = .ok (.iload_n 1, 1) := by decide +kernel
theorem dX6_dues_14 : decode cX6_dues 14 = .ok (.iaload, 1) := by decide +kernel
theorem dX6_dues_15 : decode cX6_dues 15 = .ok (.ifCond .ge 9, 3) := by decide +kernel
theorem dX6_dues_18 : decode cX6_dues 18 = .ok (.aload_n 0, 1) := by decide +kernel
theorem dX6_dues_19 : decode cX6_dues 19 = .ok (.iconst 1, 1) := by decide +kernel
theorem dX6_dues_20 : decode cX6_dues 20 = .ok (.invokevirtual 91, 3) := by decide +kernel
theorem dX6_dues_23 : decode cX6_dues 23 = .ok (.ireturn, 1) := by decide +kernel
theorem dX6_dues_24 : decode cX6_dues 24 = .ok (.iconst 0, 1) := by decide +kernel
theorem dX6_dues_25 : decode cX6_dues 25 = .ok (.istore_n 2, 1) := by decide +kernel
theorem dX6_dues_26 : decode cX6_dues 26 = .ok (.iconst 0, 1) := by decide +kernel
theorem dX6_dues_27 : decode cX6_dues 27 = .ok (.istore_n 3, 1) := by decide +kernel
theorem dX6_dues_28 : decode cX6_dues 28 = .ok (.iload_n 3, 1) := by decide +kernel
theorem dX6_dues_29 : decode cX6_dues 29 = .ok (.aload_n 0, 1) := by decide +kernel
theorem dX6_dues_30 : decode cX6_dues 30 = .ok (.getfield 17, 3) := by decide +kernel
theorem dX6_dues_33 : decode cX6_dues 33 = .ok (.iload_n 1, 1) := by decide +kernel
theorem dX6_dues_34 : decode cX6_dues 34 = .ok (.iaload, 1) := by decide +kernel
theorem dX6_dues_35 : decode cX6_dues 35 = .ok (.if_icmp .ge 47, 3) := by decide +kernel
theorem dX6_dues_38 : decode cX6_dues 38 = .ok (.aload_n 0, 1) := by decide +kernel
theorem dX6_dues_39 : decode cX6_dues 39 = .ok (.iload_n 1, 1) := by decide +kernel
theorem dX6_dues_40 : decode cX6_dues 40 = .ok (.iload_n 3, 1) := by decide +kernel
theorem dX6_dues_41 : decode cX6_dues 41 = .ok (.invokevirtual 95, 3) := by decide +kernel
theorem dX6_dues_44 : decode cX6_dues 44 = .ok (.istore 4, 2) := by decide +kernel
theorem dX6_dues_46 : decode cX6_dues 46 = .ok (.iload 4, 2) := by decide +kernel
theorem dX6_dues_48 : decode cX6_dues 48 = .ok (.invokestatic 184, 3) := by decide +kernel
theorem dX6_dues_51 : decode cX6_dues 51 = .ok (.ifCond .eq 12, 3) := by decide +kernel
theorem dX6_dues_54 : decode cX6_dues 54 = .ok (.iload_n 2, 1) := by decide +kernel
theorem dX6_dues_55 : decode cX6_dues 55 = .ok (.iload 4, 2) := by decide +kernel
theorem dX6_dues_57 : decode cX6_dues 57 = .ok (.invokestatic 146, 3) := by decide +kernel
theorem dX6_dues_60 : decode cX6_dues 60 = .ok (.ifCond .eq 9, 3) := by decide +kernel
theorem dX6_dues_63 : decode cX6_dues 63 = .ok (.aload_n 0, 1) := by decide +kernel
theorem dX6_dues_64 : decode cX6_dues 64 = .ok (.iconst 3, 1) := by decide +kernel
theorem dX6_dues_65 : decode cX6_dues 65 = .ok (.invokevirtual 91, 3) := by decide +kernel
theorem dX6_dues_68 : decode cX6_dues 68 = .ok (.ireturn, 1) := by decide +kernel
theorem dX6_dues_69 : decode cX6_dues 69 = .ok (.iload_n 2, 1) := by decide +kernel
theorem dX6_dues_70 : decode cX6_dues 70 = .ok (.iconst 1, 1) := by decide +kernel
theorem dX6_dues_71 : decode cX6_dues 71 = .ok (.iload 4, 2) := by decide +kernel
theorem dX6_dues_73 : decode cX6_dues 73 = .ok (.ishl, 1) := by decide +kernel
theorem dX6_dues_74 : decode cX6_dues 74 = .ok (.ior, 1) := by decide +kernel
theorem dX6_dues_75 : decode cX6_dues 75 = .ok (.istore_n 2, 1) := by decide +kernel
theorem dX6_dues_76 : decode cX6_dues 76 = .ok (.iinc 3 1, 3) := by decide +kernel
theorem dX6_dues_79 : decode cX6_dues 79 = .ok (.goto (-51), 3) := by decide +kernel
theorem dX6_dues_82 : decode cX6_dues 82 = .ok (.iconst 0, 1) := by decide +kernel
theorem dX6_dues_83 : decode cX6_dues 83 = .ok (.istore_n 3, 1) := by decide +kernel
theorem dX6_dues_84 : decode cX6_dues 84 = .ok (.bipush (-9), 2) := by decide +kernel
theorem dX6_dues_86 : decode cX6_dues 86 = .ok (.istore 4, 2) := by decide +kernel
theorem dX6_dues_88 : decode cX6_dues 88 = .ok (.iconst 1, 1) := by decide +kernel
theorem dX6_dues_89 : decode cX6_dues 89 = .ok (.istore 5, 2) := by decide +kernel
theorem dX6_dues_91 : decode cX6_dues 91 = .ok (.iload 5, 2) := by decide +kernel
theorem dX6_dues_93 : decode cX6_dues 93 = .ok (.bipush 10, 2) := by decide +kernel
theorem dX6_dues_95 : decode cX6_dues 95 = .ok (.if_icmp .ge 87, 3) := by decide +kernel
theorem dX6_dues_98 : decode cX6_dues 98 = .ok (.iconst 1, 1) := by decide +kernel
theorem dX6_dues_99 : decode cX6_dues 99 = .ok (.istore 6, 2) := by decide +kernel
theorem dX6_dues_101 : decode cX6_dues 101 = .ok (.iload 6, 2) := by decide +kernel
theorem dX6_dues_103 : decode cX6_dues 103 = .ok (.bipush 10, 2) := by decide +kernel
theorem dX6_dues_105 : decode cX6_dues 105 = .ok (.if_icmp .ge 71, 3) := by decide +kernel
theorem dX6_dues_108 : decode cX6_dues 108 = .ok (.ldc 149, 2) := by decide +kernel
theorem dX6_dues_110 : decode cX6_dues 110 = .ok (.iload 6, 2) := by decide +kernel
theorem dX6_dues_112 : decode cX6_dues 112 = .ok (.idiv, 1) := by decide +kernel
theorem dX6_dues_113 : decode cX6_dues 113 = .ok (.iload 5, 2) := by decide +kernel
theorem dX6_dues_115 : decode cX6_dues 115 = .ok (.imul, 1) := by decide +kernel
theorem dX6_dues_116 : decode cX6_dues 116 = .ok (.iload_n 2, 1) := by decide +kernel
theorem dX6_dues_117 : decode cX6_dues 117 = .ok (.invokestatic 153, 3) := by decide +kernel
theorem dX6_dues_120 : decode cX6_dues 120 = .ok (.if_icmp .ne 7, 3) := by decide +kernel
theorem dX6_dues_123 : decode cX6_dues 123 = .ok (.iconst 1, 1) := by decide +kernel
theorem dX6_dues_124 : decode cX6_dues 124 = .ok (.goto 4, 3) := by decide +kernel
theorem dX6_dues_127 : decode cX6_dues 127 = .ok (.iconst 0, 1) := by decide +kernel
theorem dX6_dues_128 : decode cX6_dues 128 = .ok (.istore 7, 2) := by decide +kernel
theorem dX6_dues_130 : decode cX6_dues 130 = .ok (.iload_n 3, 1) := by decide +kernel
theorem dX6_dues_131 : decode cX6_dues 131 = .ok (.iload 7, 2) := by decide +kernel
theorem dX6_dues_133 : decode cX6_dues 133 = .ok (.ifCond .eq 7, 3) := by decide +kernel
theorem dX6_dues_136 : decode cX6_dues 136 = .ok (.iconst 1, 1) := by decide +kernel
theorem dX6_dues_137 : decode cX6_dues 137 = .ok (.goto 4, 3) := by decide +kernel
theorem dX6_dues_140 : decode cX6_dues 140 = .ok (.iconst 0, 1) := by decide +kernel
theorem dX6_dues_141 : decode cX6_dues 141 = .ok (.iadd, 1) := by decide +kernel
theorem dX6_dues_142 : decode cX6_dues 142 = .ok (.istore_n 3, 1) := by decide +kernel
theorem dX6_dues_143 : decode cX6_dues 143 = .ok (.iload 7, 2) := by decide +kernel
theorem dX6_dues_145 : decode cX6_dues 145 = .ok (.ifCond .eq 21, 3) := by decide +kernel
theorem dX6_dues_148 : decode cX6_dues 148 = .ok (.iload 4, 2) := by decide +kernel
theorem dX6_dues_150 : decode cX6_dues 150 = .ok (.bipush (-9), 2) := by decide +kernel
theorem dX6_dues_152 : decode cX6_dues 152 = .ok (.if_icmp .ne 14, 3) := by decide +kernel
theorem dX6_dues_155 : decode cX6_dues 155 = .ok (.bipush 10, 2) := by decide +kernel
theorem dX6_dues_157 : decode cX6_dues 157 = .ok (.iload 5, 2) := by decide +kernel
theorem dX6_dues_159 : decode cX6_dues 159 = .ok (.imul, 1) := by decide +kernel
theorem dX6_dues_160 : decode cX6_dues 160 = .ok (.iload 6, 2) := by decide +kernel
theorem dX6_dues_162 : decode cX6_dues 162 = .ok (.iadd, 1) := by decide +kernel
theorem dX6_dues_163 : decode cX6_dues 163 = .ok (.goto 5, 3) := by decide +kernel
theorem dX6_dues_166 : decode cX6_dues 166 = .ok (.iload 4, 2) := by decide +kernel
theorem dX6_dues_168 : decode cX6_dues 168 = .ok (.istore 4, 2) := by decide +kernel
theorem dX6_dues_170 : decode cX6_dues 170 = .ok (.iinc 6 1, 3) := by decide +kernel
theorem dX6_dues_173 : decode cX6_dues 173 = .ok (.goto (-72), 3) := by decide +kernel
theorem dX6_dues_176 : decode cX6_dues 176 = .ok (.iinc 5 1, 3) := by decide +kernel
theorem dX6_dues_179 : decode cX6_dues 179 = .ok (.goto (-88), 3) := by decide +kernel
theorem dX6_dues_182 : decode cX6_dues 182 = .ok (.iload_n 3, 1) := by decide +kernel
theorem dX6_dues_183 : decode cX6_dues 183 = .ok (.ifCond .ne 8, 3) := by decide +kernel
theorem dX6_dues_186 : decode cX6_dues 186 = .ok (.bipush (-9), 2) := by decide +kernel
theorem dX6_dues_188 : decode cX6_dues 188 = .ok (.goto 10, 3) := by decide +kernel
theorem dX6_dues_191 : decode cX6_dues 191 = .ok (.aload_n 0, 1) := by decide +kernel
theorem dX6_dues_192 : decode cX6_dues 192 = .ok (.iload 4, 2) := by decide +kernel
theorem dX6_dues_194 : decode cX6_dues 194 = .ok (.iload_n 3, 1) := by decide +kernel
theorem dX6_dues_195 : decode cX6_dues 195 = .ok (.invokevirtual 99, 3) := by decide +kernel
theorem dX6_dues_198 : decode cX6_dues 198 = .ok (.ireturn, 1) := by decide +kernel
set_option maxRecDepth 20000 in
theorem ggX6_needPairs_X6_isRow : GoodIn wsX6_needPairs wsX6_isRow := goodIn_r _ [5, 6, 7, 4, 8] (by decide +kernel) (by decide +kernel)
set_option maxRecDepth 20000 in
theorem gX6_needPairs_X6_isRow : GoodIn wsX6_needPairs (va_wsS RX6 87 yX6_isRow wsX6_isRow) := goodIn_app (goodIn_of _ (by decide +kernel)) ggX6_needPairs_X6_isRow
set_option maxRecDepth 20000 in
theorem ggX6_needPairs_X6_meets : GoodIn wsX6_needPairs wsX6_meets := goodIn_r _ [12, 13, 14, 23, 24, 25, 26, 27, 28, 29, 30, 31, 32, 33, 34, 35, 36, 37, 38, 39, 40, 41, 42, 43, 44, 45, 46, 47, 48, 49, 50, 51, 52, 53, 54, 55, 56] (by decide +kernel) (by decide +kernel)
set_option maxRecDepth 20000 in
theorem gX6_needPairs_X6_meets : GoodIn wsX6_needPairs (wsV RX6 91 RX6 yX6_meets wsX6_meets) := goodIn_app (goodIn_of _ (by decide +kernel)) ggX6_needPairs_X6_meets
set_option maxRecDepth 20000 in
theorem ggX6_needPairs_X6_rowAt : GoodIn wsX6_needPairs wsX6_rowAt := goodIn_r _ [18, 19, 23, 24, 25, 26, 27, 28, 29, 30, 31, 32, 33, 34, 35, 36, 37, 38, 39, 40, 41, 42, 43, 44, 45, 46, 47, 48, 49, 50, 51, 52, 53, 54, 55, 56] (by decide +kernel) (by decide +kernel)
set_option maxRecDepth 20000 in
theorem gX6_needPairs_X6_rowAt : GoodIn wsX6_needPairs (wsV RX6 95 RX6 yX6_rowAt wsX6_rowAt) := goodIn_app (goodIn_of _ (by decide +kernel)) ggX6_needPairs_X6_rowAt
set_option maxRecDepth 20000 in
theorem ggX6_needPairs_X6_isPart : GoodIn wsX6_needPairs wsX6_isPart := goodIn_r _ [22, 6, 7, 4, 8] (by decide +kernel) (by decide +kernel)
set_option maxRecDepth 20000 in
theorem gX6_needPairs_X6_isPart : GoodIn wsX6_needPairs (va_wsS RX6 184 yX6_isPart wsX6_isPart) := goodIn_app (goodIn_of _ (by decide +kernel)) ggX6_needPairs_X6_isPart
set_option maxRecDepth 20000 in
theorem ggX6_needPairs_X6_in : GoodIn wsX6_needPairs wsX6_in := goodIn_r _ [8] (by decide +kernel) (by decide +kernel)
set_option maxRecDepth 20000 in
theorem gX6_needPairs_X6_in : GoodIn wsX6_needPairs (va_wsS RX6 83 yX6_in wsX6_in) := goodIn_app (goodIn_of _ (by decide +kernel)) ggX6_needPairs_X6_in
theorem dX6_needPairs_0 : decode cX6_needPairs 0 = .ok (.iload_n 1, 1) := by decide +kernel
theorem dX6_needPairs_1 : decode cX6_needPairs 1 = .ok (.invokestatic 87, 3) := by decide +kernel
theorem dX6_needPairs_4 : decode cX6_needPairs 4 = .ok (.ifCond .ne 5, 3) := by decide +kernel
theorem dX6_needPairs_7 : decode cX6_needPairs 7 = .ok (.iconst (-1), 1) := by decide +kernel
theorem dX6_needPairs_8 : decode cX6_needPairs 8 = .ok (.ireturn, 1) := by decide +kernel
theorem dX6_needPairs_9 : decode cX6_needPairs 9 = .ok (.aload_n 0, 1) := by decide +kernel
theorem dX6_needPairs_10 : decode cX6_needPairs 10 = .ok (.getfield 17, 3) := by decide +kernel
theorem dX6_needPairs_13 : decode cX6_needPairs 13 = .ok (.iload_n 1, 1) := by decide +kernel
theorem dX6_needPairs_14 : decode cX6_needPairs 14 = .ok (.iaload, 1) := by decide +kernel
theorem dX6_needPairs_15 : decode cX6_needPairs 15 = .ok (.ifCond .ge 9, 3) := by decide +kernel
theorem dX6_needPairs_18 : decode cX6_needPairs 18 = .ok (.aload_n 0, 1) := by decide +kernel
theorem dX6_needPairs_19 : decode cX6_needPairs 19 = .ok (.iconst 1, 1) := by decide +kernel
theorem dX6_needPairs_20 : decode cX6_needPairs 20 = .ok (.invokevirtual 91, 3) := by decide +kernel
theorem dX6_needPairs_23 : decode cX6_needPairs 23 = .ok (.ireturn, 1) := by decide +kernel
theorem dX6_needPairs_24 : decode cX6_needPairs 24 = .ok (.aload_n 0, 1) := by decide +kernel
theorem dX6_needPairs_25 : decode cX6_needPairs 25 = .ok (.getfield 17, 3) := by decide +kernel
theorem dX6_needPairs_28 : decode cX6_needPairs 28 = .ok (.iload_n 1, 1) := by decide +kernel
theorem dX6_needPairs_29 : decode cX6_needPairs 29 = .ok (.iaload, 1) := by decide +kernel
theorem dX6_needPairs_30 : decode cX6_needPairs 30 = .ok (.iconst 2, 1) := by decide +kernel
theorem dX6_needPairs_31 : decode cX6_needPairs 31 = .ok (.irem, 1) := by decide +kernel
theorem dX6_needPairs_32 : decode cX6_needPairs 32 = .ok (.ifCond .eq 9, 3) := by decide +kernel
theorem dX6_needPairs_35 : decode cX6_needPairs 35 = .ok (.aload_n 0, 1) := by decide +kernel
theorem dX6_needPairs_36 : decode cX6_needPairs 36 = .ok (.iconst 5, 1) := by decide +kernel
theorem dX6_needPairs_37 : decode cX6_needPairs 37 = .ok (.invokevirtual 91, 3) := by decide +kernel
theorem dX6_needPairs_40 : decode cX6_needPairs 40 = .ok (.ireturn, 1) := by decide +kernel
theorem dX6_needPairs_41 : decode cX6_needPairs 41 = .ok (.iconst 1, 1) := by decide +kernel
theorem dX6_needPairs_42 : decode cX6_needPairs 42 = .ok (.istore_n 2, 1) := by decide +kernel
theorem dX6_needPairs_43 : decode cX6_needPairs 43 = .ok (.iconst 0, 1) := by decide +kernel
theorem dX6_needPairs_44 : decode cX6_needPairs 44 = .ok (.istore_n 3, 1) := by decide +kernel
theorem dX6_needPairs_45 : decode cX6_needPairs 45 = .ok (.iload_n 3, 1) := by decide +kernel
theorem dX6_needPairs_46 : decode cX6_needPairs 46 = .ok (.aload_n 0, 1) := by decide +kernel
theorem dX6_needPairs_47 : decode cX6_needPairs 47 = .ok (.getfield 17, 3) := by decide +kernel
theorem dX6_needPairs_50 : decode cX6_needPairs 50 = .ok (.iload_n 1, 1) := by decide +kernel
theorem dX6_needPairs_51 : decode cX6_needPairs 51 = .ok (.iaload, 1) := by decide +kernel
theorem dX6_needPairs_52 : decode cX6_needPairs 52 = .ok (.if_icmp .ge 47, 3) := by decide +kernel
theorem dX6_needPairs_55 : decode cX6_needPairs 55 = .ok (.iload_n 2, 1) := by decide +kernel
theorem dX6_needPairs_56 : decode cX6_needPairs 56 = .ok (.ifCond .eq 35, 3) := by decide +kernel
theorem dX6_needPairs_59 : decode cX6_needPairs 59 = .ok (.aload_n 0, 1) := by decide +kernel
theorem dX6_needPairs_60 : decode cX6_needPairs 60 = .ok (.iload_n 1, 1) := by decide +kernel
theorem dX6_needPairs_61 : decode cX6_needPairs 61 = .ok (.iload_n 3, 1) := by decide +kernel
theorem dX6_needPairs_62 : decode cX6_needPairs 62 = .ok (.invokevirtual 95, 3) := by decide +kernel
theorem dX6_needPairs_65 : decode cX6_needPairs 65 = .ok (.invokestatic 184, 3) := by decide +kernel
theorem dX6_needPairs_68 : decode cX6_needPairs 68 = .ok (.ifCond .eq 23, 3) := by decide +kernel
theorem dX6_needPairs_71 : decode cX6_needPairs 71 = .ok (.aload_n 0, 1) := by decide +kernel
theorem dX6_needPairs_72 : decode cX6_needPairs 72 = .ok (.iload_n 1, 1) := by decide +kernel
theorem dX6_needPairs_73 : decode cX6_needPairs 73 = .ok (.iload_n 3, 1) := by decide +kernel
theorem dX6_needPairs_74 : decode cX6_needPairs 74 = .ok (.iconst 1, 1) := by decide +kernel
theorem dX6_needPairs_75 : decode cX6_needPairs 75 = .ok (.iadd, 1) := by decide +kernel
theorem dX6_needPairs_76 : decode cX6_needPairs 76 = .ok (.invokevirtual 95, 3) := by decide +kernel
theorem dX6_needPairs_79 : decode cX6_needPairs 79 = .ok (.iconst 0, 1) := by decide +kernel
