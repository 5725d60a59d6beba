theorem dX6_needPairs_80 : decode cX6_needPairs 80 = .ok (.iconst 1, 1) := by decide +kernel
theorem dX6_needPairs_81 : decode cX6_needPairs 81 = .ok (.invokestatic 83, 3) := by decide +kernel
theorem dX6_needPairs_84 : decode cX6_needPairs 84 = .ok (.ifCond .eq 7, 3) := by decide +kernel
theorem dX6_needPairs_87 : decode cX6_needPairs 87 = .ok (.iconst 1, 1) := by decide +kernel
theorem dX6_needPairs_88 : decode cX6_needPairs 88 = .ok (.goto 4, 3) := by decide +kernel
theorem dX6_needPairs_91 : decode cX6_needPairs 91 = .ok (.iconst 0, 1) := by decide +kernel
theorem dX6_needPairs_92 : decode cX6_needPairs 92 = .ok (.istore_n 2, 1) := by decide +kernel
theorem dX6_needPairs_93 : decode cX6_needPairs 93 = .ok (.iinc 3 2, 3) := by decide +kernel
theorem dX6_needPairs_96 : decode cX6_needPairs 96 = .ok (.goto (-51), 3) := by decide +kernel
theorem dX6_needPairs_99 : decode cX6_needPairs 99 = .ok (.iload_n 2, 1) := by decide +kernel
theorem dX6_needPairs_100 : decode cX6_needPairs 100 = .ok (.ifCond .eq 7, 3) := by decide +kernel
theorem dX6_needPairs_103 : decode cX6_needPairs 103 = .ok (.iconst 0, 1) := by decide +kernel
theorem dX6_needPairs_104 : decode cX6_needPairs 104 = .ok (.goto 8, 3) := by decide +kernel
theorem dX6_needPairs_107 : decode cX6_needPairs 107 = .ok (.aload_n 0, 1) := by decide +kernel
theorem dX6_needPairs_108 : decode cX6_needPairs 108 = .ok (.iconst 3, 1) := by decide +kernel
theorem dX6_needPairs_109 : decode cX6_needPairs 109 = .ok (.invokevirtual 91, 3) := by decide +kernel
theorem dX6_needPairs_112 : decode cX6_needPairs 112 = .ok (.ireturn, 1) := by decide +kernel
set_option maxRecDepth 20000 in
theorem ggX6_kindsBy_X6_rowAt : GoodIn wsX6_kindsBy wsX6_rowAt := goodIn_r _ [6, 7, 11, 12, 13, 14, 15, 16, 17, 18, 19, 20, 21, 22, 23, 24, 25, 26, 27, 28, 29, 30, 31, 32, 33, 34, 35, 36, 37, 38, 39, 40, 41, 42, 43, 44] (by decide +kernel) (by decide +kernel)
set_option maxRecDepth 20000 in
theorem gX6_kindsBy_X6_rowAt : GoodIn wsX6_kindsBy (wsV RX6 95 RX6 yX6_rowAt wsX6_rowAt) := goodIn_app (goodIn_of _ (by decide +kernel)) ggX6_kindsBy_X6_rowAt
set_option maxRecDepth 20000 in
theorem ggX6_kindsBy_X6_takesAs : GoodIn wsX6_kindsBy wsX6_takesAs := goodIn_r _ [10] (by decide +kernel) (by decide +kernel)
set_option maxRecDepth 20000 in
theorem gX6_kindsBy_X6_takesAs : GoodIn wsX6_kindsBy (va_wsS RX6 142 yX6_takesAs wsX6_takesAs) := goodIn_app (goodIn_of _ (by decide +kernel)) ggX6_kindsBy_X6_takesAs
theorem dX6_kindsBy_0 : decode cX6_kindsBy 0 = .ok (.iconst 0, 1) := by decide +kernel
theorem dX6_kindsBy_1 : decode cX6_kindsBy 1 = .ok (.istore_n 2, 1) := by decide +kernel
theorem dX6_kindsBy_2 : decode cX6_kindsBy 2 = .ok (.iconst 0, 1) := by decide +kernel
theorem dX6_kindsBy_3 : decode cX6_kindsBy 3 = .ok (.istore_n 3, 1) := by decide +kernel
theorem dX6_kindsBy_4 : decode cX6_kindsBy 4 = .ok (.iload_n 3, 1) := by decide +kernel
theorem dX6_kindsBy_5 : decode cX6_kindsBy 5 = .ok (.bipush 6, 2) := by decide +kernel
theorem dX6_kindsBy_7 : decode cX6_kindsBy 7 = .ok (.if_icmp .ge 91, 3) := by decide +kernel
theorem dX6_kindsBy_10 : decode cX6_kindsBy 10 = .ok (.iconst 1, 1) := by decide +kernel
theorem dX6_kindsBy_11 : decode cX6_kindsBy 11 = .ok (.istore 4, 2) := by decide +kernel
theorem dX6_kindsBy_13 : decode cX6_kindsBy 13 = .ok (.iconst 0, 1) := by decide +kernel
theorem dX6_kindsBy_14 : decode cX6_kindsBy 14 = .ok (.istore 5, 2) := by decide +kernel
theorem dX6_kindsBy_16 : decode cX6_kindsBy 16 = .ok (.iload 5, 2) := by decide +kernel
theorem dX6_kindsBy_18 : decode cX6_kindsBy 18 = .ok (.aload_n 0, 1) := by decide +kernel
theorem dX6_kindsBy_19 : decode cX6_kindsBy 19 = .ok (.getfield 17, 3) := by decide +kernel
theorem dX6_kindsBy_22 : decode cX6_kindsBy 22 = .ok (.iload_n 1, 1) := by decide +kernel
theorem dX6_kindsBy_23 : decode cX6_kindsBy 23 = .ok (.iaload, 1) := by decide +kernel
theorem dX6_kindsBy_24 : decode cX6_kindsBy 24 = .ok (.if_icmp .ge 53, 3) := by decide +kernel
theorem dX6_kindsBy_27 : decode cX6_kindsBy 27 = .ok (.iload 4, 2) := by decide +kernel
theorem dX6_kindsBy_29 : decode cX6_kindsBy 29 = .ok (.ifCond .eq 39, 3) := by decide +kernel
theorem dX6_kindsBy_32 : decode cX6_kindsBy 32 = .ok (.iload_n 3, 1) := by decide +kernel
theorem dX6_kindsBy_33 : decode cX6_kindsBy 33 = .ok (.aload_n 0, 1) := by decide +kernel
theorem dX6_kindsBy_34 : decode cX6_kindsBy 34 = .ok (.iload_n 1, 1) := by decide +kernel
theorem dX6_kindsBy_35 : decode cX6_kindsBy 35 = .ok (.iload 5, 2) := by decide +kernel
theorem dX6_kindsBy_37 : decode cX6_kindsBy 37 = .ok (.invokevirtual 95, 3) := by decide +kernel
theorem dX6_kindsBy_40 : decode cX6_kindsBy 40 = .ok (.invokestatic 142, 3) := by decide +kernel
theorem dX6_kindsBy_43 : decode cX6_kindsBy 43 = .ok (.aload_n 0, 1) := by decide +kernel
theorem dX6_kindsBy_44 : decode cX6_kindsBy 44 = .ok (.iload_n 1, 1) := by decide +kernel
theorem dX6_kindsBy_45 : decode cX6_kindsBy 45 = .ok (.iload 5, 2) := by decide +kernel
theorem dX6_kindsBy_47 : decode cX6_kindsBy 47 = .ok (.iconst 1, 1) := by decide +kernel
theorem dX6_kindsBy_48 : decode cX6_kindsBy 48 = .ok (.iadd, 1) := by decide +kernel
theorem dX6_kindsBy_49 : decode cX6_kindsBy 49 = .ok (.invokevirtual 95, 3) := by decide +kernel
theorem dX6_kindsBy_52 : decode cX6_kindsBy 52 = .ok (.iconst 1, 1) := by decide +kernel
theorem dX6_kindsBy_53 : decode cX6_kindsBy 53 = .ok (.if_icmp .ne 7, 3) := by decide +kernel
theorem dX6_kindsBy_56 : decode cX6_kindsBy 56 = .ok (.iconst 1, 1) := by decide +kernel
theorem dX6_kindsBy_57 : decode cX6_kindsBy 57 = .ok (.goto 4, 3) := by decide +kernel
theorem dX6_kindsBy_60 : decode cX6_kindsBy 60 = .ok (.iconst 0, 1) := by decide +kernel
theorem dX6_kindsBy_61 : decode cX6_kindsBy 61 = .ok (.if_icmp .ne 7, 3) := by decide +kernel
theorem dX6_kindsBy_64 : decode cX6_kindsBy 64 = .ok (.iconst 1, 1) := by decide +kernel
theorem dX6_kindsBy_65 : decode cX6_kindsBy 65 = .ok (.goto 4, 3) := by decide +kernel
theorem dX6_kindsBy_68 : decode cX6_kindsBy 68 = .ok (.iconst 0, 1) := by decide +kernel
theorem dX6_kindsBy_69 : decode cX6_kindsBy 69 = .ok (.istore 4, 2) := by decide +kernel
theorem dX6_kindsBy_71 : decode cX6_kindsBy 71 = .ok (.iinc 5 2, 3) := by decide +kernel
theorem dX6_kindsBy_74 : decode cX6_kindsBy 74 = .ok (.goto (-58), 3) := by decide +kernel
theorem dX6_kindsBy_77 : decode cX6_kindsBy 77 = .ok (.iload_n 2, 1) := by decide +kernel
theorem dX6_kindsBy_78 : decode cX6_kindsBy 78 = .ok (.iload 4, 2) := by decide +kernel
theorem dX6_kindsBy_80 : decode cX6_kindsBy 80 = .ok (.ifCond .eq 9, 3) := by decide +kernel
theorem dX6_kindsBy_83 : decode cX6_kindsBy 83 = .ok (.iconst 1, 1) := by decide +kernel
theorem dX6_kindsBy_84 : decode cX6_kindsBy 84 = .ok (.iload_n 3, 1) := by decide +kernel
theorem dX6_kindsBy_85 : decode cX6_kindsBy 85 = .ok (.ishl, 1) := by decide +kernel
theorem dX6_kindsBy_86 : decode cX6_kindsBy 86 = .ok (.goto 4, 3) := by decide +kernel
theorem dX6_kindsBy_89 : decode cX6_kindsBy 89 = .ok (.iconst 0, 1) := by decide +kernel
theorem dX6_kindsBy_90 : decode cX6_kindsBy 90 = .ok (.ior, 1) := by decide +kernel
theorem dX6_kindsBy_91 : decode cX6_kindsBy 91 = .ok (.istore_n 2, 1) := by decide +kernel
theorem dX6_kindsBy_92 : decode cX6_kindsBy 92 = .ok (.iinc 3 1, 3) := by decide +kernel
theorem dX6_kindsBy_95 : decode cX6_kindsBy 95 = .ok (.goto (-91), 3) := by decide +kernel
theorem dX6_kindsBy_98 : decode cX6_kindsBy 98 = .ok (.iload_n 2, 1) := by decide +kernel
theorem dX6_kindsBy_99 : decode cX6_kindsBy 99 = .ok (.ireturn, 1) := by decide +kernel
set_option maxRecDepth 20000 in
theorem ggX6_kinds_X6_needPairs : GoodIn wsX6_kinds wsX6_needPairs := goodIn_r _ [5, 6, 7, 8, 4, 9, 10, 11, 12, 13, 14, 15, 16, 17, 18, 19, 20, 21, 22, 23, 24, 25, 26, 34, 35, 36, 37, 38, 39, 40, 41, 42, 43, 44, 45, 46, 47, 48, 49, 50, 51, 52, 53, 54, 55, 56, 57, 58, 59, 60, 61, 62, 63, 64, 65, 66, 67] (by decide +kernel) (by decide +kernel)
set_option maxRecDepth 20000 in
theorem gX6_kinds_X6_needPairs : GoodIn wsX6_kinds (wsV RX6 235 RX6 yX6_needPairs wsX6_needPairs) := goodIn_app (goodIn_of _ (by decide +kernel)) ggX6_kinds_X6_needPairs
set_option maxRecDepth 20000 in
theorem ggX6_kinds_X6_kindsBy : GoodIn wsX6_kinds wsX6_kindsBy := goodIn_r _ [30, 6, 19, 20, 21, 4, 22, 23, 31, 32, 33, 34, 35, 36, 37, 38, 39, 40, 41, 42, 43, 44, 45, 46, 47, 48, 49, 50, 51, 52, 53, 54, 55, 56, 57, 58, 59, 60, 61, 62, 63, 64, 65, 66, 67] (by decide +kernel) (by decide +kernel)
set_option maxRecDepth 20000 in
theorem gX6_kinds_X6_kindsBy : GoodIn wsX6_kinds (wsV RX6 238 RX6 yX6_kindsBy wsX6_kindsBy) := goodIn_app (goodIn_of _ (by decide +kernel)) ggX6_kinds_X6_kindsBy
theorem dX6_kinds_0 : decode cX6_kinds 0 = .ok (.aload_n 0, 1) := by decide +kernel
theorem dX6_kinds_1 : decode cX6_kinds 1 = .ok (.iload_n 1, 1) := by decide +kernel
theorem dX6_kinds_2 : decode cX6_kinds 2 = .ok (.invokevirtual 235, 3) := by decide +kernel
theorem dX6_kinds_5 : decode cX6_kinds 5 = .ok (.istore_n 2, 1) := by decide +kernel
theorem dX6_kinds_6 : decode cX6_kinds 6 = .ok (.iload_n 2, 1) := by decide +kernel
theorem dX6_kinds_7 : decode cX6_kinds 7 = .ok (.ifCond .ge 7, 3) := by decide +kernel
theorem dX6_kinds_10 : decode cX6_kinds 10 = .ok (.iload_n 2, 1) := by decide +kernel
theorem dX6_kinds_11 : decode cX6_kinds 11 = .ok (.goto 8, 3) := by decide +kernel
theorem dX6_kinds_14 : decode cX6_kinds 14 = .ok (.aload_n 0, 1) := by decide +kernel
theorem dX6_kinds_15 : decode cX6_kinds 15 = .ok (.iload_n 1, 1) := by decide +kernel
theorem dX6_kinds_16 : decode cX6_kinds 16 = .ok (.invokevirtual 238, 3) := by decide +kernel
theorem dX6_kinds_19 : decode cX6_kinds 19 = .ok (.ireturn, 1) := by decide +kernel
set_option maxRecDepth 20000 in
theorem ggX6_test_X6_needPairs : GoodIn wsX6_test wsX6_needPairs := goodIn_r _ [5, 6, 7, 8, 4, 9, 10, 11, 12, 13, 14, 15, 16, 17, 18, 19, 20, 21, 22, 23, 24, 25, 26, 45, 46, 47, 48, 49, 50, 51, 52, 53, 54, 55, 56, 57, 58, 59, 60, 61, 62, 63, 64, 65, 66, 67, 68, 69, 70, 71, 72, 73, 74, 75, 76, 77, 78] (by decide +kernel) (by decide +kernel)
set_option maxRecDepth 20000 in
theorem gX6_test_X6_needPairs : GoodIn wsX6_test (wsV RX6 235 RX6 yX6_needPairs wsX6_needPairs) := goodIn_app (goodIn_of _ (by decide +kernel)) ggX6_test_X6_needPairs
set_option maxRecDepth 20000 in
theorem ggX6_test_X6_kindsBy : GoodIn wsX6_test wsX6_kindsBy := goodIn_r _ [30, 6, 19, 20, 21, 4, 22, 23, 31, 32, 33, 45, 46, 47, 48, 49, 50, 51, 52, 53, 54, 55, 56, 57, 58, 59, 60, 61, 62, 63, 64, 65, 66, 67, 68, 69, 70, 71, 72, 73, 74, 75, 76, 77, 78] (by decide +kernel) (by decide +kernel)
set_option maxRecDepth 20000 in
theorem gX6_test_X6_kindsBy : GoodIn wsX6_test (wsV RX6 238 RX6 yX6_kindsBy wsX6_kindsBy) := goodIn_app (goodIn_of _ (by decide +kernel)) ggX6_test_X6_kindsBy
set_option maxRecDepth 20000 in
theorem ggX6_test_X6_has : GoodIn wsX6_test wsX6_has := goodIn_r _ [36] (by decide +kernel) (by decide +kernel)
set_option maxRecDepth 20000 in
theorem gX6_test_X6_has : GoodIn wsX6_test (va_wsS RX6 146 yX6_has wsX6_has) := goodIn_app (goodIn_of _ (by decide +kernel)) ggX6_test_X6_has
set_option maxRecDepth 20000 in
theorem ggX6_test_X6_takesAs : GoodIn wsX6_test wsX6_takesAs := goodIn_r _ [33] (by decide +kernel) (by decide +kernel)
set_option maxRecDepth 20000 in
theorem gX6_test_X6_takesAs : GoodIn wsX6_test (va_wsS RX6 142 yX6_takesAs wsX6_takesAs) := goodIn_app (goodIn_of _ (by decide +kernel)) ggX6_test_X6_takesAs
set_option maxRecDepth 20000 in
theorem ggX6_test_X6_bits : GoodIn wsX6_test wsX6_bits := goodIn_r _ [39] (by decide +kernel) (by decide +kernel)
set_option maxRecDepth 20000 in
theorem gX6_test_X6_bits : GoodIn wsX6_test (va_wsS RX6 177 yX6_bits wsX6_bits) := goodIn_app (goodIn_of _ (by decide +kernel)) ggX6_test_X6_bits
set_option maxRecDepth 20000 in
theorem ggX6_test_X6_tells : GoodIn wsX6_test wsX6_tells := goodIn_r _ [43, 44, 45, 46, 47, 48, 49, 50, 51, 52, 53, 54, 55, 56, 57, 58, 59, 60, 61, 62, 63, 64, 65, 66, 67, 68, 69, 70, 71, 72, 73, 74, 75, 76, 77, 78] (by decide +kernel) (by decide +kernel)
set_option maxRecDepth 20000 in
theorem gX6_test_X6_tells : GoodIn wsX6_test (wsV RX6 99 RX6 yX6_tells wsX6_tells) := goodIn_app (goodIn_of _ (by decide +kernel)) ggX6_test_X6_tells
theorem dX6_test_0 : decode cX6_test 0 = .ok (.aload_n 0, 1) := by decide +kernel
theorem dX6_test_1 : decode cX6_test 1 = .ok (.iload_n 1, 1) := by decide +kernel
theorem dX6_test_2 : decode cX6_test 2 = .ok (.invokevirtual 235, 3) := by decide +kernel
theorem dX6_test_5 : decode cX6_test 5 = .ok (.istore_n 2, 1) := by decide +kernel
theorem dX6_test_6 : decode cX6_test 6 = .ok (.iload_n 2, 1) := by decide +kernel
theorem dX6_test_7 : decode cX6_test 7 = .ok (.ifCond .ge 5, 3) := by decide +kernel
theorem dX6_test_10 : decode cX6_test 10 = .ok (.iload_n 2, 1) := by decide +kernel
theorem dX6_test_11 : decode cX6_test 11 = .ok (.ireturn, 1) := by decide +kernel
theorem dX6_test_12 : decode cX6_test 12 = .ok (.aload_n 0, 1) := by decide +kernel
theorem dX6_test_13 : decode cX6_test 13 = .ok (.iload_n 1, 1) := by decide +kernel
theorem dX6_test_14 : decode cX6_test 14 = .ok (.invokevirtual 238, 3) := by decide +kernel
theorem dX6_test_17 : decode cX6_test 17 = .ok (.istore_n 3, 1) := by decide +kernel
theorem dX6_test_18 : decode cX6_test 18 = .ok (.iload_n 3, 1) := by decide +kernel
theorem dX6_test_19 : decode cX6_test 19 = .ok (.ifCond .ne 6, 3) := by decide +kernel
theorem dX6_test_22 : decode cX6_test 22 = .ok (.bipush (-9), 2) := by decide +kernel
theorem dX6_test_24 : decode cX6_test 24 = .ok (.ireturn, 1) := by decide +kernel
theorem dX6_test_25 : decode cX6_test 25 = .ok (.iconst 0, 1) := by decide +kernel
theorem dX6_test_26 : decode cX6_test 26 = .ok (.istore 4, 2) := by decide +kernel
theorem dX6_test_28 : decode cX6_test 28 = .ok (.bipush 7, 2) := by decide +kernel
theorem dX6_test_30 : decode cX6_test 30 = .ok (.istore 5, 2) := by decide +kernel
theorem dX6_test_32 : decode cX6_test 32 = .ok (.iconst 2, 1) := by decide +kernel
theorem dX6_test_33 : decode cX6_test 33 = .ok (.istore 6, 2) := by decide +kernel
theorem dX6_test_35 : decode cX6_test 35 = .ok (.iload 6, 2) := by decide +kernel
theorem dX6_test_37 : decode cX6_test 37 = .ok (.bipush 16, 2) := by decide +kernel
theorem dX6_test_39 : decode cX6_test 39 = .ok (.if_icmp .gt 115, 3) := by decide +kernel
theorem dX6_test_42 : decode cX6_test 42 = .ok (.iconst 0, 1) := by decide +kernel
theorem dX6_test_43 : decode cX6_test 43 = .ok (.istore 7, 2) := by decide +kernel
theorem dX6_test_45 : decode cX6_test 45 = .ok (.iconst 0, 1) := by decide +kernel
theorem dX6_test_46 : decode cX6_test 46 = .ok (.istore 8, 2) := by decide +kernel
theorem dX6_test_48 : decode cX6_test 48 = .ok (.iload 8, 2) := by decide +kernel
theorem dX6_test_50 : decode cX6_test 50 = .ok (.bipush 6, 2) := by decide +kernel
theorem dX6_test_52 : decode cX6_test 52 = .ok (.if_icmp .ge 38, 3) := by decide +kernel
theorem dX6_test_55 : decode cX6_test 55 = .ok (.iload 7, 2) := by decide +kernel
theorem dX6_test_57 : decode cX6_test 57 = .ok (.iload_n 3, 1) := by decide +kernel
theorem dX6_test_58 : decode cX6_test 58 = .ok (.iload 8, 2) := by decide +kernel
theorem dX6_test_60 : decode cX6_test 60 = .ok (.invokestatic 146, 3) := by decide +kernel
theorem dX6_test_63 : decode cX6_test 63 = .ok (.ifCond .eq 17, 3) := by decide +kernel
theorem dX6_test_66 : decode cX6_test 66 = .ok (.iload 8, 2) := by decide +kernel
theorem dX6_test_68 : decode cX6_test 68 = .ok (.iload 6, 2) := by decide +kernel
theorem dX6_test_70 : decode cX6_test 70 = .ok (.invokestatic 142, 3) := by decide +kernel
theorem dX6_test_73 : decode cX6_test 73 = .ok (.ifCond .eq 7, 3) := by decide +kernel
theorem dX6_test_76 : decode cX6_test 76 = .ok (.iconst 1, 1) := by decide +kernel
theorem dX6_test_77 : decode cX6_test 77 = .ok (.goto 4, 3) := by decide +kernel
theorem dX6_test_80 : decode cX6_test 80 = .ok (.iconst 0, 1) := by decide +kernel
theorem dX6_test_81 : decode cX6_test 81 = .ok (.iadd, 1) := by decide +kernel
theorem dX6_test_82 : decode cX6_test 82 = .ok (.istore 7, 2) := by decide +kernel
theorem dX6_test_84 : decode cX6_test 84 = .ok (.iinc 8 1, 3) := by decide +kernel
theorem dX6_test_87 : decode cX6_test 87 = .ok (.goto (-39), 3) := by decide +kernel
theorem dX6_test_90 : decode cX6_test 90 = .ok (.iload 7, 2) := by decide +kernel
theorem dX6_test_92 : decode cX6_test 92 = .ok (.iload_n 3, 1) := by decide +kernel
theorem dX6_test_93 : decode cX6_test 93 = .ok (.invokestatic 177, 3) := by decide +kernel
theorem dX6_test_96 : decode cX6_test 96 = .ok (.iload 7, 2) := by decide +kernel
theorem dX6_test_98 : decode cX6_test 98 = .ok (.isub, 1) := by decide +kernel
theorem dX6_test_99 : decode cX6_test 99 = .ok (.if_icmp .le 8, 3) := by decide +kernel
theorem dX6_test_102 : decode cX6_test 102 = .ok (.iload 7, 2) := by decide +kernel
theorem dX6_test_104 : decode cX6_test 104 = .ok (.goto 10, 3) := by decide +kernel
theorem dX6_test_107 : decode cX6_test 107 = .ok (.iload_n 3, 1) := by decide +kernel
theorem dX6_test_108 : decode cX6_test 108 = .ok (.invokestatic 177, 3) := by decide +kernel
theorem dX6_test_111 : decode cX6_test 111 = .ok (.iload 7, 2) := by decide +kernel
theorem dX6_test_113 : decode cX6_test 113 = .ok (.isub, 1) := by decide +kernel
theorem dX6_test_114 : decode cX6_test 114 = .ok (.istore 8, 2) := by decide +kernel
theorem dX6_test_116 : decode cX6_test 116 = .ok (.iload 8, 2) := by decide +kernel
theorem dX6_test_118 : decode cX6_test 118 = .ok (.iload 5, 2) := by decide +kernel
theorem dX6_test_120 : decode cX6_test 120 = .ok (.if_icmp .ge 8, 3) := by decide +kernel
theorem dX6_test_123 : decode cX6_test 123 = .ok (.iload 6, 2) := by decide +kernel
theorem dX6_test_125 : decode cX6_test 125 = .ok (.goto 5, 3) := by decide +kernel
theorem dX6_test_128 : decode cX6_test 128 = .ok (.iload 4, 2) := by decide +kernel
theorem dX6_test_130 : decode cX6_test 130 = .ok (.istore 4, 2) := by decide +kernel
theorem dX6_test_132 : decode cX6_test 132 = .ok (.iload 8, 2) := by decide +kernel
theorem dX6_test_134 : decode cX6_test 134 = .ok (.iload 5, 2) := by decide +kernel
theorem dX6_test_136 : decode cX6_test 136 = .ok (.if_icmp .ge 8, 3) := by decide +kernel
theorem dX6_test_139 : decode cX6_test 139 = .ok (.iload 8, 2) := by decide +kernel
theorem dX6_test_141 : decode cX6_test 141 = .ok (.goto 5, 3) := by decide +kernel
theorem dX6_test_144 : decode cX6_test 144 = .ok (.iload 5, 2) := by decide +kernel
theorem dX6_test_146 : decode cX6_test 146 = .ok (.istore 5, 2) := by decide +kernel
theorem dX6_test_148 : decode cX6_test 148 = .ok (.iinc 6 1, 3) := by decide +kernel
theorem dX6_test_151 : decode cX6_test 151 = .ok (.goto (-116), 3) := by decide +kernel
theorem dX6_test_154 : decode cX6_test 154 = .ok (.aload_n 0, 1) := by decide +kernel
theorem dX6_test_155 : decode cX6_test 155 = .ok (.iload 5, 2) := by decide +kernel
theorem dX6_test_157 : decode cX6_test 157 = .ok (.iload 4, 2) := by decide +kernel
theorem dX6_test_159 : decode cX6_test 159 = .ok (.invokevirtual 99, 3) := by decide +kernel
theorem dX6_test_162 : decode cX6_test 162 = .ok (.ireturn, 1) := by decide +kernel
set_option maxRecDepth 20000 in
theorem ggX6_picked_X6_lackOf : GoodIn wsX6_picked wsX6_lackOf := goodIn_r _ [10, 2, 11, 12, 13, 9, 14, 4, 15, 16, 17, 18, 19, 20, 21, 22, 26, 27, 28, 29, 30, 31, 32, 33, 34, 35, 36, 37, 38, 39, 40, 41, 42, 43, 44, 45, 46, 47, 48, 49, 50, 51, 52, 53, 54, 55, 56, 57, 58, 59] (by decide +kernel) (by decide +kernel)
set_option maxRecDepth 20000 in
theorem gX6_picked_X6_lackOf : GoodIn wsX6_picked (wsV RX6 156 RX6 yX6_lackOf wsX6_lackOf) := goodIn_app (goodIn_of _ (by decide +kernel)) ggX6_picked_X6_lackOf
set_option maxRecDepth 20000 in
theorem ggX6_picked_X6_takesAs : GoodIn wsX6_picked wsX6_takesAs := goodIn_r _ [25] (by decide +kernel) (by decide +kernel)
set_option maxRecDepth 20000 in
theorem gX6_picked_X6_takesAs : GoodIn wsX6_picked (va_wsS RX6 142 yX6_takesAs wsX6_takesAs) := goodIn_app (goodIn_of _ (by decide +kernel)) ggX6_picked_X6_takesAs
set_option maxRecDepth 20000 in
theorem ggX6_picked_X6_has : GoodIn wsX6_picked wsX6_has := goodIn_r _ [22] (by decide +kernel) (by decide +kernel)
set_option maxRecDepth 20000 in
theorem gX6_picked_X6_has : GoodIn wsX6_picked (va_wsS RX6 146 yX6_has wsX6_has) := goodIn_app (goodIn_of _ (by decide +kernel)) ggX6_picked_X6_has
set_option maxRecDepth 20000 in
theorem ggX6_picked_X6_due : GoodIn wsX6_picked wsX6_due := goodIn_r _ [14, 4, 15, 16, 26, 27, 28, 29, 30, 31, 32, 33, 34, 35, 36, 37, 38, 39, 40, 41, 42, 43, 44, 45, 46, 47, 48, 49, 50, 51, 52, 53, 54, 55, 56, 57, 58, 59] (by decide +kernel) (by decide +kernel)
set_option maxRecDepth 20000 in
theorem gX6_picked_X6_due : GoodIn wsX6_picked (wsV RX6 150 RX6 yX6_due wsX6_due) := goodIn_app (goodIn_of _ (by decide +kernel)) ggX6_picked_X6_due
theorem dX6_picked_0 : decode cX6_picked 0 = .ok (.iconst 0, 1) := by decide +kernel
theorem dX6_picked_1 : decode cX6_picked 1 = .ok (.istore 5, 2) := by decide +kernel
theorem dX6_picked_3 : decode cX6_picked 3 = .ok (.iload 5, 2) := by decide +kernel
theorem dX6_picked_5 : decode cX6_picked 5 = .ok (.bipush 16, 2) := by decide +kernel
theorem dX6_picked_7 : decode cX6_picked 7 = .ok (.if_icmp .gt 17, 3) := by decide +kernel
theorem dX6_picked_10 : decode cX6_picked 10 = .ok (.aload_n 0, 1) := by decide +kernel
theorem dX6_picked_11 : decode cX6_picked 11 = .ok (.getfield 70, 3) := by decide +kernel
theorem dX6_picked_14 : decode cX6_picked 14 = .ok (.iload 5, 2) := by decide +kernel
theorem dX6_picked_16 : decode cX6_picked 16 = .ok (.iconst 0, 1) := by decide +kernel
theorem dX6_picked_17 : decode cX6_picked 17 = .ok (.iastore, 1) := by decide +kernel
theorem dX6_picked_18 : decode cX6_picked 18 = .ok (.iinc 5 1, 3) := by decide +kernel
theorem dX6_picked_21 : decode cX6_picked 21 = .ok (.goto (-18), 3) := by decide +kernel
theorem dX6_picked_24 : decode cX6_picked 24 = .ok (.aload_n 0, 1) := by decide +kernel
theorem dX6_picked_25 : decode cX6_picked 25 = .ok (.iload_n 1, 1) := by decide +kernel
theorem dX6_picked_26 : decode cX6_picked 26 = .ok (.invokevirtual 156, 3) := by decide +kernel
theorem dX6_picked_29 : decode cX6_picked 29 = .ok (.istore 5, 2) := by decide +kernel
theorem dX6_picked_31 : decode cX6_picked 31 = .ok (.aload_n 0, 1) := by decide +kernel
theorem dX6_picked_32 : decode cX6_picked 32 = .ok (.iload_n 2, 1) := by decide +kernel
theorem dX6_picked_33 : decode cX6_picked 33 = .ok (.invokevirtual 156, 3) := by decide +kernel
theorem dX6_picked_36 : decode cX6_picked 36 = .ok (.istore 6, 2) := by decide +kernel
theorem dX6_picked_38 : decode cX6_picked 38 = .ok (.aload_n 0, 1) := by decide +kernel
theorem dX6_picked_39 : decode cX6_picked 39 = .ok (.getfield 51, 3) := by decide +kernel
theorem dX6_picked_42 : decode cX6_picked 42 = .ok (.bipush 18, 2) := by decide +kernel
theorem dX6_picked_44 : decode cX6_picked 44 = .ok (.iload_n 1, 1) := by decide +kernel
theorem dX6_picked_45 : decode cX6_picked 45 = .ok (.iadd, 1) := by decide +kernel
theorem dX6_picked_46 : decode cX6_picked 46 = .ok (.iaload, 1) := by decide +kernel
theorem dX6_picked_47 : decode cX6_picked 47 = .ok (.istore 7, 2) := by decide +kernel
theorem dX6_picked_49 : decode cX6_picked 49 = .ok (.aload_n 0, 1) := by decide +kernel
theorem dX6_picked_50 : decode cX6_picked 50 = .ok (.getfield 51, 3) := by decide +kernel
theorem dX6_picked_53 : decode cX6_picked 53 = .ok (.bipush 18, 2) := by decide +kernel
theorem dX6_picked_55 : decode cX6_picked 55 = .ok (.iload_n 2, 1) := by decide +kernel
theorem dX6_picked_56 : decode cX6_picked 56 = .ok (.iadd, 1) := by decide +kernel
theorem dX6_picked_57 : decode cX6_picked 57 = .ok (.iaload, 1) := by decide +kernel
theorem dX6_picked_58 : decode cX6_picked 58 = .ok (.istore 8, 2) := by decide +kernel
theorem dX6_picked_60 : decode cX6_picked 60 = .ok (.iconst 0, 1) := by decide +kernel
theorem dX6_picked_61 : decode cX6_picked 61 = .ok (.istore 9, 2) := by decide +kernel
theorem dX6_picked_63 : decode cX6_picked 63 = .ok (.iload 9, 2) := by decide +kernel
theorem dX6_picked_65 : decode cX6_picked 65 = .ok (.iload 4, 2) := by decide +kernel
theorem dX6_picked_67 : decode cX6_picked 67 = .ok (.if_icmp .ge 233, 3) := by decide +kernel
theorem dX6_picked_70 : decode cX6_picked 70 = .ok (.iload_n 3, 1) := by decide +kernel
theorem dX6_picked_71 : decode cX6_picked 71 = .ok (.iconst 4, 1) := by decide +kernel
theorem dX6_picked_72 : decode cX6_picked 72 = .ok (.iload 4, 2) := by decide +kernel
theorem dX6_picked_74 : decode cX6_picked 74 = .ok (.iconst 1, 1) := by decide +kernel
theorem dX6_picked_75 : decode cX6_picked 75 = .ok (.isub, 1) := by decide +kernel
theorem dX6_picked_76 : decode cX6_picked 76 = .ok (.iload 9, 2) := by decide +kernel
theorem dX6_picked_78 : decode cX6_picked 78 = .ok (.isub, 1) := by decide +kernel
theorem dX6_picked_79 : decode cX6_picked 79 = .ok (.imul, 1) := by decide +kernel
theorem dX6_picked_80 : decode cX6_picked 80 = .ok (.ishr, 1) := by decide +kernel
theorem dX6_picked_81 : decode cX6_picked 81 = .ok (.bipush 15, 2) := by decide +kernel
theorem dX6_picked_83 : decode cX6_picked 83 = .ok (.iand, 1) := by decide +kernel
theorem dX6_picked_84 : decode cX6_picked 84 = .ok (.iconst 1, 1) := by decide +kernel
theorem dX6_picked_85 : decode cX6_picked 85 = .ok (.iadd, 1) := by decide +kernel
theorem dX6_picked_86 : decode cX6_picked 86 = .ok (.istore 10, 2) := by decide +kernel
theorem dX6_picked_88 : decode cX6_picked 88 = .ok (.iload 9, 2) := by decide +kernel
theorem dX6_picked_90 : decode cX6_picked 90 = .ok (.iconst 2, 1) := by decide +kernel
theorem dX6_picked_91 : decode cX6_picked 91 = .ok (.irem, 1) := by decide +kernel
theorem dX6_picked_92 : decode cX6_picked 92 = .ok (.ifCond .ne 7, 3) := by decide +kernel
theorem dX6_picked_95 : decode cX6_picked 95 = .ok (.iconst 1, 1) := by decide +kernel
theorem dX6_picked_96 : decode cX6_picked 96 = .ok (.goto 4, 3) := by decide +kernel
theorem dX6_picked_99 : decode cX6_picked 99 = .ok (.iconst 0, 1) := by decide +kernel
theorem dX6_picked_100 : decode cX6_picked 100 = .ok (.istore 11, 2) := by decide +kernel
theorem dX6_picked_102 : decode cX6_picked 102 = .ok (.iload 10, 2) := by decide +kernel
theorem dX6_picked_104 : decode cX6_picked 104 = .ok (.iconst 2, 1) := by decide +kernel
theorem dX6_picked_105 : decode cX6_picked 105 = .ok (.if_icmp .lt 189, 3) := by decide +kernel
theorem dX6_picked_108 : decode cX6_picked 108 = .ok (.iload 11, 2) := by decide +kernel
theorem dX6_picked_110 : decode cX6_picked 110 = .ok (.ifCond .eq 7, 3) := by decide +kernel
theorem dX6_picked_113 : decode cX6_picked 113 = .ok (.iload_n 1, 1) := by decide +kernel
theorem dX6_picked_114 : decode cX6_picked 114 = .ok (.goto 4, 3) := by decide +kernel
theorem dX6_picked_117 : decode cX6_picked 117 = .ok (.iload_n 2, 1) := by decide +kernel
theorem dX6_picked_118 : decode cX6_picked 118 = .ok (.istore 12, 2) := by decide +kernel
theorem dX6_picked_120 : decode cX6_picked 120 = .ok (.aload_n 0, 1) := by decide +kernel
theorem dX6_picked_121 : decode cX6_picked 121 = .ok (.getfield 42, 3) := by decide +kernel
theorem dX6_picked_124 : decode cX6_picked 124 = .ok (.iload 12, 2) := by decide +kernel
theorem dX6_picked_126 : decode cX6_picked 126 = .ok (.iaload, 1) := by decide +kernel
theorem dX6_picked_127 : decode cX6_picked 127 = .ok (.iload 10, 2) := by decide +kernel
theorem dX6_picked_129 : decode cX6_picked 129 = .ok (.invokestatic 142, 3) := by decide +kernel
theorem dX6_picked_132 : decode cX6_picked 132 = .ok (.ifCond .eq 47, 3) := by decide +kernel
theorem dX6_picked_135 : decode cX6_picked 135 = .ok (.iload 11, 2) := by decide +kernel
theorem dX6_picked_137 : decode cX6_picked 137 = .ok (.ifCond .eq 8, 3) := by decide +kernel
theorem dX6_picked_140 : decode cX6_picked 140 = .ok (.iload 7, 2) := by decide +kernel
theorem dX6_picked_142 : decode cX6_picked 142 = .ok (.goto 5, 3) := by decide +kernel
theorem dX6_picked_145 : decode cX6_picked 145 = .ok (.iload 8, 2) := by decide +kernel
theorem dX6_picked_147 : decode cX6_picked 147 = .ok (.iload 10, 2) := by decide +kernel
theorem dX6_picked_149 : decode cX6_picked 149 = .ok (.invokestatic 146, 3) := by decide +kernel
theorem dX6_picked_152 : decode cX6_picked 152 = .ok (.ifCond .ne 27, 3) := by decide +kernel
theorem dX6_picked_155 : decode cX6_picked 155 = .ok (.iload 11, 2) := by decide +kernel
theorem dX6_picked_157 : decode cX6_picked 157 = .ok (.ifCond .eq 8, 3) := by decide +kernel
theorem dX6_picked_160 : decode cX6_picked 160 = .ok (.iload 5, 2) := by decide +kernel
theorem dX6_picked_162 : decode cX6_picked 162 = .ok (.goto 5, 3) := by decide +kernel
theorem dX6_picked_165 : decode cX6_picked 165 = .ok (.iload 6, 2) := by decide +kernel
theorem dX6_picked_167 : decode cX6_picked 167 = .ok (.ldc 149, 2) := by decide +kernel
theorem dX6_picked_169 : decode cX6_picked 169 = .ok (.iload 10, 2) := by decide +kernel
theorem dX6_picked_171 : decode cX6_picked 171 = .ok (.idiv, 1) := by decide +kernel
theorem dX6_picked_172 : decode cX6_picked 172 = .ok (.if_icmp .lt 7, 3) := by decide +kernel
theorem dX6_picked_175 : decode cX6_picked 175 = .ok (.iconst 1, 1) := by decide +kernel
theorem dX6_picked_176 : decode cX6_picked 176 = .ok (.goto 4, 3) := by decide +kernel
theorem dX6_picked_179 : decode cX6_picked 179 = .ok (.iconst 0, 1) := by decide +kernel
theorem dX6_picked_180 : decode cX6_picked 180 = .ok (.istore 13, 2) := by decide +kernel
theorem dX6_picked_182 : decode cX6_picked 182 = .ok (.iload 13, 2) := by decide +kernel
theorem dX6_picked_184 : decode cX6_picked 184 = .ok (.ifCond .eq 22, 3) := by decide +kernel
theorem dX6_picked_187 : decode cX6_picked 187 = .ok (.aload_n 0, 1) := by decide +kernel
theorem dX6_picked_188 : decode cX6_picked 188 = .ok (.getfield 51, 3) := by decide +kernel
theorem dX6_picked_191 : decode cX6_picked 191 = .ok (.iconst 1, 1) := by decide +kernel
theorem dX6_picked_192 : decode cX6_picked 192 = .ok (.iload 10, 2) := by decide +kernel
theorem dX6_picked_194 : decode cX6_picked 194 = .ok (.iadd, 1) := by decide +kernel
theorem dX6_picked_195 : decode cX6_picked 195 = .ok (.iaload, 1) := by decide +kernel
theorem dX6_picked_196 : decode cX6_picked 196 = .ok (.aload_n 0, 1) := by decide +kernel
theorem dX6_picked_197 : decode cX6_picked 197 = .ok (.getfield 70, 3) := by decide +kernel
theorem dX6_picked_200 : decode cX6_picked 200 = .ok (.iload 10, 2) := by decide +kernel
theorem dX6_picked_202 : decode cX6_picked 202 = .ok (.iaload, 1) := by decide +kernel
theorem dX6_picked_203 : decode cX6_picked 203 = .ok (.if_icmp .ne 6, 3) := by decide +kernel
theorem dX6_picked_206 : decode cX6_picked 206 = .ok (.ldc 241, 2) := by decide +kernel
theorem dX6_picked_208 : decode cX6_picked 208 = .ok (.ireturn, 1) := by decide +kernel
theorem dX6_picked_209 : decode cX6_picked 209 = .ok (.aload_n 0, 1) := by decide +kernel
theorem dX6_picked_210 : decode cX6_picked 210 = .ok (.getfield 70, 3) := by decide +kernel
theorem dX6_picked_213 : decode cX6_picked 213 = .ok (.iload 10, 2) := by decide +kernel
theorem dX6_picked_215 : decode cX6_picked 215 = .ok (.dup2, 1) := by decide +kernel
theorem dX6_picked_216 : decode cX6_picked 216 = .ok (.iaload, 1) := by decide +kernel
theorem dX6_picked_217 : decode cX6_picked 217 = .ok (.iconst 1, 1) := by decide +kernel
theorem dX6_picked_218 : decode cX6_picked 218 = .ok (.iadd, 1) := by decide +kernel
theorem dX6_picked_219 : decode cX6_picked 219 = .ok (.iastore, 1) := by decide +kernel
theorem dX6_picked_220 : decode cX6_picked 220 = .ok (.iload 5, 2) := by decide +kernel
theorem dX6_picked_222 : decode cX6_picked 222 = .ok (.iload 11, 2) := by decide +kernel
theorem dX6_picked_224 : decode cX6_picked 224 = .ok (.ifCond .eq 11, 3) := by decide +kernel
theorem dX6_picked_227 : decode cX6_picked 227 = .ok (.ldc 149, 2) := by decide +kernel
theorem dX6_picked_229 : decode cX6_picked 229 = .ok (.iload 10, 2) := by decide +kernel
theorem dX6_picked_231 : decode cX6_picked 231 = .ok (.idiv, 1) := by decide +kernel
theorem dX6_picked_232 : decode cX6_picked 232 = .ok (.goto 4, 3) := by decide +kernel
theorem dX6_picked_235 : decode cX6_picked 235 = .ok (.iconst 0, 1) := by decide +kernel
theorem dX6_picked_236 : decode cX6_picked 236 = .ok (.isub, 1) := by decide +kernel
theorem dX6_picked_237 : decode cX6_picked 237 = .ok (.istore 5, 2) := by decide +kernel
theorem dX6_picked_239 : decode cX6_picked 239 = .ok (.iload 6, 2) := by decide +kernel
theorem dX6_picked_241 : decode cX6_picked 241 = .ok (.iload 11, 2) := by decide +kernel
theorem dX6_picked_243 : decode cX6_picked 243 = .ok (.ifCond .eq 7, 3) := by decide +kernel
theorem dX6_picked_246 : decode cX6_picked 246 = .ok (.iconst 0, 1) := by decide +kernel
theorem dX6_picked_247 : decode cX6_picked 247 = .ok (.goto 8, 3) := by decide +kernel
theorem dX6_picked_250 : decode cX6_picked 250 = .ok (.ldc 149, 2) := by decide +kernel
theorem dX6_picked_252 : decode cX6_picked 252 = .ok (.iload 10, 2) := by decide +kernel
theorem dX6_picked_254 : decode cX6_picked 254 = .ok (.idiv, 1) := by decide +kernel
theorem dX6_picked_255 : decode cX6_picked 255 = .ok (.isub, 1) := by decide +kernel
theorem dX6_picked_256 : decode cX6_picked 256 = .ok (.istore 6, 2) := by decide +kernel
theorem dX6_picked_258 : decode cX6_picked 258 = .ok (.iload 7, 2) := by decide +kernel
theorem dX6_picked_260 : decode cX6_picked 260 = .ok (.iload 11, 2) := by decide +kernel
theorem dX6_picked_262 : decode cX6_picked 262 = .ok (.ifCond .eq 10, 3) := by decide +kernel
theorem dX6_picked_265 : decode cX6_picked 265 = .ok (.iconst 1, 1) := by decide +kernel
theorem dX6_picked_266 : decode cX6_picked 266 = .ok (.iload 10, 2) := by decide +kernel
theorem dX6_picked_268 : decode cX6_picked 268 = .ok (.ishl, 1) := by decide +kernel
theorem dX6_picked_269 : decode cX6_picked 269 = .ok (.goto 4, 3) := by decide +kernel
theorem dX6_picked_272 : decode cX6_picked 272 = .ok (.iconst 0, 1) := by decide +kernel
theorem dX6_picked_273 : decode cX6_picked 273 = .ok (.ior, 1) := by decide +kernel
theorem dX6_picked_274 : decode cX6_picked 274 = .ok (.istore 7, 2) := by decide +kernel
theorem dX6_picked_276 : decode cX6_picked 276 = .ok (.iload 8, 2) := by decide +kernel
theorem dX6_picked_278 : decode cX6_picked 278 = .ok (.iload 11, 2) := by decide +kernel
theorem dX6_picked_280 : decode cX6_picked 280 = .ok (.ifCond .eq 7, 3) := by decide +kernel
theorem dX6_picked_283 : decode cX6_picked 283 = .ok (.iconst 0, 1) := by decide +kernel
theorem dX6_picked_284 : decode cX6_picked 284 = .ok (.goto 7, 3) := by decide +kernel
theorem dX6_picked_287 : decode cX6_picked 287 = .ok (.iconst 1, 1) := by decide +kernel
theorem dX6_picked_288 : decode cX6_picked 288 = .ok (.iload 10, 2) := by decide +kernel
theorem dX6_picked_290 : decode cX6_picked 290 = .ok (.ishl, 1) := by decide +kernel
theorem dX6_picked_291 : decode cX6_picked 291 = .ok (.ior, 1) := by decide +kernel
theorem dX6_picked_292 : decode cX6_picked 292 = .ok (.istore 8, 2) := by decide +kernel
theorem dX6_picked_294 : decode cX6_picked 294 = .ok (.iinc 9 1, 3) := by decide +kernel
theorem dX6_picked_297 : decode cX6_picked 297 = .ok (.goto (-234), 3) := by decide +kernel
theorem dX6_picked_300 : decode cX6_picked 300 = .ok (.aload_n 0, 1) := by decide +kernel
theorem dX6_picked_301 : decode cX6_picked 301 = .ok (.iload_n 1, 1) := by decide +kernel
theorem dX6_picked_302 : decode cX6_picked 302 = .ok (.invokevirtual 150, 3) := by decide +kernel
theorem dX6_picked_305 : decode cX6_picked 305 = .ok (.iload 5, 2) := by decide +kernel
theorem dX6_picked_307 : decode cX6_picked 307 = .ok (.isub, 1) := by decide +kernel
theorem dX6_picked_308 : decode cX6_picked 308 = .ok (.aload_n 0, 1) := by decide +kernel
theorem dX6_picked_309 : decode cX6_picked 309 = .ok (.iload_n 2, 1) := by decide +kernel
theorem dX6_picked_310 : decode cX6_picked 310 = .ok (.invokevirtual 150, 3) := by decide +kernel
theorem dX6_picked_313 : decode cX6_picked 313 = .ok (.isub, 1) := by decide +kernel
theorem dX6_picked_314 : decode cX6_picked 314 = .ok (.iload 6, 2) := by decide +kernel
theorem dX6_picked_316 : decode cX6_picked 316 = .ok (.iadd, 1) := by decide +kernel
theorem dX6_picked_317 : decode cX6_picked 317 = .ok (.ireturn, 1) := by decide +kernel
set_option maxRecDepth 20000 in
theorem ggX6_duel_X6_isWorker : GoodIn wsX6_duel wsX6_isWorker := goodIn_r _ [7, 8, 9, 10, 6, 11, 39, 40, 41, 42, 43, 44, 45, 46, 47, 48, 49, 50, 51, 52, 53, 54, 55, 56, 57, 58, 59, 60, 61, 62, 63, 64, 65, 66, 67, 68, 69, 70, 71, 72] (by decide +kernel) (by decide +kernel)
set_option maxRecDepth 20000 in
theorem gX6_duel_X6_isWorker : GoodIn wsX6_duel (wsV RX6 165 RX6 yX6_isWorker wsX6_isWorker) := goodIn_app (goodIn_of _ (by decide +kernel)) ggX6_duel_X6_isWorker
set_option maxRecDepth 20000 in
theorem ggX6_duel_X6_in : GoodIn wsX6_duel wsX6_in := goodIn_r _ [11] (by decide +kernel) (by decide +kernel)
set_option maxRecDepth 20000 in
theorem gX6_duel_X6_in : GoodIn wsX6_duel (va_wsS RX6 83 yX6_in wsX6_in) := goodIn_app (goodIn_of _ (by decide +kernel)) ggX6_duel_X6_in
set_option maxRecDepth 20000 in
theorem ggX6_duel_X6_picked : GoodIn wsX6_duel wsX6_picked := goodIn_r _ [15, 16, 17, 18, 19, 2, 20, 21, 22, 6, 23, 24, 25, 26, 27, 28, 29, 30, 31, 32, 33, 34, 35, 36, 37, 38, 39, 40, 41, 42, 43, 44, 45, 46, 47, 48, 49, 50, 51, 52, 53, 54, 55, 56, 57, 58, 59, 60, 61, 62, 63, 64, 65, 66, 67, 68, 69, 70, 71, 72] (by decide +kernel) (by decide +kernel)
set_option maxRecDepth 20000 in
theorem gX6_duel_X6_picked : GoodIn wsX6_duel (wsV RX6 242 RX6 yX6_picked wsX6_picked) := goodIn_app (goodIn_of _ (by decide +kernel)) ggX6_duel_X6_picked
theorem dX6_duel_0 : decode cX6_duel 0 = .ok (.aload_n 0, 1) := by decide +kernel
theorem dX6_duel_1 : decode cX6_duel 1 = .ok (.iload_n 1, 1) := by decide +kernel
theorem dX6_duel_2 : decode cX6_duel 2 = .ok (.invokevirtual 165, 3) := by decide +kernel
theorem dX6_duel_5 : decode cX6_duel 5 = .ok (.ifCond .eq 25, 3) := by decide +kernel
theorem dX6_duel_8 : decode cX6_duel 8 = .ok (.aload_n 0, 1) := by decide +kernel
theorem dX6_duel_9 : decode cX6_duel 9 = .ok (.iload_n 2, 1) := by decide +kernel
theorem dX6_duel_10 : decode cX6_duel 10 = .ok (.invokevirtual 165, 3) := by decide +kernel
theorem dX6_duel_13 : decode cX6_duel 13 = .ok (.ifCond .eq 17, 3) := by decide +kernel
theorem dX6_duel_16 : decode cX6_duel 16 = .ok (.iload_n 1, 1) := by decide +kernel
theorem dX6_duel_17 : decode cX6_duel 17 = .ok (.iload_n 2, 1) := by decide +kernel
theorem dX6_duel_18 : decode cX6_duel 18 = .ok (.if_icmp .eq 12, 3) := by decide +kernel
theorem dX6_duel_21 : decode cX6_duel 21 = .ok (.iload_n 3, 1) := by decide +kernel
theorem dX6_duel_22 : decode cX6_duel 22 = .ok (.iconst 0, 1) := by decide +kernel
theorem dX6_duel_23 : decode cX6_duel 23 = .ok (.iconst 4, 1) := by decide +kernel
theorem dX6_duel_24 : decode cX6_duel 24 = .ok (.invokestatic 83, 3) := by decide +kernel
theorem dX6_duel_27 : decode cX6_duel 27 = .ok (.ifCond .ne 5, 3) := by decide +kernel
theorem dX6_duel_30 : decode cX6_duel 30 = .ok (.iconst (-1), 1) := by decide +kernel
theorem dX6_duel_31 : decode cX6_duel 31 = .ok (.ireturn, 1) := by decide +kernel
theorem dX6_duel_32 : decode cX6_duel 32 = .ok (.iconst 1, 1) := by decide +kernel
theorem dX6_duel_33 : decode cX6_duel 33 = .ok (.iconst 4, 1) := by decide +kernel
theorem dX6_duel_34 : decode cX6_duel 34 = .ok (.iload_n 3, 1) := by decide +kernel
theorem dX6_duel_35 : decode cX6_duel 35 = .ok (.imul, 1) := by decide +kernel
theorem dX6_duel_36 : decode cX6_duel 36 = .ok (.ishl, 1) := by decide +kernel
theorem dX6_duel_37 : decode cX6_duel 37 = .ok (.istore 4, 2) := by decide +kernel
theorem dX6_duel_39 : decode cX6_duel 39 = .ok (.iconst 0, 1) := by decide +kernel
theorem dX6_duel_40 : decode cX6_duel 40 = .ok (.istore 5, 2) := by decide +kernel
theorem dX6_duel_42 : decode cX6_duel 42 = .ok (.iload 5, 2) := by decide +kernel
theorem dX6_duel_44 : decode cX6_duel 44 = .ok (.iload 4, 2) := by decide +kernel
theorem dX6_duel_46 : decode cX6_duel 46 = .ok (.if_icmp .ge 25, 3) := by decide +kernel
theorem dX6_duel_49 : decode cX6_duel 49 = .ok (.aload_n 0, 1) := by decide +kernel
theorem dX6_duel_50 : decode cX6_duel 50 = .ok (.getfield 67, 3) := by decide +kernel
theorem dX6_duel_53 : decode cX6_duel 53 = .ok (.iload 5, 2) := by decide +kernel
theorem dX6_duel_55 : decode cX6_duel 55 = .ok (.aload_n 0, 1) := by decide +kernel
theorem dX6_duel_56 : decode cX6_duel 56 = .ok (.iload_n 1, 1) := by decide +kernel
theorem dX6_duel_57 : decode cX6_duel 57 = .ok (.iload_n 2, 1) := by decide +kernel
theorem dX6_duel_58 : decode cX6_duel 58 = .ok (.iload 5, 2) := by decide +kernel
theorem dX6_duel_60 : decode cX6_duel 60 = .ok (.iload_n 3, 1) := by decide +kernel
theorem dX6_duel_61 : decode cX6_duel 61 = .ok (.invokevirtual 242, 3) := by decide +kernel
theorem dX6_duel_64 : decode cX6_duel 64 = .ok (.iastore, 1) := by decide +kernel
theorem dX6_duel_65 : decode cX6_duel 65 = .ok (.iinc 5 1, 3) := by decide +kernel
theorem dX6_duel_68 : decode cX6_duel 68 = .ok (.goto (-26), 3) := by decide +kernel
theorem dX6_duel_71 : decode cX6_duel 71 = .ok (.iload_n 3, 1) := by decide +kernel
theorem dX6_duel_72 : decode cX6_duel 72 = .ok (.iconst 1, 1) := by decide +kernel
theorem dX6_duel_73 : decode cX6_duel 73 = .ok (.isub, 1) := by decide +kernel
theorem dX6_duel_74 : decode cX6_duel 74 = .ok (.istore 5, 2) := by decide +kernel
theorem dX6_duel_76 : decode cX6_duel 76 = .ok (.iload 5, 2) := by decide +kernel
theorem dX6_duel_78 : decode cX6_duel 78 = .ok (.ifCond .lt 135, 3) := by decide +kernel
theorem dX6_duel_81 : decode cX6_duel 81 = .ok (.iload 4, 2) := by decide +kernel
theorem dX6_duel_83 : decode cX6_duel 83 = .ok (.bipush 16, 2) := by decide +kernel
theorem dX6_duel_85 : decode cX6_duel 85 = .ok (.idiv, 1) := by decide +kernel
theorem dX6_duel_86 : decode cX6_duel 86 = .ok (.istore 4, 2) := by decide +kernel
theorem dX6_duel_88 : decode cX6_duel 88 = .ok (.iconst 0, 1) := by decide +kernel
theorem dX6_duel_89 : decode cX6_duel 89 = .ok (.istore 6, 2) := by decide +kernel
theorem dX6_duel_91 : decode cX6_duel 91 = .ok (.iload 6, 2) := by decide +kernel
theorem dX6_duel_93 : decode cX6_duel 93 = .ok (.iload 4, 2) := by decide +kernel
theorem dX6_duel_95 : decode cX6_duel 95 = .ok (.if_icmp .ge 112, 3) := by decide +kernel
theorem dX6_duel_98 : decode cX6_duel 98 = .ok (.ldc 241, 2) := by decide +kernel
theorem dX6_duel_100 : decode cX6_duel 100 = .ok (.istore 7, 2) := by decide +kernel
theorem dX6_duel_102 : decode cX6_duel 102 = .ok (.iconst 0, 1) := by decide +kernel
theorem dX6_duel_103 : decode cX6_duel 103 = .ok (.istore 8, 2) := by decide +kernel
theorem dX6_duel_105 : decode cX6_duel 105 = .ok (.iload 8, 2) := by decide +kernel
theorem dX6_duel_107 : decode cX6_duel 107 = .ok (.bipush 16, 2) := by decide +kernel
theorem dX6_duel_109 : decode cX6_duel 109 = .ok (.if_icmp .ge 83, 3) := by decide +kernel
theorem dX6_duel_112 : decode cX6_duel 112 = .ok (.aload_n 0, 1) := by decide +kernel
theorem dX6_duel_113 : decode cX6_duel 113 = .ok (.getfield 67, 3) := by decide +kernel
theorem dX6_duel_116 : decode cX6_duel 116 = .ok (.bipush 16, 2) := by decide +kernel
theorem dX6_duel_118 : decode cX6_duel 118 = .ok (.iload 6, 2) := by decide +kernel
theorem dX6_duel_120 : decode cX6_duel 120 = .ok (.imul, 1) := by decide +kernel
theorem dX6_duel_121 : decode cX6_duel 121 = .ok (.iload 8, 2) := by decide +kernel
theorem dX6_duel_123 : decode cX6_duel 123 = .ok (.iadd, 1) := by decide +kernel
theorem dX6_duel_124 : decode cX6_duel 124 = .ok (.iaload, 1) := by decide +kernel
theorem dX6_duel_125 : decode cX6_duel 125 = .ok (.istore 9, 2) := by decide +kernel
theorem dX6_duel_127 : decode cX6_duel 127 = .ok (.iload 9, 2) := by decide +kernel
theorem dX6_duel_129 : decode cX6_duel 129 = .ok (.ldc 241, 2) := by decide +kernel
theorem dX6_duel_131 : decode cX6_duel 131 = .ok (.if_icmp .eq 38, 3) := by decide +kernel
theorem dX6_duel_134 : decode cX6_duel 134 = .ok (.iload 7, 2) := by decide +kernel
theorem dX6_duel_136 : decode cX6_duel 136 = .ok (.ldc 241, 2) := by decide +kernel
theorem dX6_duel_138 : decode cX6_duel 138 = .ok (.if_icmp .eq 27, 3) := by decide +kernel
theorem dX6_duel_141 : decode cX6_duel 141 = .ok (.iload 5, 2) := by decide +kernel
theorem dX6_duel_143 : decode cX6_duel 143 = .ok (.iconst 2, 1) := by decide +kernel
theorem dX6_duel_144 : decode cX6_duel 144 = .ok (.irem, 1) := by decide +kernel
theorem dX6_duel_145 : decode cX6_duel 145 = .ok (.ifCond .ne 13, 3) := by decide +kernel
theorem dX6_duel_148 : decode cX6_duel 148 = .ok (.iload 9, 2) := by decide +kernel
theorem dX6_duel_150 : decode cX6_duel 150 = .ok (.iload 7, 2) := by decide +kernel
theorem dX6_duel_152 : decode cX6_duel 152 = .ok (.if_icmp .le 17, 3) := by decide +kernel
theorem dX6_duel_155 : decode cX6_duel 155 = .ok (.goto 10, 3) := by decide +kernel
theorem dX6_duel_158 : decode cX6_duel 158 = .ok (.iload 9, 2) := by decide +kernel
theorem dX6_duel_160 : decode cX6_duel 160 = .ok (.iload 7, 2) := by decide +kernel
theorem dX6_duel_162 : decode cX6_duel 162 = .ok (.if_icmp .ge 7, 3) := by decide +kernel
theorem dX6_duel_165 : decode cX6_duel 165 = .ok (.iconst 1, 1) := by decide +kernel
theorem dX6_duel_166 : decode cX6_duel 166 = .ok (.goto 4, 3) := by decide +kernel
theorem dX6_duel_169 : decode cX6_duel 169 = .ok (.iconst 0, 1) := by decide +kernel
theorem dX6_duel_170 : decode cX6_duel 170 = .ok (.istore 10, 2) := by decide +kernel
theorem dX6_duel_172 : decode cX6_duel 172 = .ok (.iload 10, 2) := by decide +kernel
theorem dX6_duel_174 : decode cX6_duel 174 = .ok (.ifCond .eq 8, 3) := by decide +kernel
theorem dX6_duel_177 : decode cX6_duel 177 = .ok (.iload 9, 2) := by decide +kernel
theorem dX6_duel_179 : decode cX6_duel 179 = .ok (.goto 5, 3) := by decide +kernel
theorem dX6_duel_182 : decode cX6_duel 182 = .ok (.iload 7, 2) := by decide +kernel
theorem dX6_duel_184 : decode cX6_duel 184 = .ok (.istore 7, 2) := by decide +kernel
theorem dX6_duel_186 : decode cX6_duel 186 = .ok (.iinc 8 1, 3) := by decide +kernel
theorem dX6_duel_189 : decode cX6_duel 189 = .ok (.goto (-84), 3) := by decide +kernel
theorem dX6_duel_192 : decode cX6_duel 192 = .ok (.aload_n 0, 1) := by decide +kernel
theorem dX6_duel_193 : decode cX6_duel 193 = .ok (.getfield 67, 3) := by decide +kernel
theorem dX6_duel_196 : decode cX6_duel 196 = .ok (.iload 6, 2) := by decide +kernel
theorem dX6_duel_198 : decode cX6_duel 198 = .ok (.iload 7, 2) := by decide +kernel
theorem dX6_duel_200 : decode cX6_duel 200 = .ok (.iastore, 1) := by decide +kernel
theorem dX6_duel_201 : decode cX6_duel 201 = .ok (.iinc 6 1, 3) := by decide +kernel
theorem dX6_duel_204 : decode cX6_duel 204 = .ok (.goto (-113), 3) := by decide +kernel
theorem dX6_duel_207 : decode cX6_duel 207 = .ok (.iinc 5 (-1), 3) := by decide +kernel
theorem dX6_duel_210 : decode cX6_duel 210 = .ok (.goto (-134), 3) := by decide +kernel
theorem dX6_duel_213 : decode cX6_duel 213 = .ok (.aload_n 0, 1) := by decide +kernel
theorem dX6_duel_214 : decode cX6_duel 214 = .ok (.getfield 67, 3) := by decide +kernel
theorem dX6_duel_217 : decode cX6_duel 217 = .ok (.iconst 0, 1) := by decide +kernel
theorem dX6_duel_218 : decode cX6_duel 218 = .ok (.iaload, 1) := by decide +kernel
theorem dX6_duel_219 : decode cX6_duel 219 = .ok (.istore 5, 2) := by decide +kernel
theorem dX6_duel_221 : decode cX6_duel 221 = .ok (.iload 5, 2) := by decide +kernel
theorem dX6_duel_223 : decode cX6_duel 223 = .ok (.ifCond .lt 12, 3) := by decide +kernel
theorem dX6_duel_226 : decode cX6_duel 226 = .ok (.iload 5, 2) := by decide +kernel
theorem dX6_duel_228 : decode cX6_duel 228 = .ok (.sipush 1000, 3) := by decide +kernel
theorem dX6_duel_231 : decode cX6_duel 231 = .ok (.idiv, 1) := by decide +kernel
theorem dX6_duel_232 : decode cX6_duel 232 = .ok (.goto 14, 3) := by decide +kernel
theorem dX6_duel_235 : decode cX6_duel 235 = .ok (.sipush 999, 3) := by decide +kernel
theorem dX6_duel_238 : decode cX6_duel 238 = .ok (.iload 5, 2) := by decide +kernel
theorem dX6_duel_240 : decode cX6_duel 240 = .ok (.isub, 1) := by decide +kernel
theorem dX6_duel_241 : decode cX6_duel 241 = .ok (.sipush 1000, 3) := by decide +kernel
theorem dX6_duel_244 : decode cX6_duel 244 = .ok (.idiv, 1) := by decide +kernel
theorem dX6_duel_245 : decode cX6_duel 245 = .ok (.ineg, 1) := by decide +kernel
theorem dX6_duel_246 : decode cX6_duel 246 = .ok (.sipush 5000, 3) := by decide +kernel
theorem dX6_duel_249 : decode cX6_duel 249 = .ok (.iadd, 1) := by decide +kernel
theorem dX6_duel_250 : decode cX6_duel 250 = .ok (.ireturn, 1) := by decide +kernel
set_option maxRecDepth 20000 in
theorem ggX6_odds_X6_isWorker : GoodIn wsX6_odds wsX6_isWorker := goodIn_r _ [7, 8, 9, 10, 6, 11, 34, 35, 36, 37, 38, 39, 40, 41, 42, 43, 44, 45, 46, 47, 48, 49, 50, 51, 52, 53, 54, 55, 56, 57, 58, 59, 60, 61, 62, 63, 64, 65, 66, 67] (by decide +kernel) (by decide +kernel)
set_option maxRecDepth 20000 in
theorem gX6_odds_X6_isWorker : GoodIn wsX6_odds (wsV RX6 165 RX6 yX6_isWorker wsX6_isWorker) := goodIn_app (goodIn_of _ (by decide +kernel)) ggX6_odds_X6_isWorker
set_option maxRecDepth 20000 in
theorem ggX6_odds_X6_in : GoodIn wsX6_odds wsX6_in := goodIn_r _ [11] (by decide +kernel) (by decide +kernel)
set_option maxRecDepth 20000 in
theorem gX6_odds_X6_in : GoodIn wsX6_odds (va_wsS RX6 83 yX6_in wsX6_in) := goodIn_app (goodIn_of _ (by decide +kernel)) ggX6_odds_X6_in
set_option maxRecDepth 20000 in
theorem ggX6_odds_X6_bits : GoodIn wsX6_odds wsX6_bits := goodIn_r _ [14] (by decide +kernel) (by decide +kernel)
set_option maxRecDepth 20000 in
theorem gX6_odds_X6_bits : GoodIn wsX6_odds (va_wsS RX6 177 yX6_bits wsX6_bits) := goodIn_app (goodIn_of _ (by decide +kernel)) ggX6_odds_X6_bits
set_option maxRecDepth 20000 in
theorem ggX6_odds_X6_sumOf : GoodIn wsX6_odds wsX6_sumOf := goodIn_r _ [17, 18, 19, 20, 6, 21] (by decide +kernel) (by decide +kernel)
set_option maxRecDepth 20000 in
theorem gX6_odds_X6_sumOf : GoodIn wsX6_odds (va_wsS RX6 153 yX6_sumOf wsX6_sumOf) := goodIn_app (goodIn_of _ (by decide +kernel)) ggX6_odds_X6_sumOf
set_option maxRecDepth 20000 in
theorem ggX6_odds_X6_due : GoodIn wsX6_odds wsX6_due := goodIn_r _ [25, 18, 26, 27, 34, 35, 36, 37, 38, 39, 40, 41, 42, 43, 44, 45, 46, 47, 48, 49, 50, 51, 52, 53, 54, 55, 56, 57, 58, 59, 60, 61, 62, 63, 64, 65, 66, 67] (by decide +kernel) (by decide +kernel)
set_option maxRecDepth 20000 in
theorem gX6_odds_X6_due : GoodIn wsX6_odds (wsV RX6 150 RX6 yX6_due wsX6_due) := goodIn_app (goodIn_of _ (by decide +kernel)) ggX6_odds_X6_due
set_option maxRecDepth 20000 in
theorem ggX6_odds_X6_has : GoodIn wsX6_odds wsX6_has := goodIn_r _ [21] (by decide +kernel) (by decide +kernel)
set_option maxRecDepth 20000 in
theorem gX6_odds_X6_has : GoodIn wsX6_odds (va_wsS RX6 146 yX6_has wsX6_has) := goodIn_app (goodIn_of _ (by decide +kernel)) ggX6_odds_X6_has
set_option maxRecDepth 20000 in
theorem ggX6_odds_X6_lowest : GoodIn wsX6_odds wsX6_lowest := goodIn_r _ [31, 32, 33, 34, 35, 36, 37, 38, 39, 40, 41, 42, 43, 44, 45, 46, 47, 48, 49, 50, 51, 52, 53, 54, 55, 56, 57, 58, 59, 60, 61, 62, 63, 64, 65, 66, 67] (by decide +kernel) (by decide +kernel)
set_option maxRecDepth 20000 in
theorem gX6_odds_X6_lowest : GoodIn wsX6_odds (wsV RX6 203 RX6 yX6_lowest wsX6_lowest) := goodIn_app (goodIn_of _ (by decide +kernel)) ggX6_odds_X6_lowest
theorem dX6_odds_0 : decode cX6_odds 0 = .ok (.aload_n 0, 1) := by decide +kernel
theorem dX6_odds_1 : decode cX6_odds 1 = .ok (.iload_n 1, 1) := by decide +kernel
theorem dX6_odds_2 : decode cX6_odds 2 = .ok (.invokevirtual 165, 3) := by decide +kernel
theorem dX6_odds_5 : decode cX6_odds 5 = .ok (.ifCond .eq 13, 3) := by decide +kernel
theorem dX6_odds_8 : decode cX6_odds 8 = .ok (.iload_n 2, 1) := by decide +kernel
theorem dX6_odds_9 : decode cX6_odds 9 = .ok (.iconst 0, 1) := by decide +kernel
theorem dX6_odds_10 : decode cX6_odds 10 = .ok (.bipush 12, 2) := by decide +kernel
theorem dX6_odds_12 : decode cX6_odds 12 = .ok (.invokestatic 83, 3) := by decide +kernel
theorem dX6_odds_15 : decode cX6_odds 15 = .ok (.ifCond .ne 5, 3) := by decide +kernel
theorem dX6_odds_18 : decode cX6_odds 18 = .ok (.iconst (-1), 1) := by decide +kernel
theorem dX6_odds_19 : decode cX6_odds 19 = .ok (.ireturn, 1) := by decide +kernel
theorem dX6_odds_20 : decode cX6_odds 20 = .ok (.aload_n 0, 1) := by decide +kernel
theorem dX6_odds_21 : decode cX6_odds 21 = .ok (.getfield 51, 3) := by decide +kernel
theorem dX6_odds_24 : decode cX6_odds 24 = .ok (.bipush 18, 2) := by decide +kernel
theorem dX6_odds_26 : decode cX6_odds 26 = .ok (.iload_n 1, 1) := by decide +kernel
theorem dX6_odds_27 : decode cX6_odds 27 = .ok (.iadd, 1) := by decide +kernel
theorem dX6_odds_28 : decode cX6_odds 28 = .ok (.iaload, 1) := by decide +kernel
theorem dX6_odds_29 : decode cX6_odds 29 = .ok (.istore_n 3, 1) := by decide +kernel
theorem dX6_odds_30 : decode cX6_odds 30 = .ok (.lconst 1, 1) := by decide +kernel
theorem dX6_odds_31 : decode cX6_odds 31 = .ok (.lstore 4, 2) := by decide +kernel
theorem dX6_odds_33 : decode cX6_odds 33 = .ok (.iconst 0, 1) := by decide +kernel
theorem dX6_odds_34 : decode cX6_odds 34 = .ok (.istore 6, 2) := by decide +kernel
theorem dX6_odds_36 : decode cX6_odds 36 = .ok (.iload 6, 2) := by decide +kernel
theorem dX6_odds_38 : decode cX6_odds 38 = .ok (.iload_n 3, 1) := by decide +kernel
theorem dX6_odds_39 : decode cX6_odds 39 = .ok (.invokestatic 177, 3) := by decide +kernel
theorem dX6_odds_42 : decode cX6_odds 42 = .ok (.if_icmp .ge 17, 3) := by decide +kernel
theorem dX6_odds_45 : decode cX6_odds 45 = .ok (.lload 4, 2) := by decide +kernel
theorem dX6_odds_47 : decode cX6_odds 47 = .ok (.ldc2_w 246, 3) := by decide +kernel
theorem dX6_odds_50 : decode cX6_odds 50 = .ok (.lmul, 1) := by decide +kernel
theorem dX6_odds_51 : decode cX6_odds 51 = .ok (.lstore 4, 2) := by decide +kernel
theorem dX6_odds_53 : decode cX6_odds 53 = .ok (.iinc 6 1, 3) := by decide +kernel
theorem dX6_odds_56 : decode cX6_odds 56 = .ok (.goto (-20), 3) := by decide +kernel
theorem dX6_odds_59 : decode cX6_odds 59 = .ok (.lconst 0, 1) := by decide +kernel
theorem dX6_odds_60 : decode cX6_odds 60 = .ok (.lstore 6, 2) := by decide +kernel
theorem dX6_odds_62 : decode cX6_odds 62 = .ok (.iconst 0, 1) := by decide +kernel
theorem dX6_odds_63 : decode cX6_odds 63 = .ok (.istore 8, 2) := by decide +kernel
theorem dX6_odds_65 : decode cX6_odds 65 = .ok (.iconst 2, 1) := by decide +kernel
theorem dX6_odds_66 : decode cX6_odds 66 = .ok (.iload 8, 2) := by decide +kernel
theorem dX6_odds_68 : decode cX6_odds 68 = .ok (.invokestatic 153, 3) := by decide +kernel
theorem dX6_odds_71 : decode cX6_odds 71 = .ok (.imul, 1) := by decide +kernel
theorem dX6_odds_72 : decode cX6_odds 72 = .ok (.aload_n 0, 1) := by decide +kernel
theorem dX6_odds_73 : decode cX6_odds 73 = .ok (.iload_n 1, 1) := by decide +kernel
theorem dX6_odds_74 : decode cX6_odds 74 = .ok (.invokevirtual 150, 3) := by decide +kernel
theorem dX6_odds_77 : decode cX6_odds 77 = .ok (.if_icmp .lt 7, 3) := by decide +kernel
theorem dX6_odds_80 : decode cX6_odds 80 = .ok (.lconst 1, 1) := by decide +kernel
theorem dX6_odds_81 : decode cX6_odds 81 = .ok (.goto 4, 3) := by decide +kernel
theorem dX6_odds_84 : decode cX6_odds 84 = .ok (.lconst 0, 1) := by decide +kernel
theorem dX6_odds_85 : decode cX6_odds 85 = .ok (.lstore 9, 2) := by decide +kernel
theorem dX6_odds_87 : decode cX6_odds 87 = .ok (.iconst 2, 1) := by decide +kernel
theorem dX6_odds_88 : decode cX6_odds 88 = .ok (.istore 11, 2) := by decide +kernel
theorem dX6_odds_90 : decode cX6_odds 90 = .ok (.iload 11, 2) := by decide +kernel
theorem dX6_odds_92 : decode cX6_odds 92 = .ok (.bipush 16, 2) := by decide +kernel
theorem dX6_odds_94 : decode cX6_odds 94 = .ok (.if_icmp .gt 54, 3) := by decide +kernel
theorem dX6_odds_97 : decode cX6_odds 97 = .ok (.lload 9, 2) := by decide +kernel
theorem dX6_odds_99 : decode cX6_odds 99 = .ok (.lconst 0, 1) := by decide +kernel
theorem dX6_odds_100 : decode cX6_odds 100 = .ok (.lcmp, 1) := by decide +kernel
theorem dX6_odds_101 : decode cX6_odds 101 = .ok (.ifCond .le 47, 3) := by decide +kernel
theorem dX6_odds_104 : decode cX6_odds 104 = .ok (.lload 9, 2) := by decide +kernel
theorem dX6_odds_106 : decode cX6_odds 106 = .ok (.iload_n 3, 1) := by decide +kernel
theorem dX6_odds_107 : decode cX6_odds 107 = .ok (.iload 11, 2) := by decide +kernel
theorem dX6_odds_109 : decode cX6_odds 109 = .ok (.invokestatic 146, 3) := by decide +kernel
theorem dX6_odds_112 : decode cX6_odds 112 = .ok (.ifCond .ne 7, 3) := by decide +kernel
theorem dX6_odds_115 : decode cX6_odds 115 = .ok (.lconst 1, 1) := by decide +kernel
theorem dX6_odds_116 : decode cX6_odds 116 = .ok (.goto 23, 3) := by decide +kernel
theorem dX6_odds_119 : decode cX6_odds 119 = .ok (.iload 8, 2) := by decide +kernel
theorem dX6_odds_121 : decode cX6_odds 121 = .ok (.iload 11, 2) := by decide +kernel
theorem dX6_odds_123 : decode cX6_odds 123 = .ok (.invokestatic 146, 3) := by decide +kernel
theorem dX6_odds_126 : decode cX6_odds 126 = .ok (.ifCond .eq 11, 3) := by decide +kernel
theorem dX6_odds_129 : decode cX6_odds 129 = .ok (.bipush 12, 2) := by decide +kernel
theorem dX6_odds_131 : decode cX6_odds 131 = .ok (.iload_n 2, 1) := by decide +kernel
theorem dX6_odds_132 : decode cX6_odds 132 = .ok (.isub, 1) := by decide +kernel
theorem dX6_odds_133 : decode cX6_odds 133 = .ok (.i2l, 1) := by decide +kernel
theorem dX6_odds_134 : decode cX6_odds 134 = .ok (.goto 5, 3) := by decide +kernel
theorem dX6_odds_137 : decode cX6_odds 137 = .ok (.iload_n 2, 1) := by decide +kernel
theorem dX6_odds_138 : decode cX6_odds 138 = .ok (.i2l, 1) := by decide +kernel
theorem dX6_odds_139 : decode cX6_odds 139 = .ok (.lmul, 1) := by decide +kernel
theorem dX6_odds_140 : decode cX6_odds 140 = .ok (.lstore 9, 2) := by decide +kernel
theorem dX6_odds_142 : decode cX6_odds 142 = .ok (.iinc 11 1, 3) := by decide +kernel
theorem dX6_odds_145 : decode cX6_odds 145 = .ok (.goto (-55), 3) := by decide +kernel
theorem dX6_odds_148 : decode cX6_odds 148 = .ok (.lload 6, 2) := by decide +kernel
theorem dX6_odds_150 : decode cX6_odds 150 = .ok (.lload 9, 2) := by decide +kernel
theorem dX6_odds_152 : decode cX6_odds 152 = .ok (.ladd, 1) := by decide +kernel
theorem dX6_odds_153 : decode cX6_odds 153 = .ok (.lstore 6, 2) := by decide +kernel
theorem dX6_odds_155 : decode cX6_odds 155 = .ok (.iload 8, 2) := by decide +kernel
theorem dX6_odds_157 : decode cX6_odds 157 = .ok (.iload_n 3, 1) := by decide +kernel
theorem dX6_odds_158 : decode cX6_odds 158 = .ok (.isub, 1) := by decide +kernel
theorem dX6_odds_159 : decode cX6_odds 159 = .ok (.iload_n 3, 1) := by decide +kernel
theorem dX6_odds_160 : decode cX6_odds 160 = .ok (.iand, 1) := by decide +kernel
theorem dX6_odds_161 : decode cX6_odds 161 = .ok (.istore 8, 2) := by decide +kernel
theorem dX6_odds_163 : decode cX6_odds 163 = .ok (.iload 8, 2) := by decide +kernel
theorem dX6_odds_165 : decode cX6_odds 165 = .ok (.ifCond .ne (-100), 3) := by decide +kernel
theorem dX6_odds_168 : decode cX6_odds 168 = .ok (.aload_n 0, 1) := by decide +kernel
theorem dX6_odds_169 : decode cX6_odds 169 = .ok (.lload 6, 2) := by decide +kernel
theorem dX6_odds_171 : decode cX6_odds 171 = .ok (.lload 4, 2) := by decide +kernel
theorem dX6_odds_173 : decode cX6_odds 173 = .ok (.iconst 1, 1) := by decide +kernel
theorem dX6_odds_174 : decode cX6_odds 174 = .ok (.invokevirtual 203, 3) := by decide +kernel
theorem dX6_odds_177 : decode cX6_odds 177 = .ok (.ireturn, 1) := by decide +kernel
set_option maxRecDepth 20000 in
theorem ggX6_mid_X6_isWorker : GoodIn wsX6_mid wsX6_isWorker := goodIn_r _ [8, 9, 10, 11, 7, 12, 26, 27, 28, 29, 30, 31, 32, 33, 34, 35, 36, 37, 38, 39, 40, 41, 42, 43, 44, 45, 46, 47, 48, 49, 50, 51, 52, 53, 54, 55, 56, 57, 58, 59] (by decide +kernel) (by decide +kernel)
set_option maxRecDepth 20000 in
theorem gX6_mid_X6_isWorker : GoodIn wsX6_mid (wsV RX6 165 RX6 yX6_isWorker wsX6_isWorker) := goodIn_app (goodIn_of _ (by decide +kernel)) ggX6_mid_X6_isWorker
set_option maxRecDepth 20000 in
theorem ggX6_mid_X6_in : GoodIn wsX6_mid wsX6_in := goodIn_r _ [12] (by decide +kernel) (by decide +kernel)
set_option maxRecDepth 20000 in
theorem gX6_mid_X6_in : GoodIn wsX6_mid (va_wsS RX6 83 yX6_in wsX6_in) := goodIn_app (goodIn_of _ (by decide +kernel)) ggX6_mid_X6_in
set_option maxRecDepth 20000 in
theorem ggX6_mid_X6_sumOf : GoodIn wsX6_mid wsX6_sumOf := goodIn_r _ [15, 16, 17, 18, 7, 19] (by decide +kernel) (by decide +kernel)
set_option maxRecDepth 20000 in
theorem gX6_mid_X6_sumOf : GoodIn wsX6_mid (va_wsS RX6 153 yX6_sumOf wsX6_sumOf) := goodIn_app (goodIn_of _ (by decide +kernel)) ggX6_mid_X6_sumOf
set_option maxRecDepth 20000 in
theorem ggX6_mid_X6_lowest : GoodIn wsX6_mid wsX6_lowest := goodIn_r _ [23, 24, 25, 26, 27, 28, 29, 30, 31, 32, 33, 34, 35, 36, 37, 38, 39, 40, 41, 42, 43, 44, 45, 46, 47, 48, 49, 50, 51, 52, 53, 54, 55, 56, 57, 58, 59] (by decide +kernel) (by decide +kernel)
set_option maxRecDepth 20000 in
theorem gX6_mid_X6_lowest : GoodIn wsX6_mid (wsV RX6 203 RX6 yX6_lowest wsX6_lowest) := goodIn_app (goodIn_of _ (by decide +kernel)) ggX6_mid_X6_lowest
theorem dX6_mid_0 : decode cX6_mid 0 = .ok (.aload_n 0, 1) := by decide +kernel
theorem dX6_mid_1 : decode cX6_mid 1 = .ok (.iload_n 1, 1) := by decide +kernel
theorem dX6_mid_2 : decode cX6_mid 2 = .ok (.invokevirtual 165, 3) := by decide +kernel
theorem dX6_mid_5 : decode cX6_mid 5 = .ok (.ifCond .eq 44, 3) := by decide +kernel
theorem dX6_mid_8 : decode cX6_mid 8 = .ok (.iload_n 2, 1) := by decide +kernel
theorem dX6_mid_9 : decode cX6_mid 9 = .ok (.iconst 0, 1) := by decide +kernel
theorem dX6_mid_10 : decode cX6_mid 10 = .ok (.bipush 12, 2) := by decide +kernel
theorem dX6_mid_12 : decode cX6_mid 12 = .ok (.invokestatic 83, 3) := by decide +kernel
theorem dX6_mid_15 : decode cX6_mid 15 = .ok (.ifCond .eq 34, 3) := by decide +kernel
theorem dX6_mid_18 : decode cX6_mid 18 = .ok (.aload_n 0, 1) := by decide +kernel
theorem dX6_mid_19 : decode cX6_mid 19 = .ok (.ldc2_w 246, 3) := by decide +kernel
theorem dX6_mid_22 : decode cX6_mid 22 = .ok (.iload_n 2, 1) := by decide +kernel
theorem dX6_mid_23 : decode cX6_mid 23 = .ok (.i2l, 1) := by decide +kernel
theorem dX6_mid_24 : decode cX6_mid 24 = .ok (.lsub, 1) := by decide +kernel
theorem dX6_mid_25 : decode cX6_mid 25 = .ok (.aload_n 0, 1) := by decide +kernel
theorem dX6_mid_26 : decode cX6_mid 26 = .ok (.getfield 51, 3) := by decide +kernel
theorem dX6_mid_29 : decode cX6_mid 29 = .ok (.bipush 18, 2) := by decide +kernel
theorem dX6_mid_31 : decode cX6_mid 31 = .ok (.iload_n 1, 1) := by decide +kernel
theorem dX6_mid_32 : decode cX6_mid 32 = .ok (.iadd, 1) := by decide +kernel
theorem dX6_mid_33 : decode cX6_mid 33 = .ok (.iaload, 1) := by decide +kernel
theorem dX6_mid_34 : decode cX6_mid 34 = .ok (.invokestatic 153, 3) := by decide +kernel
theorem dX6_mid_37 : decode cX6_mid 37 = .ok (.i2l, 1) := by decide +kernel
theorem dX6_mid_38 : decode cX6_mid 38 = .ok (.lmul, 1) := by decide +kernel
theorem dX6_mid_39 : decode cX6_mid 39 = .ok (.ldc2_w 248, 3) := by decide +kernel
theorem dX6_mid_42 : decode cX6_mid 42 = .ok (.iconst 1, 1) := by decide +kernel
theorem dX6_mid_43 : decode cX6_mid 43 = .ok (.invokevirtual 203, 3) := by decide +kernel
theorem dX6_mid_46 : decode cX6_mid 46 = .ok (.goto 4, 3) := by decide +kernel
theorem dX6_mid_49 : decode cX6_mid 49 = .ok (.iconst (-1), 1) := by decide +kernel
theorem dX6_mid_50 : decode cX6_mid 50 = .ok (.ireturn, 1) := by decide +kernel
set_option maxRecDepth 20000 in
theorem ggX6_lots_X6_in : GoodIn wsX6_lots wsX6_in := goodIn_r _ [15] (by decide +kernel) (by decide +kernel)
set_option maxRecDepth 20000 in
theorem gX6_lots_X6_in : GoodIn wsX6_lots (va_wsS RX6 83 yX6_in wsX6_in) := goodIn_app (goodIn_of _ (by decide +kernel)) ggX6_lots_X6_in
set_option maxRecDepth 20000 in
theorem ggX6_lots_X6_remember : GoodIn wsX6_lots wsX6_remember := goodIn_r _ [19, 20, 3, 10, 79, 80, 81, 82, 83, 84, 85, 86, 87, 88, 89, 90, 91, 92, 93, 94, 95, 96, 97, 98, 99, 100, 101, 102, 103, 104, 105, 106, 107, 108, 109, 110, 111, 112] (by decide +kernel) (by decide +kernel)
set_option maxRecDepth 20000 in
theorem gX6_lots_X6_remember : GoodIn wsX6_lots (wsV RX6 187 RX6 yX6_remember wsX6_remember) := goodIn_app (goodIn_of _ (by decide +kernel)) ggX6_lots_X6_remember
set_option maxRecDepth 20000 in
theorem ggX6_lots_X6_cuts : GoodIn wsX6_lots wsX6_cuts := goodIn_r _ [24, 10, 79, 80, 81, 82, 83, 84, 85, 86, 87, 88, 89, 90, 91, 92, 93, 94, 95, 96, 97, 98, 99, 100, 101, 102, 103, 104, 105, 106, 107, 108, 109, 110, 111, 112] (by decide +kernel) (by decide +kernel)
set_option maxRecDepth 20000 in
theorem gX6_lots_X6_cuts : GoodIn wsX6_lots (wsV RX6 190 RX6 yX6_cuts wsX6_cuts) := goodIn_app (goodIn_of _ (by decide +kernel)) ggX6_lots_X6_cuts
set_option maxRecDepth 20000 in
theorem ggX6_lots_X6_has : GoodIn wsX6_lots wsX6_has := goodIn_r _ [27] (by decide +kernel) (by decide +kernel)
set_option maxRecDepth 20000 in
theorem gX6_lots_X6_has : GoodIn wsX6_lots (va_wsS RX6 146 yX6_has wsX6_has) := goodIn_app (goodIn_of _ (by decide +kernel)) ggX6_lots_X6_has
set_option maxRecDepth 20000 in
theorem ggX6_lots_X6_comesBack : GoodIn wsX6_lots wsX6_comesBack := goodIn_r _ [31, 10, 79, 80, 81, 82, 83, 84, 85, 86, 87, 88, 89, 90, 91, 92, 93, 94, 95, 96, 97, 98, 99, 100, 101, 102, 103, 104, 105, 106, 107, 108, 109, 110, 111, 112] (by decide +kernel) (by decide +kernel)
set_option maxRecDepth 20000 in
theorem gX6_lots_X6_comesBack : GoodIn wsX6_lots (wsV RX6 198 RX6 yX6_comesBack wsX6_comesBack) := goodIn_app (goodIn_of _ (by decide +kernel)) ggX6_lots_X6_comesBack
set_option maxRecDepth 20000 in
theorem ggX6_lots_X6_fits : GoodIn wsX6_lots wsX6_fits := goodIn_r _ [35, 10, 36, 37, 38, 14, 39, 40, 41, 42, 43, 44, 25, 26, 27, 45, 46, 47, 48, 49, 50, 51, 52, 53, 54, 55, 56, 57, 79, 80, 81, 82, 83, 84, 85, 86, 87, 88, 89, 90, 91, 92, 93, 94, 95, 96, 97, 98, 99, 100, 101, 102, 103, 104, 105, 106, 107, 108, 109, 110, 111, 112] (by decide +kernel) (by decide +kernel)
set_option maxRecDepth 20000 in
theorem gX6_lots_X6_fits : GoodIn wsX6_lots (wsV RX6 162 RX6 yX6_fits wsX6_fits) := goodIn_app (goodIn_of _ (by decide +kernel)) ggX6_lots_X6_fits
set_option maxRecDepth 20000 in
theorem ggX6_lots_X6_gives : GoodIn wsX6_lots wsX6_gives := goodIn_r _ [61, 10, 79, 80, 81, 82, 83, 84, 85, 86, 87, 88, 89, 90, 91, 92, 93, 94, 95, 96, 97, 98, 99, 100, 101, 102, 103, 104, 105, 106, 107, 108, 109, 110, 111, 112] (by decide +kernel) (by decide +kernel)
set_option maxRecDepth 20000 in
theorem gX6_lots_X6_gives : GoodIn wsX6_lots (wsV RX6 194 RX6 yX6_gives wsX6_gives) := goodIn_app (goodIn_of _ (by decide +kernel)) ggX6_lots_X6_gives
set_option maxRecDepth 20000 in
theorem ggX6_lots_X6_counted : GoodIn wsX6_lots wsX6_counted := goodIn_r _ [65, 2, 10, 3, 66, 67, 68, 40, 69, 70, 14, 71, 45, 46, 47, 48, 49, 50, 51, 52, 41, 53, 54, 55, 56, 57, 25, 26, 27, 72, 73, 74, 75, 76, 77, 78, 79, 80, 81, 82, 83, 84, 85, 86, 87, 88, 89, 90, 91, 92, 93, 94, 95, 96, 97, 98, 99, 100, 101, 102, 103, 104, 105, 106, 107, 108, 109, 110, 111, 112] (by decide +kernel) (by decide +kernel)
set_option maxRecDepth 20000 in
theorem gX6_lots_X6_counted : GoodIn wsX6_lots (wsV RX6 265 RX6 yX6_counted wsX6_counted) := goodIn_app (goodIn_of _ (by decide +kernel)) ggX6_lots_X6_counted
theorem dX6_lots_0 : decode cX6_lots 0 = .ok (.iload_n 1, 1) := by decide +kernel
theorem dX6_lots_1 : decode cX6_lots 1 = .ok (.iconst 1, 1) := by decide +kernel
theorem dX6_lots_2 : decode cX6_lots 2 = .ok (.bipush 20, 2) := by decide +kernel
theorem dX6_lots_4 : decode cX6_lots 4 = .ok (.invokestatic 83, 3) := by decide +kernel
theorem dX6_lots_7 : decode cX6_lots 7 = .ok (.ifCond .eq 13, 3) := by decide +kernel
theorem dX6_lots_10 : decode cX6_lots 10 = .ok (.iload_n 2, 1) := by decide +kernel
theorem dX6_lots_11 : decode cX6_lots 11 = .ok (.iconst 1, 1) := by decide +kernel
theorem dX6_lots_12 : decode cX6_lots 12 = .ok (.ldc 250, 2) := by decide +kernel
theorem dX6_lots_14 : decode cX6_lots 14 = .ok (.invokestatic 83, 3) := by decide +kernel
theorem dX6_lots_17 : decode cX6_lots 17 = .ok (.ifCond .ne 5, 3) := by decide +kernel
theorem dX6_lots_20 : decode cX6_lots 20 = .ok (.iconst (-1), 1) := by decide +kernel
theorem dX6_lots_21 : decode cX6_lots 21 = .ok (.ireturn, 1) := by decide +kernel
theorem dX6_lots_22 : decode cX6_lots 22 = .ok (.aload_n 0, 1) := by decide +kernel
theorem dX6_lots_23 : decode cX6_lots 23 = .ok (.getfield 136, 3) := by decide +kernel
theorem dX6_lots_26 : decode cX6_lots 26 = .ok (.ifCond .ne 6, 3) := by decide +kernel
theorem dX6_lots_29 : decode cX6_lots 29 = .ok (.bipush (-4), 2) := by decide +kernel
theorem dX6_lots_31 : decode cX6_lots 31 = .ok (.ireturn, 1) := by decide +kernel
theorem dX6_lots_32 : decode cX6_lots 32 = .ok (.aload_n 0, 1) := by decide +kernel
theorem dX6_lots_33 : decode cX6_lots 33 = .ok (.getfield 139, 3) := by decide +kernel
theorem dX6_lots_36 : decode cX6_lots 36 = .ok (.iload_n 1, 1) := by decide +kernel
theorem dX6_lots_37 : decode cX6_lots 37 = .ok (.iadd, 1) := by decide +kernel
theorem dX6_lots_38 : decode cX6_lots 38 = .ok (.bipush 40, 2) := by decide +kernel
theorem dX6_lots_40 : decode cX6_lots 40 = .ok (.if_icmp .le 6, 3) := by decide +kernel
theorem dX6_lots_43 : decode cX6_lots 43 = .ok (.bipush (-2), 2) := by decide +kernel
theorem dX6_lots_45 : decode cX6_lots 45 = .ok (.ireturn, 1) := by decide +kernel
theorem dX6_lots_46 : decode cX6_lots 46 = .ok (.iload_n 2, 1) := by decide +kernel
theorem dX6_lots_47 : decode cX6_lots 47 = .ok (.i2l, 1) := by decide +kernel
theorem dX6_lots_48 : decode cX6_lots 48 = .ok (.lstore_n 3, 1) := by decide +kernel
theorem dX6_lots_49 : decode cX6_lots 49 = .ok (.iconst 0, 1) := by decide +kernel
theorem dX6_lots_50 : decode cX6_lots 50 = .ok (.istore 5, 2) := by decide +kernel
theorem dX6_lots_52 : decode cX6_lots 52 = .ok (.iload 5, 2) := by decide +kernel
theorem dX6_lots_54 : decode cX6_lots 54 = .ok (.iload_n 1, 1) := by decide +kernel
theorem dX6_lots_55 : decode cX6_lots 55 = .ok (.if_icmp .ge 142, 3) := by decide +kernel
theorem dX6_lots_58 : decode cX6_lots 58 = .ok (.ldc2_w 251, 3) := by decide +kernel
theorem dX6_lots_61 : decode cX6_lots 61 = .ok (.lload_n 3, 1) := by decide +kernel
theorem dX6_lots_62 : decode cX6_lots 62 = .ok (.lmul, 1) := by decide +kernel
theorem dX6_lots_63 : decode cX6_lots 63 = .ok (.ldc2_w 253, 3) := by decide +kernel
theorem dX6_lots_66 : decode cX6_lots 66 = .ok (.lrem, 1) := by decide +kernel
theorem dX6_lots_67 : decode cX6_lots 67 = .ok (.lstore_n 3, 1) := by decide +kernel
theorem dX6_lots_68 : decode cX6_lots 68 = .ok (.lload_n 3, 1) := by decide +kernel
theorem dX6_lots_69 : decode cX6_lots 69 = .ok (.ldc2_w 255, 3) := by decide +kernel
theorem dX6_lots_72 : decode cX6_lots 72 = .ok (.ldiv, 1) := by decide +kernel
theorem dX6_lots_73 : decode cX6_lots 73 = .ok (.ldc2_w 257, 3) := by decide +kernel
theorem dX6_lots_76 : decode cX6_lots 76 = .ok (.lrem, 1) := by decide +kernel
theorem dX6_lots_77 : decode cX6_lots 77 = .ok (.l2i, 1) := by decide +kernel
theorem dX6_lots_78 : decode cX6_lots 78 = .ok (.iconst 2, 1) := by decide +kernel
theorem dX6_lots_79 : decode cX6_lots 79 = .ok (.iadd, 1) := by decide +kernel
theorem dX6_lots_80 : decode cX6_lots 80 = .ok (.istore 6, 2) := by decide +kernel
theorem dX6_lots_82 : decode cX6_lots 82 = .ok (.lload_n 3, 1) := by decide +kernel
theorem dX6_lots_83 : decode cX6_lots 83 = .ok (.ldc2_w 259, 3) := by decide +kernel
theorem dX6_lots_86 : decode cX6_lots 86 = .ok (.ldiv, 1) := by decide +kernel
theorem dX6_lots_87 : decode cX6_lots 87 = .ok (.aload_n 0, 1) := by decide +kernel
theorem dX6_lots_88 : decode cX6_lots 88 = .ok (.getfield 136, 3) := by decide +kernel
theorem dX6_lots_91 : decode cX6_lots 91 = .ok (.i2l, 1) := by decide +kernel
theorem dX6_lots_92 : decode cX6_lots 92 = .ok (.lrem, 1) := by decide +kernel
theorem dX6_lots_93 : decode cX6_lots 93 = .ok (.l2i, 1) := by decide +kernel
theorem dX6_lots_94 : decode cX6_lots 94 = .ok (.istore 7, 2) := by decide +kernel
theorem dX6_lots_96 : decode cX6_lots 96 = .ok (.aload_n 0, 1) := by decide +kernel
theorem dX6_lots_97 : decode cX6_lots 97 = .ok (.invokevirtual 187, 3) := by decide +kernel
theorem dX6_lots_100 : decode cX6_lots 100 = .ok (.lload_n 3, 1) := by decide +kernel
theorem dX6_lots_101 : decode cX6_lots 101 = .ok (.ldc2_w 261, 3) := by decide +kernel
theorem dX6_lots_104 : decode cX6_lots 104 = .ok (.lrem, 1) := by decide +kernel
theorem dX6_lots_105 : decode cX6_lots 105 = .ok (.lconst 0, 1) := by decide +kernel
theorem dX6_lots_106 : decode cX6_lots 106 = .ok (.lcmp, 1) := by decide +kernel
theorem dX6_lots_107 : decode cX6_lots 107 = .ok (.ifCond .ne 21, 3) := by decide +kernel
theorem dX6_lots_110 : decode cX6_lots 110 = .ok (.aload_n 0, 1) := by decide +kernel
theorem dX6_lots_111 : decode cX6_lots 111 = .ok (.getfield 51, 3) := by decide +kernel
theorem dX6_lots_114 : decode cX6_lots 114 = .ok (.iconst 0, 1) := by decide +kernel
theorem dX6_lots_115 : decode cX6_lots 115 = .ok (.iaload, 1) := by decide +kernel
theorem dX6_lots_116 : decode cX6_lots 116 = .ok (.ifCond .le 75, 3) := by decide +kernel
theorem dX6_lots_119 : decode cX6_lots 119 = .ok (.aload_n 0, 1) := by decide +kernel
theorem dX6_lots_120 : decode cX6_lots 120 = .ok (.iload 6, 2) := by decide +kernel
theorem dX6_lots_122 : decode cX6_lots 122 = .ok (.invokevirtual 190, 3) := by decide +kernel
theorem dX6_lots_125 : decode cX6_lots 125 = .ok (.goto 66, 3) := by decide +kernel
theorem dX6_lots_128 : decode cX6_lots 128 = .ok (.lload_n 3, 1) := by decide +kernel
theorem dX6_lots_129 : decode cX6_lots 129 = .ok (.ldc2_w 261, 3) := by decide +kernel
theorem dX6_lots_132 : decode cX6_lots 132 = .ok (.lrem, 1) := by decide +kernel
theorem dX6_lots_133 : decode cX6_lots 133 = .ok (.ldc2_w 263, 3) := by decide +kernel
theorem dX6_lots_136 : decode cX6_lots 136 = .ok (.lcmp, 1) := by decide +kernel
theorem dX6_lots_137 : decode cX6_lots 137 = .ok (.ifCond .ne 32, 3) := by decide +kernel
theorem dX6_lots_140 : decode cX6_lots 140 = .ok (.aload_n 0, 1) := by decide +kernel
theorem dX6_lots_141 : decode cX6_lots 141 = .ok (.getfield 51, 3) := by decide +kernel
theorem dX6_lots_144 : decode cX6_lots 144 = .ok (.bipush 18, 2) := by decide +kernel
theorem dX6_lots_146 : decode cX6_lots 146 = .ok (.iload 7, 2) := by decide +kernel
theorem dX6_lots_148 : decode cX6_lots 148 = .ok (.iadd, 1) := by decide +kernel
theorem dX6_lots_149 : decode cX6_lots 149 = .ok (.iaload, 1) := by decide +kernel
theorem dX6_lots_150 : decode cX6_lots 150 = .ok (.iload 6, 2) := by decide +kernel
theorem dX6_lots_152 : decode cX6_lots 152 = .ok (.invokestatic 146, 3) := by decide +kernel
theorem dX6_lots_155 : decode cX6_lots 155 = .ok (.ifCond .eq 36, 3) := by decide +kernel
theorem dX6_lots_158 : decode cX6_lots 158 = .ok (.aload_n 0, 1) := by decide +kernel
theorem dX6_lots_159 : decode cX6_lots 159 = .ok (.iload 7, 2) := by decide +kernel
theorem dX6_lots_161 : decode cX6_lots 161 = .ok (.iload 6, 2) := by decide +kernel
theorem dX6_lots_163 : decode cX6_lots 163 = .ok (.invokevirtual 198, 3) := by decide +kernel
theorem dX6_lots_166 : decode cX6_lots 166 = .ok (.goto 25, 3) := by decide +kernel
theorem dX6_lots_169 : decode cX6_lots 169 = .ok (.aload_n 0, 1) := by decide +kernel
theorem dX6_lots_170 : decode cX6_lots 170 = .ok (.iload 7, 2) := by decide +kernel
theorem dX6_lots_172 : decode cX6_lots 172 = .ok (.invokevirtual 162, 3) := by decide +kernel
theorem dX6_lots_175 : decode cX6_lots 175 = .ok (.iload 6, 2) := by decide +kernel
theorem dX6_lots_177 : decode cX6_lots 177 = .ok (.invokestatic 146, 3) := by decide +kernel
theorem dX6_lots_180 : decode cX6_lots 180 = .ok (.ifCond .eq 11, 3) := by decide +kernel
theorem dX6_lots_183 : decode cX6_lots 183 = .ok (.aload_n 0, 1) := by decide +kernel
theorem dX6_lots_184 : decode cX6_lots 184 = .ok (.iload 7, 2) := by decide +kernel
theorem dX6_lots_186 : decode cX6_lots 186 = .ok (.iload 6, 2) := by decide +kernel
theorem dX6_lots_188 : decode cX6_lots 188 = .ok (.invokevirtual 194, 3) := by decide +kernel
theorem dX6_lots_191 : decode cX6_lots 191 = .ok (.iinc 5 1, 3) := by decide +kernel
theorem dX6_lots_194 : decode cX6_lots 194 = .ok (.goto (-142), 3) := by decide +kernel
theorem dX6_lots_197 : decode cX6_lots 197 = .ok (.aload_n 0, 1) := by decide +kernel
theorem dX6_lots_198 : decode cX6_lots 198 = .ok (.iconst 3, 1) := by decide +kernel
theorem dX6_lots_199 : decode cX6_lots 199 = .ok (.invokevirtual 265, 3) := by decide +kernel
theorem dX6_lots_202 : decode cX6_lots 202 = .ok (.ireturn, 1) := by decide +kernel
set_option maxRecDepth 20000 in
theorem ggX6_counted_X6_bits : GoodIn wsX6_counted wsX6_bits := goodIn_r _ [11] (by decide +kernel) (by decide +kernel)
set_option maxRecDepth 20000 in
theorem gX6_counted_X6_bits : GoodIn wsX6_counted (va_wsS RX6 177 yX6_bits wsX6_bits) := goodIn_app (goodIn_of _ (by decide +kernel)) ggX6_counted_X6_bits
set_option maxRecDepth 20000 in
theorem ggX6_counted_X6_lackOf : GoodIn wsX6_counted wsX6_lackOf := goodIn_r _ [15, 2, 16, 17, 18, 10, 19, 20, 21, 22, 23, 24, 25, 26, 27, 28, 36, 37, 38, 39, 40, 41, 42, 43, 44, 45, 46, 47, 48, 49, 50, 51, 52, 53, 54, 55, 56, 57, 58, 59, 60, 61, 62, 63, 64, 65, 66, 67, 68, 69] (by decide +kernel) (by decide +kernel)
set_option maxRecDepth 20000 in
theorem gX6_counted_X6_lackOf : GoodIn wsX6_counted (wsV RX6 156 RX6 yX6_lackOf wsX6_lackOf) := goodIn_app (goodIn_of _ (by decide +kernel)) ggX6_counted_X6_lackOf
set_option maxRecDepth 20000 in
theorem ggX6_counted_X6_lying : GoodIn wsX6_counted wsX6_lying := goodIn_r _ [32, 2, 36, 37, 38, 39, 40, 41, 42, 43, 44, 45, 46, 47, 48, 49, 50, 51, 52, 53, 54, 55, 56, 57, 58, 59, 60, 61, 62, 63, 64, 65, 66, 67, 68, 69] (by decide +kernel) (by decide +kernel)
set_option maxRecDepth 20000 in
theorem gX6_counted_X6_lying : GoodIn wsX6_counted (wsV RX6 180 RX6 yX6_lying wsX6_lying) := goodIn_app (goodIn_of _ (by decide +kernel)) ggX6_counted_X6_lying
set_option maxRecDepth 20000 in
theorem ggX6_counted_X6_isOf : GoodIn wsX6_counted wsX6_isOf := goodIn_r _ [35] (by decide +kernel) (by decide +kernel)
set_option maxRecDepth 20000 in
theorem gX6_counted_X6_isOf : GoodIn wsX6_counted (va_wsS RX6 171 yX6_isOf wsX6_isOf) := goodIn_app (goodIn_of _ (by decide +kernel)) ggX6_counted_X6_isOf
theorem dX6_counted_0 : decode cX6_counted 0 = .ok (.iconst 0, 1) := by decide +kernel
theorem dX6_counted_1 : decode cX6_counted 1 = .ok (.istore_n 2, 1) := by decide +kernel
theorem dX6_counted_2 : decode cX6_counted 2 = .ok (.iload_n 1, 1) := by decide +kernel
theorem dX6_counted_3 : decode cX6_counted 3 = .ok (.tableswitch 268 0 9 #[53, 58, 65, 70, 97, 130, 166, 171, 204, 236], 53) := by decide +kernel
theorem dX6_counted_56 : decode cX6_counted 56 = .ok (.aload_n 0, 1) := by decide +kernel
theorem dX6_counted_57 : decode cX6_counted 57 = .ok (.getfield 136, 3) := by decide +kernel
theorem dX6_counted_60 : decode cX6_counted 60 = .ok (.ireturn, 1) := by decide +kernel
theorem dX6_counted_61 : decode cX6_counted 61 = .ok (.aload_n 0, 1) := by decide +kernel
theorem dX6_counted_62 : decode cX6_counted 62 = .ok (.getfield 51, 3) := by decide +kernel
theorem dX6_counted_65 : decode cX6_counted 65 = .ok (.iconst 0, 1) := by decide +kernel
theorem dX6_counted_66 : decode cX6_counted 66 = .ok (.iaload, 1) := by decide +kernel
theorem dX6_counted_67 : decode cX6_counted 67 = .ok (.ireturn, 1) := by decide +kernel
theorem dX6_counted_68 : decode cX6_counted 68 = .ok (.aload_n 0, 1) := by decide +kernel
theorem dX6_counted_69 : decode cX6_counted 69 = .ok (.getfield 139, 3) := by decide +kernel
theorem dX6_counted_72 : decode cX6_counted 72 = .ok (.ireturn, 1) := by decide +kernel
theorem dX6_counted_73 : decode cX6_counted 73 = .ok (.iconst 2, 1) := by decide +kernel
theorem dX6_counted_74 : decode cX6_counted 74 = .ok (.istore_n 3, 1) := by decide +kernel
theorem dX6_counted_75 : decode cX6_counted 75 = .ok (.iload_n 3, 1) := by decide +kernel
theorem dX6_counted_76 : decode cX6_counted 76 = .ok (.bipush 16, 2) := by decide +kernel
theorem dX6_counted_78 : decode cX6_counted 78 = .ok (.if_icmp .gt 20, 3) := by decide +kernel
theorem dX6_counted_81 : decode cX6_counted 81 = .ok (.iload_n 2, 1) := by decide +kernel
theorem dX6_counted_82 : decode cX6_counted 82 = .ok (.aload_n 0, 1) := by decide +kernel
theorem dX6_counted_83 : decode cX6_counted 83 = .ok (.getfield 51, 3) := by decide +kernel
theorem dX6_counted_86 : decode cX6_counted 86 = .ok (.iconst 1, 1) := by decide +kernel
theorem dX6_counted_87 : decode cX6_counted 87 = .ok (.iload_n 3, 1) := by decide +kernel
theorem dX6_counted_88 : decode cX6_counted 88 = .ok (.iadd, 1) := by decide +kernel
theorem dX6_counted_89 : decode cX6_counted 89 = .ok (.iaload, 1) := by decide +kernel
theorem dX6_counted_90 : decode cX6_counted 90 = .ok (.iadd, 1) := by decide +kernel
theorem dX6_counted_91 : decode cX6_counted 91 = .ok (.istore_n 2, 1) := by decide +kernel
theorem dX6_counted_92 : decode cX6_counted 92 = .ok (.iinc 3 1, 3) := by decide +kernel
theorem dX6_counted_95 : decode cX6_counted 95 = .ok (.goto (-20), 3) := by decide +kernel
theorem dX6_counted_98 : decode cX6_counted 98 = .ok (.iload_n 2, 1) := by decide +kernel
theorem dX6_counted_99 : decode cX6_counted 99 = .ok (.ireturn, 1) := by decide +kernel
theorem dX6_counted_100 : decode cX6_counted 100 = .ok (.iconst 0, 1) := by decide +kernel
theorem dX6_counted_101 : decode cX6_counted 101 = .ok (.istore_n 3, 1) := by decide +kernel
theorem dX6_counted_102 : decode cX6_counted 102 = .ok (.iload_n 3, 1) := by decide +kernel
theorem dX6_counted_103 : decode cX6_counted 103 = .ok (.aload_n 0, 1) := by decide +kernel
theorem dX6_counted_104 : decode cX6_counted 104 = .ok (.getfield 136, 3) := by decide +kernel
theorem dX6_counted_107 : decode cX6_counted 107 = .ok (.if_icmp .ge 24, 3) := by decide +kernel
theorem dX6_counted_110 : decode cX6_counted 110 = .ok (.iload_n 2, 1) := by decide +kernel
theorem dX6_counted_111 : decode cX6_counted 111 = .ok (.aload_n 0, 1) := by decide +kernel
theorem dX6_counted_112 : decode cX6_counted 112 = .ok (.getfield 51, 3) := by decide +kernel
theorem dX6_counted_115 : decode cX6_counted 115 = .ok (.bipush 18, 2) := by decide +kernel
theorem dX6_counted_117 : decode cX6_counted 117 = .ok (.iload_n 3, 1) := by decide +kernel
theorem dX6_counted_118 : decode cX6_counted 118 = .ok (.iadd, 1) := by decide +kernel
theorem dX6_counted_119 : decode cX6_counted 119 = .ok (.iaload, 1) := by decide +kernel
theorem dX6_counted_120 : decode cX6_counted 120 = .ok (.invokestatic 177, 3) := by decide +kernel
theorem dX6_counted_123 : decode cX6_counted 123 = .ok (.iadd, 1) := by decide +kernel
theorem dX6_counted_124 : decode cX6_counted 124 = .ok (.istore_n 2, 1) := by decide +kernel
theorem dX6_counted_125 : decode cX6_counted 125 = .ok (.iinc 3 1, 3) := by decide +kernel
theorem dX6_counted_128 : decode cX6_counted 128 = .ok (.goto (-26), 3) := by decide +kernel
theorem dX6_counted_131 : decode cX6_counted 131 = .ok (.iload_n 2, 1) := by decide +kernel
theorem dX6_counted_132 : decode cX6_counted 132 = .ok (.ireturn, 1) := by decide +kernel
theorem dX6_counted_133 : decode cX6_counted 133 = .ok (.iconst 0, 1) := by decide +kernel
theorem dX6_counted_134 : decode cX6_counted 134 = .ok (.istore_n 3, 1) := by decide +kernel
theorem dX6_counted_135 : decode cX6_counted 135 = .ok (.iload_n 3, 1) := by decide +kernel
theorem dX6_counted_136 : decode cX6_counted 136 = .ok (.aload_n 0, 1) := by decide +kernel
theorem dX6_counted_137 : decode cX6_counted 137 = .ok (.getfield 136, 3) := by decide +kernel
theorem dX6_counted_140 : decode cX6_counted 140 = .ok (.if_icmp .ge 27, 3) := by decide +kernel
theorem dX6_counted_143 : decode cX6_counted 143 = .ok (.iload_n 2, 1) := by decide +kernel
theorem dX6_counted_144 : decode cX6_counted 144 = .ok (.aload_n 0, 1) := by decide +kernel
theorem dX6_counted_145 : decode cX6_counted 145 = .ok (.iload_n 3, 1) := by decide +kernel
theorem dX6_counted_146 : decode cX6_counted 146 = .ok (.invokevirtual 156, 3) := by decide +kernel
theorem dX6_counted_149 : decode cX6_counted 149 = .ok (.ifCond .ne 9, 3) := by decide +kernel
theorem dX6_counted_152 : decode cX6_counted 152 = .ok (.iconst 1, 1) := by decide +kernel
theorem dX6_counted_153 : decode cX6_counted 153 = .ok (.iload_n 3, 1) := by decide +kernel
theorem dX6_counted_154 : decode cX6_counted 154 = .ok (.ishl, 1) := by decide +kernel
theorem dX6_counted_155 : decode cX6_counted 155 = .ok (.goto 4, 3) := by decide +kernel
theorem dX6_counted_158 : decode cX6_counted 158 = .ok (.iconst 0, 1) := by decide +kernel
theorem dX6_counted_159 : decode cX6_counted 159 = .ok (.ior, 1) := by decide +kernel
theorem dX6_counted_160 : decode cX6_counted 160 = .ok (.istore_n 2, 1) := by decide +kernel
theorem dX6_counted_161 : decode cX6_counted 161 = .ok (.iinc 3 1, 3) := by decide +kernel
theorem dX6_counted_164 : decode cX6_counted 164 = .ok (.goto (-29), 3) := by decide +kernel
theorem dX6_counted_167 : decode cX6_counted 167 = .ok (.iload_n 2, 1) := by decide +kernel
theorem dX6_counted_168 : decode cX6_counted 168 = .ok (.ireturn, 1) := by decide +kernel
theorem dX6_counted_169 : decode cX6_counted 169 = .ok (.aload_n 0, 1) := by decide +kernel
theorem dX6_counted_170 : decode cX6_counted 170 = .ok (.invokevirtual 180, 3) := by decide +kernel
theorem dX6_counted_173 : decode cX6_counted 173 = .ok (.ireturn, 1) := by decide +kernel
theorem dX6_counted_174 : decode cX6_counted 174 = .ok (.iconst 0, 1) := by decide +kernel
theorem dX6_counted_175 : decode cX6_counted 175 = .ok (.istore_n 3, 1) := by decide +kernel
theorem dX6_counted_176 : decode cX6_counted 176 = .ok (.iload_n 3, 1) := by decide +kernel
theorem dX6_counted_177 : decode cX6_counted 177 = .ok (.bipush 6, 2) := by decide +kernel
theorem dX6_counted_179 : decode cX6_counted 179 = .ok (.if_icmp .ge 26, 3) := by decide +kernel
theorem dX6_counted_182 : decode cX6_counted 182 = .ok (.iload_n 2, 1) := by decide +kernel
theorem dX6_counted_183 : decode cX6_counted 183 = .ok (.aload_n 0, 1) := by decide +kernel
theorem dX6_counted_184 : decode cX6_counted 184 = .ok (.getfield 17, 3) := by decide +kernel
theorem dX6_counted_187 : decode cX6_counted 187 = .ok (.iload_n 3, 1) := by decide +kernel
theorem dX6_counted_188 : decode cX6_counted 188 = .ok (.iaload, 1) := by decide +kernel
theorem dX6_counted_189 : decode cX6_counted 189 = .ok (.ifCond .lt 7, 3) := by decide +kernel
theorem dX6_counted_192 : decode cX6_counted 192 = .ok (.iconst 1, 1) := by decide +kernel
theorem dX6_counted_193 : decode cX6_counted 193 = .ok (.goto 4, 3) := by decide +kernel
theorem dX6_counted_196 : decode cX6_counted 196 = .ok (.iconst 0, 1) := by decide +kernel
theorem dX6_counted_197 : decode cX6_counted 197 = .ok (.iadd, 1) := by decide +kernel
theorem dX6_counted_198 : decode cX6_counted 198 = .ok (.istore_n 2, 1) := by decide +kernel
theorem dX6_counted_199 : decode cX6_counted 199 = .ok (.iinc 3 1, 3) := by decide +kernel
theorem dX6_counted_202 : decode cX6_counted 202 = .ok (.goto (-26), 3) := by decide +kernel
theorem dX6_counted_205 : decode cX6_counted 205 = .ok (.iload_n 2, 1) := by decide +kernel
theorem dX6_counted_206 : decode cX6_counted 206 = .ok (.ireturn, 1) := by decide +kernel
theorem dX6_counted_207 : decode cX6_counted 207 = .ok (.iconst 0, 1) := by decide +kernel
theorem dX6_counted_208 : decode cX6_counted 208 = .ok (.istore_n 3, 1) := by decide +kernel
theorem dX6_counted_209 : decode cX6_counted 209 = .ok (.iload_n 3, 1) := by decide +kernel
theorem dX6_counted_210 : decode cX6_counted 210 = .ok (.iconst 4, 1) := by decide +kernel
theorem dX6_counted_211 : decode cX6_counted 211 = .ok (.if_icmp .ge 26, 3) := by decide +kernel
theorem dX6_counted_214 : decode cX6_counted 214 = .ok (.iload_n 2, 1) := by decide +kernel
theorem dX6_counted_215 : decode cX6_counted 215 = .ok (.aload_n 0, 1) := by decide +kernel
theorem dX6_counted_216 : decode cX6_counted 216 = .ok (.getfield 26, 3) := by decide +kernel
theorem dX6_counted_219 : decode cX6_counted 219 = .ok (.iload_n 3, 1) := by decide +kernel
theorem dX6_counted_220 : decode cX6_counted 220 = .ok (.iaload, 1) := by decide +kernel
theorem dX6_counted_221 : decode cX6_counted 221 = .ok (.ifCond .lt 7, 3) := by decide +kernel
theorem dX6_counted_224 : decode cX6_counted 224 = .ok (.iconst 1, 1) := by decide +kernel
theorem dX6_counted_225 : decode cX6_counted 225 = .ok (.goto 4, 3) := by decide +kernel
theorem dX6_counted_228 : decode cX6_counted 228 = .ok (.iconst 0, 1) := by decide +kernel
theorem dX6_counted_229 : decode cX6_counted 229 = .ok (.iadd, 1) := by decide +kernel
theorem dX6_counted_230 : decode cX6_counted 230 = .ok (.istore_n 2, 1) := by decide +kernel
theorem dX6_counted_231 : decode cX6_counted 231 = .ok (.iinc 3 1, 3) := by decide +kernel
theorem dX6_counted_234 : decode cX6_counted 234 = .ok (.goto (-25), 3) := by decide +kernel
theorem dX6_counted_237 : decode cX6_counted 237 = .ok (.iload_n 2, 1) := by decide +kernel
theorem dX6_counted_238 : decode cX6_counted 238 = .ok (.ireturn, 1) := by decide +kernel
theorem dX6_counted_239 : decode cX6_counted 239 = .ok (.iconst 0, 1) := by decide +kernel
theorem dX6_counted_240 : decode cX6_counted 240 = .ok (.istore_n 3, 1) := by decide +kernel
theorem dX6_counted_241 : decode cX6_counted 241 = .ok (.iload_n 3, 1) := by decide +kernel
theorem dX6_counted_242 : decode cX6_counted 242 = .ok (.iconst 3, 1) := by decide +kernel
theorem dX6_counted_243 : decode cX6_counted 243 = .ok (.if_icmp .ge 26, 3) := by decide +kernel
theorem dX6_counted_246 : decode cX6_counted 246 = .ok (.iload_n 2, 1) := by decide +kernel
theorem dX6_counted_247 : decode cX6_counted 247 = .ok (.aload_n 0, 1) := by decide +kernel
theorem dX6_counted_248 : decode cX6_counted 248 = .ok (.getfield 57, 3) := by decide +kernel
theorem dX6_counted_251 : decode cX6_counted 251 = .ok (.iload_n 3, 1) := by decide +kernel
theorem dX6_counted_252 : decode cX6_counted 252 = .ok (.iaload, 1) := by decide +kernel
theorem dX6_counted_253 : decode cX6_counted 253 = .ok (.ifCond .lt 7, 3) := by decide +kernel
theorem dX6_counted_256 : decode cX6_counted 256 = .ok (.iconst 1, 1) := by decide +kernel
theorem dX6_counted_257 : decode cX6_counted 257 = .ok (.goto 4, 3) := by decide +kernel
theorem dX6_counted_260 : decode cX6_counted 260 = .ok (.iconst 0, 1) := by decide +kernel
theorem dX6_counted_261 : decode cX6_counted 261 = .ok (.iadd, 1) := by decide +kernel
theorem dX6_counted_262 : decode cX6_counted 262 = .ok (.istore_n 2, 1) := by decide +kernel
theorem dX6_counted_263 : decode cX6_counted 263 = .ok (.iinc 3 1, 3) := by decide +kernel
theorem dX6_counted_266 : decode cX6_counted 266 = .ok (.goto (-25), 3) := by decide +kernel
theorem dX6_counted_269 : decode cX6_counted 269 = .ok (.iload_n 2, 1) := by decide +kernel
theorem dX6_counted_270 : decode cX6_counted 270 = .ok (.ireturn, 1) := by decide +kernel
theorem dX6_counted_271 : decode cX6_counted 271 = .ok (.iconst 0, 1) := by decide +kernel
theorem dX6_counted_272 : decode cX6_counted 272 = .ok (.istore_n 3, 1) := by decide +kernel
theorem dX6_counted_273 : decode cX6_counted 273 = .ok (.iload_n 3, 1) := by decide +kernel
theorem dX6_counted_274 : decode cX6_counted 274 = .ok (.aload_n 0, 1) := by decide +kernel
theorem dX6_counted_275 : decode cX6_counted 275 = .ok (.getfield 136, 3) := by decide +kernel
theorem dX6_counted_278 : decode cX6_counted 278 = .ok (.if_icmp .ge 40, 3) := by decide +kernel
theorem dX6_counted_281 : decode cX6_counted 281 = .ok (.iload_n 2, 1) := by decide +kernel
theorem dX6_counted_282 : decode cX6_counted 282 = .ok (.aload_n 0, 1) := by decide +kernel
theorem dX6_counted_283 : decode cX6_counted 283 = .ok (.getfield 42, 3) := by decide +kernel
theorem dX6_counted_286 : decode cX6_counted 286 = .ok (.iload_n 3, 1) := by decide +kernel
theorem dX6_counted_287 : decode cX6_counted 287 = .ok (.iaload, 1) := by decide +kernel
theorem dX6_counted_288 : decode cX6_counted 288 = .ok (.iload_n 1, 1) := by decide +kernel
theorem dX6_counted_289 : decode cX6_counted 289 = .ok (.bipush 10, 2) := by decide +kernel
theorem dX6_counted_291 : decode cX6_counted 291 = .ok (.if_icmp .ne 7, 3) := by decide +kernel
theorem dX6_counted_294 : decode cX6_counted 294 = .ok (.iconst 1, 1) := by decide +kernel
theorem dX6_counted_295 : decode cX6_counted 295 = .ok (.goto 4, 3) := by decide +kernel
theorem dX6_counted_298 : decode cX6_counted 298 = .ok (.iconst 3, 1) := by decide +kernel
theorem dX6_counted_299 : decode cX6_counted 299 = .ok (.invokestatic 171, 3) := by decide +kernel
theorem dX6_counted_302 : decode cX6_counted 302 = .ok (.ifCond .eq 7, 3) := by decide +kernel
theorem dX6_counted_305 : decode cX6_counted 305 = .ok (.iconst 1, 1) := by decide +kernel
theorem dX6_counted_306 : decode cX6_counted 306 = .ok (.goto 4, 3) := by decide +kernel
theorem dX6_counted_309 : decode cX6_counted 309 = .ok (.iconst 0, 1) := by decide +kernel
theorem dX6_counted_310 : decode cX6_counted 310 = .ok (.iadd, 1) := by decide +kernel
theorem dX6_counted_311 : decode cX6_counted 311 = .ok (.istore_n 2, 1) := by decide +kernel
theorem dX6_counted_312 : decode cX6_counted 312 = .ok (.iinc 3 1, 3) := by decide +kernel
theorem dX6_counted_315 : decode cX6_counted 315 = .ok (.goto (-42), 3) := by decide +kernel
theorem dX6_counted_318 : decode cX6_counted 318 = .ok (.iload_n 2, 1) := by decide +kernel
theorem dX6_counted_319 : decode cX6_counted 319 = .ok (.ireturn, 1) := by decide +kernel
set_option maxRecDepth 20000 in
theorem ggX6_count_X6_in : GoodIn wsX6_count wsX6_in := goodIn_r _ [4] (by decide +kernel) (by decide +kernel)
set_option maxRecDepth 20000 in
theorem gX6_count_X6_in : GoodIn wsX6_count (va_wsS RX6 83 yX6_in wsX6_in) := goodIn_app (goodIn_of _ (by decide +kernel)) ggX6_count_X6_in
set_option maxRecDepth 20000 in
theorem ggX6_count_X6_counted : GoodIn wsX6_count wsX6_counted := goodIn_r _ [8, 9, 10, 11, 12, 13, 14, 15, 16, 17, 3, 18, 19, 20, 21, 22, 23, 24, 25, 26, 27, 28, 29, 30, 31, 32, 33, 34, 35, 36, 37, 38, 39, 40, 41, 42, 43, 44, 45, 46, 47, 48, 49, 50, 51, 52, 53, 54, 55, 56, 57, 58, 59, 60, 61, 62, 63, 64, 65, 66, 67, 68, 69, 70, 71, 72, 73, 74, 75, 76] (by decide +kernel) (by decide +kernel)
set_option maxRecDepth 20000 in
theorem gX6_count_X6_counted : GoodIn wsX6_count (wsV RX6 265 RX6 yX6_counted wsX6_counted) := goodIn_app (goodIn_of _ (by decide +kernel)) ggX6_count_X6_counted
theorem dX6_count_0 : decode cX6_count 0 = .ok (.iload_n 1, 1) := by decide +kernel
theorem dX6_count_1 : decode cX6_count 1 = .ok (.iconst 0, 1) := by decide +kernel
theorem dX6_count_2 : decode cX6_count 2 = .ok (.bipush 11, 2) := by decide +kernel
theorem dX6_count_4 : decode cX6_count 4 = .ok (.invokestatic 83, 3) := by decide +kernel
theorem dX6_count_7 : decode cX6_count 7 = .ok (.ifCond .eq 11, 3) := by decide +kernel
theorem dX6_count_10 : decode cX6_count 10 = .ok (.aload_n 0, 1) := by decide +kernel
theorem dX6_count_11 : decode cX6_count 11 = .ok (.iload_n 1, 1) := by decide +kernel
theorem dX6_count_12 : decode cX6_count 12 = .ok (.invokevirtual 265, 3) := by decide +kernel
theorem dX6_count_15 : decode cX6_count 15 = .ok (.goto 4, 3) := by decide +kernel
theorem dX6_count_18 : decode cX6_count 18 = .ok (.iconst (-1), 1) := by decide +kernel
theorem dX6_count_19 : decode cX6_count 19 = .ok (.ireturn, 1) := by decide +kernel
theorem dX6_adds_0 : decode cX6_adds 0 = .ok (.aload_n 0, 1) := by decide +kernel
theorem dX6_adds_1 : decode cX6_adds 1 = .ok (.ldc2_w 268, 3) := by decide +kernel
theorem dX6_adds_4 : decode cX6_adds 4 = .ok (.aload_n 0, 1) := by decide +kernel
theorem dX6_adds_5 : decode cX6_adds 5 = .ok (.getfield 270, 3) := by decide +kernel
theorem dX6_adds_8 : decode cX6_adds 8 = .ok (.lmul, 1) := by decide +kernel
theorem dX6_adds_9 : decode cX6_adds 9 = .ok (.lload_n 1, 1) := by decide +kernel
theorem dX6_adds_10 : decode cX6_adds 10 = .ok (.ladd, 1) := by decide +kernel
theorem dX6_adds_11 : decode cX6_adds 11 = .ok (.putfield 270, 3) := by decide +kernel
theorem dX6_adds_14 : decode cX6_adds 14 = .ok (.return_, 1) := by decide +kernel
set_option maxRecDepth 20000 in
theorem ggX6_digest_X6_counted : GoodIn wsX6_digest wsX6_counted := goodIn_r _ [13, 3, 4, 14, 6, 7, 5, 15, 16, 17, 12, 18, 19, 20, 21, 22, 23, 24, 25, 26, 27, 28, 29, 30, 31, 32, 33, 34, 35, 36, 37, 38, 39, 40, 41, 42, 68, 69, 70, 71, 72, 73, 74, 75, 76, 77, 78, 79, 80, 81, 82, 83, 84, 85, 86, 87, 88, 89, 90, 91, 92, 93, 94, 95, 96, 97, 98, 99, 100, 101] (by decide +kernel) (by decide +kernel)
set_option maxRecDepth 20000 in
theorem gX6_digest_X6_counted : GoodIn wsX6_digest (wsV RX6 265 RX6 yX6_counted wsX6_counted) := goodIn_app (goodIn_of _ (by decide +kernel)) ggX6_digest_X6_counted
set_option maxRecDepth 20000 in
theorem ggX6_digest_X6_adds : GoodIn wsX6_digest wsX6_adds := goodIn_r _ [46, 47, 2, 68, 69, 70, 71, 72, 73, 74, 75, 76, 77, 78, 79, 80, 81, 82, 83, 84, 85, 86, 87, 88, 89, 90, 91, 92, 93, 94, 95, 96, 97, 98, 99, 100, 101] (by decide +kernel) (by decide +kernel)
set_option maxRecDepth 20000 in
theorem gX6_digest_X6_adds : GoodIn wsX6_digest (wsV RX6 275 RX6 yX6_adds wsX6_adds) := goodIn_app (goodIn_of _ (by decide +kernel)) ggX6_digest_X6_adds
set_option maxRecDepth 20000 in
theorem ggX6_digest_X6_workerTells : GoodIn wsX6_digest wsX6_workerTells := goodIn_r _ [51, 15, 29, 28, 4, 52, 53, 54, 12, 55, 56, 57, 58, 59, 27, 60, 61, 62, 33, 34, 35, 19, 20, 21, 22, 23, 24, 25, 26, 30, 31, 32, 68, 69, 70, 71, 72, 73, 74, 75, 76, 77, 78, 79, 80, 81, 82, 83, 84, 85, 86, 87, 88, 89, 90, 91, 92, 93, 94, 95, 96, 97, 98, 99, 100, 101] (by decide +kernel) (by decide +kernel)
set_option maxRecDepth 20000 in
theorem gX6_digest_X6_workerTells : GoodIn wsX6_digest (wsV RX6 168 RX6 yX6_workerTells wsX6_workerTells) := goodIn_app (goodIn_of _ (by decide +kernel)) ggX6_digest_X6_workerTells
set_option maxRecDepth 20000 in
theorem ggX6_digest_X6_rowAt : GoodIn wsX6_digest wsX6_rowAt := goodIn_r _ [66, 67, 68, 69, 70, 71, 72, 73, 74, 75, 76, 77, 78, 79, 80, 81, 82, 83, 84, 85, 86, 87, 88, 89, 90, 91, 92, 93, 94, 95, 96, 97, 98, 99, 100, 101] (by decide +kernel) (by decide +kernel)
set_option maxRecDepth 20000 in
theorem gX6_digest_X6_rowAt : GoodIn wsX6_digest (wsV RX6 95 RX6 yX6_rowAt wsX6_rowAt) := goodIn_app (goodIn_of _ (by decide +kernel)) ggX6_digest_X6_rowAt
theorem dX6_digest_0 : decode cX6_digest 0 = .ok (.aload_n 0, 1) := by decide +kernel
theorem dX6_digest_1 : decode cX6_digest 1 = .ok (.ldc2_w 273, 3) := by decide +kernel
theorem dX6_digest_4 : decode cX6_digest 4 = .ok (.putfield 270, 3) := by decide +kernel
theorem dX6_digest_7 : decode cX6_digest 7 = .ok (.iconst 0, 1) := by decide +kernel
theorem dX6_digest_8 : decode cX6_digest 8 = .ok (.istore_n 1, 1) := by decide +kernel
theorem dX6_digest_9 : decode cX6_digest 9 = .ok (.iload_n 1, 1) := by decide +kernel
theorem dX6_digest_10 : decode cX6_digest 10 = .ok (.bipush 11, 2) := by decide +kernel
theorem dX6_digest_12 : decode cX6_digest 12 = .ok (.if_icmp .gt 19, 3) := by decide +kernel
theorem dX6_digest_15 : decode cX6_digest 15 = .ok (.aload_n 0, 1) := by decide +kernel
theorem dX6_digest_16 : decode cX6_digest 16 = .ok (.aload_n 0, 1) := by decide +kernel
theorem dX6_digest_17 : decode cX6_digest 17 = .ok (.iload_n 1, 1) := by decide +kernel
theorem dX6_digest_18 : decode cX6_digest 18 = .ok (.invokevirtual 265, 3) := by decide +kernel
theorem dX6_digest_21 : decode cX6_digest 21 = .ok (.i2l, 1) := by decide +kernel
theorem dX6_digest_22 : decode cX6_digest 22 = .ok (.invokevirtual 275, 3) := by decide +kernel
theorem dX6_digest_25 : decode cX6_digest 25 = .ok (.iinc 1 1, 3) := by decide +kernel
theorem dX6_digest_28 : decode cX6_digest 28 = .ok (.goto (-19), 3) := by decide +kernel
theorem dX6_digest_31 : decode cX6_digest 31 = .ok (.iconst 0, 1) := by decide +kernel
theorem dX6_digest_32 : decode cX6_digest 32 = .ok (.istore_n 1, 1) := by decide +kernel
theorem dX6_digest_33 : decode cX6_digest 33 = .ok (.iload_n 1, 1) := by decide +kernel
theorem dX6_digest_34 : decode cX6_digest 34 = .ok (.aload_n 0, 1) := by decide +kernel
theorem dX6_digest_35 : decode cX6_digest 35 = .ok (.getfield 136, 3) := by decide +kernel
theorem dX6_digest_38 : decode cX6_digest 38 = .ok (.if_icmp .ge 34, 3) := by decide +kernel
theorem dX6_digest_41 : decode cX6_digest 41 = .ok (.iconst 0, 1) := by decide +kernel
theorem dX6_digest_42 : decode cX6_digest 42 = .ok (.istore_n 2, 1) := by decide +kernel
theorem dX6_digest_43 : decode cX6_digest 43 = .ok (.iload_n 2, 1) := by decide +kernel
theorem dX6_digest_44 : decode cX6_digest 44 = .ok (.bipush 6, 2) := by decide +kernel
theorem dX6_digest_46 : decode cX6_digest 46 = .ok (.if_icmp .ge 20, 3) := by decide +kernel
theorem dX6_digest_49 : decode cX6_digest 49 = .ok (.aload_n 0, 1) := by decide +kernel
theorem dX6_digest_50 : decode cX6_digest 50 = .ok (.aload_n 0, 1) := by decide +kernel
theorem dX6_digest_51 : decode cX6_digest 51 = .ok (.iload_n 1, 1) := by decide +kernel
theorem dX6_digest_52 : decode cX6_digest 52 = .ok (.iload_n 2, 1) := by decide +kernel
theorem dX6_digest_53 : decode cX6_digest 53 = .ok (.invokevirtual 168, 3) := by decide +kernel
theorem dX6_digest_56 : decode cX6_digest 56 = .ok (.i2l, 1) := by decide +kernel
theorem dX6_digest_57 : decode cX6_digest 57 = .ok (.invokevirtual 275, 3) := by decide +kernel
theorem dX6_digest_60 : decode cX6_digest 60 = .ok (.iinc 2 1, 3) := by decide +kernel
theorem dX6_digest_63 : decode cX6_digest 63 = .ok (.goto (-20), 3) := by decide +kernel
theorem dX6_digest_66 : decode cX6_digest 66 = .ok (.iinc 1 1, 3) := by decide +kernel
theorem dX6_digest_69 : decode cX6_digest 69 = .ok (.goto (-36), 3) := by decide +kernel
theorem dX6_digest_72 : decode cX6_digest 72 = .ok (.iconst 2, 1) := by decide +kernel
theorem dX6_digest_73 : decode cX6_digest 73 = .ok (.istore_n 1, 1) := by decide +kernel
theorem dX6_digest_74 : decode cX6_digest 74 = .ok (.iload_n 1, 1) := by decide +kernel
theorem dX6_digest_75 : decode cX6_digest 75 = .ok (.bipush 16, 2) := by decide +kernel
theorem dX6_digest_77 : decode cX6_digest 77 = .ok (.if_icmp .gt 22, 3) := by decide +kernel
theorem dX6_digest_80 : decode cX6_digest 80 = .ok (.aload_n 0, 1) := by decide +kernel
theorem dX6_digest_81 : decode cX6_digest 81 = .ok (.aload_n 0, 1) := by decide +kernel
theorem dX6_digest_82 : decode cX6_digest 82 = .ok (.getfield 51, 3) := by decide +kernel
theorem dX6_digest_85 : decode cX6_digest 85 = .ok (.iconst 1, 1) := by decide +kernel
theorem dX6_digest_86 : decode cX6_digest 86 = .ok (.iload_n 1, 1) := by decide +kernel
theorem dX6_digest_87 : decode cX6_digest 87 = .ok (.iadd, 1) := by decide +kernel
theorem dX6_digest_88 : decode cX6_digest 88 = .ok (.iaload, 1) := by decide +kernel
theorem dX6_digest_89 : decode cX6_digest 89 = .ok (.i2l, 1) := by decide +kernel
theorem dX6_digest_90 : decode cX6_digest 90 = .ok (.invokevirtual 275, 3) := by decide +kernel
theorem dX6_digest_93 : decode cX6_digest 93 = .ok (.iinc 1 1, 3) := by decide +kernel
theorem dX6_digest_96 : decode cX6_digest 96 = .ok (.goto (-22), 3) := by decide +kernel
theorem dX6_digest_99 : decode cX6_digest 99 = .ok (.iconst 0, 1) := by decide +kernel
theorem dX6_digest_100 : decode cX6_digest 100 = .ok (.istore_n 1, 1) := by decide +kernel
theorem dX6_digest_101 : decode cX6_digest 101 = .ok (.iload_n 1, 1) := by decide +kernel
theorem dX6_digest_102 : decode cX6_digest 102 = .ok (.iconst 3, 1) := by decide +kernel
theorem dX6_digest_103 : decode cX6_digest 103 = .ok (.if_icmp .ge 20, 3) := by decide +kernel
theorem dX6_digest_106 : decode cX6_digest 106 = .ok (.aload_n 0, 1) := by decide +kernel
theorem dX6_digest_107 : decode cX6_digest 107 = .ok (.aload_n 0, 1) := by decide +kernel
theorem dX6_digest_108 : decode cX6_digest 108 = .ok (.getfield 57, 3) := by decide +kernel
theorem dX6_digest_111 : decode cX6_digest 111 = .ok (.iload_n 1, 1) := by decide +kernel
theorem dX6_digest_112 : decode cX6_digest 112 = .ok (.iaload, 1) := by decide +kernel
theorem dX6_digest_113 : decode cX6_digest 113 = .ok (.i2l, 1) := by decide +kernel
theorem dX6_digest_114 : decode cX6_digest 114 = .ok (.invokevirtual 275, 3) := by decide +kernel
theorem dX6_digest_117 : decode cX6_digest 117 = .ok (.iinc 1 1, 3) := by decide +kernel
theorem dX6_digest_120 : decode cX6_digest 120 = .ok (.goto (-19), 3) := by decide +kernel
theorem dX6_digest_123 : decode cX6_digest 123 = .ok (.iconst 0, 1) := by decide +kernel
theorem dX6_digest_124 : decode cX6_digest 124 = .ok (.istore_n 1, 1) := by decide +kernel
theorem dX6_digest_125 : decode cX6_digest 125 = .ok (.iload_n 1, 1) := by decide +kernel
theorem dX6_digest_126 : decode cX6_digest 126 = .ok (.bipush 6, 2) := by decide +kernel
theorem dX6_digest_128 : decode cX6_digest 128 = .ok (.if_icmp .ge 49, 3) := by decide +kernel
theorem dX6_digest_131 : decode cX6_digest 131 = .ok (.aload_n 0, 1) := by decide +kernel
theorem dX6_digest_132 : decode cX6_digest 132 = .ok (.aload_n 0, 1) := by decide +kernel
theorem dX6_digest_133 : decode cX6_digest 133 = .ok (.getfield 17, 3) := by decide +kernel
theorem dX6_digest_136 : decode cX6_digest 136 = .ok (.iload_n 1, 1) := by decide +kernel
theorem dX6_digest_137 : decode cX6_digest 137 = .ok (.iaload, 1) := by decide +kernel
theorem dX6_digest_138 : decode cX6_digest 138 = .ok (.i2l, 1) := by decide +kernel
theorem dX6_digest_139 : decode cX6_digest 139 = .ok (.invokevirtual 275, 3) := by decide +kernel
theorem dX6_digest_142 : decode cX6_digest 142 = .ok (.iconst 0, 1) := by decide +kernel
theorem dX6_digest_143 : decode cX6_digest 143 = .ok (.istore_n 2, 1) := by decide +kernel
theorem dX6_digest_144 : decode cX6_digest 144 = .ok (.iload_n 2, 1) := by decide +kernel
theorem dX6_digest_145 : decode cX6_digest 145 = .ok (.aload_n 0, 1) := by decide +kernel
theorem dX6_digest_146 : decode cX6_digest 146 = .ok (.getfield 17, 3) := by decide +kernel
theorem dX6_digest_149 : decode cX6_digest 149 = .ok (.iload_n 1, 1) := by decide +kernel
theorem dX6_digest_150 : decode cX6_digest 150 = .ok (.iaload, 1) := by decide +kernel
theorem dX6_digest_151 : decode cX6_digest 151 = .ok (.if_icmp .ge 20, 3) := by decide +kernel
theorem dX6_digest_154 : decode cX6_digest 154 = .ok (.aload_n 0, 1) := by decide +kernel
theorem dX6_digest_155 : decode cX6_digest 155 = .ok (.aload_n 0, 1) := by decide +kernel
theorem dX6_digest_156 : decode cX6_digest 156 = .ok (.iload_n 1, 1) := by decide +kernel
theorem dX6_digest_157 : decode cX6_digest 157 = .ok (.iload_n 2, 1) := by decide +kernel
theorem dX6_digest_158 : decode cX6_digest 158 = .ok (.invokevirtual 95, 3) := by decide +kernel
theorem dX6_digest_161 : decode cX6_digest 161 = .ok (.i2l, 1) := by decide +kernel
theorem dX6_digest_162 : decode cX6_digest 162 = .ok (.invokevirtual 275, 3) := by decide +kernel
theorem dX6_digest_165 : decode cX6_digest 165 = .ok (.iinc 2 1, 3) := by decide +kernel
theorem dX6_digest_168 : decode cX6_digest 168 = .ok (.goto (-24), 3) := by decide +kernel
theorem dX6_digest_171 : decode cX6_digest 171 = .ok (.iinc 1 1, 3) := by decide +kernel
theorem dX6_digest_174 : decode cX6_digest 174 = .ok (.goto (-49), 3) := by decide +kernel
theorem dX6_digest_177 : decode cX6_digest 177 = .ok (.iconst 0, 1) := by decide +kernel
theorem dX6_digest_178 : decode cX6_digest 178 = .ok (.istore_n 1, 1) := by decide +kernel
theorem dX6_digest_179 : decode cX6_digest 179 = .ok (.iload_n 1, 1) := by decide +kernel
theorem dX6_digest_180 : decode cX6_digest 180 = .ok (.iconst 4, 1) := by decide +kernel
theorem dX6_digest_181 : decode cX6_digest 181 = .ok (.if_icmp .ge 54, 3) := by decide +kernel
theorem dX6_digest_184 : decode cX6_digest 184 = .ok (.aload_n 0, 1) := by decide +kernel
theorem dX6_digest_185 : decode cX6_digest 185 = .ok (.aload_n 0, 1) := by decide +kernel
theorem dX6_digest_186 : decode cX6_digest 186 = .ok (.getfield 26, 3) := by decide +kernel
theorem dX6_digest_189 : decode cX6_digest 189 = .ok (.iload_n 1, 1) := by decide +kernel
theorem dX6_digest_190 : decode cX6_digest 190 = .ok (.iaload, 1) := by decide +kernel
theorem dX6_digest_191 : decode cX6_digest 191 = .ok (.i2l, 1) := by decide +kernel
theorem dX6_digest_192 : decode cX6_digest 192 = .ok (.invokevirtual 275, 3) := by decide +kernel
theorem dX6_digest_195 : decode cX6_digest 195 = .ok (.iconst 0, 1) := by decide +kernel
theorem dX6_digest_196 : decode cX6_digest 196 = .ok (.istore_n 2, 1) := by decide +kernel
theorem dX6_digest_197 : decode cX6_digest 197 = .ok (.iload_n 2, 1) := by decide +kernel
theorem dX6_digest_198 : decode cX6_digest 198 = .ok (.aload_n 0, 1) := by decide +kernel
theorem dX6_digest_199 : decode cX6_digest 199 = .ok (.getfield 26, 3) := by decide +kernel
theorem dX6_digest_202 : decode cX6_digest 202 = .ok (.iload_n 1, 1) := by decide +kernel
theorem dX6_digest_203 : decode cX6_digest 203 = .ok (.iaload, 1) := by decide +kernel
theorem dX6_digest_204 : decode cX6_digest 204 = .ok (.if_icmp .ge 25, 3) := by decide +kernel
theorem dX6_digest_207 : decode cX6_digest 207 = .ok (.aload_n 0, 1) := by decide +kernel
theorem dX6_digest_208 : decode cX6_digest 208 = .ok (.aload_n 0, 1) := by decide +kernel
theorem dX6_digest_209 : decode cX6_digest 209 = .ok (.getfield 29, 3) := by decide +kernel
theorem dX6_digest_212 : decode cX6_digest 212 = .ok (.bipush 60, 2) := by decide +kernel
theorem dX6_digest_214 : decode cX6_digest 214 = .ok (.iload_n 1, 1) := by decide +kernel
theorem dX6_digest_215 : decode cX6_digest 215 = .ok (.imul, 1) := by decide +kernel
theorem dX6_digest_216 : decode cX6_digest 216 = .ok (.iload_n 2, 1) := by decide +kernel
theorem dX6_digest_217 : decode cX6_digest 217 = .ok (.iadd, 1) := by decide +kernel
theorem dX6_digest_218 : decode cX6_digest 218 = .ok (.baload, 1) := by decide +kernel
theorem dX6_digest_219 : decode cX6_digest 219 = .ok (.i2l, 1) := by decide +kernel
theorem dX6_digest_220 : decode cX6_digest 220 = .ok (.invokevirtual 275, 3) := by decide +kernel
theorem dX6_digest_223 : decode cX6_digest 223 = .ok (.iinc 2 1, 3) := by decide +kernel
theorem dX6_digest_226 : decode cX6_digest 226 = .ok (.goto (-29), 3) := by decide +kernel
theorem dX6_digest_229 : decode cX6_digest 229 = .ok (.iinc 1 1, 3) := by decide +kernel
theorem dX6_digest_232 : decode cX6_digest 232 = .ok (.goto (-53), 3) := by decide +kernel
theorem dX6_digest_235 : decode cX6_digest 235 = .ok (.aload_n 0, 1) := by decide +kernel
theorem dX6_digest_236 : decode cX6_digest 236 = .ok (.getfield 270, 3) := by decide +kernel
theorem dX6_digest_239 : decode cX6_digest 239 = .ok (.lreturn, 1) := by decide +kernel
theorem dJ6_numberOfTrailingZeros_0f7a4_0 : decode cJ6_numberOfTrailingZeros_0f7a4 0 = .ok (.iload_n 0, 1) := by decide +kernel
theorem dJ6_numberOfTrailingZeros_0f7a4_1 : decode cJ6_numberOfTrailingZeros_0f7a4 1 = .ok (.iconst (-1), 1) := by decide +kernel
theorem dJ6_numberOfTrailingZeros_0f7a4_2 : decode cJ6_numberOfTrailingZeros_0f7a4 2 = .ok (.ixor, 1) := by decide +kernel
theorem dJ6_numberOfTrailingZeros_0f7a4_3 : decode cJ6_numberOfTrailingZeros_0f7a4 3 = .ok (.iload_n 0, 1) := by decide +kernel
theorem dJ6_numberOfTrailingZeros_0f7a4_4 : decode cJ6_numberOfTrailingZeros_0f7a4 4 = .ok (.iconst 1, 1) := by decide +kernel
theorem dJ6_numberOfTrailingZeros_0f7a4_5 : decode cJ6_numberOfTrailingZeros_0f7a4 5 = .ok (.isub, 1) := by decide +kernel
theorem dJ6_numberOfTrailingZeros_0f7a4_6 : decode cJ6_numberOfTrailingZeros_0f7a4 6 = .ok (.iand, 1) := by decide +kernel
theorem dJ6_numberOfTrailingZeros_0f7a4_7 : decode cJ6_numberOfTrailingZeros_0f7a4 7 = .ok (.istore_n 0, 1) := by decide +kernel
theorem dJ6_numberOfTrailingZeros_0f7a4_8 : decode cJ6_numberOfTrailingZeros_0f7a4 8 = .ok (.iload_n 0, 1) := by decide +kernel
theorem dJ6_numberOfTrailingZeros_0f7a4_9 : decode cJ6_numberOfTrailingZeros_0f7a4 9 = .ok (.ifCond .gt 8, 3) := by decide +kernel
theorem dJ6_numberOfTrailingZeros_0f7a4_12 : decode cJ6_numberOfTrailingZeros_0f7a4 12 = .ok (.iload_n 0, 1) := by decide +kernel
theorem dJ6_numberOfTrailingZeros_0f7a4_13 : decode cJ6_numberOfTrailingZeros_0f7a4 13 = .ok (.bipush 32, 2) := by decide +kernel
theorem dJ6_numberOfTrailingZeros_0f7a4_15 : decode cJ6_numberOfTrailingZeros_0f7a4 15 = .ok (.iand, 1) := by decide +kernel
theorem dJ6_numberOfTrailingZeros_0f7a4_16 : decode cJ6_numberOfTrailingZeros_0f7a4 16 = .ok (.ireturn, 1) := by decide +kernel
theorem dJ6_numberOfTrailingZeros_0f7a4_17 : decode cJ6_numberOfTrailingZeros_0f7a4 17 = .ok (.iconst 1, 1) := by decide +kernel
theorem dJ6_numberOfTrailingZeros_0f7a4_18 : decode cJ6_numberOfTrailingZeros_0f7a4 18 = .ok (.istore_n 1, 1) := by decide +kernel
theorem dJ6_numberOfTrailingZeros_0f7a4_19 : decode cJ6_numberOfTrailingZeros_0f7a4 19 = .ok (.iload_n 0, 1) := by decide +kernel
theorem dJ6_numberOfTrailingZeros_0f7a4_20 : decode cJ6_numberOfTrailingZeros_0f7a4 20 = .ok (.ldc_w 264, 3) := by decide +kernel
theorem dJ6_numberOfTrailingZeros_0f7a4_23 : decode cJ6_numberOfTrailingZeros_0f7a4 23 = .ok (.if_icmp .le 11, 3) := by decide +kernel
theorem dJ6_numberOfTrailingZeros_0f7a4_26 : decode cJ6_numberOfTrailingZeros_0f7a4 26 = .ok (.iinc 1 16, 3) := by decide +kernel
theorem dJ6_numberOfTrailingZeros_0f7a4_29 : decode cJ6_numberOfTrailingZeros_0f7a4 29 = .ok (.iload_n 0, 1) := by decide +kernel
theorem dJ6_numberOfTrailingZeros_0f7a4_30 : decode cJ6_numberOfTrailingZeros_0f7a4 30 = .ok (.bipush 16, 2) := by decide +kernel
theorem dJ6_numberOfTrailingZeros_0f7a4_32 : decode cJ6_numberOfTrailingZeros_0f7a4 32 = .ok (.iushr, 1) := by decide +kernel
theorem dJ6_numberOfTrailingZeros_0f7a4_33 : decode cJ6_numberOfTrailingZeros_0f7a4 33 = .ok (.istore_n 0, 1) := by decide +kernel
theorem dJ6_numberOfTrailingZeros_0f7a4_34 : decode cJ6_numberOfTrailingZeros_0f7a4 34 = .ok (.iload_n 0, 1) := by decide +kernel
theorem dJ6_numberOfTrailingZeros_0f7a4_35 : decode cJ6_numberOfTrailingZeros_0f7a4 35 = .ok (.sipush 256, 3) := by decide +kernel
theorem dJ6_numberOfTrailingZeros_0f7a4_38 : decode cJ6_numberOfTrailingZeros_0f7a4 38 = .ok (.if_icmp .le 11, 3) := by decide +kernel
theorem dJ6_numberOfTrailingZeros_0f7a4_41 : decode cJ6_numberOfTrailingZeros_0f7a4 41 = .ok (.iinc 1 8, 3) := by decide +kernel
theorem dJ6_numberOfTrailingZeros_0f7a4_44 : decode cJ6_numberOfTrailingZeros_0f7a4 44 = .ok (.iload_n 0, 1) := by decide +kernel
theorem dJ6_numberOfTrailingZeros_0f7a4_45 : decode cJ6_numberOfTrailingZeros_0f7a4 45 = .ok (.bipush 8, 2) := by decide +kernel
theorem dJ6_numberOfTrailingZeros_0f7a4_47 : decode cJ6_numberOfTrailingZeros_0f7a4 47 = .ok (.iushr, 1) := by decide +kernel
theorem dJ6_numberOfTrailingZeros_0f7a4_48 : decode cJ6_numberOfTrailingZeros_0f7a4 48 = .ok (.istore_n 0, 1) := by decide +kernel
theorem dJ6_numberOfTrailingZeros_0f7a4_49 : decode cJ6_numberOfTrailingZeros_0f7a4 49 = .ok (.iload_n 0, 1) := by decide +kernel
theorem dJ6_numberOfTrailingZeros_0f7a4_50 : decode cJ6_numberOfTrailingZeros_0f7a4 50 = .ok (.bipush 16, 2) := by decide +kernel
theorem dJ6_numberOfTrailingZeros_0f7a4_52 : decode cJ6_numberOfTrailingZeros_0f7a4 52 = .ok (.if_icmp .le 10, 3) := by decide +kernel
theorem dJ6_numberOfTrailingZeros_0f7a4_55 : decode cJ6_numberOfTrailingZeros_0f7a4 55 = .ok (.iinc 1 4, 3) := by decide +kernel
theorem dJ6_numberOfTrailingZeros_0f7a4_58 : decode cJ6_numberOfTrailingZeros_0f7a4 58 = .ok (.iload_n 0, 1) := by decide +kernel
theorem dJ6_numberOfTrailingZeros_0f7a4_59 : decode cJ6_numberOfTrailingZeros_0f7a4 59 = .ok (.iconst 4, 1) := by decide +kernel
theorem dJ6_numberOfTrailingZeros_0f7a4_60 : decode cJ6_numberOfTrailingZeros_0f7a4 60 = .ok (.iushr, 1) := by decide +kernel
theorem dJ6_numberOfTrailingZeros_0f7a4_61 : decode cJ6_numberOfTrailingZeros_0f7a4 61 = .ok (.istore_n 0, 1) := by decide +kernel
theorem dJ6_numberOfTrailingZeros_0f7a4_62 : decode cJ6_numberOfTrailingZeros_0f7a4 62 = .ok (.iload_n 0, 1) := by decide +kernel
theorem dJ6_numberOfTrailingZeros_0f7a4_63 : decode cJ6_numberOfTrailingZeros_0f7a4 63 = .ok (.iconst 4, 1) := by decide +kernel
theorem dJ6_numberOfTrailingZeros_0f7a4_64 : decode cJ6_numberOfTrailingZeros_0f7a4 64 = .ok (.if_icmp .le 10, 3) := by decide +kernel
theorem dJ6_numberOfTrailingZeros_0f7a4_67 : decode cJ6_numberOfTrailingZeros_0f7a4 67 = .ok (.iinc 1 2, 3) := by decide +kernel
theorem dJ6_numberOfTrailingZeros_0f7a4_70 : decode cJ6_numberOfTrailingZeros_0f7a4 70 = .ok (.iload_n 0, 1) := by decide +kernel
theorem dJ6_numberOfTrailingZeros_0f7a4_71 : decode cJ6_numberOfTrailingZeros_0f7a4 71 = .ok (.iconst 2, 1) := by decide +kernel
theorem dJ6_numberOfTrailingZeros_0f7a4_72 : decode cJ6_numberOfTrailingZeros_0f7a4 72 = .ok (.iushr, 1) := by decide +kernel
theorem dJ6_numberOfTrailingZeros_0f7a4_73 : decode cJ6_numberOfTrailingZeros_0f7a4 73 = .ok (.istore_n 0, 1) := by decide +kernel
theorem dJ6_numberOfTrailingZeros_0f7a4_74 : decode cJ6_numberOfTrailingZeros_0f7a4 74 = .ok (.iload_n 1, 1) := by decide +kernel
theorem dJ6_numberOfTrailingZeros_0f7a4_75 : decode cJ6_numberOfTrailingZeros_0f7a4 75 = .ok (.iload_n 0, 1) := by decide +kernel
theorem dJ6_numberOfTrailingZeros_0f7a4_76 : decode cJ6_numberOfTrailingZeros_0f7a4 76 = .ok (.iconst 1, 1) := by decide +kernel
theorem dJ6_numberOfTrailingZeros_0f7a4_77 : decode cJ6_numberOfTrailingZeros_0f7a4 77 = .ok (.iushr, 1) := by decide +kernel
theorem dJ6_numberOfTrailingZeros_0f7a4_78 : decode cJ6_numberOfTrailingZeros_0f7a4 78 = .ok (.iadd, 1) := by decide +kernel
theorem dJ6_numberOfTrailingZeros_0f7a4_79 : decode cJ6_numberOfTrailingZeros_0f7a4 79 = .ok (.ireturn, 1) := by decide +kernel
theorem dJ6_bitCount_0f7a4_0 : decode cJ6_bitCount_0f7a4 0 = .ok (.iload_n 0, 1) := by decide +kernel
theorem dJ6_bitCount_0f7a4_1 : decode cJ6_bitCount_0f7a4 1 = .ok (.iload_n 0, 1) := by decide +kernel
theorem dJ6_bitCount_0f7a4_2 : decode cJ6_bitCount_0f7a4 2 = .ok (.iconst 1, 1) := by decide +kernel
theorem dJ6_bitCount_0f7a4_3 : decode cJ6_bitCount_0f7a4 3 = .ok (.iushr, 1) := by decide +kernel
theorem dJ6_bitCount_0f7a4_4 : decode cJ6_bitCount_0f7a4 4 = .ok (.ldc_w 265, 3) := by decide +kernel
theorem dJ6_bitCount_0f7a4_7 : decode cJ6_bitCount_0f7a4 7 = .ok (.iand, 1) := by decide +kernel
theorem dJ6_bitCount_0f7a4_8 : decode cJ6_bitCount_0f7a4 8 = .ok (.isub, 1) := by decide +kernel
theorem dJ6_bitCount_0f7a4_9 : decode cJ6_bitCount_0f7a4 9 = .ok (.istore_n 0, 1) := by decide +kernel
theorem dJ6_bitCount_0f7a4_10 : decode cJ6_bitCount_0f7a4 10 = .ok (.iload_n 0, 1) := by decide +kernel
theorem dJ6_bitCount_0f7a4_11 : decode cJ6_bitCount_0f7a4 11 = .ok (.ldc_w 266, 3) := by decide +kernel
theorem dJ6_bitCount_0f7a4_14 : decode cJ6_bitCount_0f7a4 14 = .ok (.iand, 1) := by decide +kernel
theorem dJ6_bitCount_0f7a4_15 : decode cJ6_bitCount_0f7a4 15 = .ok (.iload_n 0, 1) := by decide +kernel
theorem dJ6_bitCount_0f7a4_16 : decode cJ6_bitCount_0f7a4 16 = .ok (.iconst 2, 1) := by decide +kernel
theorem dJ6_bitCount_0f7a4_17 : decode cJ6_bitCount_0f7a4 17 = .ok (.iushr, 1) := by decide +kernel
theorem dJ6_bitCount_0f7a4_18 : decode cJ6_bitCount_0f7a4 18 = .ok (.ldc_w 266, 3) := by decide +kernel
theorem dJ6_bitCount_0f7a4_21 : decode cJ6_bitCount_0f7a4 21 = .ok (.iand, 1) := by decide +kernel
theorem dJ6_bitCount_0f7a4_22 : decode cJ6_bitCount_0f7a4 22 = .ok (.iadd, 1) := by decide +kernel
theorem dJ6_bitCount_0f7a4_23 : decode cJ6_bitCount_0f7a4 23 = .ok (.istore_n 0, 1) := by decide +kernel
theorem dJ6_bitCount_0f7a4_24 : decode cJ6_bitCount_0f7a4 24 = .ok (.iload_n 0, 1) := by decide +kernel
theorem dJ6_bitCount_0f7a4_25 : decode cJ6_bitCount_0f7a4 25 = .ok (.iload_n 0, 1) := by decide +kernel
theorem dJ6_bitCount_0f7a4_26 : decode cJ6_bitCount_0f7a4 26 = .ok (.iconst 4, 1) := by decide +kernel
theorem dJ6_bitCount_0f7a4_27 : decode cJ6_bitCount_0f7a4 27 = .ok (.iushr, 1) := by decide +kernel
theorem dJ6_bitCount_0f7a4_28 : decode cJ6_bitCount_0f7a4 28 = .ok (.iadd, 1) := by decide +kernel
theorem dJ6_bitCount_0f7a4_29 : decode cJ6_bitCount_0f7a4 29 = .ok (.ldc_w 267, 3) := by decide +kernel
theorem dJ6_bitCount_0f7a4_32 : decode cJ6_bitCount_0f7a4 32 = .ok (.iand, 1) := by decide +kernel
theorem dJ6_bitCount_0f7a4_33 : decode cJ6_bitCount_0f7a4 33 = .ok (.istore_n 0, 1) := by decide +kernel
theorem dJ6_bitCount_0f7a4_34 : decode cJ6_bitCount_0f7a4 34 = .ok (.iload_n 0, 1) := by decide +kernel
theorem dJ6_bitCount_0f7a4_35 : decode cJ6_bitCount_0f7a4 35 = .ok (.iload_n 0, 1) := by decide +kernel
theorem dJ6_bitCount_0f7a4_36 : decode cJ6_bitCount_0f7a4 36 = .ok (.bipush 8, 2) := by decide +kernel
theorem dJ6_bitCount_0f7a4_38 : decode cJ6_bitCount_0f7a4 38 = .ok (.iushr, 1) := by decide +kernel
theorem dJ6_bitCount_0f7a4_39 : decode cJ6_bitCount_0f7a4 39 = .ok (.iadd, 1) := by decide +kernel
theorem dJ6_bitCount_0f7a4_40 : decode cJ6_bitCount_0f7a4 40 = .ok (.istore_n 0, 1) := by decide +kernel
theorem dJ6_bitCount_0f7a4_41 : decode cJ6_bitCount_0f7a4 41 = .ok (.iload_n 0, 1) := by decide +kernel
theorem dJ6_bitCount_0f7a4_42 : decode cJ6_bitCount_0f7a4 42 = .ok (.iload_n 0, 1) := by decide +kernel
theorem dJ6_bitCount_0f7a4_43 : decode cJ6_bitCount_0f7a4 43 = .ok (.bipush 16, 2) := by decide +kernel
theorem dJ6_bitCount_0f7a4_45 : decode cJ6_bitCount_0f7a4 45 = .ok (.iushr, 1) := by decide +kernel
theorem dJ6_bitCount_0f7a4_46 : decode cJ6_bitCount_0f7a4 46 = .ok (.iadd, 1) := by decide +kernel
theorem dJ6_bitCount_0f7a4_47 : decode cJ6_bitCount_0f7a4 47 = .ok (.istore_n 0, 1) := by decide +kernel
theorem dJ6_bitCount_0f7a4_48 : decode cJ6_bitCount_0f7a4 48 = .ok (.iload_n 0, 1) := by decide +kernel
theorem dJ6_bitCount_0f7a4_49 : decode cJ6_bitCount_0f7a4 49 = .ok (.bipush 63, 2) := by decide +kernel
theorem dJ6_bitCount_0f7a4_51 : decode cJ6_bitCount_0f7a4 51 = .ok (.iand, 1) := by decide +kernel
theorem dJ6_bitCount_0f7a4_52 : decode cJ6_bitCount_0f7a4 52 = .ok (.ireturn, 1) := by decide +kernel
theorem dJ9_floorDiv_7cf53_0 : decode cJ9_floorDiv_7cf53 0 = .ok (.iload_n 0, 1) := by decide +kernel
theorem dJ9_floorDiv_7cf53_1 : decode cJ9_floorDiv_7cf53 1 = .ok (.iload_n 1, 1) := by decide +kernel
theorem dJ9_floorDiv_7cf53_2 : decode cJ9_floorDiv_7cf53 2 = .ok (.idiv, 1) := by decide +kernel
theorem dJ9_floorDiv_7cf53_3 : decode cJ9_floorDiv_7cf53 3 = .ok (.istore_n 2, 1) := by decide +kernel
theorem dJ9_floorDiv_7cf53_4 : decode cJ9_floorDiv_7cf53 4 = .ok (.iload_n 0, 1) := by decide +kernel
theorem dJ9_floorDiv_7cf53_5 : decode cJ9_floorDiv_7cf53 5 = .ok (.iload_n 1, 1) := by decide +kernel
theorem dJ9_floorDiv_7cf53_6 : decode cJ9_floorDiv_7cf53 6 = .ok (.ixor, 1) := by decide +kernel
theorem dJ9_floorDiv_7cf53_7 : decode cJ9_floorDiv_7cf53 7 = .ok (.ifCond .ge 14, 3) := by decide +kernel
theorem dJ9_floorDiv_7cf53_10 : decode cJ9_floorDiv_7cf53 10 = .ok (.iload_n 2, 1) := by decide +kernel
theorem dJ9_floorDiv_7cf53_11 : decode cJ9_floorDiv_7cf53 11 = .ok (.iload_n 1, 1) := by decide +kernel
theorem dJ9_floorDiv_7cf53_12 : decode cJ9_floorDiv_7cf53 12 = .ok (.imul, 1) := by decide +kernel
theorem dJ9_floorDiv_7cf53_13 : decode cJ9_floorDiv_7cf53 13 = .ok (.iload_n 0, 1) := by decide +kernel
theorem dJ9_floorDiv_7cf53_14 : decode cJ9_floorDiv_7cf53 14 = .ok (.if_icmp .eq 7, 3) := by decide +kernel
theorem dJ9_floorDiv_7cf53_17 : decode cJ9_floorDiv_7cf53 17 = .ok (.iload_n 2, 1) := by decide +kernel
theorem dJ9_floorDiv_7cf53_18 : decode cJ9_floorDiv_7cf53 18 = .ok (.iconst 1, 1) := by decide +kernel
theorem dJ9_floorDiv_7cf53_19 : decode cJ9_floorDiv_7cf53 19 = .ok (.isub, 1) := by decide +kernel
theorem dJ9_floorDiv_7cf53_20 : decode cJ9_floorDiv_7cf53 20 = .ok (.ireturn, 1) := by decide +kernel
theorem dJ9_floorDiv_7cf53_21 : decode cJ9_floorDiv_7cf53 21 = .ok (.iload_n 2, 1) := by decide +kernel
theorem dJ9_floorDiv_7cf53_22 : decode cJ9_floorDiv_7cf53 22 = .ok (.ireturn, 1) := by decide +kernel
theorem dJ9_max_7cf53_0 : decode cJ9_max_7cf53 0 = .ok (.iload_n 0, 1) := by decide +kernel
theorem dJ9_max_7cf53_1 : decode cJ9_max_7cf53 1 = .ok (.iload_n 1, 1) := by decide +kernel
theorem dJ9_max_7cf53_2 : decode cJ9_max_7cf53 2 = .ok (.if_icmp .lt 7, 3) := by decide +kernel
theorem dJ9_max_7cf53_5 : decode cJ9_max_7cf53 5 = .ok (.iload_n 0, 1) := by decide +kernel
theorem dJ9_max_7cf53_6 : decode cJ9_max_7cf53 6 = .ok (.goto 4, 3) := by decide +kernel
theorem dJ9_max_7cf53_9 : decode cJ9_max_7cf53 9 = .ok (.iload_n 1, 1) := by decide +kernel
theorem dJ9_max_7cf53_10 : decode cJ9_max_7cf53 10 = .ok (.ireturn, 1) := by decide +kernel
theorem dJ9_min_7cf53_0 : decode cJ9_min_7cf53 0 = .ok (.iload_n 0, 1) := by decide +kernel
theorem dJ9_min_7cf53_1 : decode cJ9_min_7cf53 1 = .ok (.iload_n 1, 1) := by decide +kernel
theorem dJ9_min_7cf53_2 : decode cJ9_min_7cf53 2 = .ok (.if_icmp .gt 7, 3) := by decide +kernel
theorem dJ9_min_7cf53_5 : decode cJ9_min_7cf53 5 = .ok (.iload_n 0, 1) := by decide +kernel
theorem dJ9_min_7cf53_6 : decode cJ9_min_7cf53 6 = .ok (.goto 4, 3) := by decide +kernel
theorem dJ9_min_7cf53_9 : decode cJ9_min_7cf53 9 = .ok (.iload_n 1, 1) := by decide +kernel
theorem dJ9_min_7cf53_10 : decode cJ9_min_7cf53 10 = .ok (.ireturn, 1) := by decide +kernel
set_option maxRecDepth 20000 in
theorem ggL_law_X5_init : GoodIn wsL_law wsX5_init := goodIn_r _ [8, 9, 10, 11, 12, 13, 14, 15, 16, 17, 18, 19, 20, 21, 22, 23, 24, 25, 26, 27, 28, 29, 30, 31, 32, 33, 34, 35, 36, 37, 38, 39, 40, 41, 42, 43, 44, 45, 46, 47, 48, 49, 50, 51, 52, 53, 54, 55, 56, 57, 58, 59, 60, 61, 62, 63, 64, 65, 1020, 1021, 1022, 974, 975, 976, 977, 978, 979, 980, 981, 982, 983, 984, 985, 1023, 1024, 1025, 1026, 1027, 1028, 1029, 1030, 1031, 1032, 1033, 1034, 1035, 1036, 1037, 1038, 1039, 1040, 1041, 1042, 1043, 1044, 1045] (by decide +kernel) (by decide +kernel)
set_option maxRecDepth 20000 in
theorem gL_law_X5_init : GoodIn wsL_law (wsX5_init) := ggL_law_X5_init
set_option maxRecDepth 20000 in
theorem ggL_law_X6_init : GoodIn wsL_law wsX6_init := goodIn_r _ [68, 69, 10, 11, 70, 30, 71, 72, 73, 74, 75, 76, 77, 78, 79, 80, 81, 82, 83, 84, 85, 86, 87, 88, 89, 90, 91, 986, 987, 988, 989, 990, 991, 992, 993, 994, 995, 996, 997, 998, 999, 1000, 1001, 1002, 1003, 1004, 1005, 1006, 1007, 1008, 1009, 1010, 1011, 1012, 1013, 1014, 1015, 1016, 1017, 1018, 1019] (by decide +kernel) (by decide +kernel)
set_option maxRecDepth 20000 in
theorem gL_law_X6_init : GoodIn wsL_law (wsX6_init) := ggL_law_X6_init
set_option maxRecDepth 20000 in
theorem ggL_law_X5_row : GoodIn wsL_law wsX5_row := goodIn_r _ [95, 15, 96, 97, 98, 14, 99, 43, 100, 101, 102, 2, 103, 104, 32, 105, 106, 107, 108, 42, 44, 109, 974, 975, 976, 977, 978, 979, 980, 981, 982, 983, 984, 985, 1020, 1021, 1022] (by decide +kernel) (by decide +kernel)
set_option maxRecDepth 20000 in
theorem gL_law_X5_row : GoodIn wsL_law (wsV RL 13 RX5 yX5_row wsX5_row) := goodIn_app (goodIn_of _ (by decide +kernel)) ggL_law_X5_row
set_option maxRecDepth 20000 in
theorem ggL_law_X6_row : GoodIn wsL_law wsX6_row := goodIn_r _ [113, 72, 73, 114, 115, 5, 116, 117, 118, 119, 120, 121, 122, 123, 124, 71, 986, 987, 988, 989, 990, 991, 992, 993, 994, 995, 996, 997, 998, 999, 1000, 1001, 1002, 1003, 1004, 1005, 1006, 1007, 1008, 1009, 1010, 1011, 1012, 1013, 1014, 1015, 1016, 1017, 1018, 1019] (by decide +kernel) (by decide +kernel)
set_option maxRecDepth 20000 in
theorem gL_law_X6_row : GoodIn wsL_law (wsV RL 17 RX6 yX6_row wsX6_row) := goodIn_app (goodIn_of _ (by decide +kernel)) ggL_law_X6_row
set_option maxRecDepth 20000 in
theorem ggL_law_X5_lay : GoodIn wsL_law wsX5_lay := goodIn_r _ [128, 15, 129, 130, 131, 132, 2, 133, 134, 135, 136, 137, 96, 97, 98, 14, 99, 43, 138, 139, 140, 141, 142, 143, 144, 145, 109, 100, 101, 102, 103, 104, 32, 146, 147, 148, 149, 150, 151, 152, 153, 44, 42, 154, 155, 156, 157, 158, 974, 975, 976, 977, 978, 979, 980, 981, 982, 983, 984, 985, 1020, 1021, 1022] (by decide +kernel) (by decide +kernel)
set_option maxRecDepth 20000 in
theorem gL_law_X5_lay : GoodIn wsL_law (wsV RL 18 RX5 yX5_lay wsX5_lay) := goodIn_app (goodIn_of _ (by decide +kernel)) ggL_law_X5_lay
set_option maxRecDepth 20000 in
theorem ggL_law_X6_lay : GoodIn wsL_law wsX6_lay := goodIn_r _ [162, 72, 73, 114, 115, 5, 116, 117, 118, 119, 120, 121, 122, 123, 124, 71, 163, 164, 165, 166, 167, 168, 169, 170, 171, 986, 987, 988, 989, 990, 991, 992, 993, 994, 995, 996, 997, 998, 999, 1000, 1001, 1002, 1003, 1004, 1005, 1006, 1007, 1008, 1009, 1010, 1011, 1012, 1013, 1014, 1015, 1016, 1017, 1018, 1019] (by decide +kernel) (by decide +kernel)
set_option maxRecDepth 20000 in
theorem gL_law_X6_lay : GoodIn wsL_law (wsV RL 22 RX6 yX6_lay wsX6_lay) := goodIn_app (goodIn_of _ (by decide +kernel)) ggL_law_X6_lay
set_option maxRecDepth 20000 in
theorem ggL_law_X5_at : GoodIn wsL_law wsX5_at := goodIn_r _ [175, 15, 129, 130, 131, 132, 2, 133, 134, 135, 136, 137, 96, 97, 98, 14, 99, 43, 138, 139, 140, 141, 142, 143, 144, 145, 109, 100, 101, 102, 103, 104, 32, 146, 147, 148, 149, 150, 151, 152, 153, 44, 42, 154, 974, 975, 976, 977, 978, 979, 980, 981, 982, 983, 984, 985, 1020, 1021, 1022] (by decide +kernel) (by decide +kernel)
set_option maxRecDepth 20000 in
theorem gL_law_X5_at : GoodIn wsL_law (wsV RL 23 RX5 yX5_at wsX5_at) := goodIn_app (goodIn_of _ (by decide +kernel)) ggL_law_X5_at
set_option maxRecDepth 20000 in
theorem ggL_law_X6_at : GoodIn wsL_law wsX6_at := goodIn_r _ [179, 72, 114, 115, 5, 116, 117, 118, 119, 120, 121, 122, 123, 124, 71, 163, 164, 165, 166, 73, 167, 168, 169, 170, 171, 986, 987, 988, 989, 990, 991, 992, 993, 994, 995, 996, 997, 998, 999, 1000, 1001, 1002, 1003, 1004, 1005, 1006, 1007, 1008, 1009, 1010, 1011, 1012, 1013, 1014, 1015, 1016, 1017, 1018, 1019] (by decide +kernel) (by decide +kernel)
set_option maxRecDepth 20000 in
theorem gL_law_X6_at : GoodIn wsL_law (wsV RL 26 RX6 yX6_at wsX6_at) := goodIn_app (goodIn_of _ (by decide +kernel)) ggL_law_X6_at
set_option maxRecDepth 20000 in
theorem ggL_law_X5_tear : GoodIn wsL_law wsX5_tear := goodIn_r _ [183, 15, 134, 135, 136, 2, 137, 96, 97, 98, 14, 99, 43, 138, 139, 140, 141, 142, 143, 144, 145, 109, 100, 101, 102, 103, 104, 32, 184, 185, 186, 187, 974, 975, 976, 977, 978, 979, 980, 981, 982, 983, 984, 985, 1020, 1021, 1022] (by decide +kernel) (by decide +kernel)
set_option maxRecDepth 20000 in
theorem gL_law_X5_tear : GoodIn wsL_law (wsV RL 27 RX5 yX5_tear wsX5_tear) := goodIn_app (goodIn_of _ (by decide +kernel)) ggL_law_X5_tear
set_option maxRecDepth 20000 in
theorem ggL_law_X6_tear : GoodIn wsL_law wsX6_tear := goodIn_r _ [191, 72, 114, 115, 5, 116, 117, 118, 119, 120, 121, 122, 123, 124, 71, 986, 987, 988, 989, 990, 991, 992, 993, 994, 995, 996, 997, 998, 999, 1000, 1001, 1002, 1003, 1004, 1005, 1006, 1007, 1008, 1009, 1010, 1011, 1012, 1013, 1014, 1015, 1016, 1017, 1018, 1019] (by decide +kernel) (by decide +kernel)
set_option maxRecDepth 20000 in
theorem gL_law_X6_tear : GoodIn wsL_law (wsV RL 31 RX6 yX6_tear wsX6_tear) := goodIn_app (goodIn_of _ (by decide +kernel)) ggL_law_X6_tear
set_option maxRecDepth 20000 in
theorem ggL_law_X5_copy : GoodIn wsL_law wsX5_copy := goodIn_r _ [195, 15, 96, 97, 98, 14, 99, 43, 100, 101, 102, 2, 103, 104, 32, 138, 139, 140, 141, 142, 143, 144, 145, 109, 196, 197, 198, 199, 200, 201, 202, 203, 44, 42, 204, 205, 206, 207, 208, 974, 975, 976, 977, 978, 979, 980, 981, 982, 983, 984, 985, 1020, 1021, 1022] (by decide +kernel) (by decide +kernel)
set_option maxRecDepth 20000 in
theorem gL_law_X5_copy : GoodIn wsL_law (wsV RL 32 RX5 yX5_copy wsX5_copy) := goodIn_app (goodIn_of _ (by decide +kernel)) ggL_law_X5_copy
set_option maxRecDepth 20000 in
theorem ggL_law_X6_copy : GoodIn wsL_law wsX6_copy := goodIn_r _ [212, 72, 74, 73, 114, 115, 5, 116, 117, 118, 119, 120, 121, 122, 123, 124, 71, 163, 164, 165, 166, 986, 987, 988, 989, 990, 991, 992, 993, 994, 995, 996, 997, 998, 999, 1000, 1001, 1002, 1003, 1004, 1005, 1006, 1007, 1008, 1009, 1010, 1011, 1012, 1013, 1014, 1015, 1016, 1017, 1018, 1019] (by decide +kernel) (by decide +kernel)
set_option maxRecDepth 20000 in
theorem gL_law_X6_copy : GoodIn wsL_law (wsV RL 36 RX6 yX6_copy wsX6_copy) := goodIn_app (goodIn_of _ (by decide +kernel)) ggL_law_X6_copy
set_option maxRecDepth 20000 in
theorem ggL_law_X5_mean : GoodIn wsL_law wsX5_mean := goodIn_r _ [216, 15, 129, 134, 135, 136, 2, 137, 96, 97, 98, 14, 99, 43, 138, 139, 140, 141, 142, 143, 144, 145, 109, 100, 101, 102, 103, 104, 32, 217, 150, 151, 152, 153, 44, 42, 154, 147, 148, 149, 974, 975, 976, 977, 978, 979, 980, 981, 982, 983, 984, 985, 1020, 1021, 1022] (by decide +kernel) (by decide +kernel)
set_option maxRecDepth 20000 in
theorem gL_law_X5_mean : GoodIn wsL_law (wsV RL 37 RX5 yX5_mean wsX5_mean) := goodIn_app (goodIn_of _ (by decide +kernel)) ggL_law_X5_mean
set_option maxRecDepth 20000 in
theorem ggL_law_X6_mean : GoodIn wsL_law wsX6_mean := goodIn_r _ [221, 72, 114, 115, 5, 116, 117, 118, 119, 120, 121, 122, 123, 124, 71, 163, 164, 165, 166, 73, 167, 168, 169, 170, 171, 986, 987, 988, 989, 990, 991, 992, 993, 994, 995, 996, 997, 998, 999, 1000, 1001, 1002, 1003, 1004, 1005, 1006, 1007, 1008, 1009, 1010, 1011, 1012, 1013, 1014, 1015, 1016, 1017, 1018, 1019] (by decide +kernel) (by decide +kernel)
set_option maxRecDepth 20000 in
theorem gL_law_X6_mean : GoodIn wsL_law (wsV RL 40 RX6 yX6_mean wsX6_mean) := goodIn_app (goodIn_of _ (by decide +kernel)) ggL_law_X6_mean
set_option maxRecDepth 20000 in
theorem ggL_law_X5_text : GoodIn wsL_law wsX5_text := goodIn_r _ [225, 16, 96, 97, 98, 14, 99, 43, 100, 101, 102, 2, 103, 104, 32, 105, 106, 107, 108, 42, 44, 109, 974, 975, 976, 977, 978, 979, 980, 981, 982, 983, 984, 985, 1020, 1021, 1022] (by decide +kernel) (by decide +kernel)
set_option maxRecDepth 20000 in
theorem gL_law_X5_text : GoodIn wsL_law (wsV RL 41 RX5 yX5_text wsX5_text) := goodIn_app (goodIn_of _ (by decide +kernel)) ggL_law_X5_text
set_option maxRecDepth 20000 in
theorem ggL_law_X6_text : GoodIn wsL_law wsX6_text := goodIn_r _ [229, 75, 77, 230, 231, 5, 232, 117, 118, 119, 120, 121, 122, 123, 124, 71, 986, 987, 988, 989, 990, 991, 992, 993, 994, 995, 996, 997, 998, 999, 1000, 1001, 1002, 1003, 1004, 1005, 1006, 1007, 1008, 1009, 1010, 1011, 1012, 1013, 1014, 1015, 1016, 1017, 1018, 1019] (by decide +kernel) (by decide +kernel)
set_option maxRecDepth 20000 in
theorem gL_law_X6_text : GoodIn wsL_law (wsV RL 44 RX6 yX6_text wsX6_text) := goodIn_app (goodIn_of _ (by decide +kernel)) ggL_law_X6_text
set_option maxRecDepth 20000 in
theorem ggL_law_X5_put : GoodIn wsL_law wsX5_put := goodIn_r _ [236, 16, 130, 131, 132, 2, 133, 134, 135, 136, 137, 96, 97, 98, 14, 99, 43, 138, 139, 140, 141, 142, 143, 144, 145, 109, 100, 101, 102, 103, 104, 32, 146, 147, 148, 149, 150, 151, 152, 153, 44, 42, 154, 155, 156, 157, 158, 974, 975, 976, 977, 978, 979, 980, 981, 982, 983, 984, 985, 1020, 1021, 1022] (by decide +kernel) (by decide +kernel)
set_option maxRecDepth 20000 in
theorem gL_law_X5_put : GoodIn wsL_law (wsV RL 45 RX5 yX5_put wsX5_put) := goodIn_app (goodIn_of _ (by decide +kernel)) ggL_law_X5_put
set_option maxRecDepth 20000 in
theorem ggL_law_X6_put : GoodIn wsL_law wsX6_put := goodIn_r _ [240, 75, 77, 230, 231, 5, 232, 117, 118, 119, 120, 121, 122, 123, 124, 71, 986, 987, 988, 989, 990, 991, 992, 993, 994, 995, 996, 997, 998, 999, 1000, 1001, 1002, 1003, 1004, 1005, 1006, 1007, 1008, 1009, 1010, 1011, 1012, 1013, 1014, 1015, 1016, 1017, 1018, 1019] (by decide +kernel) (by decide +kernel)
set_option maxRecDepth 20000 in
theorem gL_law_X6_put : GoodIn wsL_law (wsV RL 48 RX6 yX6_put wsX6_put) := goodIn_app (goodIn_of _ (by decide +kernel)) ggL_law_X6_put
set_option maxRecDepth 20000 in
theorem ggL_law_X5_fault : GoodIn wsL_law wsX5_fault := goodIn_r _ [244, 16, 20, 134, 135, 136, 2, 137, 96, 97, 98, 14, 99, 43, 138, 139, 140, 141, 142, 143, 144, 145, 109, 100, 101, 102, 103, 104, 32, 245, 246, 247, 19, 248, 249, 250, 251, 252, 253, 254, 255, 151, 152, 153, 44, 42, 154, 147, 148, 149, 256, 257, 258, 259, 260, 261, 262, 48, 49, 50, 263, 264, 265, 266, 974, 975, 976, 977, 978, 979, 980, 981, 982, 983, 984, 985, 1020, 1021, 1022, 1023, 1024, 1025, 1026, 1027] (by decide +kernel) (by decide +kernel)
set_option maxRecDepth 20000 in
theorem gL_law_X5_fault : GoodIn wsL_law (wsV RL 49 RX5 yX5_fault wsX5_fault) := goodIn_app (goodIn_of _ (by decide +kernel)) ggL_law_X5_fault
set_option maxRecDepth 20000 in
theorem ggL_law_X6_fault : GoodIn wsL_law wsX6_fault := goodIn_r _ [270, 75, 230, 231, 5, 232, 117, 118, 119, 120, 121, 122, 123, 124, 71, 271, 272, 273, 274, 275, 276, 277, 278, 279, 280, 281, 77, 282, 283, 284, 285, 78, 79, 80, 286, 287, 288, 289, 290, 291, 292, 293, 294, 295, 296, 297, 986, 987, 988, 989, 990, 991, 992, 993, 994, 995, 996, 997, 998, 999, 1000, 1001, 1002, 1003, 1004, 1005, 1006, 1007, 1008, 1009, 1010, 1011, 1012, 1013, 1014, 1015, 1016, 1017, 1018, 1019] (by decide +kernel) (by decide +kernel)
set_option maxRecDepth 20000 in
theorem gL_law_X6_fault : GoodIn wsL_law (wsV RL 52 RX6 yX6_fault wsX6_fault) := goodIn_app (goodIn_of _ (by decide +kernel)) ggL_law_X6_fault
set_option maxRecDepth 20000 in
theorem ggL_law_X5_table : GoodIn wsL_law wsX5_table := goodIn_r _ [301, 16, 20, 24, 25, 134, 135, 136, 2, 137, 96, 97, 98, 14, 99, 43, 138, 139, 140, 141, 142, 143, 144, 145, 109, 100, 101, 102, 103, 104, 32, 245, 246, 247, 19, 248, 249, 250, 251, 252, 253, 254, 255, 151, 152, 153, 44, 42, 154, 147, 148, 149, 256, 257, 258, 259, 260, 261, 262, 48, 49, 50, 263, 264, 265, 266, 302, 303, 304, 23, 305, 306, 307, 55, 56, 57, 58, 59, 308, 309, 310, 311, 312, 313, 54, 314, 315, 316, 317, 318, 319, 974, 975, 976, 977, 978, 979, 980, 981, 982, 983, 984, 985, 1028, 1029, 1030, 1031, 1032, 1033, 1034, 1035, 1036, 1037, 1038, 1039, 1040, 1020, 1021, 1022, 1023, 1024, 1025, 1026, 1027] (by decide +kernel) (by decide +kernel)
set_option maxRecDepth 20000 in
theorem gL_law_X5_table : GoodIn wsL_law (wsV RL 53 RX5 yX5_table wsX5_table) := goodIn_app (goodIn_of _ (by decide +kernel)) ggL_law_X5_table
set_option maxRecDepth 20000 in
theorem ggL_law_X6_table : GoodIn wsL_law wsX6_table := goodIn_r _ [323, 75, 276, 324, 81, 78, 82, 79, 83, 80, 84, 297, 325, 86, 230, 231, 5, 232, 117, 118, 119, 120, 121, 122, 123, 124, 71, 271, 272, 273, 274, 275, 277, 278, 279, 280, 281, 77, 282, 283, 284, 285, 286, 287, 288, 289, 290, 291, 292, 293, 294, 295, 296, 986, 987, 988, 989, 990, 991, 992, 993, 994, 995, 996, 997, 998, 999, 1000, 1001, 1002, 1003, 1004, 1005, 1006, 1007, 1008, 1009, 1010, 1011, 1012, 1013, 1014, 1015, 1016, 1017, 1018, 1019] (by decide +kernel) (by decide +kernel)
set_option maxRecDepth 20000 in
theorem gL_law_X6_table : GoodIn wsL_law (wsV RL 56 RX6 yX6_table wsX6_table) := goodIn_app (goodIn_of _ (by decide +kernel)) ggL_law_X6_table
set_option maxRecDepth 20000 in
theorem ggL_law_X5_worker : GoodIn wsL_law wsX5_worker := goodIn_r _ [329, 24, 129, 330, 331, 332, 23, 333, 306, 334, 335, 336, 337, 55, 56, 57, 58, 59, 338, 339, 340, 341, 313, 342, 343, 344, 345, 346, 347, 265, 348, 349, 350, 351, 352, 353, 354, 355, 356, 357, 318, 358, 39, 40, 41, 359, 974, 975, 976, 977, 978, 979, 980, 981, 982, 983, 984, 985, 1028, 1029, 1030, 1031, 1032, 1033, 1034, 1035, 1036, 1037, 1038, 1039, 1040] (by decide +kernel) (by decide +kernel)
set_option maxRecDepth 20000 in
theorem gL_law_X5_worker : GoodIn wsL_law (wsV RL 57 RX5 yX5_worker wsX5_worker) := goodIn_app (goodIn_of _ (by decide +kernel)) ggL_law_X5_worker
set_option maxRecDepth 20000 in
theorem ggL_law_X6_worker : GoodIn wsL_law wsX6_worker := goodIn_r _ [363, 364, 365, 366, 5, 367, 324, 117, 118, 119, 368, 369, 370, 371, 81, 82, 83, 84, 372, 373, 374, 375, 376, 377, 378, 379, 380, 381, 382, 383, 384, 385, 386, 387, 388, 389, 390, 391, 392, 393, 394, 395, 396, 397, 167, 168, 169, 170, 171, 986, 987, 988, 989, 990, 991, 992, 993, 994, 995, 996, 997, 998, 999, 1000, 1001, 1002, 1003, 1004, 1005, 1006, 1007, 1008, 1009, 1010, 1011, 1012, 1013, 1014, 1015, 1016, 1017, 1018, 1019] (by decide +kernel) (by decide +kernel)
set_option maxRecDepth 20000 in
theorem gL_law_X6_worker : GoodIn wsL_law (wsV RL 60 RX6 yX6_worker wsX6_worker) := goodIn_app (goodIn_of _ (by decide +kernel)) ggL_law_X6_worker
set_option maxRecDepth 20000 in
theorem ggL_law_X5_mark : GoodIn wsL_law wsX5_mark := goodIn_r _ [401, 24, 402, 403, 330, 331, 332, 23, 333, 306, 404, 405, 265, 406, 100, 101, 102, 2, 103, 104, 32, 407, 347, 348, 349, 350, 351, 352, 353, 354, 408, 409, 410, 411, 412, 413, 414, 974, 975, 976, 977, 978, 979, 980, 981, 982, 983, 984, 985, 1028, 1029, 1030, 1031, 1032, 1033, 1034, 1035, 1036, 1037, 1038, 1039, 1040] (by decide +kernel) (by decide +kernel)
set_option maxRecDepth 20000 in
theorem gL_law_X5_mark : GoodIn wsL_law (wsV RL 61 RX5 yX5_mark wsX5_mark) := goodIn_app (goodIn_of _ (by decide +kernel)) ggL_law_X5_mark
set_option maxRecDepth 20000 in
theorem ggL_law_X6_mark : GoodIn wsL_law wsX6_mark := goodIn_r _ [418, 81, 364, 365, 366, 5, 367, 324, 117, 118, 119, 419, 420, 421, 120, 121, 122, 123, 124, 71, 422, 423, 424, 381, 382, 383, 425, 426, 427, 428, 429, 430, 431, 84, 986, 987, 988, 989, 990, 991, 992, 993, 994, 995, 996, 997, 998, 999, 1000, 1001, 1002, 1003, 1004, 1005, 1006, 1007, 1008, 1009, 1010, 1011, 1012, 1013, 1014, 1015, 1016, 1017, 1018, 1019] (by decide +kernel) (by decide +kernel)
set_option maxRecDepth 20000 in
theorem gL_law_X6_mark : GoodIn wsL_law (wsV RL 64 RX6 yX6_mark wsX6_mark) := goodIn_app (goodIn_of _ (by decide +kernel)) ggL_law_X6_mark
set_option maxRecDepth 20000 in
theorem ggL_law_X5_takes : GoodIn wsL_law wsX5_takes := goodIn_r _ [435, 24, 330, 331, 332, 23, 333, 306, 436, 437, 2, 438, 407, 347, 265, 348, 349, 350, 351, 352, 353, 354, 439, 440, 441, 974, 975, 976, 977, 978, 979, 980, 981, 982, 983, 984, 985, 1028, 1029, 1030, 1031, 1032, 1033, 1034, 1035, 1036, 1037, 1038, 1039, 1040] (by decide +kernel) (by decide +kernel)
set_option maxRecDepth 20000 in
theorem gL_law_X5_takes : GoodIn wsL_law (wsV RL 65 RX5 yX5_takes wsX5_takes) := goodIn_app (goodIn_of _ (by decide +kernel)) ggL_law_X5_takes
set_option maxRecDepth 20000 in
theorem ggL_law_X6_takes : GoodIn wsL_law wsX6_takes := goodIn_r _ [445, 81, 364, 365, 366, 5, 367, 324, 117, 118, 119, 446, 447, 448, 381, 382, 383, 986, 987, 988, 989, 990, 991, 992, 993, 994, 995, 996, 997, 998, 999, 1000, 1001, 1002, 1003, 1004, 1005, 1006, 1007, 1008, 1009, 1010, 1011, 1012, 1013, 1014, 1015, 1016, 1017, 1018, 1019] (by decide +kernel) (by decide +kernel)
set_option maxRecDepth 20000 in
theorem gL_law_X6_takes : GoodIn wsL_law (wsV RL 68 RX6 yX6_takes wsX6_takes) := goodIn_app (goodIn_of _ (by decide +kernel)) ggL_law_X6_takes
set_option maxRecDepth 20000 in
theorem ggL_law_X5_cut : GoodIn wsL_law wsX5_cut := goodIn_r _ [452, 24, 436, 437, 2, 438, 453, 454, 455, 23, 456, 307, 457, 458, 459, 460, 312, 461, 462, 463, 464, 465, 466, 467, 468, 54, 313, 469, 470, 471, 472, 60, 61, 62, 974, 975, 976, 977, 978, 979, 980, 981, 982, 983, 984, 985, 1028, 1029, 1030, 1031, 1032, 1033, 1034, 1035, 1036, 1037, 1038, 1039, 1040] (by decide +kernel) (by decide +kernel)
set_option maxRecDepth 20000 in
theorem gL_law_X5_cut : GoodIn wsL_law (wsV RL 69 RX5 yX5_cut wsX5_cut) := goodIn_app (goodIn_of _ (by decide +kernel)) ggL_law_X5_cut
set_option maxRecDepth 20000 in
theorem ggL_law_X6_cut : GoodIn wsL_law wsX6_cut := goodIn_r _ [476, 84, 325, 446, 447, 5, 448, 117, 118, 119, 477, 478, 479, 480, 85, 481, 482, 483, 484, 986, 987, 988, 989, 990, 991, 992, 993, 994, 995, 996, 997, 998, 999, 1000, 1001, 1002, 1003, 1004, 1005, 1006, 1007, 1008, 1009, 1010, 1011, 1012, 1013, 1014, 1015, 1016, 1017, 1018, 1019] (by decide +kernel) (by decide +kernel)
set_option maxRecDepth 20000 in
theorem gL_law_X6_cut : GoodIn wsL_law (wsV RL 72 RX6 yX6_cut wsX6_cut) := goodIn_app (goodIn_of _ (by decide +kernel)) ggL_law_X6_cut
set_option maxRecDepth 20000 in
theorem ggL_law_X5_give : GoodIn wsL_law wsX5_give := goodIn_r _ [488, 24, 330, 331, 332, 23, 333, 306, 436, 437, 2, 438, 489, 490, 491, 492, 338, 339, 340, 341, 313, 59, 342, 343, 344, 345, 55, 58, 346, 347, 265, 348, 349, 350, 351, 352, 353, 354, 355, 356, 357, 318, 358, 39, 40, 41, 359, 440, 441, 457, 458, 459, 460, 312, 493, 494, 495, 496, 497, 498, 499, 500, 465, 466, 467, 468, 54, 501, 502, 503, 469, 470, 471, 472, 60, 61, 62, 408, 409, 410, 411, 412, 413, 414, 974, 975, 976, 977, 978, 979, 980, 981, 982, 983, 984, 985, 1028, 1029, 1030, 1031, 1032, 1033, 1034, 1035, 1036, 1037, 1038, 1039, 1040] (by decide +kernel) (by decide +kernel)
set_option maxRecDepth 20000 in
theorem gL_law_X5_give : GoodIn wsL_law (wsV RL 73 RX5 yX5_give wsX5_give) := goodIn_app (goodIn_of _ (by decide +kernel)) ggL_law_X5_give
set_option maxRecDepth 20000 in
theorem ggL_law_X6_give : GoodIn wsL_law wsX6_give := goodIn_r _ [507, 325, 84, 364, 365, 366, 5, 367, 324, 117, 118, 119, 446, 447, 448, 372, 373, 374, 375, 376, 377, 378, 379, 81, 380, 381, 382, 383, 384, 385, 386, 387, 388, 389, 390, 391, 392, 393, 394, 83, 82, 395, 396, 397, 477, 478, 479, 480, 85, 508, 509, 510, 511, 425, 426, 427, 986, 987, 988, 989, 990, 991, 992, 993, 994, 995, 996, 997, 998, 999, 1000, 1001, 1002, 1003, 1004, 1005, 1006, 1007, 1008, 1009, 1010, 1011, 1012, 1013, 1014, 1015, 1016, 1017, 1018, 1019] (by decide +kernel) (by decide +kernel)
set_option maxRecDepth 20000 in
theorem gL_law_X6_give : GoodIn wsL_law (wsV RL 76 RX6 yX6_give wsX6_give) := goodIn_app (goodIn_of _ (by decide +kernel)) ggL_law_X6_give
set_option maxRecDepth 20000 in
theorem ggL_law_X5_back : GoodIn wsL_law wsX5_back := goodIn_r _ [515, 24, 330, 331, 332, 23, 333, 306, 436, 437, 2, 438, 516, 517, 518, 519, 58, 440, 441, 457, 458, 459, 460, 312, 520, 521, 522, 523, 524, 525, 526, 527, 59, 465, 466, 467, 468, 54, 313, 501, 502, 503, 469, 470, 471, 472, 60, 61, 62, 408, 409, 410, 411, 412, 413, 414, 974, 975, 976, 977, 978, 979, 980, 981, 982, 983, 984, 985, 1028, 1029, 1030, 1031, 1032, 1033, 1034, 1035, 1036, 1037, 1038, 1039, 1040] (by decide +kernel) (by decide +kernel)
set_option maxRecDepth 20000 in
theorem gL_law_X5_back : GoodIn wsL_law (wsV RL 77 RX5 yX5_back wsX5_back) := goodIn_app (goodIn_of _ (by decide +kernel)) ggL_law_X5_back
set_option maxRecDepth 20000 in
theorem ggL_law_X6_back : GoodIn wsL_law wsX6_back := goodIn_r _ [531, 84, 325, 364, 365, 366, 5, 367, 324, 117, 118, 119, 446, 447, 448, 384, 385, 386, 477, 478, 479, 480, 85, 532, 533, 534, 535, 425, 426, 427, 986, 987, 988, 989, 990, 991, 992, 993, 994, 995, 996, 997, 998, 999, 1000, 1001, 1002, 1003, 1004, 1005, 1006, 1007, 1008, 1009, 1010, 1011, 1012, 1013, 1014, 1015, 1016, 1017, 1018, 1019] (by decide +kernel) (by decide +kernel)
set_option maxRecDepth 20000 in
theorem gL_law_X6_back : GoodIn wsL_law (wsV RL 80 RX6 yX6_back wsX6_back) := goodIn_app (goodIn_of _ (by decide +kernel)) ggL_law_X6_back
set_option maxRecDepth 20000 in
theorem ggL_law_X5_bake : GoodIn wsL_law wsX5_bake := goodIn_r _ [539, 24, 540, 541, 542, 23, 543, 306, 307, 457, 458, 459, 460, 312, 544, 545, 546, 547, 548, 549, 40, 550, 469, 470, 471, 472, 60, 61, 62, 974, 975, 976, 977, 978, 979, 980, 981, 982, 983, 984, 985, 1028, 1029, 1030, 1031, 1032, 1033, 1034, 1035, 1036, 1037, 1038, 1039, 1040] (by decide +kernel) (by decide +kernel)
set_option maxRecDepth 20000 in
theorem gL_law_X5_bake : GoodIn wsL_law (wsV RL 81 RX5 yX5_bake wsX5_bake) := goodIn_app (goodIn_of _ (by decide +kernel)) ggL_law_X5_bake
set_option maxRecDepth 20000 in
theorem ggL_law_X6_bake : GoodIn wsL_law wsX6_bake := goodIn_r _ [554, 324, 84, 325, 117, 118, 5, 119, 477, 478, 479, 480, 85, 986, 987, 988, 989, 990, 991, 992, 993, 994, 995, 996, 997, 998, 999, 1000, 1001, 1002, 1003, 1004, 1005, 1006, 1007, 1008, 1009, 1010, 1011, 1012, 1013, 1014, 1015, 1016, 1017, 1018, 1019] (by decide +kernel) (by decide +kernel)
set_option maxRecDepth 20000 in
theorem gL_law_X6_bake : GoodIn wsL_law (wsV RL 84 RX6 yX6_bake wsX6_bake) := goodIn_app (goodIn_of _ (by decide +kernel)) ggL_law_X6_bake
set_option maxRecDepth 20000 in
theorem ggL_law_X5_undo : GoodIn wsL_law wsX5_undo := goodIn_r _ [558, 24, 559, 560, 561, 23, 562, 312, 60, 61, 62, 563, 564, 565, 566, 307, 465, 466, 467, 468, 54, 313, 524, 525, 526, 527, 58, 59, 501, 2, 502, 503, 497, 498, 499, 500, 974, 975, 976, 977, 978, 979, 980, 981, 982, 983, 984, 985, 1028, 1029, 1030, 1031, 1032, 1033, 1034, 1035, 1036, 1037, 1038, 1039, 1040] (by decide +kernel) (by decide +kernel)
set_option maxRecDepth 20000 in
theorem gL_law_X5_undo : GoodIn wsL_law (wsV RL 85 RX5 yX5_undo wsX5_undo) := goodIn_app (goodIn_of _ (by decide +kernel)) ggL_law_X5_undo
set_option maxRecDepth 20000 in
theorem ggL_law_X6_undo : GoodIn wsL_law wsX6_undo := goodIn_r _ [570, 325, 84, 85, 117, 118, 5, 119, 986, 987, 988, 989, 990, 991, 992, 993, 994, 995, 996, 997, 998, 999, 1000, 1001, 1002, 1003, 1004, 1005, 1006, 1007, 1008, 1009, 1010, 1011, 1012, 1013, 1014, 1015, 1016, 1017, 1018, 1019] (by decide +kernel) (by decide +kernel)
set_option maxRecDepth 20000 in
theorem gL_law_X6_undo : GoodIn wsL_law (wsV RL 88 RX6 yX6_undo wsX6_undo) := goodIn_app (goodIn_of _ (by decide +kernel)) ggL_law_X6_undo
set_option maxRecDepth 20000 in
theorem ggL_law_X5_keep : GoodIn wsL_law wsX5_keep := goodIn_r _ [574, 24, 25, 575, 576, 577, 23, 578, 306, 307, 312, 313, 54, 579, 205, 206, 207, 55, 56, 57, 58, 59, 60, 61, 62, 974, 975, 976, 977, 978, 979, 980, 981, 982, 983, 984, 985, 1028, 1029, 1030, 1031, 1032, 1033, 1034, 1035, 1036, 1037, 1038, 1039, 1040] (by decide +kernel) (by decide +kernel)
set_option maxRecDepth 20000 in
theorem gL_law_X5_keep : GoodIn wsL_law (wsV RL 89 RX5 yX5_keep wsX5_keep) := goodIn_app (goodIn_of _ (by decide +kernel)) ggL_law_X5_keep
set_option maxRecDepth 20000 in
theorem ggL_law_X6_keep : GoodIn wsL_law wsX6_keep := goodIn_r _ [583, 324, 86, 325, 87, 84, 85, 117, 118, 5, 119, 986, 987, 988, 989, 990, 991, 992, 993, 994, 995, 996, 997, 998, 999, 1000, 1001, 1002, 1003, 1004, 1005, 1006, 1007, 1008, 1009, 1010, 1011, 1012, 1013, 1014, 1015, 1016, 1017, 1018, 1019] (by decide +kernel) (by decide +kernel)
set_option maxRecDepth 20000 in
theorem gL_law_X6_keep : GoodIn wsL_law (wsV RL 92 RX6 yX6_keep wsX6_keep) := goodIn_app (goodIn_of _ (by decide +kernel)) ggL_law_X6_keep
set_option maxRecDepth 20000 in
theorem ggL_law_X5_on : GoodIn wsL_law wsX5_on := goodIn_r _ [587, 25, 24, 100, 101, 102, 2, 103, 104, 32, 575, 576, 577, 23, 578, 306, 307, 312, 313, 54, 579, 205, 206, 207, 55, 56, 57, 58, 59, 60, 61, 62, 974, 975, 976, 977, 978, 979, 980, 981, 982, 983, 984, 985, 1028, 1029, 1030, 1031, 1032, 1033, 1034, 1035, 1036, 1037, 1038, 1039, 1040] (by decide +kernel) (by decide +kernel)
set_option maxRecDepth 20000 in
theorem gL_law_X5_on : GoodIn wsL_law (wsV RL 93 RX5 yX5_on wsX5_on) := goodIn_app (goodIn_of _ (by decide +kernel)) ggL_law_X5_on
set_option maxRecDepth 20000 in
theorem ggL_law_X6_on : GoodIn wsL_law wsX6_on := goodIn_r _ [591, 86, 325, 84, 87, 85, 117, 118, 5, 119, 120, 121, 122, 123, 124, 71, 986, 987, 988, 989, 990, 991, 992, 993, 994, 995, 996, 997, 998, 999, 1000, 1001, 1002, 1003, 1004, 1005, 1006, 1007, 1008, 1009, 1010, 1011, 1012, 1013, 1014, 1015, 1016, 1017, 1018, 1019] (by decide +kernel) (by decide +kernel)
set_option maxRecDepth 20000 in
theorem gL_law_X6_on : GoodIn wsL_law (wsV RL 96 RX6 yX6_on wsX6_on) := goodIn_app (goodIn_of _ (by decide +kernel)) ggL_law_X6_on
set_option maxRecDepth 20000 in
theorem ggL_law_X5_lacks : GoodIn wsL_law wsX5_lacks := goodIn_r _ [595, 24, 596, 330, 331, 332, 23, 333, 306, 597, 598, 599, 2, 600, 601, 33, 602, 603, 604, 974, 975, 976, 977, 978, 979, 980, 981, 982, 983, 984, 985, 1028, 1029, 1030, 1031, 1032, 1033, 1034, 1035, 1036, 1037, 1038, 1039, 1040] (by decide +kernel) (by decide +kernel)
set_option maxRecDepth 20000 in
theorem gL_law_X5_lacks : GoodIn wsL_law (wsV RL 97 RX5 yX5_lacks wsX5_lacks) := goodIn_app (goodIn_of _ (by decide +kernel)) ggL_law_X5_lacks
set_option maxRecDepth 20000 in
theorem ggL_law_X6_lacks : GoodIn wsL_law wsX6_lacks := goodIn_r _ [608, 609, 364, 365, 366, 5, 367, 324, 117, 118, 119, 387, 388, 389, 390, 84, 391, 392, 393, 394, 380, 83, 82, 395, 396, 397, 384, 385, 386, 610, 611, 612, 613, 614, 70, 986, 987, 988, 989, 990, 991, 992, 993, 994, 995, 996, 997, 998, 999, 1000, 1001, 1002, 1003, 1004, 1005, 1006, 1007, 1008, 1009, 1010, 1011, 1012, 1013, 1014, 1015, 1016, 1017, 1018, 1019] (by decide +kernel) (by decide +kernel)
set_option maxRecDepth 20000 in
theorem gL_law_X6_lacks : GoodIn wsL_law (wsV RL 100 RX6 yX6_lacks wsX6_lacks) := goodIn_app (goodIn_of _ (by decide +kernel)) ggL_law_X6_lacks
