theorem dX0_partsOf_0 : decode cX0_partsOf 0 = .ok (.iload_n 0, 1) := by decide +kernel
theorem dX0_partsOf_1 : decode cX0_partsOf 1 = .ok (.tableswitch 50 1 5 #[35, 38, 41, 44, 47], 35) := by decide +kernel
theorem dX0_partsOf_36 : decode cX0_partsOf 36 = .ok (.ldc 11, 2) := by decide +kernel
theorem dX0_partsOf_38 : decode cX0_partsOf 38 = .ok (.ireturn, 1) := by decide +kernel
theorem dX0_partsOf_39 : decode cX0_partsOf 39 = .ok (.ldc 12, 2) := by decide +kernel
theorem dX0_partsOf_41 : decode cX0_partsOf 41 = .ok (.ireturn, 1) := by decide +kernel
theorem dX0_partsOf_42 : decode cX0_partsOf 42 = .ok (.ldc 13, 2) := by decide +kernel
theorem dX0_partsOf_44 : decode cX0_partsOf 44 = .ok (.ireturn, 1) := by decide +kernel
theorem dX0_partsOf_45 : decode cX0_partsOf 45 = .ok (.ldc 14, 2) := by decide +kernel
theorem dX0_partsOf_47 : decode cX0_partsOf 47 = .ok (.ireturn, 1) := by decide +kernel
theorem dX0_partsOf_48 : decode cX0_partsOf 48 = .ok (.ldc 15, 2) := by decide +kernel
theorem dX0_partsOf_50 : decode cX0_partsOf 50 = .ok (.ireturn, 1) := by decide +kernel
theorem dX0_partsOf_51 : decode cX0_partsOf 51 = .ok (.ldc 16, 2) := by decide +kernel
theorem dX0_partsOf_53 : decode cX0_partsOf 53 = .ok (.ireturn, 1) := by decide +kernel
theorem dX0_byLetter_0 : decode cX0_byLetter 0 = .ok (.iload_n 0, 1) := by decide +kernel
theorem dX0_byLetter_1 : decode cX0_byLetter 1 = .ok (.lookupswitch 71 #[(99, 67), (101, 61), (109, 69), (111, 63), (115, 65), (119, 59)], 59) := by decide +kernel
theorem dX0_byLetter_60 : decode cX0_byLetter 60 = .ok (.iconst 0, 1) := by decide +kernel
theorem dX0_byLetter_61 : decode cX0_byLetter 61 = .ok (.ireturn, 1) := by decide +kernel
theorem dX0_byLetter_62 : decode cX0_byLetter 62 = .ok (.iconst 1, 1) := by decide +kernel
theorem dX0_byLetter_63 : decode cX0_byLetter 63 = .ok (.ireturn, 1) := by decide +kernel
theorem dX0_byLetter_64 : decode cX0_byLetter 64 = .ok (.iconst 2, 1) := by decide +kernel
theorem dX0_byLetter_65 : decode cX0_byLetter 65 = .ok (.ireturn, 1) := by decide +kernel
theorem dX0_byLetter_66 : decode cX0_byLetter 66 = .ok (.iconst 3, 1) := by decide +kernel
theorem dX0_byLetter_67 : decode cX0_byLetter 67 = .ok (.ireturn, 1) := by decide +kernel
theorem dX0_byLetter_68 : decode cX0_byLetter 68 = .ok (.iconst 4, 1) := by decide +kernel
theorem dX0_byLetter_69 : decode cX0_byLetter 69 = .ok (.ireturn, 1) := by decide +kernel
theorem dX0_byLetter_70 : decode cX0_byLetter 70 = .ok (.iconst 5, 1) := by decide +kernel
theorem dX0_byLetter_71 : decode cX0_byLetter 71 = .ok (.ireturn, 1) := by decide +kernel
theorem dX0_byLetter_72 : decode cX0_byLetter 72 = .ok (.bipush (-9), 2) := by decide +kernel
theorem dX0_byLetter_74 : decode cX0_byLetter 74 = .ok (.ireturn, 1) := by decide +kernel
theorem dX0_isOf_0 : decode cX0_isOf 0 = .ok (.iload_n 0, 1) := by decide +kernel
theorem dX0_isOf_1 : decode cX0_isOf 1 = .ok (.iload_n 1, 1) := by decide +kernel
theorem dX0_isOf_2 : decode cX0_isOf 2 = .ok (.if_icmp .eq 27, 3) := by decide +kernel
theorem dX0_isOf_5 : decode cX0_isOf 5 = .ok (.iload_n 1, 1) := by decide +kernel
theorem dX0_isOf_6 : decode cX0_isOf 6 = .ok (.ifCond .eq 23, 3) := by decide +kernel
theorem dX0_isOf_9 : decode cX0_isOf 9 = .ok (.iload_n 0, 1) := by decide +kernel
theorem dX0_isOf_10 : decode cX0_isOf 10 = .ok (.iconst 4, 1) := by decide +kernel
theorem dX0_isOf_11 : decode cX0_isOf 11 = .ok (.if_icmp .ne 8, 3) := by decide +kernel
theorem dX0_isOf_14 : decode cX0_isOf 14 = .ok (.iload_n 1, 1) := by decide +kernel
theorem dX0_isOf_15 : decode cX0_isOf 15 = .ok (.iconst 1, 1) := by decide +kernel
theorem dX0_isOf_16 : decode cX0_isOf 16 = .ok (.if_icmp .eq 13, 3) := by decide +kernel
theorem dX0_isOf_19 : decode cX0_isOf 19 = .ok (.iload_n 0, 1) := by decide +kernel
theorem dX0_isOf_20 : decode cX0_isOf 20 = .ok (.iconst 5, 1) := by decide +kernel
theorem dX0_isOf_21 : decode cX0_isOf 21 = .ok (.if_icmp .ne 12, 3) := by decide +kernel
theorem dX0_isOf_24 : decode cX0_isOf 24 = .ok (.iload_n 1, 1) := by decide +kernel
theorem dX0_isOf_25 : decode cX0_isOf 25 = .ok (.iconst 3, 1) := by decide +kernel
theorem dX0_isOf_26 : decode cX0_isOf 26 = .ok (.if_icmp .ne 7, 3) := by decide +kernel
theorem dX0_isOf_29 : decode cX0_isOf 29 = .ok (.iconst 1, 1) := by decide +kernel
theorem dX0_isOf_30 : decode cX0_isOf 30 = .ok (.goto 4, 3) := by decide +kernel
theorem dX0_isOf_33 : decode cX0_isOf 33 = .ok (.iconst 0, 1) := by decide +kernel
theorem dX0_isOf_34 : decode cX0_isOf 34 = .ok (.ireturn, 1) := by decide +kernel
set_option maxRecDepth 20000 in
theorem ggX0_answeringAlike_X5_holds : GoodIn wsX0_answeringAlike wsX5_holds := goodIn_r _ [3] (by decide +kernel) (by decide +kernel)
set_option maxRecDepth 20000 in
theorem gX0_answeringAlike_X5_holds_n17 : GoodIn wsX0_answeringAlike (wsX5_holds) := ggX0_answeringAlike_X5_holds
set_option maxRecDepth 20000 in
theorem ggX0_answeringAlike_X0_partsOf : GoodIn wsX0_answeringAlike wsX0_partsOf := goodIn_r _ [7, 8, 9, 10, 11, 12, 13] (by decide +kernel) (by decide +kernel)
set_option maxRecDepth 20000 in
theorem gX0_answeringAlike_X0_partsOf : GoodIn wsX0_answeringAlike (va_wsS RX0 21 yX0_partsOf wsX0_partsOf) := goodIn_app (goodIn_of _ (by decide +kernel)) ggX0_answeringAlike_X0_partsOf
theorem dX0_answeringAlike_0 : decode cX0_answeringAlike 0 = .ok (.iconst 0, 1) := by decide +kernel
theorem dX0_answeringAlike_1 : decode cX0_answeringAlike 1 = .ok (.istore_n 3, 1) := by decide +kernel
theorem dX0_answeringAlike_2 : decode cX0_answeringAlike 2 = .ok (.iconst 0, 1) := by decide +kernel
theorem dX0_answeringAlike_3 : decode cX0_answeringAlike 3 = .ok (.istore 4, 2) := by decide +kernel
theorem dX0_answeringAlike_5 : decode cX0_answeringAlike 5 = .ok (.iload 4, 2) := by decide +kernel
theorem dX0_answeringAlike_7 : decode cX0_answeringAlike 7 = .ok (.bipush 6, 2) := by decide +kernel
theorem dX0_answeringAlike_9 : decode cX0_answeringAlike 9 = .ok (.if_icmp .ge 38, 3) := by decide +kernel
theorem dX0_answeringAlike_12 : decode cX0_answeringAlike 12 = .ok (.iload_n 0, 1) := by decide +kernel
theorem dX0_answeringAlike_13 : decode cX0_answeringAlike 13 = .ok (.iload 4, 2) := by decide +kernel
theorem dX0_answeringAlike_15 : decode cX0_answeringAlike 15 = .ok (.invokestatic 17, 3) := by decide +kernel
theorem dX0_answeringAlike_18 : decode cX0_answeringAlike 18 = .ok (.ifCond .eq 23, 3) := by decide +kernel
theorem dX0_answeringAlike_21 : decode cX0_answeringAlike 21 = .ok (.iload 4, 2) := by decide +kernel
theorem dX0_answeringAlike_23 : decode cX0_answeringAlike 23 = .ok (.invokestatic 21, 3) := by decide +kernel
theorem dX0_answeringAlike_26 : decode cX0_answeringAlike 26 = .ok (.iload_n 1, 1) := by decide +kernel
theorem dX0_answeringAlike_27 : decode cX0_answeringAlike 27 = .ok (.invokestatic 17, 3) := by decide +kernel
theorem dX0_answeringAlike_30 : decode cX0_answeringAlike 30 = .ok (.iload_n 2, 1) := by decide +kernel
theorem dX0_answeringAlike_31 : decode cX0_answeringAlike 31 = .ok (.if_icmp .ne 10, 3) := by decide +kernel
theorem dX0_answeringAlike_34 : decode cX0_answeringAlike 34 = .ok (.iload_n 3, 1) := by decide +kernel
theorem dX0_answeringAlike_35 : decode cX0_answeringAlike 35 = .ok (.iconst 1, 1) := by decide +kernel
theorem dX0_answeringAlike_36 : decode cX0_answeringAlike 36 = .ok (.iload 4, 2) := by decide +kernel
theorem dX0_answeringAlike_38 : decode cX0_answeringAlike 38 = .ok (.ishl, 1) := by decide +kernel
theorem dX0_answeringAlike_39 : decode cX0_answeringAlike 39 = .ok (.ior, 1) := by decide +kernel
theorem dX0_answeringAlike_40 : decode cX0_answeringAlike 40 = .ok (.istore_n 3, 1) := by decide +kernel
theorem dX0_answeringAlike_41 : decode cX0_answeringAlike 41 = .ok (.iinc 4 1, 3) := by decide +kernel
theorem dX0_answeringAlike_44 : decode cX0_answeringAlike 44 = .ok (.goto (-39), 3) := by decide +kernel
theorem dX0_answeringAlike_47 : decode cX0_answeringAlike 47 = .ok (.iload_n 3, 1) := by decide +kernel
theorem dX0_answeringAlike_48 : decode cX0_answeringAlike 48 = .ok (.ireturn, 1) := by decide +kernel
theorem dX1_init_0 : decode cX1_init 0 = .ok (.aload_n 0, 1) := by decide +kernel
theorem dX1_init_1 : decode cX1_init 1 = .ok (.invokespecial 1, 3) := by decide +kernel
theorem dX1_init_4 : decode cX1_init 4 = .ok (.return_, 1) := by decide +kernel
set_option maxRecDepth 20000 in
theorem ggX1_lookFor_X1_lookOn : GoodIn wsX1_lookFor wsX1_lookOn := goodIn_r _ [10, 11, 12, 1, 13, 14, 15, 9, 16, 2, 4, 5, 3, 17, 18, 19, 20, 21, 22, 23, 24, 25, 26, 27, 28, 29, 30, 31, 32, 33, 6, 7, 8, 34, 35, 36, 37, 38] (by decide +kernel) (by decide +kernel)
set_option maxRecDepth 20000 in
theorem gX1_lookFor_X1_lookOn : GoodIn wsX1_lookFor (wsV RX1 25 RX1 yX1_lookOn wsX1_lookOn) := goodIn_app (goodIn_of _ (by decide +kernel)) ggX1_lookFor_X1_lookOn
theorem dX1_lookFor_0 : decode cX1_lookFor 0 = .ok (.aload_n 0, 1) := by decide +kernel
theorem dX1_lookFor_1 : decode cX1_lookFor 1 = .ok (.iload_n 2, 1) := by decide +kernel
theorem dX1_lookFor_2 : decode cX1_lookFor 2 = .ok (.putfield 7, 3) := by decide +kernel
theorem dX1_lookFor_5 : decode cX1_lookFor 5 = .ok (.aload_n 0, 1) := by decide +kernel
theorem dX1_lookFor_6 : decode cX1_lookFor 6 = .ok (.iconst 0, 1) := by decide +kernel
theorem dX1_lookFor_7 : decode cX1_lookFor 7 = .ok (.putfield 13, 3) := by decide +kernel
theorem dX1_lookFor_10 : decode cX1_lookFor 10 = .ok (.aload_n 0, 1) := by decide +kernel
theorem dX1_lookFor_11 : decode cX1_lookFor 11 = .ok (.iconst 0, 1) := by decide +kernel
theorem dX1_lookFor_12 : decode cX1_lookFor 12 = .ok (.putfield 16, 3) := by decide +kernel
theorem dX1_lookFor_15 : decode cX1_lookFor 15 = .ok (.aload_n 0, 1) := by decide +kernel
theorem dX1_lookFor_16 : decode cX1_lookFor 16 = .ok (.iconst 0, 1) := by decide +kernel
theorem dX1_lookFor_17 : decode cX1_lookFor 17 = .ok (.putfield 19, 3) := by decide +kernel
theorem dX1_lookFor_20 : decode cX1_lookFor 20 = .ok (.aload_n 0, 1) := by decide +kernel
theorem dX1_lookFor_21 : decode cX1_lookFor 21 = .ok (.iconst 0, 1) := by decide +kernel
theorem dX1_lookFor_22 : decode cX1_lookFor 22 = .ok (.putfield 22, 3) := by decide +kernel
theorem dX1_lookFor_25 : decode cX1_lookFor 25 = .ok (.aload_n 0, 1) := by decide +kernel
theorem dX1_lookFor_26 : decode cX1_lookFor 26 = .ok (.iconst 0, 1) := by decide +kernel
theorem dX1_lookFor_27 : decode cX1_lookFor 27 = .ok (.iload_n 1, 1) := by decide +kernel
theorem dX1_lookFor_28 : decode cX1_lookFor 28 = .ok (.iconst 0, 1) := by decide +kernel
theorem dX1_lookFor_29 : decode cX1_lookFor 29 = .ok (.invokevirtual 25, 3) := by decide +kernel
theorem dX1_lookFor_32 : decode cX1_lookFor 32 = .ok (.return_, 1) := by decide +kernel
set_option maxRecDepth 20000 in
theorem ggX1_lookOn_X1_note : GoodIn wsX1_lookOn wsX1_note := goodIn_r _ [8, 9, 10, 11, 12, 13, 14, 15, 16, 17, 18, 19, 20, 21, 22, 23, 33, 34, 35, 36, 37] (by decide +kernel) (by decide +kernel)
set_option maxRecDepth 20000 in
theorem gX1_lookOn_X1_note : GoodIn wsX1_lookOn (wsV RX1 29 RX1 yX1_note wsX1_note) := goodIn_app (goodIn_of _ (by decide +kernel)) ggX1_lookOn_X1_note
set_option maxRecDepth 20000 in
theorem ggX1_lookOn_X5_holds : GoodIn wsX1_lookOn wsX5_holds := goodIn_r _ [26] (by decide +kernel) (by decide +kernel)
set_option maxRecDepth 20000 in
theorem gX1_lookOn_X5_holds_n40 : GoodIn wsX1_lookOn (wsX5_holds) := ggX1_lookOn_X5_holds
set_option maxRecDepth 20000 in
theorem ggX1_lookOn_X5_partSize : GoodIn wsX1_lookOn wsX5_partSize := goodIn_r _ [28, 29] (by decide +kernel) (by decide +kernel)
set_option maxRecDepth 20000 in
theorem gX1_lookOn_X5_partSize_n46 : GoodIn wsX1_lookOn (wsX5_partSize) := ggX1_lookOn_X5_partSize
set_option maxRecDepth 20000 in
theorem ggX1_lookOn_X1_lookOn : GoodIn wsX1_lookOn wsX1_lookOn := goodIn_r _ [0, 1, 2, 3, 4, 5, 6, 7, 8, 9, 10, 11, 12, 13, 14, 15, 16, 17, 18, 19, 20, 21, 22, 23, 24, 25, 26, 27, 28, 29, 30, 31, 32, 33, 34, 35, 36, 37] (by decide +kernel) (by decide +kernel)
set_option maxRecDepth 20000 in
theorem gX1_lookOn_X1_lookOn : GoodIn wsX1_lookOn (wsV RX1 25 RX1 yX1_lookOn wsX1_lookOn) := goodIn_app (goodIn_of _ (by decide +kernel)) ggX1_lookOn_X1_lookOn
theorem dX1_lookOn_0 : decode cX1_lookOn 0 = .ok (.iload_n 2, 1) := by decide +kernel
theorem dX1_lookOn_1 : decode cX1_lookOn 1 = .ok (.ifCond .ne 9, 3) := by decide +kernel
theorem dX1_lookOn_4 : decode cX1_lookOn 4 = .ok (.aload_n 0, 1) := by decide +kernel
theorem dX1_lookOn_5 : decode cX1_lookOn 5 = .ok (.iload_n 3, 1) := by decide +kernel
theorem dX1_lookOn_6 : decode cX1_lookOn 6 = .ok (.invokevirtual 29, 3) := by decide +kernel
theorem dX1_lookOn_9 : decode cX1_lookOn 9 = .ok (.return_, 1) := by decide +kernel
theorem dX1_lookOn_10 : decode cX1_lookOn 10 = .ok (.iload_n 2, 1) := by decide +kernel
theorem dX1_lookOn_11 : decode cX1_lookOn 11 = .ok (.ifCond .lt 19, 3) := by decide +kernel
theorem dX1_lookOn_14 : decode cX1_lookOn 14 = .ok (.iload_n 1, 1) := by decide +kernel
theorem dX1_lookOn_15 : decode cX1_lookOn 15 = .ok (.getstatic 33, 3) := by decide +kernel
theorem dX1_lookOn_18 : decode cX1_lookOn 18 = .ok (.arraylength, 1) := by decide +kernel
theorem dX1_lookOn_19 : decode cX1_lookOn 19 = .ok (.if_icmp .ge 11, 3) := by decide +kernel
theorem dX1_lookOn_22 : decode cX1_lookOn 22 = .ok (.iload_n 1, 1) := by decide +kernel
theorem dX1_lookOn_23 : decode cX1_lookOn 23 = .ok (.getstatic 37, 3) := by decide +kernel
theorem dX1_lookOn_26 : decode cX1_lookOn 26 = .ok (.arraylength, 1) := by decide +kernel
theorem dX1_lookOn_27 : decode cX1_lookOn 27 = .ok (.if_icmp .lt 4, 3) := by decide +kernel
theorem dX1_lookOn_30 : decode cX1_lookOn 30 = .ok (.return_, 1) := by decide +kernel
theorem dX1_lookOn_31 : decode cX1_lookOn 31 = .ok (.getstatic 37, 3) := by decide +kernel
theorem dX1_lookOn_34 : decode cX1_lookOn 34 = .ok (.iload_n 1, 1) := by decide +kernel
theorem dX1_lookOn_35 : decode cX1_lookOn 35 = .ok (.iaload, 1) := by decide +kernel
theorem dX1_lookOn_36 : decode cX1_lookOn 36 = .ok (.istore 4, 2) := by decide +kernel
theorem dX1_lookOn_38 : decode cX1_lookOn 38 = .ok (.iload 4, 2) := by decide +kernel
theorem dX1_lookOn_40 : decode cX1_lookOn 40 = .ok (.ifCond .le 10, 3) := by decide +kernel
theorem dX1_lookOn_43 : decode cX1_lookOn 43 = .ok (.iload_n 2, 1) := by decide +kernel
theorem dX1_lookOn_44 : decode cX1_lookOn 44 = .ok (.iload 4, 2) := by decide +kernel
theorem dX1_lookOn_46 : decode cX1_lookOn 46 = .ok (.irem, 1) := by decide +kernel
theorem dX1_lookOn_47 : decode cX1_lookOn 47 = .ok (.ifCond .eq 4, 3) := by decide +kernel
theorem dX1_lookOn_50 : decode cX1_lookOn 50 = .ok (.return_, 1) := by decide +kernel
theorem dX1_lookOn_51 : decode cX1_lookOn 51 = .ok (.getstatic 33, 3) := by decide +kernel
theorem dX1_lookOn_54 : decode cX1_lookOn 54 = .ok (.iload_n 1, 1) := by decide +kernel
theorem dX1_lookOn_55 : decode cX1_lookOn 55 = .ok (.iaload, 1) := by decide +kernel
theorem dX1_lookOn_56 : decode cX1_lookOn 56 = .ok (.istore 5, 2) := by decide +kernel
theorem dX1_lookOn_58 : decode cX1_lookOn 58 = .ok (.aload_n 0, 1) := by decide +kernel
theorem dX1_lookOn_59 : decode cX1_lookOn 59 = .ok (.getfield 7, 3) := by decide +kernel
theorem dX1_lookOn_62 : decode cX1_lookOn 62 = .ok (.iload 5, 2) := by decide +kernel
theorem dX1_lookOn_64 : decode cX1_lookOn 64 = .ok (.invokestatic 40, 3) := by decide +kernel
theorem dX1_lookOn_67 : decode cX1_lookOn 67 = .ok (.ifCond .eq 23, 3) := by decide +kernel
theorem dX1_lookOn_70 : decode cX1_lookOn 70 = .ok (.aload_n 0, 1) := by decide +kernel
theorem dX1_lookOn_71 : decode cX1_lookOn 71 = .ok (.iload_n 1, 1) := by decide +kernel
theorem dX1_lookOn_72 : decode cX1_lookOn 72 = .ok (.iconst 1, 1) := by decide +kernel
theorem dX1_lookOn_73 : decode cX1_lookOn 73 = .ok (.iadd, 1) := by decide +kernel
theorem dX1_lookOn_74 : decode cX1_lookOn 74 = .ok (.iload_n 2, 1) := by decide +kernel
theorem dX1_lookOn_75 : decode cX1_lookOn 75 = .ok (.iload 5, 2) := by decide +kernel
theorem dX1_lookOn_77 : decode cX1_lookOn 77 = .ok (.invokestatic 46, 3) := by decide +kernel
theorem dX1_lookOn_80 : decode cX1_lookOn 80 = .ok (.isub, 1) := by decide +kernel
theorem dX1_lookOn_81 : decode cX1_lookOn 81 = .ok (.iload_n 3, 1) := by decide +kernel
theorem dX1_lookOn_82 : decode cX1_lookOn 82 = .ok (.iconst 1, 1) := by decide +kernel
theorem dX1_lookOn_83 : decode cX1_lookOn 83 = .ok (.iload 5, 2) := by decide +kernel
theorem dX1_lookOn_85 : decode cX1_lookOn 85 = .ok (.ishl, 1) := by decide +kernel
theorem dX1_lookOn_86 : decode cX1_lookOn 86 = .ok (.ior, 1) := by decide +kernel
theorem dX1_lookOn_87 : decode cX1_lookOn 87 = .ok (.invokevirtual 25, 3) := by decide +kernel
theorem dX1_lookOn_90 : decode cX1_lookOn 90 = .ok (.aload_n 0, 1) := by decide +kernel
theorem dX1_lookOn_91 : decode cX1_lookOn 91 = .ok (.iload_n 1, 1) := by decide +kernel
theorem dX1_lookOn_92 : decode cX1_lookOn 92 = .ok (.iconst 1, 1) := by decide +kernel
theorem dX1_lookOn_93 : decode cX1_lookOn 93 = .ok (.iadd, 1) := by decide +kernel
theorem dX1_lookOn_94 : decode cX1_lookOn 94 = .ok (.iload_n 2, 1) := by decide +kernel
theorem dX1_lookOn_95 : decode cX1_lookOn 95 = .ok (.iload_n 3, 1) := by decide +kernel
theorem dX1_lookOn_96 : decode cX1_lookOn 96 = .ok (.invokevirtual 25, 3) := by decide +kernel
theorem dX1_lookOn_99 : decode cX1_lookOn 99 = .ok (.return_, 1) := by decide +kernel
set_option maxRecDepth 20000 in
theorem ggX1_note_J6_bitCount_0f7a4 : GoodIn wsX1_note wsJ6_bitCount_0f7a4 := goodIn_r _ [12, 13, 14, 15] (by decide +kernel) (by decide +kernel)
set_option maxRecDepth 20000 in
theorem gX1_note_J6_bitCount_0f7a4 : GoodIn wsX1_note (va_wsS RX1 50 yJ6_bitCount_0f7a4 wsJ6_bitCount_0f7a4) := goodIn_app (goodIn_of _ (by decide +kernel)) ggX1_note_J6_bitCount_0f7a4
theorem dX1_note_0 : decode cX1_note 0 = .ok (.iload_n 1, 1) := by decide +kernel
theorem dX1_note_1 : decode cX1_note 1 = .ok (.invokestatic 50, 3) := by decide +kernel
theorem dX1_note_4 : decode cX1_note 4 = .ok (.istore_n 2, 1) := by decide +kernel
theorem dX1_note_5 : decode cX1_note 5 = .ok (.aload_n 0, 1) := by decide +kernel
theorem dX1_note_6 : decode cX1_note 6 = .ok (.getfield 13, 3) := by decide +kernel
theorem dX1_note_9 : decode cX1_note 9 = .ok (.ifCond .eq 27, 3) := by decide +kernel
theorem dX1_note_12 : decode cX1_note 12 = .ok (.iload_n 2, 1) := by decide +kernel
theorem dX1_note_13 : decode cX1_note 13 = .ok (.aload_n 0, 1) := by decide +kernel
theorem dX1_note_14 : decode cX1_note 14 = .ok (.getfield 19, 3) := by decide +kernel
theorem dX1_note_17 : decode cX1_note 17 = .ok (.if_icmp .lt 19, 3) := by decide +kernel
theorem dX1_note_20 : decode cX1_note 20 = .ok (.iload_n 2, 1) := by decide +kernel
theorem dX1_note_21 : decode cX1_note 21 = .ok (.aload_n 0, 1) := by decide +kernel
theorem dX1_note_22 : decode cX1_note 22 = .ok (.getfield 19, 3) := by decide +kernel
theorem dX1_note_25 : decode cX1_note 25 = .ok (.if_icmp .ne 21, 3) := by decide +kernel
theorem dX1_note_28 : decode cX1_note 28 = .ok (.iload_n 1, 1) := by decide +kernel
theorem dX1_note_29 : decode cX1_note 29 = .ok (.aload_n 0, 1) := by decide +kernel
theorem dX1_note_30 : decode cX1_note 30 = .ok (.getfield 22, 3) := by decide +kernel
theorem dX1_note_33 : decode cX1_note 33 = .ok (.if_icmp .ge 13, 3) := by decide +kernel
theorem dX1_note_36 : decode cX1_note 36 = .ok (.aload_n 0, 1) := by decide +kernel
theorem dX1_note_37 : decode cX1_note 37 = .ok (.iload_n 2, 1) := by decide +kernel
theorem dX1_note_38 : decode cX1_note 38 = .ok (.putfield 19, 3) := by decide +kernel
theorem dX1_note_41 : decode cX1_note 41 = .ok (.aload_n 0, 1) := by decide +kernel
theorem dX1_note_42 : decode cX1_note 42 = .ok (.iload_n 1, 1) := by decide +kernel
theorem dX1_note_43 : decode cX1_note 43 = .ok (.putfield 22, 3) := by decide +kernel
theorem dX1_note_46 : decode cX1_note 46 = .ok (.aload_n 0, 1) := by decide +kernel
theorem dX1_note_47 : decode cX1_note 47 = .ok (.aload_n 0, 1) := by decide +kernel
theorem dX1_note_48 : decode cX1_note 48 = .ok (.getfield 16, 3) := by decide +kernel
theorem dX1_note_51 : decode cX1_note 51 = .ok (.iload_n 2, 1) := by decide +kernel
theorem dX1_note_52 : decode cX1_note 52 = .ok (.invokestatic 55, 3) := by decide +kernel
theorem dX1_note_55 : decode cX1_note 55 = .ok (.putfield 16, 3) := by decide +kernel
theorem dX1_note_58 : decode cX1_note 58 = .ok (.aload_n 0, 1) := by decide +kernel
theorem dX1_note_59 : decode cX1_note 59 = .ok (.dup, 1) := by decide +kernel
theorem dX1_note_60 : decode cX1_note 60 = .ok (.getfield 13, 3) := by decide +kernel
theorem dX1_note_63 : decode cX1_note 63 = .ok (.iconst 1, 1) := by decide +kernel
theorem dX1_note_64 : decode cX1_note 64 = .ok (.iadd, 1) := by decide +kernel
theorem dX1_note_65 : decode cX1_note 65 = .ok (.putfield 13, 3) := by decide +kernel
theorem dX1_note_68 : decode cX1_note 68 = .ok (.return_, 1) := by decide +kernel
theorem dX2_init_0 : decode cX2_init 0 = .ok (.aload_n 0, 1) := by decide +kernel
theorem dX2_init_1 : decode cX2_init 1 = .ok (.invokespecial 3, 3) := by decide +kernel
theorem dX2_init_4 : decode cX2_init 4 = .ok (.aload_n 0, 1) := by decide +kernel
theorem dX2_init_5 : decode cX2_init 5 = .ok (.bipush 7, 2) := by decide +kernel
theorem dX2_init_7 : decode cX2_init 7 = .ok (.newarray .int, 2) := by decide +kernel
theorem dX2_init_9 : decode cX2_init 9 = .ok (.putfield 9, 3) := by decide +kernel
theorem dX2_init_12 : decode cX2_init 12 = .ok (.aload_n 0, 1) := by decide +kernel
theorem dX2_init_13 : decode cX2_init 13 = .ok (.bipush 7, 2) := by decide +kernel
theorem dX2_init_15 : decode cX2_init 15 = .ok (.newarray .int, 2) := by decide +kernel
theorem dX2_init_17 : decode cX2_init 17 = .ok (.putfield 15, 3) := by decide +kernel
theorem dX2_init_20 : decode cX2_init 20 = .ok (.aload_n 0, 1) := by decide +kernel
theorem dX2_init_21 : decode cX2_init 21 = .ok (.bipush 7, 2) := by decide +kernel
theorem dX2_init_23 : decode cX2_init 23 = .ok (.newarray .int, 2) := by decide +kernel
theorem dX2_init_25 : decode cX2_init 25 = .ok (.putfield 18, 3) := by decide +kernel
theorem dX2_init_28 : decode cX2_init 28 = .ok (.return_, 1) := by decide +kernel
set_option maxRecDepth 20000 in
theorem ggX2_readTable_X3_sizeOf : GoodIn wsX2_readTable wsX3_sizeOf := goodIn_r _ [7, 8, 9, 10, 11, 6, 12, 46, 47, 48] (by decide +kernel) (by decide +kernel)
set_option maxRecDepth 20000 in
theorem gX2_readTable_X3_sizeOf : GoodIn wsX2_readTable (wsV RX2 21 RX3 yX3_sizeOf wsX3_sizeOf) := goodIn_app (goodIn_of _ (by decide +kernel)) ggX2_readTable_X3_sizeOf
set_option maxRecDepth 20000 in
theorem ggX2_readTable_X2_pastBlanks : GoodIn wsX2_readTable wsX2_pastBlanks := goodIn_r _ [16, 3, 4, 5, 6, 7, 8, 9, 10, 11, 12, 17, 18, 19, 20, 21, 22, 23, 24, 25, 26, 46, 47, 48] (by decide +kernel) (by decide +kernel)
set_option maxRecDepth 20000 in
theorem gX2_readTable_X2_pastBlanks : GoodIn wsX2_readTable (va_wsS RX2 31 yX2_pastBlanks wsX2_pastBlanks) := goodIn_app (goodIn_of _ (by decide +kernel)) ggX2_readTable_X2_pastBlanks
set_option maxRecDepth 20000 in
theorem ggX2_readTable_X2_figure : GoodIn wsX2_readTable wsX2_figure := goodIn_r _ [29, 17, 18, 19, 6, 20, 21, 22, 23, 24, 25, 26, 8, 9, 10, 11, 12, 46, 47, 48] (by decide +kernel) (by decide +kernel)
set_option maxRecDepth 20000 in
theorem gX2_readTable_X2_figure : GoodIn wsX2_readTable (va_wsS RX2 35 yX2_figure wsX2_figure) := goodIn_app (goodIn_of _ (by decide +kernel)) ggX2_readTable_X2_figure
set_option maxRecDepth 20000 in
theorem ggX2_readTable_X2_readWorker : GoodIn wsX2_readTable wsX2_readWorker := goodIn_r _ [33, 1, 34, 35, 36, 17, 18, 19, 6, 20, 21, 22, 23, 24, 25, 26, 8, 9, 10, 11, 12, 37, 38, 39, 40, 27, 28, 15, 29, 41, 42, 43, 44, 45, 46, 47, 48] (by decide +kernel) (by decide +kernel)
set_option maxRecDepth 20000 in
theorem gX2_readTable_X2_readWorker : GoodIn wsX2_readTable (wsV RX2 42 RX2 yX2_readWorker wsX2_readWorker) := goodIn_app (goodIn_of _ (by decide +kernel)) ggX2_readTable_X2_readWorker
theorem dX2_readTable_0 : decode cX2_readTable 0 = .ok (.aload_n 1, 1) := by decide +kernel
theorem dX2_readTable_1 : decode cX2_readTable 1 = .ok (.iload_n 2, 1) := by decide +kernel
theorem dX2_readTable_2 : decode cX2_readTable 2 = .ok (.invokevirtual 21, 3) := by decide +kernel
theorem dX2_readTable_5 : decode cX2_readTable 5 = .ok (.istore_n 3, 1) := by decide +kernel
theorem dX2_readTable_6 : decode cX2_readTable 6 = .ok (.aload_n 0, 1) := by decide +kernel
theorem dX2_readTable_7 : decode cX2_readTable 7 = .ok (.iconst 0, 1) := by decide +kernel
theorem dX2_readTable_8 : decode cX2_readTable 8 = .ok (.putfield 27, 3) := by decide +kernel
theorem dX2_readTable_11 : decode cX2_readTable 11 = .ok (.aload_n 1, 1) := by decide +kernel
theorem dX2_readTable_12 : decode cX2_readTable 12 = .ok (.iload_n 2, 1) := by decide +kernel
theorem dX2_readTable_13 : decode cX2_readTable 13 = .ok (.iconst 0, 1) := by decide +kernel
theorem dX2_readTable_14 : decode cX2_readTable 14 = .ok (.invokestatic 31, 3) := by decide +kernel
theorem dX2_readTable_17 : decode cX2_readTable 17 = .ok (.istore 4, 2) := by decide +kernel
theorem dX2_readTable_19 : decode cX2_readTable 19 = .ok (.aload_n 1, 1) := by decide +kernel
theorem dX2_readTable_20 : decode cX2_readTable 20 = .ok (.iload_n 2, 1) := by decide +kernel
theorem dX2_readTable_21 : decode cX2_readTable 21 = .ok (.iload 4, 2) := by decide +kernel
theorem dX2_readTable_23 : decode cX2_readTable 23 = .ok (.iconst 0, 1) := by decide +kernel
theorem dX2_readTable_24 : decode cX2_readTable 24 = .ok (.invokestatic 35, 3) := by decide +kernel
theorem dX2_readTable_27 : decode cX2_readTable 27 = .ok (.istore 5, 2) := by decide +kernel
theorem dX2_readTable_29 : decode cX2_readTable 29 = .ok (.iload 5, 2) := by decide +kernel
theorem dX2_readTable_31 : decode cX2_readTable 31 = .ok (.bipush (-9), 2) := by decide +kernel
theorem dX2_readTable_33 : decode cX2_readTable 33 = .ok (.if_icmp .ne 6, 3) := by decide +kernel
theorem dX2_readTable_36 : decode cX2_readTable 36 = .ok (.iload 4, 2) := by decide +kernel
theorem dX2_readTable_38 : decode cX2_readTable 38 = .ok (.ireturn, 1) := by decide +kernel
theorem dX2_readTable_39 : decode cX2_readTable 39 = .ok (.aload_n 1, 1) := by decide +kernel
theorem dX2_readTable_40 : decode cX2_readTable 40 = .ok (.iload_n 2, 1) := by decide +kernel
theorem dX2_readTable_41 : decode cX2_readTable 41 = .ok (.iload 4, 2) := by decide +kernel
theorem dX2_readTable_43 : decode cX2_readTable 43 = .ok (.iconst 1, 1) := by decide +kernel
theorem dX2_readTable_44 : decode cX2_readTable 44 = .ok (.iadd, 1) := by decide +kernel
theorem dX2_readTable_45 : decode cX2_readTable 45 = .ok (.iconst 0, 1) := by decide +kernel
theorem dX2_readTable_46 : decode cX2_readTable 46 = .ok (.invokestatic 35, 3) := by decide +kernel
theorem dX2_readTable_49 : decode cX2_readTable 49 = .ok (.istore 6, 2) := by decide +kernel
theorem dX2_readTable_51 : decode cX2_readTable 51 = .ok (.iload 6, 2) := by decide +kernel
theorem dX2_readTable_53 : decode cX2_readTable 53 = .ok (.bipush (-9), 2) := by decide +kernel
theorem dX2_readTable_55 : decode cX2_readTable 55 = .ok (.if_icmp .ne 8, 3) := by decide +kernel
theorem dX2_readTable_58 : decode cX2_readTable 58 = .ok (.iload 4, 2) := by decide +kernel
theorem dX2_readTable_60 : decode cX2_readTable 60 = .ok (.iconst 1, 1) := by decide +kernel
theorem dX2_readTable_61 : decode cX2_readTable 61 = .ok (.iadd, 1) := by decide +kernel
theorem dX2_readTable_62 : decode cX2_readTable 62 = .ok (.ireturn, 1) := by decide +kernel
theorem dX2_readTable_63 : decode cX2_readTable 63 = .ok (.aload_n 0, 1) := by decide +kernel
theorem dX2_readTable_64 : decode cX2_readTable 64 = .ok (.bipush 10, 2) := by decide +kernel
theorem dX2_readTable_66 : decode cX2_readTable 66 = .ok (.iload 5, 2) := by decide +kernel
theorem dX2_readTable_68 : decode cX2_readTable 68 = .ok (.imul, 1) := by decide +kernel
theorem dX2_readTable_69 : decode cX2_readTable 69 = .ok (.iload 6, 2) := by decide +kernel
theorem dX2_readTable_71 : decode cX2_readTable 71 = .ok (.iadd, 1) := by decide +kernel
theorem dX2_readTable_72 : decode cX2_readTable 72 = .ok (.putfield 39, 3) := by decide +kernel
theorem dX2_readTable_75 : decode cX2_readTable 75 = .ok (.aload_n 1, 1) := by decide +kernel
theorem dX2_readTable_76 : decode cX2_readTable 76 = .ok (.iload_n 2, 1) := by decide +kernel
theorem dX2_readTable_77 : decode cX2_readTable 77 = .ok (.iload 4, 2) := by decide +kernel
theorem dX2_readTable_79 : decode cX2_readTable 79 = .ok (.iconst 2, 1) := by decide +kernel
theorem dX2_readTable_80 : decode cX2_readTable 80 = .ok (.iadd, 1) := by decide +kernel
theorem dX2_readTable_81 : decode cX2_readTable 81 = .ok (.invokestatic 31, 3) := by decide +kernel
theorem dX2_readTable_84 : decode cX2_readTable 84 = .ok (.istore 4, 2) := by decide +kernel
theorem dX2_readTable_86 : decode cX2_readTable 86 = .ok (.iconst 0, 1) := by decide +kernel
theorem dX2_readTable_87 : decode cX2_readTable 87 = .ok (.istore 7, 2) := by decide +kernel
theorem dX2_readTable_89 : decode cX2_readTable 89 = .ok (.iload 7, 2) := by decide +kernel
theorem dX2_readTable_91 : decode cX2_readTable 91 = .ok (.bipush 7, 2) := by decide +kernel
theorem dX2_readTable_93 : decode cX2_readTable 93 = .ok (.if_icmp .ge 46, 3) := by decide +kernel
theorem dX2_readTable_96 : decode cX2_readTable 96 = .ok (.iload 4, 2) := by decide +kernel
theorem dX2_readTable_98 : decode cX2_readTable 98 = .ok (.iload_n 3, 1) := by decide +kernel
theorem dX2_readTable_99 : decode cX2_readTable 99 = .ok (.if_icmp .ge 40, 3) := by decide +kernel
theorem dX2_readTable_102 : decode cX2_readTable 102 = .ok (.aload_n 0, 1) := by decide +kernel
theorem dX2_readTable_103 : decode cX2_readTable 103 = .ok (.aload_n 1, 1) := by decide +kernel
theorem dX2_readTable_104 : decode cX2_readTable 104 = .ok (.iload_n 2, 1) := by decide +kernel
theorem dX2_readTable_105 : decode cX2_readTable 105 = .ok (.iload 4, 2) := by decide +kernel
theorem dX2_readTable_107 : decode cX2_readTable 107 = .ok (.invokevirtual 42, 3) := by decide +kernel
theorem dX2_readTable_110 : decode cX2_readTable 110 = .ok (.istore 8, 2) := by decide +kernel
theorem dX2_readTable_112 : decode cX2_readTable 112 = .ok (.iload 8, 2) := by decide +kernel
theorem dX2_readTable_114 : decode cX2_readTable 114 = .ok (.bipush (-9), 2) := by decide +kernel
theorem dX2_readTable_116 : decode cX2_readTable 116 = .ok (.if_icmp .eq 6, 3) := by decide +kernel
theorem dX2_readTable_119 : decode cX2_readTable 119 = .ok (.iload 8, 2) := by decide +kernel
theorem dX2_readTable_121 : decode cX2_readTable 121 = .ok (.ireturn, 1) := by decide +kernel
theorem dX2_readTable_122 : decode cX2_readTable 122 = .ok (.aload_n 1, 1) := by decide +kernel
theorem dX2_readTable_123 : decode cX2_readTable 123 = .ok (.iload_n 2, 1) := by decide +kernel
theorem dX2_readTable_124 : decode cX2_readTable 124 = .ok (.iload 4, 2) := by decide +kernel
theorem dX2_readTable_126 : decode cX2_readTable 126 = .ok (.iconst 3, 1) := by decide +kernel
theorem dX2_readTable_127 : decode cX2_readTable 127 = .ok (.iadd, 1) := by decide +kernel
theorem dX2_readTable_128 : decode cX2_readTable 128 = .ok (.invokestatic 31, 3) := by decide +kernel
theorem dX2_readTable_131 : decode cX2_readTable 131 = .ok (.istore 4, 2) := by decide +kernel
theorem dX2_readTable_133 : decode cX2_readTable 133 = .ok (.iinc 7 1, 3) := by decide +kernel
theorem dX2_readTable_136 : decode cX2_readTable 136 = .ok (.goto (-47), 3) := by decide +kernel
theorem dX2_readTable_139 : decode cX2_readTable 139 = .ok (.iload 4, 2) := by decide +kernel
theorem dX2_readTable_141 : decode cX2_readTable 141 = .ok (.iload_n 3, 1) := by decide +kernel
theorem dX2_readTable_142 : decode cX2_readTable 142 = .ok (.if_icmp .ge 6, 3) := by decide +kernel
theorem dX2_readTable_145 : decode cX2_readTable 145 = .ok (.iload 4, 2) := by decide +kernel
theorem dX2_readTable_147 : decode cX2_readTable 147 = .ok (.ireturn, 1) := by decide +kernel
theorem dX2_readTable_148 : decode cX2_readTable 148 = .ok (.aload_n 0, 1) := by decide +kernel
theorem dX2_readTable_149 : decode cX2_readTable 149 = .ok (.getfield 27, 3) := by decide +kernel
theorem dX2_readTable_152 : decode cX2_readTable 152 = .ok (.iconst 2, 1) := by decide +kernel
theorem dX2_readTable_153 : decode cX2_readTable 153 = .ok (.if_icmp .ge 7, 3) := by decide +kernel
theorem dX2_readTable_156 : decode cX2_readTable 156 = .ok (.iload_n 3, 1) := by decide +kernel
theorem dX2_readTable_157 : decode cX2_readTable 157 = .ok (.goto 5, 3) := by decide +kernel
theorem dX2_readTable_160 : decode cX2_readTable 160 = .ok (.bipush (-9), 2) := by decide +kernel
theorem dX2_readTable_162 : decode cX2_readTable 162 = .ok (.ireturn, 1) := by decide +kernel
set_option maxRecDepth 20000 in
theorem ggX2_readWorker_X3_read : GoodIn wsX2_readWorker wsX3_read := goodIn_r _ [9, 10, 11, 12, 13, 14, 8, 15, 16, 17, 18, 19, 20, 34, 35, 36] (by decide +kernel) (by decide +kernel)
set_option maxRecDepth 20000 in
theorem gX2_readWorker_X3_read : GoodIn wsX2_readWorker (wsV RX2 45 RX3 yX3_read wsX3_read) := goodIn_app (goodIn_of _ (by decide +kernel)) ggX2_readWorker_X3_read
set_option maxRecDepth 20000 in
theorem ggX2_readWorker_X0_byLetter : GoodIn wsX2_readWorker wsX0_byLetter := goodIn_r _ [24] (by decide +kernel) (by decide +kernel)
set_option maxRecDepth 20000 in
theorem gX2_readWorker_X0_byLetter : GoodIn wsX2_readWorker (va_wsS RX2 49 yX0_byLetter wsX0_byLetter) := goodIn_app (goodIn_of _ (by decide +kernel)) ggX2_readWorker_X0_byLetter
set_option maxRecDepth 20000 in
theorem ggX2_readWorker_X2_figure : GoodIn wsX2_readWorker wsX2_figure := goodIn_r _ [28, 5, 6, 7, 8, 9, 10, 11, 12, 13, 14, 15, 16, 17, 18, 19, 20, 34, 35, 36] (by decide +kernel) (by decide +kernel)
set_option maxRecDepth 20000 in
theorem gX2_readWorker_X2_figure : GoodIn wsX2_readWorker (va_wsS RX2 35 yX2_figure wsX2_figure) := goodIn_app (goodIn_of _ (by decide +kernel)) ggX2_readWorker_X2_figure
theorem dX2_readWorker_0 : decode cX2_readWorker 0 = .ok (.aload_n 1, 1) := by decide +kernel
theorem dX2_readWorker_1 : decode cX2_readWorker 1 = .ok (.iload_n 2, 1) := by decide +kernel
theorem dX2_readWorker_2 : decode cX2_readWorker 2 = .ok (.iload_n 3, 1) := by decide +kernel
theorem dX2_readWorker_3 : decode cX2_readWorker 3 = .ok (.invokevirtual 45, 3) := by decide +kernel
theorem dX2_readWorker_6 : decode cX2_readWorker 6 = .ok (.invokestatic 49, 3) := by decide +kernel
theorem dX2_readWorker_9 : decode cX2_readWorker 9 = .ok (.istore 4, 2) := by decide +kernel
theorem dX2_readWorker_11 : decode cX2_readWorker 11 = .ok (.iload 4, 2) := by decide +kernel
theorem dX2_readWorker_13 : decode cX2_readWorker 13 = .ok (.bipush (-9), 2) := by decide +kernel
theorem dX2_readWorker_15 : decode cX2_readWorker 15 = .ok (.if_icmp .eq 12, 3) := by decide +kernel
theorem dX2_readWorker_18 : decode cX2_readWorker 18 = .ok (.aload_n 0, 1) := by decide +kernel
theorem dX2_readWorker_19 : decode cX2_readWorker 19 = .ok (.getfield 27, 3) := by decide +kernel
theorem dX2_readWorker_22 : decode cX2_readWorker 22 = .ok (.bipush 7, 2) := by decide +kernel
theorem dX2_readWorker_24 : decode cX2_readWorker 24 = .ok (.if_icmp .lt 5, 3) := by decide +kernel
theorem dX2_readWorker_27 : decode cX2_readWorker 27 = .ok (.iload_n 3, 1) := by decide +kernel
theorem dX2_readWorker_28 : decode cX2_readWorker 28 = .ok (.ireturn, 1) := by decide +kernel
theorem dX2_readWorker_29 : decode cX2_readWorker 29 = .ok (.aload_n 1, 1) := by decide +kernel
theorem dX2_readWorker_30 : decode cX2_readWorker 30 = .ok (.iload_n 2, 1) := by decide +kernel
theorem dX2_readWorker_31 : decode cX2_readWorker 31 = .ok (.iload_n 3, 1) := by decide +kernel
theorem dX2_readWorker_32 : decode cX2_readWorker 32 = .ok (.iconst 1, 1) := by decide +kernel
theorem dX2_readWorker_33 : decode cX2_readWorker 33 = .ok (.iadd, 1) := by decide +kernel
theorem dX2_readWorker_34 : decode cX2_readWorker 34 = .ok (.iconst 1, 1) := by decide +kernel
theorem dX2_readWorker_35 : decode cX2_readWorker 35 = .ok (.invokestatic 35, 3) := by decide +kernel
theorem dX2_readWorker_38 : decode cX2_readWorker 38 = .ok (.istore 5, 2) := by decide +kernel
theorem dX2_readWorker_40 : decode cX2_readWorker 40 = .ok (.iload 5, 2) := by decide +kernel
theorem dX2_readWorker_42 : decode cX2_readWorker 42 = .ok (.bipush (-9), 2) := by decide +kernel
theorem dX2_readWorker_44 : decode cX2_readWorker 44 = .ok (.if_icmp .ne 7, 3) := by decide +kernel
theorem dX2_readWorker_47 : decode cX2_readWorker 47 = .ok (.iload_n 3, 1) := by decide +kernel
theorem dX2_readWorker_48 : decode cX2_readWorker 48 = .ok (.iconst 1, 1) := by decide +kernel
theorem dX2_readWorker_49 : decode cX2_readWorker 49 = .ok (.iadd, 1) := by decide +kernel
theorem dX2_readWorker_50 : decode cX2_readWorker 50 = .ok (.ireturn, 1) := by decide +kernel
theorem dX2_readWorker_51 : decode cX2_readWorker 51 = .ok (.aload_n 1, 1) := by decide +kernel
theorem dX2_readWorker_52 : decode cX2_readWorker 52 = .ok (.iload_n 2, 1) := by decide +kernel
theorem dX2_readWorker_53 : decode cX2_readWorker 53 = .ok (.iload_n 3, 1) := by decide +kernel
theorem dX2_readWorker_54 : decode cX2_readWorker 54 = .ok (.iconst 2, 1) := by decide +kernel
theorem dX2_readWorker_55 : decode cX2_readWorker 55 = .ok (.iadd, 1) := by decide +kernel
theorem dX2_readWorker_56 : decode cX2_readWorker 56 = .ok (.iconst 1, 1) := by decide +kernel
theorem dX2_readWorker_57 : decode cX2_readWorker 57 = .ok (.invokestatic 35, 3) := by decide +kernel
theorem dX2_readWorker_60 : decode cX2_readWorker 60 = .ok (.istore 6, 2) := by decide +kernel
theorem dX2_readWorker_62 : decode cX2_readWorker 62 = .ok (.iload 6, 2) := by decide +kernel
theorem dX2_readWorker_64 : decode cX2_readWorker 64 = .ok (.bipush (-9), 2) := by decide +kernel
theorem dX2_readWorker_66 : decode cX2_readWorker 66 = .ok (.if_icmp .ne 7, 3) := by decide +kernel
theorem dX2_readWorker_69 : decode cX2_readWorker 69 = .ok (.iload_n 3, 1) := by decide +kernel
theorem dX2_readWorker_70 : decode cX2_readWorker 70 = .ok (.iconst 2, 1) := by decide +kernel
theorem dX2_readWorker_71 : decode cX2_readWorker 71 = .ok (.iadd, 1) := by decide +kernel
theorem dX2_readWorker_72 : decode cX2_readWorker 72 = .ok (.ireturn, 1) := by decide +kernel
theorem dX2_readWorker_73 : decode cX2_readWorker 73 = .ok (.aload_n 0, 1) := by decide +kernel
theorem dX2_readWorker_74 : decode cX2_readWorker 74 = .ok (.getfield 9, 3) := by decide +kernel
theorem dX2_readWorker_77 : decode cX2_readWorker 77 = .ok (.aload_n 0, 1) := by decide +kernel
theorem dX2_readWorker_78 : decode cX2_readWorker 78 = .ok (.getfield 27, 3) := by decide +kernel
theorem dX2_readWorker_81 : decode cX2_readWorker 81 = .ok (.iload 4, 2) := by decide +kernel
theorem dX2_readWorker_83 : decode cX2_readWorker 83 = .ok (.iastore, 1) := by decide +kernel
theorem dX2_readWorker_84 : decode cX2_readWorker 84 = .ok (.aload_n 0, 1) := by decide +kernel
theorem dX2_readWorker_85 : decode cX2_readWorker 85 = .ok (.getfield 15, 3) := by decide +kernel
theorem dX2_readWorker_88 : decode cX2_readWorker 88 = .ok (.aload_n 0, 1) := by decide +kernel
theorem dX2_readWorker_89 : decode cX2_readWorker 89 = .ok (.getfield 27, 3) := by decide +kernel
theorem dX2_readWorker_92 : decode cX2_readWorker 92 = .ok (.iload 5, 2) := by decide +kernel
theorem dX2_readWorker_94 : decode cX2_readWorker 94 = .ok (.iastore, 1) := by decide +kernel
theorem dX2_readWorker_95 : decode cX2_readWorker 95 = .ok (.aload_n 0, 1) := by decide +kernel
theorem dX2_readWorker_96 : decode cX2_readWorker 96 = .ok (.getfield 18, 3) := by decide +kernel
theorem dX2_readWorker_99 : decode cX2_readWorker 99 = .ok (.aload_n 0, 1) := by decide +kernel
theorem dX2_readWorker_100 : decode cX2_readWorker 100 = .ok (.getfield 27, 3) := by decide +kernel
theorem dX2_readWorker_103 : decode cX2_readWorker 103 = .ok (.iload 6, 2) := by decide +kernel
theorem dX2_readWorker_105 : decode cX2_readWorker 105 = .ok (.iastore, 1) := by decide +kernel
theorem dX2_readWorker_106 : decode cX2_readWorker 106 = .ok (.aload_n 0, 1) := by decide +kernel
theorem dX2_readWorker_107 : decode cX2_readWorker 107 = .ok (.dup, 1) := by decide +kernel
theorem dX2_readWorker_108 : decode cX2_readWorker 108 = .ok (.getfield 27, 3) := by decide +kernel
theorem dX2_readWorker_111 : decode cX2_readWorker 111 = .ok (.iconst 1, 1) := by decide +kernel
theorem dX2_readWorker_112 : decode cX2_readWorker 112 = .ok (.iadd, 1) := by decide +kernel
theorem dX2_readWorker_113 : decode cX2_readWorker 113 = .ok (.putfield 27, 3) := by decide +kernel
theorem dX2_readWorker_116 : decode cX2_readWorker 116 = .ok (.bipush (-9), 2) := by decide +kernel
theorem dX2_readWorker_118 : decode cX2_readWorker 118 = .ok (.ireturn, 1) := by decide +kernel
set_option maxRecDepth 20000 in
theorem ggX2_pastBlanks_X3_sizeOf : GoodIn wsX2_pastBlanks wsX3_sizeOf := goodIn_r _ [5, 6, 7, 8, 9, 4, 10, 21, 22, 23] (by decide +kernel) (by decide +kernel)
set_option maxRecDepth 20000 in
theorem gX2_pastBlanks_X3_sizeOf : GoodIn wsX2_pastBlanks (wsV RX2 21 RX3 yX3_sizeOf wsX3_sizeOf) := goodIn_app (goodIn_of _ (by decide +kernel)) ggX2_pastBlanks_X3_sizeOf
set_option maxRecDepth 20000 in
theorem ggX2_pastBlanks_X3_read : GoodIn wsX2_pastBlanks wsX3_read := goodIn_r _ [14, 15, 16, 17, 18, 19, 4, 20, 6, 7, 8, 9, 10, 21, 22, 23] (by decide +kernel) (by decide +kernel)
set_option maxRecDepth 20000 in
theorem gX2_pastBlanks_X3_read : GoodIn wsX2_pastBlanks (wsV RX2 45 RX3 yX3_read wsX3_read) := goodIn_app (goodIn_of _ (by decide +kernel)) ggX2_pastBlanks_X3_read
theorem dX2_pastBlanks_0 : decode cX2_pastBlanks 0 = .ok (.iload_n 2, 1) := by decide +kernel
theorem dX2_pastBlanks_1 : decode cX2_pastBlanks 1 = .ok (.istore_n 3, 1) := by decide +kernel
theorem dX2_pastBlanks_2 : decode cX2_pastBlanks 2 = .ok (.iload_n 3, 1) := by decide +kernel
theorem dX2_pastBlanks_3 : decode cX2_pastBlanks 3 = .ok (.aload_n 0, 1) := by decide +kernel
theorem dX2_pastBlanks_4 : decode cX2_pastBlanks 4 = .ok (.iload_n 1, 1) := by decide +kernel
theorem dX2_pastBlanks_5 : decode cX2_pastBlanks 5 = .ok (.invokevirtual 21, 3) := by decide +kernel
theorem dX2_pastBlanks_8 : decode cX2_pastBlanks 8 = .ok (.if_icmp .ge 20, 3) := by decide +kernel
theorem dX2_pastBlanks_11 : decode cX2_pastBlanks 11 = .ok (.aload_n 0, 1) := by decide +kernel
theorem dX2_pastBlanks_12 : decode cX2_pastBlanks 12 = .ok (.iload_n 1, 1) := by decide +kernel
theorem dX2_pastBlanks_13 : decode cX2_pastBlanks 13 = .ok (.iload_n 3, 1) := by decide +kernel
theorem dX2_pastBlanks_14 : decode cX2_pastBlanks 14 = .ok (.invokevirtual 45, 3) := by decide +kernel
theorem dX2_pastBlanks_17 : decode cX2_pastBlanks 17 = .ok (.bipush 32, 2) := by decide +kernel
theorem dX2_pastBlanks_19 : decode cX2_pastBlanks 19 = .ok (.if_icmp .ne 9, 3) := by decide +kernel
theorem dX2_pastBlanks_22 : decode cX2_pastBlanks 22 = .ok (.iinc 3 1, 3) := by decide +kernel
theorem dX2_pastBlanks_25 : decode cX2_pastBlanks 25 = .ok (.goto (-23), 3) := by decide +kernel
theorem dX2_pastBlanks_28 : decode cX2_pastBlanks 28 = .ok (.iload_n 3, 1) := by decide +kernel
theorem dX2_pastBlanks_29 : decode cX2_pastBlanks 29 = .ok (.ireturn, 1) := by decide +kernel
set_option maxRecDepth 20000 in
theorem ggX2_figure_X3_read : GoodIn wsX2_figure wsX3_read := goodIn_r _ [5, 6, 7, 8, 9, 10, 4, 11, 12, 13, 14, 15, 16, 17, 18, 19] (by decide +kernel) (by decide +kernel)
set_option maxRecDepth 20000 in
theorem gX2_figure_X3_read : GoodIn wsX2_figure (wsV RX2 45 RX3 yX3_read wsX3_read) := goodIn_app (goodIn_of _ (by decide +kernel)) ggX2_figure_X3_read
theorem dX2_figure_0 : decode cX2_figure 0 = .ok (.aload_n 0, 1) := by decide +kernel
theorem dX2_figure_1 : decode cX2_figure 1 = .ok (.iload_n 1, 1) := by decide +kernel
theorem dX2_figure_2 : decode cX2_figure 2 = .ok (.iload_n 2, 1) := by decide +kernel
theorem dX2_figure_3 : decode cX2_figure 3 = .ok (.invokevirtual 45, 3) := by decide +kernel
theorem dX2_figure_6 : decode cX2_figure 6 = .ok (.bipush 48, 2) := by decide +kernel
theorem dX2_figure_8 : decode cX2_figure 8 = .ok (.isub, 1) := by decide +kernel
theorem dX2_figure_9 : decode cX2_figure 9 = .ok (.istore 4, 2) := by decide +kernel
theorem dX2_figure_11 : decode cX2_figure 11 = .ok (.iload 4, 2) := by decide +kernel
theorem dX2_figure_13 : decode cX2_figure 13 = .ok (.iload_n 3, 1) := by decide +kernel
theorem dX2_figure_14 : decode cX2_figure 14 = .ok (.if_icmp .lt 15, 3) := by decide +kernel
theorem dX2_figure_17 : decode cX2_figure 17 = .ok (.iload 4, 2) := by decide +kernel
theorem dX2_figure_19 : decode cX2_figure 19 = .ok (.bipush 9, 2) := by decide +kernel
theorem dX2_figure_21 : decode cX2_figure 21 = .ok (.if_icmp .gt 8, 3) := by decide +kernel
theorem dX2_figure_24 : decode cX2_figure 24 = .ok (.iload 4, 2) := by decide +kernel
theorem dX2_figure_26 : decode cX2_figure 26 = .ok (.goto 5, 3) := by decide +kernel
theorem dX2_figure_29 : decode cX2_figure 29 = .ok (.bipush (-9), 2) := by decide +kernel
theorem dX2_figure_31 : decode cX2_figure 31 = .ok (.ireturn, 1) := by decide +kernel
theorem dX3_init_0 : decode cX3_init 0 = .ok (.aload_n 0, 1) := by decide +kernel
theorem dX3_init_1 : decode cX3_init 1 = .ok (.invokespecial 1, 3) := by decide +kernel
theorem dX3_init_4 : decode cX3_init 4 = .ok (.aload_n 0, 1) := by decide +kernel
theorem dX3_init_5 : decode cX3_init 5 = .ok (.iload_n 2, 1) := by decide +kernel
theorem dX3_init_6 : decode cX3_init 6 = .ok (.iconst 0, 1) := by decide +kernel
theorem dX3_init_7 : decode cX3_init 7 = .ok (.invokestatic 7, 3) := by decide +kernel
theorem dX3_init_10 : decode cX3_init 10 = .ok (.putfield 13, 3) := by decide +kernel
theorem dX3_init_13 : decode cX3_init 13 = .ok (.aload_n 0, 1) := by decide +kernel
theorem dX3_init_14 : decode cX3_init 14 = .ok (.iload_n 1, 1) := by decide +kernel
theorem dX3_init_15 : decode cX3_init 15 = .ok (.iconst 0, 1) := by decide +kernel
theorem dX3_init_16 : decode cX3_init 16 = .ok (.invokestatic 7, 3) := by decide +kernel
theorem dX3_init_19 : decode cX3_init 19 = .ok (.newarray .int, 2) := by decide +kernel
theorem dX3_init_21 : decode cX3_init 21 = .ok (.putfield 19, 3) := by decide +kernel
theorem dX3_init_24 : decode cX3_init 24 = .ok (.aload_n 0, 1) := by decide +kernel
theorem dX3_init_25 : decode cX3_init 25 = .ok (.aload_n 0, 1) := by decide +kernel
theorem dX3_init_26 : decode cX3_init 26 = .ok (.getfield 19, 3) := by decide +kernel
theorem dX3_init_29 : decode cX3_init 29 = .ok (.arraylength, 1) := by decide +kernel
theorem dX3_init_30 : decode cX3_init 30 = .ok (.aload_n 0, 1) := by decide +kernel
theorem dX3_init_31 : decode cX3_init 31 = .ok (.getfield 13, 3) := by decide +kernel
theorem dX3_init_34 : decode cX3_init 34 = .ok (.imul, 1) := by decide +kernel
theorem dX3_init_35 : decode cX3_init 35 = .ok (.newarray .int, 2) := by decide +kernel
theorem dX3_init_37 : decode cX3_init 37 = .ok (.putfield 23, 3) := by decide +kernel
theorem dX3_init_40 : decode cX3_init 40 = .ok (.iconst 0, 1) := by decide +kernel
theorem dX3_init_41 : decode cX3_init 41 = .ok (.istore_n 3, 1) := by decide +kernel
theorem dX3_init_42 : decode cX3_init 42 = .ok (.iload_n 3, 1) := by decide +kernel
theorem dX3_init_43 : decode cX3_init 43 = .ok (.aload_n 0, 1) := by decide +kernel
theorem dX3_init_44 : decode cX3_init 44 = .ok (.getfield 19, 3) := by decide +kernel
theorem dX3_init_47 : decode cX3_init 47 = .ok (.arraylength, 1) := by decide +kernel
theorem dX3_init_48 : decode cX3_init 48 = .ok (.if_icmp .ge 16, 3) := by decide +kernel
theorem dX3_init_51 : decode cX3_init 51 = .ok (.aload_n 0, 1) := by decide +kernel
theorem dX3_init_52 : decode cX3_init 52 = .ok (.getfield 19, 3) := by decide +kernel
theorem dX3_init_55 : decode cX3_init 55 = .ok (.iload_n 3, 1) := by decide +kernel
theorem dX3_init_56 : decode cX3_init 56 = .ok (.iconst (-1), 1) := by decide +kernel
theorem dX3_init_57 : decode cX3_init 57 = .ok (.iastore, 1) := by decide +kernel
theorem dX3_init_58 : decode cX3_init 58 = .ok (.iinc 3 1, 3) := by decide +kernel
theorem dX3_init_61 : decode cX3_init 61 = .ok (.goto (-19), 3) := by decide +kernel
theorem dX3_init_64 : decode cX3_init 64 = .ok (.return_, 1) := by decide +kernel
theorem dX3_isNumber_0 : decode cX3_isNumber 0 = .ok (.iload_n 1, 1) := by decide +kernel
theorem dX3_isNumber_1 : decode cX3_isNumber 1 = .ok (.ifCond .lt 16, 3) := by decide +kernel
theorem dX3_isNumber_4 : decode cX3_isNumber 4 = .ok (.iload_n 1, 1) := by decide +kernel
theorem dX3_isNumber_5 : decode cX3_isNumber 5 = .ok (.aload_n 0, 1) := by decide +kernel
theorem dX3_isNumber_6 : decode cX3_isNumber 6 = .ok (.getfield 19, 3) := by decide +kernel
theorem dX3_isNumber_9 : decode cX3_isNumber 9 = .ok (.arraylength, 1) := by decide +kernel
theorem dX3_isNumber_10 : decode cX3_isNumber 10 = .ok (.if_icmp .ge 7, 3) := by decide +kernel
theorem dX3_isNumber_13 : decode cX3_isNumber 13 = .ok (.iconst 1, 1) := by decide +kernel
theorem dX3_isNumber_14 : decode cX3_isNumber 14 = .ok (.goto 4, 3) := by decide +kernel
theorem dX3_isNumber_17 : decode cX3_isNumber 17 = .ok (.iconst 0, 1) := by decide +kernel
theorem dX3_isNumber_18 : decode cX3_isNumber 18 = .ok (.ireturn, 1) := by decide +kernel
set_option maxRecDepth 20000 in
theorem ggX3_sizeOf_X3_isNumber : GoodIn wsX3_sizeOf wsX3_isNumber := goodIn_r _ [6, 1, 7, 8, 9] (by decide +kernel) (by decide +kernel)
set_option maxRecDepth 20000 in
theorem gX3_sizeOf_X3_isNumber : GoodIn wsX3_sizeOf (wsV RX3 26 RX3 yX3_isNumber wsX3_isNumber) := goodIn_app (goodIn_of _ (by decide +kernel)) ggX3_sizeOf_X3_isNumber
theorem dX3_sizeOf_0 : decode cX3_sizeOf 0 = .ok (.aload_n 0, 1) := by decide +kernel
theorem dX3_sizeOf_1 : decode cX3_sizeOf 1 = .ok (.iload_n 1, 1) := by decide +kernel
theorem dX3_sizeOf_2 : decode cX3_sizeOf 2 = .ok (.invokevirtual 26, 3) := by decide +kernel
theorem dX3_sizeOf_5 : decode cX3_sizeOf 5 = .ok (.ifCond .eq 12, 3) := by decide +kernel
theorem dX3_sizeOf_8 : decode cX3_sizeOf 8 = .ok (.aload_n 0, 1) := by decide +kernel
theorem dX3_sizeOf_9 : decode cX3_sizeOf 9 = .ok (.getfield 19, 3) := by decide +kernel
theorem dX3_sizeOf_12 : decode cX3_sizeOf 12 = .ok (.iload_n 1, 1) := by decide +kernel
theorem dX3_sizeOf_13 : decode cX3_sizeOf 13 = .ok (.iaload, 1) := by decide +kernel
theorem dX3_sizeOf_14 : decode cX3_sizeOf 14 = .ok (.goto 4, 3) := by decide +kernel
theorem dX3_sizeOf_17 : decode cX3_sizeOf 17 = .ok (.iconst (-1), 1) := by decide +kernel
theorem dX3_sizeOf_18 : decode cX3_sizeOf 18 = .ok (.ireturn, 1) := by decide +kernel
set_option maxRecDepth 20000 in
theorem ggX3_isThere_X3_sizeOf : GoodIn wsX3_isThere wsX3_sizeOf := goodIn_r _ [5, 6, 7, 8, 9, 4, 10, 11, 12, 13] (by decide +kernel) (by decide +kernel)
set_option maxRecDepth 20000 in
theorem gX3_isThere_X3_sizeOf : GoodIn wsX3_isThere (wsV RX3 30 RX3 yX3_sizeOf wsX3_sizeOf) := goodIn_app (goodIn_of _ (by decide +kernel)) ggX3_isThere_X3_sizeOf
theorem dX3_isThere_0 : decode cX3_isThere 0 = .ok (.aload_n 0, 1) := by decide +kernel
theorem dX3_isThere_1 : decode cX3_isThere 1 = .ok (.iload_n 1, 1) := by decide +kernel
theorem dX3_isThere_2 : decode cX3_isThere 2 = .ok (.invokevirtual 30, 3) := by decide +kernel
theorem dX3_isThere_5 : decode cX3_isThere 5 = .ok (.iconst (-1), 1) := by decide +kernel
theorem dX3_isThere_6 : decode cX3_isThere 6 = .ok (.if_icmp .eq 7, 3) := by decide +kernel
theorem dX3_isThere_9 : decode cX3_isThere 9 = .ok (.iconst 1, 1) := by decide +kernel
theorem dX3_isThere_10 : decode cX3_isThere 10 = .ok (.goto 4, 3) := by decide +kernel
theorem dX3_isThere_13 : decode cX3_isThere 13 = .ok (.iconst 0, 1) := by decide +kernel
theorem dX3_isThere_14 : decode cX3_isThere 14 = .ok (.ireturn, 1) := by decide +kernel
set_option maxRecDepth 20000 in
theorem ggX3_hasPlace_X3_isNumber : GoodIn wsX3_hasPlace wsX3_isNumber := goodIn_r _ [6, 1, 7, 8, 9] (by decide +kernel) (by decide +kernel)
set_option maxRecDepth 20000 in
theorem gX3_hasPlace_X3_isNumber : GoodIn wsX3_hasPlace (wsV RX3 26 RX3 yX3_isNumber wsX3_isNumber) := goodIn_app (goodIn_of _ (by decide +kernel)) ggX3_hasPlace_X3_isNumber
theorem dX3_hasPlace_0 : decode cX3_hasPlace 0 = .ok (.aload_n 0, 1) := by decide +kernel
theorem dX3_hasPlace_1 : decode cX3_hasPlace 1 = .ok (.iload_n 1, 1) := by decide +kernel
theorem dX3_hasPlace_2 : decode cX3_hasPlace 2 = .ok (.invokevirtual 26, 3) := by decide +kernel
theorem dX3_hasPlace_5 : decode cX3_hasPlace 5 = .ok (.ifCond .eq 21, 3) := by decide +kernel
theorem dX3_hasPlace_8 : decode cX3_hasPlace 8 = .ok (.iload_n 2, 1) := by decide +kernel
theorem dX3_hasPlace_9 : decode cX3_hasPlace 9 = .ok (.ifCond .lt 17, 3) := by decide +kernel
theorem dX3_hasPlace_12 : decode cX3_hasPlace 12 = .ok (.iload_n 2, 1) := by decide +kernel
theorem dX3_hasPlace_13 : decode cX3_hasPlace 13 = .ok (.aload_n 0, 1) := by decide +kernel
theorem dX3_hasPlace_14 : decode cX3_hasPlace 14 = .ok (.getfield 19, 3) := by decide +kernel
theorem dX3_hasPlace_17 : decode cX3_hasPlace 17 = .ok (.iload_n 1, 1) := by decide +kernel
theorem dX3_hasPlace_18 : decode cX3_hasPlace 18 = .ok (.iaload, 1) := by decide +kernel
theorem dX3_hasPlace_19 : decode cX3_hasPlace 19 = .ok (.if_icmp .ge 7, 3) := by decide +kernel
theorem dX3_hasPlace_22 : decode cX3_hasPlace 22 = .ok (.iconst 1, 1) := by decide +kernel
theorem dX3_hasPlace_23 : decode cX3_hasPlace 23 = .ok (.goto 4, 3) := by decide +kernel
theorem dX3_hasPlace_26 : decode cX3_hasPlace 26 = .ok (.iconst 0, 1) := by decide +kernel
theorem dX3_hasPlace_27 : decode cX3_hasPlace 27 = .ok (.ireturn, 1) := by decide +kernel
set_option maxRecDepth 20000 in
theorem ggX3_hasStretch_X3_sizeOf : GoodIn wsX3_hasStretch wsX3_sizeOf := goodIn_r _ [5, 6, 7, 8, 9, 4, 10, 11, 12, 13] (by decide +kernel) (by decide +kernel)
set_option maxRecDepth 20000 in
theorem gX3_hasStretch_X3_sizeOf : GoodIn wsX3_hasStretch (wsV RX3 30 RX3 yX3_sizeOf wsX3_sizeOf) := goodIn_app (goodIn_of _ (by decide +kernel)) ggX3_hasStretch_X3_sizeOf
theorem dX3_hasStretch_0 : decode cX3_hasStretch 0 = .ok (.iload_n 2, 1) := by decide +kernel
theorem dX3_hasStretch_1 : decode cX3_hasStretch 1 = .ok (.ifCond .lt 26, 3) := by decide +kernel
theorem dX3_hasStretch_4 : decode cX3_hasStretch 4 = .ok (.iload_n 3, 1) := by decide +kernel
theorem dX3_hasStretch_5 : decode cX3_hasStretch 5 = .ok (.ifCond .lt 22, 3) := by decide +kernel
theorem dX3_hasStretch_8 : decode cX3_hasStretch 8 = .ok (.iload_n 2, 1) := by decide +kernel
theorem dX3_hasStretch_9 : decode cX3_hasStretch 9 = .ok (.i2l, 1) := by decide +kernel
theorem dX3_hasStretch_10 : decode cX3_hasStretch 10 = .ok (.iload_n 3, 1) := by decide +kernel
theorem dX3_hasStretch_11 : decode cX3_hasStretch 11 = .ok (.i2l, 1) := by decide +kernel
theorem dX3_hasStretch_12 : decode cX3_hasStretch 12 = .ok (.ladd, 1) := by decide +kernel
theorem dX3_hasStretch_13 : decode cX3_hasStretch 13 = .ok (.aload_n 0, 1) := by decide +kernel
theorem dX3_hasStretch_14 : decode cX3_hasStretch 14 = .ok (.iload_n 1, 1) := by decide +kernel
theorem dX3_hasStretch_15 : decode cX3_hasStretch 15 = .ok (.invokevirtual 30, 3) := by decide +kernel
theorem dX3_hasStretch_18 : decode cX3_hasStretch 18 = .ok (.i2l, 1) := by decide +kernel
theorem dX3_hasStretch_19 : decode cX3_hasStretch 19 = .ok (.lcmp, 1) := by decide +kernel
theorem dX3_hasStretch_20 : decode cX3_hasStretch 20 = .ok (.ifCond .gt 7, 3) := by decide +kernel
theorem dX3_hasStretch_23 : decode cX3_hasStretch 23 = .ok (.iconst 1, 1) := by decide +kernel
theorem dX3_hasStretch_24 : decode cX3_hasStretch 24 = .ok (.goto 4, 3) := by decide +kernel
theorem dX3_hasStretch_27 : decode cX3_hasStretch 27 = .ok (.iconst 0, 1) := by decide +kernel
theorem dX3_hasStretch_28 : decode cX3_hasStretch 28 = .ok (.ireturn, 1) := by decide +kernel
set_option maxRecDepth 20000 in
theorem ggX3_make_X3_isNumber : GoodIn wsX3_make wsX3_isNumber := goodIn_r _ [8, 2, 9, 10, 11] (by decide +kernel) (by decide +kernel)
set_option maxRecDepth 20000 in
theorem gX3_make_X3_isNumber : GoodIn wsX3_make (wsV RX3 26 RX3 yX3_isNumber wsX3_isNumber) := goodIn_app (goodIn_of _ (by decide +kernel)) ggX3_make_X3_isNumber
theorem dX3_make_0 : decode cX3_make 0 = .ok (.aload_n 0, 1) := by decide +kernel
theorem dX3_make_1 : decode cX3_make 1 = .ok (.iload_n 1, 1) := by decide +kernel
theorem dX3_make_2 : decode cX3_make 2 = .ok (.invokevirtual 26, 3) := by decide +kernel
theorem dX3_make_5 : decode cX3_make 5 = .ok (.ifCond .eq 15, 3) := by decide +kernel
theorem dX3_make_8 : decode cX3_make 8 = .ok (.iload_n 2, 1) := by decide +kernel
theorem dX3_make_9 : decode cX3_make 9 = .ok (.ifCond .lt 11, 3) := by decide +kernel
theorem dX3_make_12 : decode cX3_make 12 = .ok (.iload_n 2, 1) := by decide +kernel
theorem dX3_make_13 : decode cX3_make 13 = .ok (.aload_n 0, 1) := by decide +kernel
theorem dX3_make_14 : decode cX3_make 14 = .ok (.getfield 13, 3) := by decide +kernel
theorem dX3_make_17 : decode cX3_make 17 = .ok (.if_icmp .le 4, 3) := by decide +kernel
theorem dX3_make_20 : decode cX3_make 20 = .ok (.return_, 1) := by decide +kernel
theorem dX3_make_21 : decode cX3_make 21 = .ok (.aload_n 0, 1) := by decide +kernel
theorem dX3_make_22 : decode cX3_make 22 = .ok (.getfield 19, 3) := by decide +kernel
theorem dX3_make_25 : decode cX3_make 25 = .ok (.iload_n 1, 1) := by decide +kernel
theorem dX3_make_26 : decode cX3_make 26 = .ok (.iload_n 2, 1) := by decide +kernel
theorem dX3_make_27 : decode cX3_make 27 = .ok (.iastore, 1) := by decide +kernel
theorem dX3_make_28 : decode cX3_make 28 = .ok (.iconst 0, 1) := by decide +kernel
theorem dX3_make_29 : decode cX3_make 29 = .ok (.istore 4, 2) := by decide +kernel
theorem dX3_make_31 : decode cX3_make 31 = .ok (.iload 4, 2) := by decide +kernel
theorem dX3_make_33 : decode cX3_make 33 = .ok (.iload_n 2, 1) := by decide +kernel
theorem dX3_make_34 : decode cX3_make 34 = .ok (.if_icmp .ge 24, 3) := by decide +kernel
theorem dX3_make_37 : decode cX3_make 37 = .ok (.aload_n 0, 1) := by decide +kernel
theorem dX3_make_38 : decode cX3_make 38 = .ok (.getfield 23, 3) := by decide +kernel
theorem dX3_make_41 : decode cX3_make 41 = .ok (.iload_n 1, 1) := by decide +kernel
theorem dX3_make_42 : decode cX3_make 42 = .ok (.aload_n 0, 1) := by decide +kernel
theorem dX3_make_43 : decode cX3_make 43 = .ok (.getfield 13, 3) := by decide +kernel
theorem dX3_make_46 : decode cX3_make 46 = .ok (.imul, 1) := by decide +kernel
theorem dX3_make_47 : decode cX3_make 47 = .ok (.iload 4, 2) := by decide +kernel
theorem dX3_make_49 : decode cX3_make 49 = .ok (.iadd, 1) := by decide +kernel
theorem dX3_make_50 : decode cX3_make 50 = .ok (.iload_n 3, 1) := by decide +kernel
theorem dX3_make_51 : decode cX3_make 51 = .ok (.iastore, 1) := by decide +kernel
theorem dX3_make_52 : decode cX3_make 52 = .ok (.iinc 4 1, 3) := by decide +kernel
theorem dX3_make_55 : decode cX3_make 55 = .ok (.goto (-24), 3) := by decide +kernel
theorem dX3_make_58 : decode cX3_make 58 = .ok (.return_, 1) := by decide +kernel
set_option maxRecDepth 20000 in
theorem ggX3_drop_X3_isNumber : GoodIn wsX3_drop wsX3_isNumber := goodIn_r _ [6, 1, 7, 8, 9] (by decide +kernel) (by decide +kernel)
set_option maxRecDepth 20000 in
theorem gX3_drop_X3_isNumber : GoodIn wsX3_drop (wsV RX3 26 RX3 yX3_isNumber wsX3_isNumber) := goodIn_app (goodIn_of _ (by decide +kernel)) ggX3_drop_X3_isNumber
theorem dX3_drop_0 : decode cX3_drop 0 = .ok (.aload_n 0, 1) := by decide +kernel
theorem dX3_drop_1 : decode cX3_drop 1 = .ok (.iload_n 1, 1) := by decide +kernel
theorem dX3_drop_2 : decode cX3_drop 2 = .ok (.invokevirtual 26, 3) := by decide +kernel
theorem dX3_drop_5 : decode cX3_drop 5 = .ok (.ifCond .eq 10, 3) := by decide +kernel
theorem dX3_drop_8 : decode cX3_drop 8 = .ok (.aload_n 0, 1) := by decide +kernel
theorem dX3_drop_9 : decode cX3_drop 9 = .ok (.getfield 19, 3) := by decide +kernel
theorem dX3_drop_12 : decode cX3_drop 12 = .ok (.iload_n 1, 1) := by decide +kernel
theorem dX3_drop_13 : decode cX3_drop 13 = .ok (.iconst (-1), 1) := by decide +kernel
theorem dX3_drop_14 : decode cX3_drop 14 = .ok (.iastore, 1) := by decide +kernel
theorem dX3_drop_15 : decode cX3_drop 15 = .ok (.return_, 1) := by decide +kernel
set_option maxRecDepth 20000 in
theorem ggX3_read_X3_hasPlace : GoodIn wsX3_read wsX3_hasPlace := goodIn_r _ [7, 8, 9, 10, 11, 6, 12, 13, 14, 15] (by decide +kernel) (by decide +kernel)
set_option maxRecDepth 20000 in
theorem gX3_read_X3_hasPlace : GoodIn wsX3_read (wsV RX3 34 RX3 yX3_hasPlace wsX3_hasPlace) := goodIn_app (goodIn_of _ (by decide +kernel)) ggX3_read_X3_hasPlace
theorem dX3_read_0 : decode cX3_read 0 = .ok (.aload_n 0, 1) := by decide +kernel
theorem dX3_read_1 : decode cX3_read 1 = .ok (.iload_n 1, 1) := by decide +kernel
theorem dX3_read_2 : decode cX3_read 2 = .ok (.iload_n 2, 1) := by decide +kernel
theorem dX3_read_3 : decode cX3_read 3 = .ok (.invokevirtual 34, 3) := by decide +kernel
theorem dX3_read_6 : decode cX3_read 6 = .ok (.ifCond .eq 19, 3) := by decide +kernel
theorem dX3_read_9 : decode cX3_read 9 = .ok (.aload_n 0, 1) := by decide +kernel
theorem dX3_read_10 : decode cX3_read 10 = .ok (.getfield 23, 3) := by decide +kernel
theorem dX3_read_13 : decode cX3_read 13 = .ok (.iload_n 1, 1) := by decide +kernel
theorem dX3_read_14 : decode cX3_read 14 = .ok (.aload_n 0, 1) := by decide +kernel
theorem dX3_read_15 : decode cX3_read 15 = .ok (.getfield 13, 3) := by decide +kernel
theorem dX3_read_18 : decode cX3_read 18 = .ok (.imul, 1) := by decide +kernel
theorem dX3_read_19 : decode cX3_read 19 = .ok (.iload_n 2, 1) := by decide +kernel
theorem dX3_read_20 : decode cX3_read 20 = .ok (.iadd, 1) := by decide +kernel
theorem dX3_read_21 : decode cX3_read 21 = .ok (.iaload, 1) := by decide +kernel
theorem dX3_read_22 : decode cX3_read 22 = .ok (.goto 4, 3) := by decide +kernel
theorem dX3_read_25 : decode cX3_read 25 = .ok (.iconst 0, 1) := by decide +kernel
theorem dX3_read_26 : decode cX3_read 26 = .ok (.ireturn, 1) := by decide +kernel
set_option maxRecDepth 20000 in
theorem ggX3_write_X3_hasPlace : GoodIn wsX3_write wsX3_hasPlace := goodIn_r _ [7, 8, 9, 10, 11, 6, 12, 13, 14, 15] (by decide +kernel) (by decide +kernel)
set_option maxRecDepth 20000 in
theorem gX3_write_X3_hasPlace : GoodIn wsX3_write (wsV RX3 34 RX3 yX3_hasPlace wsX3_hasPlace) := goodIn_app (goodIn_of _ (by decide +kernel)) ggX3_write_X3_hasPlace
theorem dX3_write_0 : decode cX3_write 0 = .ok (.aload_n 0, 1) := by decide +kernel
theorem dX3_write_1 : decode cX3_write 1 = .ok (.iload_n 1, 1) := by decide +kernel
theorem dX3_write_2 : decode cX3_write 2 = .ok (.iload_n 2, 1) := by decide +kernel
theorem dX3_write_3 : decode cX3_write 3 = .ok (.invokevirtual 34, 3) := by decide +kernel
theorem dX3_write_6 : decode cX3_write 6 = .ok (.ifCond .eq 17, 3) := by decide +kernel
theorem dX3_write_9 : decode cX3_write 9 = .ok (.aload_n 0, 1) := by decide +kernel
theorem dX3_write_10 : decode cX3_write 10 = .ok (.getfield 23, 3) := by decide +kernel
theorem dX3_write_13 : decode cX3_write 13 = .ok (.iload_n 1, 1) := by decide +kernel
theorem dX3_write_14 : decode cX3_write 14 = .ok (.aload_n 0, 1) := by decide +kernel
theorem dX3_write_15 : decode cX3_write 15 = .ok (.getfield 13, 3) := by decide +kernel
theorem dX3_write_18 : decode cX3_write 18 = .ok (.imul, 1) := by decide +kernel
theorem dX3_write_19 : decode cX3_write 19 = .ok (.iload_n 2, 1) := by decide +kernel
theorem dX3_write_20 : decode cX3_write 20 = .ok (.iadd, 1) := by decide +kernel
theorem dX3_write_21 : decode cX3_write 21 = .ok (.iload_n 3, 1) := by decide +kernel
theorem dX3_write_22 : decode cX3_write 22 = .ok (.iastore, 1) := by decide +kernel
theorem dX3_write_23 : decode cX3_write 23 = .ok (.return_, 1) := by decide +kernel
set_option maxRecDepth 20000 in
theorem ggX3_move_X3_hasStretch : GoodIn wsX3_move wsX3_hasStretch := goodIn_r _ [11, 12, 13, 14, 10, 15, 16, 17, 18, 19, 20, 21, 22, 23] (by decide +kernel) (by decide +kernel)
set_option maxRecDepth 20000 in
theorem gX3_move_X3_hasStretch : GoodIn wsX3_move (wsV RX3 38 RX3 yX3_hasStretch wsX3_hasStretch) := goodIn_app (goodIn_of _ (by decide +kernel)) ggX3_move_X3_hasStretch
theorem dX3_move_0 : decode cX3_move 0 = .ok (.aload_n 0, 1) := by decide +kernel
theorem dX3_move_1 : decode cX3_move 1 = .ok (.iload_n 1, 1) := by decide +kernel
theorem dX3_move_2 : decode cX3_move 2 = .ok (.iload_n 2, 1) := by decide +kernel
theorem dX3_move_3 : decode cX3_move 3 = .ok (.iload 5, 2) := by decide +kernel
theorem dX3_move_5 : decode cX3_move 5 = .ok (.invokevirtual 38, 3) := by decide +kernel
theorem dX3_move_8 : decode cX3_move 8 = .ok (.ifCond .eq 45, 3) := by decide +kernel
theorem dX3_move_11 : decode cX3_move 11 = .ok (.aload_n 0, 1) := by decide +kernel
theorem dX3_move_12 : decode cX3_move 12 = .ok (.iload_n 3, 1) := by decide +kernel
theorem dX3_move_13 : decode cX3_move 13 = .ok (.iload 4, 2) := by decide +kernel
theorem dX3_move_15 : decode cX3_move 15 = .ok (.iload 5, 2) := by decide +kernel
theorem dX3_move_17 : decode cX3_move 17 = .ok (.invokevirtual 38, 3) := by decide +kernel
theorem dX3_move_20 : decode cX3_move 20 = .ok (.ifCond .eq 33, 3) := by decide +kernel
theorem dX3_move_23 : decode cX3_move 23 = .ok (.aload_n 0, 1) := by decide +kernel
theorem dX3_move_24 : decode cX3_move 24 = .ok (.getfield 23, 3) := by decide +kernel
theorem dX3_move_27 : decode cX3_move 27 = .ok (.iload_n 1, 1) := by decide +kernel
theorem dX3_move_28 : decode cX3_move 28 = .ok (.aload_n 0, 1) := by decide +kernel
theorem dX3_move_29 : decode cX3_move 29 = .ok (.getfield 13, 3) := by decide +kernel
theorem dX3_move_32 : decode cX3_move 32 = .ok (.imul, 1) := by decide +kernel
theorem dX3_move_33 : decode cX3_move 33 = .ok (.iload_n 2, 1) := by decide +kernel
theorem dX3_move_34 : decode cX3_move 34 = .ok (.iadd, 1) := by decide +kernel
theorem dX3_move_35 : decode cX3_move 35 = .ok (.aload_n 0, 1) := by decide +kernel
theorem dX3_move_36 : decode cX3_move 36 = .ok (.getfield 23, 3) := by decide +kernel
theorem dX3_move_39 : decode cX3_move 39 = .ok (.iload_n 3, 1) := by decide +kernel
theorem dX3_move_40 : decode cX3_move 40 = .ok (.aload_n 0, 1) := by decide +kernel
theorem dX3_move_41 : decode cX3_move 41 = .ok (.getfield 13, 3) := by decide +kernel
theorem dX3_move_44 : decode cX3_move 44 = .ok (.imul, 1) := by decide +kernel
theorem dX3_move_45 : decode cX3_move 45 = .ok (.iload 4, 2) := by decide +kernel
theorem dX3_move_47 : decode cX3_move 47 = .ok (.iadd, 1) := by decide +kernel
theorem dX3_move_48 : decode cX3_move 48 = .ok (.iload 5, 2) := by decide +kernel
theorem dX3_move_50 : decode cX3_move 50 = .ok (.invokestatic 42, 3) := by decide +kernel
theorem dX3_move_53 : decode cX3_move 53 = .ok (.return_, 1) := by decide +kernel
set_option maxRecDepth 20000 in
theorem ggX3_howMany_X3_isThere : GoodIn wsX3_howMany wsX3_isThere := goodIn_r _ [6, 7, 8, 9, 5, 10, 1, 11, 12, 13, 14, 15, 16, 17] (by decide +kernel) (by decide +kernel)
set_option maxRecDepth 20000 in
theorem gX3_howMany_X3_isThere : GoodIn wsX3_howMany (wsV RX3 48 RX3 yX3_isThere wsX3_isThere) := goodIn_app (goodIn_of _ (by decide +kernel)) ggX3_howMany_X3_isThere
theorem dX3_howMany_0 : decode cX3_howMany 0 = .ok (.iconst 0, 1) := by decide +kernel
theorem dX3_howMany_1 : decode cX3_howMany 1 = .ok (.istore_n 1, 1) := by decide +kernel
theorem dX3_howMany_2 : decode cX3_howMany 2 = .ok (.iconst 0, 1) := by decide +kernel
theorem dX3_howMany_3 : decode cX3_howMany 3 = .ok (.istore_n 2, 1) := by decide +kernel
theorem dX3_howMany_4 : decode cX3_howMany 4 = .ok (.iload_n 2, 1) := by decide +kernel
theorem dX3_howMany_5 : decode cX3_howMany 5 = .ok (.aload_n 0, 1) := by decide +kernel
theorem dX3_howMany_6 : decode cX3_howMany 6 = .ok (.getfield 19, 3) := by decide +kernel
theorem dX3_howMany_9 : decode cX3_howMany 9 = .ok (.arraylength, 1) := by decide +kernel
theorem dX3_howMany_10 : decode cX3_howMany 10 = .ok (.if_icmp .ge 25, 3) := by decide +kernel
theorem dX3_howMany_13 : decode cX3_howMany 13 = .ok (.iload_n 1, 1) := by decide +kernel
theorem dX3_howMany_14 : decode cX3_howMany 14 = .ok (.aload_n 0, 1) := by decide +kernel
theorem dX3_howMany_15 : decode cX3_howMany 15 = .ok (.iload_n 2, 1) := by decide +kernel
theorem dX3_howMany_16 : decode cX3_howMany 16 = .ok (.invokevirtual 48, 3) := by decide +kernel
theorem dX3_howMany_19 : decode cX3_howMany 19 = .ok (.ifCond .eq 7, 3) := by decide +kernel
theorem dX3_howMany_22 : decode cX3_howMany 22 = .ok (.iconst 1, 1) := by decide +kernel
theorem dX3_howMany_23 : decode cX3_howMany 23 = .ok (.goto 4, 3) := by decide +kernel
theorem dX3_howMany_26 : decode cX3_howMany 26 = .ok (.iconst 0, 1) := by decide +kernel
theorem dX3_howMany_27 : decode cX3_howMany 27 = .ok (.iadd, 1) := by decide +kernel
theorem dX3_howMany_28 : decode cX3_howMany 28 = .ok (.istore_n 1, 1) := by decide +kernel
theorem dX3_howMany_29 : decode cX3_howMany 29 = .ok (.iinc 2 1, 3) := by decide +kernel
theorem dX3_howMany_32 : decode cX3_howMany 32 = .ok (.goto (-28), 3) := by decide +kernel
theorem dX3_howMany_35 : decode cX3_howMany 35 = .ok (.iload_n 1, 1) := by decide +kernel
theorem dX3_howMany_36 : decode cX3_howMany 36 = .ok (.ireturn, 1) := by decide +kernel
set_option maxRecDepth 20000 in
theorem ggX3_addTo_X3_read : GoodIn wsX3_addTo wsX3_read := goodIn_r _ [7, 8, 9, 10, 11, 12, 6, 13, 1, 14, 15, 16, 17, 18, 19, 20] (by decide +kernel) (by decide +kernel)
set_option maxRecDepth 20000 in
theorem gX3_addTo_X3_read : GoodIn wsX3_addTo (wsV RX3 53 RX3 yX3_read wsX3_read) := goodIn_app (goodIn_of _ (by decide +kernel)) ggX3_addTo_X3_read
theorem dX3_addTo_0 : decode cX3_addTo 0 = .ok (.lload_n 1, 1) := by decide +kernel
theorem dX3_addTo_1 : decode cX3_addTo 1 = .ok (.lstore_n 3, 1) := by decide +kernel
theorem dX3_addTo_2 : decode cX3_addTo 2 = .ok (.iconst 0, 1) := by decide +kernel
theorem dX3_addTo_3 : decode cX3_addTo 3 = .ok (.istore 5, 2) := by decide +kernel
theorem dX3_addTo_5 : decode cX3_addTo 5 = .ok (.iload 5, 2) := by decide +kernel
theorem dX3_addTo_7 : decode cX3_addTo 7 = .ok (.aload_n 0, 1) := by decide +kernel
theorem dX3_addTo_8 : decode cX3_addTo 8 = .ok (.getfield 19, 3) := by decide +kernel
theorem dX3_addTo_11 : decode cX3_addTo 11 = .ok (.arraylength, 1) := by decide +kernel
theorem dX3_addTo_12 : decode cX3_addTo 12 = .ok (.if_icmp .ge 61, 3) := by decide +kernel
theorem dX3_addTo_15 : decode cX3_addTo 15 = .ok (.ldc2_w 51, 3) := by decide +kernel
theorem dX3_addTo_18 : decode cX3_addTo 18 = .ok (.lload_n 3, 1) := by decide +kernel
theorem dX3_addTo_19 : decode cX3_addTo 19 = .ok (.lmul, 1) := by decide +kernel
theorem dX3_addTo_20 : decode cX3_addTo 20 = .ok (.aload_n 0, 1) := by decide +kernel
theorem dX3_addTo_21 : decode cX3_addTo 21 = .ok (.getfield 19, 3) := by decide +kernel
theorem dX3_addTo_24 : decode cX3_addTo 24 = .ok (.iload 5, 2) := by decide +kernel
theorem dX3_addTo_26 : decode cX3_addTo 26 = .ok (.iaload, 1) := by decide +kernel
theorem dX3_addTo_27 : decode cX3_addTo 27 = .ok (.i2l, 1) := by decide +kernel
theorem dX3_addTo_28 : decode cX3_addTo 28 = .ok (.ladd, 1) := by decide +kernel
theorem dX3_addTo_29 : decode cX3_addTo 29 = .ok (.lstore_n 3, 1) := by decide +kernel
theorem dX3_addTo_30 : decode cX3_addTo 30 = .ok (.iconst 0, 1) := by decide +kernel
theorem dX3_addTo_31 : decode cX3_addTo 31 = .ok (.istore 6, 2) := by decide +kernel
theorem dX3_addTo_33 : decode cX3_addTo 33 = .ok (.iload 6, 2) := by decide +kernel
theorem dX3_addTo_35 : decode cX3_addTo 35 = .ok (.aload_n 0, 1) := by decide +kernel
theorem dX3_addTo_36 : decode cX3_addTo 36 = .ok (.getfield 19, 3) := by decide +kernel
theorem dX3_addTo_39 : decode cX3_addTo 39 = .ok (.iload 5, 2) := by decide +kernel
theorem dX3_addTo_41 : decode cX3_addTo 41 = .ok (.iaload, 1) := by decide +kernel
theorem dX3_addTo_42 : decode cX3_addTo 42 = .ok (.if_icmp .ge 25, 3) := by decide +kernel
theorem dX3_addTo_45 : decode cX3_addTo 45 = .ok (.ldc2_w 51, 3) := by decide +kernel
theorem dX3_addTo_48 : decode cX3_addTo 48 = .ok (.lload_n 3, 1) := by decide +kernel
theorem dX3_addTo_49 : decode cX3_addTo 49 = .ok (.lmul, 1) := by decide +kernel
theorem dX3_addTo_50 : decode cX3_addTo 50 = .ok (.aload_n 0, 1) := by decide +kernel
theorem dX3_addTo_51 : decode cX3_addTo 51 = .ok (.iload 5, 2) := by decide +kernel
theorem dX3_addTo_53 : decode cX3_addTo 53 = .ok (.iload 6, 2) := by decide +kernel
theorem dX3_addTo_55 : decode cX3_addTo 55 = .ok (.invokevirtual 53, 3) := by decide +kernel
theorem dX3_addTo_58 : decode cX3_addTo 58 = .ok (.i2l, 1) := by decide +kernel
theorem dX3_addTo_59 : decode cX3_addTo 59 = .ok (.ladd, 1) := by decide +kernel
theorem dX3_addTo_60 : decode cX3_addTo 60 = .ok (.lstore_n 3, 1) := by decide +kernel
theorem dX3_addTo_61 : decode cX3_addTo 61 = .ok (.iinc 6 1, 3) := by decide +kernel
theorem dX3_addTo_64 : decode cX3_addTo 64 = .ok (.goto (-31), 3) := by decide +kernel
theorem dX3_addTo_67 : decode cX3_addTo 67 = .ok (.iinc 5 1, 3) := by decide +kernel
theorem dX3_addTo_70 : decode cX3_addTo 70 = .ok (.goto (-65), 3) := by decide +kernel
theorem dX3_addTo_73 : decode cX3_addTo 73 = .ok (.lload_n 3, 1) := by decide +kernel
theorem dX3_addTo_74 : decode cX3_addTo 74 = .ok (.lreturn, 1) := by decide +kernel
theorem dX4_init_0 : decode cX4_init 0 = .ok (.aload_n 0, 1) := by decide +kernel
theorem dX4_init_1 : decode cX4_init 1 = .ok (.invokespecial 3, 3) := by decide +kernel
theorem dX4_init_4 : decode cX4_init 4 = .ok (.aload_n 0, 1) := by decide +kernel
theorem dX4_init_5 : decode cX4_init 5 = .ok (.bipush 17, 2) := by decide +kernel
theorem dX4_init_7 : decode cX4_init 7 = .ok (.newarray .int, 2) := by decide +kernel
theorem dX4_init_9 : decode cX4_init 9 = .ok (.putfield 9, 3) := by decide +kernel
theorem dX4_init_12 : decode cX4_init 12 = .ok (.aload_n 0, 1) := by decide +kernel
theorem dX4_init_13 : decode cX4_init 13 = .ok (.bipush 7, 2) := by decide +kernel
theorem dX4_init_15 : decode cX4_init 15 = .ok (.newarray .int, 2) := by decide +kernel
theorem dX4_init_17 : decode cX4_init 17 = .ok (.putfield 15, 3) := by decide +kernel
theorem dX4_init_20 : decode cX4_init 20 = .ok (.aload_n 0, 1) := by decide +kernel
theorem dX4_init_21 : decode cX4_init 21 = .ok (.bipush 7, 2) := by decide +kernel
theorem dX4_init_23 : decode cX4_init 23 = .ok (.newarray .int, 2) := by decide +kernel
theorem dX4_init_25 : decode cX4_init 25 = .ok (.putfield 18, 3) := by decide +kernel
theorem dX4_init_28 : decode cX4_init 28 = .ok (.aload_n 0, 1) := by decide +kernel
theorem dX4_init_29 : decode cX4_init 29 = .ok (.bipush 7, 2) := by decide +kernel
theorem dX4_init_31 : decode cX4_init 31 = .ok (.newarray .int, 2) := by decide +kernel
theorem dX4_init_33 : decode cX4_init 33 = .ok (.putfield 21, 3) := by decide +kernel
theorem dX4_init_36 : decode cX4_init 36 = .ok (.aload_n 0, 1) := by decide +kernel
theorem dX4_init_37 : decode cX4_init 37 = .ok (.bipush 7, 2) := by decide +kernel
theorem dX4_init_39 : decode cX4_init 39 = .ok (.newarray .int, 2) := by decide +kernel
theorem dX4_init_41 : decode cX4_init 41 = .ok (.putfield 24, 3) := by decide +kernel
theorem dX4_init_44 : decode cX4_init 44 = .ok (.aload_n 0, 1) := by decide +kernel
theorem dX4_init_45 : decode cX4_init 45 = .ok (.bipush 7, 2) := by decide +kernel
theorem dX4_init_47 : decode cX4_init 47 = .ok (.newarray .int, 2) := by decide +kernel
theorem dX4_init_49 : decode cX4_init 49 = .ok (.putfield 27, 3) := by decide +kernel
theorem dX4_init_52 : decode cX4_init 52 = .ok (.aload_n 0, 1) := by decide +kernel
theorem dX4_init_53 : decode cX4_init 53 = .ok (.bipush 40, 2) := by decide +kernel
theorem dX4_init_55 : decode cX4_init 55 = .ok (.newarray .int, 2) := by decide +kernel
theorem dX4_init_57 : decode cX4_init 57 = .ok (.putfield 30, 3) := by decide +kernel
theorem dX4_init_60 : decode cX4_init 60 = .ok (.aload_n 0, 1) := by decide +kernel
theorem dX4_init_61 : decode cX4_init 61 = .ok (.bipush 40, 2) := by decide +kernel
theorem dX4_init_63 : decode cX4_init 63 = .ok (.newarray .int, 2) := by decide +kernel
theorem dX4_init_65 : decode cX4_init 65 = .ok (.putfield 33, 3) := by decide +kernel
theorem dX4_init_68 : decode cX4_init 68 = .ok (.aload_n 0, 1) := by decide +kernel
theorem dX4_init_69 : decode cX4_init 69 = .ok (.bipush 40, 2) := by decide +kernel
theorem dX4_init_71 : decode cX4_init 71 = .ok (.newarray .int, 2) := by decide +kernel
theorem dX4_init_73 : decode cX4_init 73 = .ok (.putfield 36, 3) := by decide +kernel
theorem dX4_init_76 : decode cX4_init 76 = .ok (.return_, 1) := by decide +kernel
theorem dX4_clear_0 : decode cX4_clear 0 = .ok (.aload_n 0, 1) := by decide +kernel
theorem dX4_clear_1 : decode cX4_clear 1 = .ok (.iconst 0, 1) := by decide +kernel
theorem dX4_clear_2 : decode cX4_clear 2 = .ok (.putfield 39, 3) := by decide +kernel
theorem dX4_clear_5 : decode cX4_clear 5 = .ok (.aload_n 0, 1) := by decide +kernel
theorem dX4_clear_6 : decode cX4_clear 6 = .ok (.iconst 0, 1) := by decide +kernel
theorem dX4_clear_7 : decode cX4_clear 7 = .ok (.putfield 43, 3) := by decide +kernel
theorem dX4_clear_10 : decode cX4_clear 10 = .ok (.aload_n 0, 1) := by decide +kernel
theorem dX4_clear_11 : decode cX4_clear 11 = .ok (.iconst 0, 1) := by decide +kernel
theorem dX4_clear_12 : decode cX4_clear 12 = .ok (.putfield 46, 3) := by decide +kernel
theorem dX4_clear_15 : decode cX4_clear 15 = .ok (.aload_n 0, 1) := by decide +kernel
theorem dX4_clear_16 : decode cX4_clear 16 = .ok (.iconst 0, 1) := by decide +kernel
theorem dX4_clear_17 : decode cX4_clear 17 = .ok (.putfield 49, 3) := by decide +kernel
theorem dX4_clear_20 : decode cX4_clear 20 = .ok (.iconst 0, 1) := by decide +kernel
theorem dX4_clear_21 : decode cX4_clear 21 = .ok (.istore_n 1, 1) := by decide +kernel
theorem dX4_clear_22 : decode cX4_clear 22 = .ok (.iload_n 1, 1) := by decide +kernel
theorem dX4_clear_23 : decode cX4_clear 23 = .ok (.bipush 17, 2) := by decide +kernel
theorem dX4_clear_25 : decode cX4_clear 25 = .ok (.if_icmp .ge 16, 3) := by decide +kernel
theorem dX4_clear_28 : decode cX4_clear 28 = .ok (.aload_n 0, 1) := by decide +kernel
theorem dX4_clear_29 : decode cX4_clear 29 = .ok (.getfield 9, 3) := by decide +kernel
theorem dX4_clear_32 : decode cX4_clear 32 = .ok (.iload_n 1, 1) := by decide +kernel
theorem dX4_clear_33 : decode cX4_clear 33 = .ok (.iconst 0, 1) := by decide +kernel
theorem dX4_clear_34 : decode cX4_clear 34 = .ok (.iastore, 1) := by decide +kernel
theorem dX4_clear_35 : decode cX4_clear 35 = .ok (.iinc 1 1, 3) := by decide +kernel
theorem dX4_clear_38 : decode cX4_clear 38 = .ok (.goto (-16), 3) := by decide +kernel
theorem dX4_clear_41 : decode cX4_clear 41 = .ok (.return_, 1) := by decide +kernel
set_option maxRecDepth 20000 in
theorem ggX4_begin_X4_clear : GoodIn wsX4_begin wsX4_clear := goodIn_r _ [12, 1, 2, 13, 14, 15, 26, 27, 28, 29, 30, 31, 32, 33, 34, 35, 36, 37, 38] (by decide +kernel) (by decide +kernel)
set_option maxRecDepth 20000 in
theorem gX4_begin_X4_clear : GoodIn wsX4_begin (wsV RX4 52 RX4 yX4_clear wsX4_clear) := goodIn_app (goodIn_of _ (by decide +kernel)) ggX4_begin_X4_clear
set_option maxRecDepth 20000 in
theorem ggX4_begin_X4_dueOf : GoodIn wsX4_begin wsX4_dueOf := goodIn_r _ [19, 5, 20, 4, 26, 27, 28, 29, 30, 31, 32, 33, 34, 35, 36, 37, 38] (by decide +kernel) (by decide +kernel)
set_option maxRecDepth 20000 in
theorem gX4_begin_X4_dueOf : GoodIn wsX4_begin (wsV RX4 62 RX4 yX4_dueOf wsX4_dueOf) := goodIn_app (goodIn_of _ (by decide +kernel)) ggX4_begin_X4_dueOf
theorem dX4_begin_0 : decode cX4_begin 0 = .ok (.aload_n 0, 1) := by decide +kernel
theorem dX4_begin_1 : decode cX4_begin 1 = .ok (.invokevirtual 52, 3) := by decide +kernel
theorem dX4_begin_4 : decode cX4_begin 4 = .ok (.aload_n 0, 1) := by decide +kernel
theorem dX4_begin_5 : decode cX4_begin 5 = .ok (.aload_n 1, 1) := by decide +kernel
theorem dX4_begin_6 : decode cX4_begin 6 = .ok (.getfield 55, 3) := by decide +kernel
theorem dX4_begin_9 : decode cX4_begin 9 = .ok (.putfield 39, 3) := by decide +kernel
theorem dX4_begin_12 : decode cX4_begin 12 = .ok (.aload_n 0, 1) := by decide +kernel
theorem dX4_begin_13 : decode cX4_begin 13 = .ok (.aload_n 1, 1) := by decide +kernel
theorem dX4_begin_14 : decode cX4_begin 14 = .ok (.getfield 58, 3) := by decide +kernel
theorem dX4_begin_17 : decode cX4_begin 17 = .ok (.putfield 43, 3) := by decide +kernel
theorem dX4_begin_20 : decode cX4_begin 20 = .ok (.iconst 0, 1) := by decide +kernel
theorem dX4_begin_21 : decode cX4_begin 21 = .ok (.istore_n 2, 1) := by decide +kernel
theorem dX4_begin_22 : decode cX4_begin 22 = .ok (.iload_n 2, 1) := by decide +kernel
theorem dX4_begin_23 : decode cX4_begin 23 = .ok (.aload_n 0, 1) := by decide +kernel
theorem dX4_begin_24 : decode cX4_begin 24 = .ok (.getfield 39, 3) := by decide +kernel
theorem dX4_begin_27 : decode cX4_begin 27 = .ok (.if_icmp .ge 63, 3) := by decide +kernel
theorem dX4_begin_30 : decode cX4_begin 30 = .ok (.aload_n 0, 1) := by decide +kernel
theorem dX4_begin_31 : decode cX4_begin 31 = .ok (.getfield 15, 3) := by decide +kernel
theorem dX4_begin_34 : decode cX4_begin 34 = .ok (.iload_n 2, 1) := by decide +kernel
theorem dX4_begin_35 : decode cX4_begin 35 = .ok (.aload_n 1, 1) := by decide +kernel
theorem dX4_begin_36 : decode cX4_begin 36 = .ok (.getfield 59, 3) := by decide +kernel
theorem dX4_begin_39 : decode cX4_begin 39 = .ok (.iload_n 2, 1) := by decide +kernel
theorem dX4_begin_40 : decode cX4_begin 40 = .ok (.iaload, 1) := by decide +kernel
theorem dX4_begin_41 : decode cX4_begin 41 = .ok (.iastore, 1) := by decide +kernel
theorem dX4_begin_42 : decode cX4_begin 42 = .ok (.aload_n 0, 1) := by decide +kernel
theorem dX4_begin_43 : decode cX4_begin 43 = .ok (.getfield 18, 3) := by decide +kernel
theorem dX4_begin_46 : decode cX4_begin 46 = .ok (.iload_n 2, 1) := by decide +kernel
theorem dX4_begin_47 : decode cX4_begin 47 = .ok (.aload_n 1, 1) := by decide +kernel
theorem dX4_begin_48 : decode cX4_begin 48 = .ok (.getfield 60, 3) := by decide +kernel
theorem dX4_begin_51 : decode cX4_begin 51 = .ok (.iload_n 2, 1) := by decide +kernel
theorem dX4_begin_52 : decode cX4_begin 52 = .ok (.iaload, 1) := by decide +kernel
theorem dX4_begin_53 : decode cX4_begin 53 = .ok (.iastore, 1) := by decide +kernel
theorem dX4_begin_54 : decode cX4_begin 54 = .ok (.aload_n 0, 1) := by decide +kernel
theorem dX4_begin_55 : decode cX4_begin 55 = .ok (.getfield 21, 3) := by decide +kernel
theorem dX4_begin_58 : decode cX4_begin 58 = .ok (.iload_n 2, 1) := by decide +kernel
theorem dX4_begin_59 : decode cX4_begin 59 = .ok (.aload_n 1, 1) := by decide +kernel
theorem dX4_begin_60 : decode cX4_begin 60 = .ok (.getfield 61, 3) := by decide +kernel
theorem dX4_begin_63 : decode cX4_begin 63 = .ok (.iload_n 2, 1) := by decide +kernel
theorem dX4_begin_64 : decode cX4_begin 64 = .ok (.iaload, 1) := by decide +kernel
theorem dX4_begin_65 : decode cX4_begin 65 = .ok (.iastore, 1) := by decide +kernel
theorem dX4_begin_66 : decode cX4_begin 66 = .ok (.aload_n 0, 1) := by decide +kernel
theorem dX4_begin_67 : decode cX4_begin 67 = .ok (.getfield 24, 3) := by decide +kernel
theorem dX4_begin_70 : decode cX4_begin 70 = .ok (.iload_n 2, 1) := by decide +kernel
theorem dX4_begin_71 : decode cX4_begin 71 = .ok (.iconst 0, 1) := by decide +kernel
theorem dX4_begin_72 : decode cX4_begin 72 = .ok (.iastore, 1) := by decide +kernel
theorem dX4_begin_73 : decode cX4_begin 73 = .ok (.aload_n 0, 1) := by decide +kernel
theorem dX4_begin_74 : decode cX4_begin 74 = .ok (.getfield 27, 3) := by decide +kernel
theorem dX4_begin_77 : decode cX4_begin 77 = .ok (.iload_n 2, 1) := by decide +kernel
theorem dX4_begin_78 : decode cX4_begin 78 = .ok (.aload_n 0, 1) := by decide +kernel
theorem dX4_begin_79 : decode cX4_begin 79 = .ok (.iload_n 2, 1) := by decide +kernel
theorem dX4_begin_80 : decode cX4_begin 80 = .ok (.invokevirtual 62, 3) := by decide +kernel
theorem dX4_begin_83 : decode cX4_begin 83 = .ok (.iastore, 1) := by decide +kernel
theorem dX4_begin_84 : decode cX4_begin 84 = .ok (.iinc 2 1, 3) := by decide +kernel
theorem dX4_begin_87 : decode cX4_begin 87 = .ok (.goto (-65), 3) := by decide +kernel
theorem dX4_begin_90 : decode cX4_begin 90 = .ok (.return_, 1) := by decide +kernel
theorem dX4_becomeLike_0 : decode cX4_becomeLike 0 = .ok (.aload_n 0, 1) := by decide +kernel
theorem dX4_becomeLike_1 : decode cX4_becomeLike 1 = .ok (.aload_n 1, 1) := by decide +kernel
theorem dX4_becomeLike_2 : decode cX4_becomeLike 2 = .ok (.getfield 39, 3) := by decide +kernel
theorem dX4_becomeLike_5 : decode cX4_becomeLike 5 = .ok (.putfield 39, 3) := by decide +kernel
theorem dX4_becomeLike_8 : decode cX4_becomeLike 8 = .ok (.aload_n 0, 1) := by decide +kernel
theorem dX4_becomeLike_9 : decode cX4_becomeLike 9 = .ok (.aload_n 1, 1) := by decide +kernel
theorem dX4_becomeLike_10 : decode cX4_becomeLike 10 = .ok (.getfield 43, 3) := by decide +kernel
theorem dX4_becomeLike_13 : decode cX4_becomeLike 13 = .ok (.putfield 43, 3) := by decide +kernel
theorem dX4_becomeLike_16 : decode cX4_becomeLike 16 = .ok (.aload_n 0, 1) := by decide +kernel
theorem dX4_becomeLike_17 : decode cX4_becomeLike 17 = .ok (.aload_n 1, 1) := by decide +kernel
theorem dX4_becomeLike_18 : decode cX4_becomeLike 18 = .ok (.getfield 46, 3) := by decide +kernel
theorem dX4_becomeLike_21 : decode cX4_becomeLike 21 = .ok (.putfield 46, 3) := by decide +kernel
theorem dX4_becomeLike_24 : decode cX4_becomeLike 24 = .ok (.aload_n 0, 1) := by decide +kernel
theorem dX4_becomeLike_25 : decode cX4_becomeLike 25 = .ok (.aload_n 1, 1) := by decide +kernel
theorem dX4_becomeLike_26 : decode cX4_becomeLike 26 = .ok (.getfield 49, 3) := by decide +kernel
theorem dX4_becomeLike_29 : decode cX4_becomeLike 29 = .ok (.putfield 49, 3) := by decide +kernel
theorem dX4_becomeLike_32 : decode cX4_becomeLike 32 = .ok (.aload_n 1, 1) := by decide +kernel
theorem dX4_becomeLike_33 : decode cX4_becomeLike 33 = .ok (.getfield 9, 3) := by decide +kernel
theorem dX4_becomeLike_36 : decode cX4_becomeLike 36 = .ok (.iconst 0, 1) := by decide +kernel
theorem dX4_becomeLike_37 : decode cX4_becomeLike 37 = .ok (.aload_n 0, 1) := by decide +kernel
theorem dX4_becomeLike_38 : decode cX4_becomeLike 38 = .ok (.getfield 9, 3) := by decide +kernel
theorem dX4_becomeLike_41 : decode cX4_becomeLike 41 = .ok (.iconst 0, 1) := by decide +kernel
theorem dX4_becomeLike_42 : decode cX4_becomeLike 42 = .ok (.bipush 17, 2) := by decide +kernel
theorem dX4_becomeLike_44 : decode cX4_becomeLike 44 = .ok (.invokestatic 66, 3) := by decide +kernel
theorem dX4_becomeLike_47 : decode cX4_becomeLike 47 = .ok (.aload_n 1, 1) := by decide +kernel
theorem dX4_becomeLike_48 : decode cX4_becomeLike 48 = .ok (.getfield 15, 3) := by decide +kernel
theorem dX4_becomeLike_51 : decode cX4_becomeLike 51 = .ok (.iconst 0, 1) := by decide +kernel
theorem dX4_becomeLike_52 : decode cX4_becomeLike 52 = .ok (.aload_n 0, 1) := by decide +kernel
theorem dX4_becomeLike_53 : decode cX4_becomeLike 53 = .ok (.getfield 15, 3) := by decide +kernel
theorem dX4_becomeLike_56 : decode cX4_becomeLike 56 = .ok (.iconst 0, 1) := by decide +kernel
theorem dX4_becomeLike_57 : decode cX4_becomeLike 57 = .ok (.bipush 7, 2) := by decide +kernel
theorem dX4_becomeLike_59 : decode cX4_becomeLike 59 = .ok (.invokestatic 66, 3) := by decide +kernel
theorem dX4_becomeLike_62 : decode cX4_becomeLike 62 = .ok (.aload_n 1, 1) := by decide +kernel
theorem dX4_becomeLike_63 : decode cX4_becomeLike 63 = .ok (.getfield 18, 3) := by decide +kernel
theorem dX4_becomeLike_66 : decode cX4_becomeLike 66 = .ok (.iconst 0, 1) := by decide +kernel
theorem dX4_becomeLike_67 : decode cX4_becomeLike 67 = .ok (.aload_n 0, 1) := by decide +kernel
theorem dX4_becomeLike_68 : decode cX4_becomeLike 68 = .ok (.getfield 18, 3) := by decide +kernel
theorem dX4_becomeLike_71 : decode cX4_becomeLike 71 = .ok (.iconst 0, 1) := by decide +kernel
theorem dX4_becomeLike_72 : decode cX4_becomeLike 72 = .ok (.bipush 7, 2) := by decide +kernel
theorem dX4_becomeLike_74 : decode cX4_becomeLike 74 = .ok (.invokestatic 66, 3) := by decide +kernel
theorem dX4_becomeLike_77 : decode cX4_becomeLike 77 = .ok (.aload_n 1, 1) := by decide +kernel
theorem dX4_becomeLike_78 : decode cX4_becomeLike 78 = .ok (.getfield 21, 3) := by decide +kernel
theorem dX4_becomeLike_81 : decode cX4_becomeLike 81 = .ok (.iconst 0, 1) := by decide +kernel
theorem dX4_becomeLike_82 : decode cX4_becomeLike 82 = .ok (.aload_n 0, 1) := by decide +kernel
theorem dX4_becomeLike_83 : decode cX4_becomeLike 83 = .ok (.getfield 21, 3) := by decide +kernel
theorem dX4_becomeLike_86 : decode cX4_becomeLike 86 = .ok (.iconst 0, 1) := by decide +kernel
theorem dX4_becomeLike_87 : decode cX4_becomeLike 87 = .ok (.bipush 7, 2) := by decide +kernel
theorem dX4_becomeLike_89 : decode cX4_becomeLike 89 = .ok (.invokestatic 66, 3) := by decide +kernel
theorem dX4_becomeLike_92 : decode cX4_becomeLike 92 = .ok (.aload_n 1, 1) := by decide +kernel
theorem dX4_becomeLike_93 : decode cX4_becomeLike 93 = .ok (.getfield 24, 3) := by decide +kernel
theorem dX4_becomeLike_96 : decode cX4_becomeLike 96 = .ok (.iconst 0, 1) := by decide +kernel
theorem dX4_becomeLike_97 : decode cX4_becomeLike 97 = .ok (.aload_n 0, 1) := by decide +kernel
theorem dX4_becomeLike_98 : decode cX4_becomeLike 98 = .ok (.getfield 24, 3) := by decide +kernel
theorem dX4_becomeLike_101 : decode cX4_becomeLike 101 = .ok (.iconst 0, 1) := by decide +kernel
theorem dX4_becomeLike_102 : decode cX4_becomeLike 102 = .ok (.bipush 7, 2) := by decide +kernel
theorem dX4_becomeLike_104 : decode cX4_becomeLike 104 = .ok (.invokestatic 66, 3) := by decide +kernel
theorem dX4_becomeLike_107 : decode cX4_becomeLike 107 = .ok (.aload_n 1, 1) := by decide +kernel
theorem dX4_becomeLike_108 : decode cX4_becomeLike 108 = .ok (.getfield 27, 3) := by decide +kernel
theorem dX4_becomeLike_111 : decode cX4_becomeLike 111 = .ok (.iconst 0, 1) := by decide +kernel
theorem dX4_becomeLike_112 : decode cX4_becomeLike 112 = .ok (.aload_n 0, 1) := by decide +kernel
theorem dX4_becomeLike_113 : decode cX4_becomeLike 113 = .ok (.getfield 27, 3) := by decide +kernel
theorem dX4_becomeLike_116 : decode cX4_becomeLike 116 = .ok (.iconst 0, 1) := by decide +kernel
theorem dX4_becomeLike_117 : decode cX4_becomeLike 117 = .ok (.bipush 7, 2) := by decide +kernel
theorem dX4_becomeLike_119 : decode cX4_becomeLike 119 = .ok (.invokestatic 66, 3) := by decide +kernel
theorem dX4_becomeLike_122 : decode cX4_becomeLike 122 = .ok (.aload_n 1, 1) := by decide +kernel
theorem dX4_becomeLike_123 : decode cX4_becomeLike 123 = .ok (.getfield 30, 3) := by decide +kernel
theorem dX4_becomeLike_126 : decode cX4_becomeLike 126 = .ok (.iconst 0, 1) := by decide +kernel
theorem dX4_becomeLike_127 : decode cX4_becomeLike 127 = .ok (.aload_n 0, 1) := by decide +kernel
theorem dX4_becomeLike_128 : decode cX4_becomeLike 128 = .ok (.getfield 30, 3) := by decide +kernel
theorem dX4_becomeLike_131 : decode cX4_becomeLike 131 = .ok (.iconst 0, 1) := by decide +kernel
theorem dX4_becomeLike_132 : decode cX4_becomeLike 132 = .ok (.bipush 40, 2) := by decide +kernel
theorem dX4_becomeLike_134 : decode cX4_becomeLike 134 = .ok (.invokestatic 66, 3) := by decide +kernel
theorem dX4_becomeLike_137 : decode cX4_becomeLike 137 = .ok (.aload_n 1, 1) := by decide +kernel
theorem dX4_becomeLike_138 : decode cX4_becomeLike 138 = .ok (.getfield 33, 3) := by decide +kernel
theorem dX4_becomeLike_141 : decode cX4_becomeLike 141 = .ok (.iconst 0, 1) := by decide +kernel
theorem dX4_becomeLike_142 : decode cX4_becomeLike 142 = .ok (.aload_n 0, 1) := by decide +kernel
theorem dX4_becomeLike_143 : decode cX4_becomeLike 143 = .ok (.getfield 33, 3) := by decide +kernel
theorem dX4_becomeLike_146 : decode cX4_becomeLike 146 = .ok (.iconst 0, 1) := by decide +kernel
theorem dX4_becomeLike_147 : decode cX4_becomeLike 147 = .ok (.bipush 40, 2) := by decide +kernel
theorem dX4_becomeLike_149 : decode cX4_becomeLike 149 = .ok (.invokestatic 66, 3) := by decide +kernel
theorem dX4_becomeLike_152 : decode cX4_becomeLike 152 = .ok (.aload_n 1, 1) := by decide +kernel
theorem dX4_becomeLike_153 : decode cX4_becomeLike 153 = .ok (.getfield 36, 3) := by decide +kernel
theorem dX4_becomeLike_156 : decode cX4_becomeLike 156 = .ok (.iconst 0, 1) := by decide +kernel
theorem dX4_becomeLike_157 : decode cX4_becomeLike 157 = .ok (.aload_n 0, 1) := by decide +kernel
theorem dX4_becomeLike_158 : decode cX4_becomeLike 158 = .ok (.getfield 36, 3) := by decide +kernel
theorem dX4_becomeLike_161 : decode cX4_becomeLike 161 = .ok (.iconst 0, 1) := by decide +kernel
theorem dX4_becomeLike_162 : decode cX4_becomeLike 162 = .ok (.bipush 40, 2) := by decide +kernel
theorem dX4_becomeLike_164 : decode cX4_becomeLike 164 = .ok (.invokestatic 66, 3) := by decide +kernel
theorem dX4_becomeLike_167 : decode cX4_becomeLike 167 = .ok (.return_, 1) := by decide +kernel
theorem dX4_isWorker_0 : decode cX4_isWorker 0 = .ok (.iload_n 1, 1) := by decide +kernel
theorem dX4_isWorker_1 : decode cX4_isWorker 1 = .ok (.ifCond .lt 15, 3) := by decide +kernel
theorem dX4_isWorker_4 : decode cX4_isWorker 4 = .ok (.iload_n 1, 1) := by decide +kernel
theorem dX4_isWorker_5 : decode cX4_isWorker 5 = .ok (.aload_n 0, 1) := by decide +kernel
theorem dX4_isWorker_6 : decode cX4_isWorker 6 = .ok (.getfield 39, 3) := by decide +kernel
theorem dX4_isWorker_9 : decode cX4_isWorker 9 = .ok (.if_icmp .ge 7, 3) := by decide +kernel
theorem dX4_isWorker_12 : decode cX4_isWorker 12 = .ok (.iconst 1, 1) := by decide +kernel
theorem dX4_isWorker_13 : decode cX4_isWorker 13 = .ok (.goto 4, 3) := by decide +kernel
theorem dX4_isWorker_16 : decode cX4_isWorker 16 = .ok (.iconst 0, 1) := by decide +kernel
theorem dX4_isWorker_17 : decode cX4_isWorker 17 = .ok (.ireturn, 1) := by decide +kernel
theorem dX4_hasRoomFor_0 : decode cX4_hasRoomFor 0 = .ok (.aload_n 0, 1) := by decide +kernel
theorem dX4_hasRoomFor_1 : decode cX4_hasRoomFor 1 = .ok (.getfield 46, 3) := by decide +kernel
theorem dX4_hasRoomFor_4 : decode cX4_hasRoomFor 4 = .ok (.iload_n 1, 1) := by decide +kernel
theorem dX4_hasRoomFor_5 : decode cX4_hasRoomFor 5 = .ok (.iadd, 1) := by decide +kernel
theorem dX4_hasRoomFor_6 : decode cX4_hasRoomFor 6 = .ok (.bipush 40, 2) := by decide +kernel
theorem dX4_hasRoomFor_8 : decode cX4_hasRoomFor 8 = .ok (.if_icmp .gt 7, 3) := by decide +kernel
theorem dX4_hasRoomFor_11 : decode cX4_hasRoomFor 11 = .ok (.iconst 1, 1) := by decide +kernel
theorem dX4_hasRoomFor_12 : decode cX4_hasRoomFor 12 = .ok (.goto 4, 3) := by decide +kernel
theorem dX4_hasRoomFor_15 : decode cX4_hasRoomFor 15 = .ok (.iconst 0, 1) := by decide +kernel
theorem dX4_hasRoomFor_16 : decode cX4_hasRoomFor 16 = .ok (.ireturn, 1) := by decide +kernel
theorem dX4_dueOf_0 : decode cX4_dueOf 0 = .ok (.aload_n 0, 1) := by decide +kernel
theorem dX4_dueOf_1 : decode cX4_dueOf 1 = .ok (.getfield 21, 3) := by decide +kernel
theorem dX4_dueOf_4 : decode cX4_dueOf 4 = .ok (.iload_n 1, 1) := by decide +kernel
theorem dX4_dueOf_5 : decode cX4_dueOf 5 = .ok (.iaload, 1) := by decide +kernel
theorem dX4_dueOf_6 : decode cX4_dueOf 6 = .ok (.ifCond .le 22, 3) := by decide +kernel
theorem dX4_dueOf_9 : decode cX4_dueOf 9 = .ok (.ldc 72, 2) := by decide +kernel
theorem dX4_dueOf_11 : decode cX4_dueOf 11 = .ok (.aload_n 0, 1) := by decide +kernel
theorem dX4_dueOf_12 : decode cX4_dueOf 12 = .ok (.getfield 21, 3) := by decide +kernel
theorem dX4_dueOf_15 : decode cX4_dueOf 15 = .ok (.iload_n 1, 1) := by decide +kernel
theorem dX4_dueOf_16 : decode cX4_dueOf 16 = .ok (.iaload, 1) := by decide +kernel
theorem dX4_dueOf_17 : decode cX4_dueOf 17 = .ok (.idiv, 1) := by decide +kernel
theorem dX4_dueOf_18 : decode cX4_dueOf 18 = .ok (.aload_n 0, 1) := by decide +kernel
theorem dX4_dueOf_19 : decode cX4_dueOf 19 = .ok (.getfield 18, 3) := by decide +kernel
theorem dX4_dueOf_22 : decode cX4_dueOf 22 = .ok (.iload_n 1, 1) := by decide +kernel
theorem dX4_dueOf_23 : decode cX4_dueOf 23 = .ok (.iaload, 1) := by decide +kernel
theorem dX4_dueOf_24 : decode cX4_dueOf 24 = .ok (.imul, 1) := by decide +kernel
theorem dX4_dueOf_25 : decode cX4_dueOf 25 = .ok (.goto 4, 3) := by decide +kernel
theorem dX4_dueOf_28 : decode cX4_dueOf 28 = .ok (.iconst 0, 1) := by decide +kernel
theorem dX4_dueOf_29 : decode cX4_dueOf 29 = .ok (.ireturn, 1) := by decide +kernel
set_option maxRecDepth 20000 in
theorem ggX4_sizeOfHad_X4_dueOf : GoodIn wsX4_sizeOfHad wsX4_dueOf := goodIn_r _ [6, 7, 8, 9, 10, 11, 12, 13, 14, 15, 16, 17, 18, 19, 20, 21, 22] (by decide +kernel) (by decide +kernel)
set_option maxRecDepth 20000 in
theorem gX4_sizeOfHad_X4_dueOf : GoodIn wsX4_sizeOfHad (wsV RX4 62 RX4 yX4_dueOf wsX4_dueOf) := goodIn_app (goodIn_of _ (by decide +kernel)) ggX4_sizeOfHad_X4_dueOf
theorem dX4_sizeOfHad_0 : decode cX4_sizeOfHad 0 = .ok (.aload_n 0, 1) := by decide +kernel
theorem dX4_sizeOfHad_1 : decode cX4_sizeOfHad 1 = .ok (.iload_n 1, 1) := by decide +kernel
theorem dX4_sizeOfHad_2 : decode cX4_sizeOfHad 2 = .ok (.invokevirtual 62, 3) := by decide +kernel
theorem dX4_sizeOfHad_5 : decode cX4_sizeOfHad 5 = .ok (.aload_n 0, 1) := by decide +kernel
theorem dX4_sizeOfHad_6 : decode cX4_sizeOfHad 6 = .ok (.getfield 27, 3) := by decide +kernel
theorem dX4_sizeOfHad_9 : decode cX4_sizeOfHad 9 = .ok (.iload_n 1, 1) := by decide +kernel
theorem dX4_sizeOfHad_10 : decode cX4_sizeOfHad 10 = .ok (.iaload, 1) := by decide +kernel
theorem dX4_sizeOfHad_11 : decode cX4_sizeOfHad 11 = .ok (.isub, 1) := by decide +kernel
theorem dX4_sizeOfHad_12 : decode cX4_sizeOfHad 12 = .ok (.ireturn, 1) := by decide +kernel
set_option maxRecDepth 20000 in
theorem ggX4_openTo_X0_partsOf : GoodIn wsX4_openTo wsX0_partsOf := goodIn_r _ [6, 7, 8, 9, 10, 11, 12] (by decide +kernel) (by decide +kernel)
set_option maxRecDepth 20000 in
theorem gX4_openTo_X0_partsOf : GoodIn wsX4_openTo (va_wsS RX4 73 yX0_partsOf wsX0_partsOf) := goodIn_app (goodIn_of _ (by decide +kernel)) ggX4_openTo_X0_partsOf
theorem dX4_openTo_0 : decode cX4_openTo 0 = .ok (.aload_n 0, 1) := by decide +kernel
theorem dX4_openTo_1 : decode cX4_openTo 1 = .ok (.getfield 15, 3) := by decide +kernel
theorem dX4_openTo_4 : decode cX4_openTo 4 = .ok (.iload_n 1, 1) := by decide +kernel
theorem dX4_openTo_5 : decode cX4_openTo 5 = .ok (.iaload, 1) := by decide +kernel
theorem dX4_openTo_6 : decode cX4_openTo 6 = .ok (.invokestatic 73, 3) := by decide +kernel
theorem dX4_openTo_9 : decode cX4_openTo 9 = .ok (.aload_n 0, 1) := by decide +kernel
theorem dX4_openTo_10 : decode cX4_openTo 10 = .ok (.getfield 24, 3) := by decide +kernel
theorem dX4_openTo_13 : decode cX4_openTo 13 = .ok (.iload_n 1, 1) := by decide +kernel
theorem dX4_openTo_14 : decode cX4_openTo 14 = .ok (.iaload, 1) := by decide +kernel
theorem dX4_openTo_15 : decode cX4_openTo 15 = .ok (.iconst (-1), 1) := by decide +kernel
theorem dX4_openTo_16 : decode cX4_openTo 16 = .ok (.ixor, 1) := by decide +kernel
theorem dX4_openTo_17 : decode cX4_openTo 17 = .ok (.iand, 1) := by decide +kernel
theorem dX4_openTo_18 : decode cX4_openTo 18 = .ok (.ireturn, 1) := by decide +kernel
set_option maxRecDepth 20000 in
theorem ggX4_fitFor_X4_openTo : GoodIn wsX4_fitFor wsX4_openTo := goodIn_r _ [7, 8, 9, 10, 11, 12, 13, 14, 15, 16, 17, 18, 19, 29, 30, 31, 32, 33, 34, 35, 36, 37, 38, 39, 40, 41] (by decide +kernel) (by decide +kernel)
set_option maxRecDepth 20000 in
theorem gX4_fitFor_X4_openTo : GoodIn wsX4_fitFor (wsV RX4 78 RX4 yX4_openTo wsX4_openTo) := goodIn_app (goodIn_of _ (by decide +kernel)) ggX4_fitFor_X4_openTo
set_option maxRecDepth 20000 in
theorem ggX4_fitFor_X4_noGreaterThan : GoodIn wsX4_fitFor wsX4_noGreaterThan := goodIn_r _ [22, 23, 24, 25, 26, 27, 28] (by decide +kernel) (by decide +kernel)
set_option maxRecDepth 20000 in
theorem gX4_fitFor_X4_noGreaterThan : GoodIn wsX4_fitFor (va_wsS RX4 81 yX4_noGreaterThan wsX4_noGreaterThan) := goodIn_app (goodIn_of _ (by decide +kernel)) ggX4_fitFor_X4_noGreaterThan
theorem dX4_fitFor_0 : decode cX4_fitFor 0 = .ok (.aload_n 0, 1) := by decide +kernel
theorem dX4_fitFor_1 : decode cX4_fitFor 1 = .ok (.iload_n 1, 1) := by decide +kernel
theorem dX4_fitFor_2 : decode cX4_fitFor 2 = .ok (.invokevirtual 78, 3) := by decide +kernel
theorem dX4_fitFor_5 : decode cX4_fitFor 5 = .ok (.aload_n 0, 1) := by decide +kernel
theorem dX4_fitFor_6 : decode cX4_fitFor 6 = .ok (.getfield 49, 3) := by decide +kernel
theorem dX4_fitFor_9 : decode cX4_fitFor 9 = .ok (.iand, 1) := by decide +kernel
theorem dX4_fitFor_10 : decode cX4_fitFor 10 = .ok (.aload_n 0, 1) := by decide +kernel
theorem dX4_fitFor_11 : decode cX4_fitFor 11 = .ok (.getfield 27, 3) := by decide +kernel
theorem dX4_fitFor_14 : decode cX4_fitFor 14 = .ok (.iload_n 1, 1) := by decide +kernel
theorem dX4_fitFor_15 : decode cX4_fitFor 15 = .ok (.iaload, 1) := by decide +kernel
theorem dX4_fitFor_16 : decode cX4_fitFor 16 = .ok (.invokestatic 81, 3) := by decide +kernel
theorem dX4_fitFor_19 : decode cX4_fitFor 19 = .ok (.iand, 1) := by decide +kernel
theorem dX4_fitFor_20 : decode cX4_fitFor 20 = .ok (.ireturn, 1) := by decide +kernel
theorem dX4_noGreaterThan_0 : decode cX4_noGreaterThan 0 = .ok (.iload_n 0, 1) := by decide +kernel
theorem dX4_noGreaterThan_1 : decode cX4_noGreaterThan 1 = .ok (.ifCond .gt 5, 3) := by decide +kernel
theorem dX4_noGreaterThan_4 : decode cX4_noGreaterThan 4 = .ok (.iconst 0, 1) := by decide +kernel
theorem dX4_noGreaterThan_5 : decode cX4_noGreaterThan 5 = .ok (.ireturn, 1) := by decide +kernel
theorem dX4_noGreaterThan_6 : decode cX4_noGreaterThan 6 = .ok (.ldc 72, 2) := by decide +kernel
theorem dX4_noGreaterThan_8 : decode cX4_noGreaterThan 8 = .ok (.iload_n 0, 1) := by decide +kernel
theorem dX4_noGreaterThan_9 : decode cX4_noGreaterThan 9 = .ok (.iadd, 1) := by decide +kernel
theorem dX4_noGreaterThan_10 : decode cX4_noGreaterThan 10 = .ok (.iconst 1, 1) := by decide +kernel
theorem dX4_noGreaterThan_11 : decode cX4_noGreaterThan 11 = .ok (.isub, 1) := by decide +kernel
theorem dX4_noGreaterThan_12 : decode cX4_noGreaterThan 12 = .ok (.iload_n 0, 1) := by decide +kernel
theorem dX4_noGreaterThan_13 : decode cX4_noGreaterThan 13 = .ok (.idiv, 1) := by decide +kernel
theorem dX4_noGreaterThan_14 : decode cX4_noGreaterThan 14 = .ok (.iconst 2, 1) := by decide +kernel
theorem dX4_noGreaterThan_15 : decode cX4_noGreaterThan 15 = .ok (.invokestatic 84, 3) := by decide +kernel
theorem dX4_noGreaterThan_18 : decode cX4_noGreaterThan 18 = .ok (.istore_n 1, 1) := by decide +kernel
theorem dX4_noGreaterThan_19 : decode cX4_noGreaterThan 19 = .ok (.iload_n 1, 1) := by decide +kernel
theorem dX4_noGreaterThan_20 : decode cX4_noGreaterThan 20 = .ok (.bipush 16, 2) := by decide +kernel
theorem dX4_noGreaterThan_22 : decode cX4_noGreaterThan 22 = .ok (.if_icmp .le 7, 3) := by decide +kernel
theorem dX4_noGreaterThan_25 : decode cX4_noGreaterThan 25 = .ok (.iconst 0, 1) := by decide +kernel
theorem dX4_noGreaterThan_26 : decode cX4_noGreaterThan 26 = .ok (.goto 9, 3) := by decide +kernel
theorem dX4_noGreaterThan_29 : decode cX4_noGreaterThan 29 = .ok (.ldc 90, 2) := by decide +kernel
theorem dX4_noGreaterThan_31 : decode cX4_noGreaterThan 31 = .ok (.iconst 1, 1) := by decide +kernel
theorem dX4_noGreaterThan_32 : decode cX4_noGreaterThan 32 = .ok (.iload_n 1, 1) := by decide +kernel
theorem dX4_noGreaterThan_33 : decode cX4_noGreaterThan 33 = .ok (.ishl, 1) := by decide +kernel
theorem dX4_noGreaterThan_34 : decode cX4_noGreaterThan 34 = .ok (.isub, 1) := by decide +kernel
theorem dX4_noGreaterThan_35 : decode cX4_noGreaterThan 35 = .ok (.ireturn, 1) := by decide +kernel
set_option maxRecDepth 20000 in
theorem ggX4_factOf_X4_fitFor : GoodIn wsX4_factOf wsX4_fitFor := goodIn_r _ [10, 11, 5, 12, 13, 14, 9, 15, 1, 4, 16, 17, 18, 19, 20, 21, 22, 23, 24, 25, 26, 27, 28, 29, 30, 31, 32, 33, 34, 35, 36, 37, 38, 39, 40, 41, 42, 43, 44, 45, 46, 47] (by decide +kernel) (by decide +kernel)
set_option maxRecDepth 20000 in
theorem gX4_factOf_X4_fitFor : GoodIn wsX4_factOf (wsV RX4 91 RX4 yX4_fitFor wsX4_fitFor) := goodIn_app (goodIn_of _ (by decide +kernel)) ggX4_factOf_X4_fitFor
theorem dX4_factOf_0 : decode cX4_factOf 0 = .ok (.iload_n 2, 1) := by decide +kernel
theorem dX4_factOf_1 : decode cX4_factOf 1 = .ok (.tableswitch 69 0 4 #[35, 42, 49, 56, 63], 35) := by decide +kernel
theorem dX4_factOf_36 : decode cX4_factOf 36 = .ok (.aload_n 0, 1) := by decide +kernel
theorem dX4_factOf_37 : decode cX4_factOf 37 = .ok (.getfield 15, 3) := by decide +kernel
theorem dX4_factOf_40 : decode cX4_factOf 40 = .ok (.iload_n 1, 1) := by decide +kernel
theorem dX4_factOf_41 : decode cX4_factOf 41 = .ok (.iaload, 1) := by decide +kernel
theorem dX4_factOf_42 : decode cX4_factOf 42 = .ok (.ireturn, 1) := by decide +kernel
theorem dX4_factOf_43 : decode cX4_factOf 43 = .ok (.aload_n 0, 1) := by decide +kernel
theorem dX4_factOf_44 : decode cX4_factOf 44 = .ok (.getfield 18, 3) := by decide +kernel
theorem dX4_factOf_47 : decode cX4_factOf 47 = .ok (.iload_n 1, 1) := by decide +kernel
theorem dX4_factOf_48 : decode cX4_factOf 48 = .ok (.iaload, 1) := by decide +kernel
theorem dX4_factOf_49 : decode cX4_factOf 49 = .ok (.ireturn, 1) := by decide +kernel
theorem dX4_factOf_50 : decode cX4_factOf 50 = .ok (.aload_n 0, 1) := by decide +kernel
theorem dX4_factOf_51 : decode cX4_factOf 51 = .ok (.getfield 21, 3) := by decide +kernel
theorem dX4_factOf_54 : decode cX4_factOf 54 = .ok (.iload_n 1, 1) := by decide +kernel
theorem dX4_factOf_55 : decode cX4_factOf 55 = .ok (.iaload, 1) := by decide +kernel
theorem dX4_factOf_56 : decode cX4_factOf 56 = .ok (.ireturn, 1) := by decide +kernel
theorem dX4_factOf_57 : decode cX4_factOf 57 = .ok (.aload_n 0, 1) := by decide +kernel
theorem dX4_factOf_58 : decode cX4_factOf 58 = .ok (.getfield 24, 3) := by decide +kernel
theorem dX4_factOf_61 : decode cX4_factOf 61 = .ok (.iload_n 1, 1) := by decide +kernel
theorem dX4_factOf_62 : decode cX4_factOf 62 = .ok (.iaload, 1) := by decide +kernel
theorem dX4_factOf_63 : decode cX4_factOf 63 = .ok (.ireturn, 1) := by decide +kernel
theorem dX4_factOf_64 : decode cX4_factOf 64 = .ok (.aload_n 0, 1) := by decide +kernel
theorem dX4_factOf_65 : decode cX4_factOf 65 = .ok (.iload_n 1, 1) := by decide +kernel
theorem dX4_factOf_66 : decode cX4_factOf 66 = .ok (.invokevirtual 91, 3) := by decide +kernel
theorem dX4_factOf_69 : decode cX4_factOf 69 = .ok (.ireturn, 1) := by decide +kernel
theorem dX4_factOf_70 : decode cX4_factOf 70 = .ok (.aload_n 0, 1) := by decide +kernel
theorem dX4_factOf_71 : decode cX4_factOf 71 = .ok (.getfield 27, 3) := by decide +kernel
theorem dX4_factOf_74 : decode cX4_factOf 74 = .ok (.iload_n 1, 1) := by decide +kernel
theorem dX4_factOf_75 : decode cX4_factOf 75 = .ok (.iaload, 1) := by decide +kernel
theorem dX4_factOf_76 : decode cX4_factOf 76 = .ok (.ifCond .ne 7, 3) := by decide +kernel
theorem dX4_factOf_79 : decode cX4_factOf 79 = .ok (.iconst 1, 1) := by decide +kernel
theorem dX4_factOf_80 : decode cX4_factOf 80 = .ok (.goto 4, 3) := by decide +kernel
theorem dX4_factOf_83 : decode cX4_factOf 83 = .ok (.iconst 0, 1) := by decide +kernel
theorem dX4_factOf_84 : decode cX4_factOf 84 = .ok (.ireturn, 1) := by decide +kernel
theorem dX4_lyingInAll_0 : decode cX4_lyingInAll 0 = .ok (.iconst 0, 1) := by decide +kernel
theorem dX4_lyingInAll_1 : decode cX4_lyingInAll 1 = .ok (.istore_n 1, 1) := by decide +kernel
theorem dX4_lyingInAll_2 : decode cX4_lyingInAll 2 = .ok (.iconst 2, 1) := by decide +kernel
theorem dX4_lyingInAll_3 : decode cX4_lyingInAll 3 = .ok (.istore_n 2, 1) := by decide +kernel
theorem dX4_lyingInAll_4 : decode cX4_lyingInAll 4 = .ok (.iload_n 2, 1) := by decide +kernel
theorem dX4_lyingInAll_5 : decode cX4_lyingInAll 5 = .ok (.bipush 16, 2) := by decide +kernel
theorem dX4_lyingInAll_7 : decode cX4_lyingInAll 7 = .ok (.if_icmp .gt 18, 3) := by decide +kernel
theorem dX4_lyingInAll_10 : decode cX4_lyingInAll 10 = .ok (.iload_n 1, 1) := by decide +kernel
theorem dX4_lyingInAll_11 : decode cX4_lyingInAll 11 = .ok (.aload_n 0, 1) := by decide +kernel
theorem dX4_lyingInAll_12 : decode cX4_lyingInAll 12 = .ok (.getfield 9, 3) := by decide +kernel
theorem dX4_lyingInAll_15 : decode cX4_lyingInAll 15 = .ok (.iload_n 2, 1) := by decide +kernel
theorem dX4_lyingInAll_16 : decode cX4_lyingInAll 16 = .ok (.iaload, 1) := by decide +kernel
theorem dX4_lyingInAll_17 : decode cX4_lyingInAll 17 = .ok (.iadd, 1) := by decide +kernel
theorem dX4_lyingInAll_18 : decode cX4_lyingInAll 18 = .ok (.istore_n 1, 1) := by decide +kernel
theorem dX4_lyingInAll_19 : decode cX4_lyingInAll 19 = .ok (.iinc 2 1, 3) := by decide +kernel
theorem dX4_lyingInAll_22 : decode cX4_lyingInAll 22 = .ok (.goto (-18), 3) := by decide +kernel
theorem dX4_lyingInAll_25 : decode cX4_lyingInAll 25 = .ok (.iload_n 1, 1) := by decide +kernel
theorem dX4_lyingInAll_26 : decode cX4_lyingInAll 26 = .ok (.ireturn, 1) := by decide +kernel
set_option maxRecDepth 20000 in
theorem ggX4_hadInAll_J6_bitCount_0f7a4 : GoodIn wsX4_hadInAll wsJ6_bitCount_0f7a4 := goodIn_r _ [6, 7, 8, 9] (by decide +kernel) (by decide +kernel)
set_option maxRecDepth 20000 in
theorem gX4_hadInAll_J6_bitCount_0f7a4 : GoodIn wsX4_hadInAll (va_wsS RX4 94 yJ6_bitCount_0f7a4 wsJ6_bitCount_0f7a4) := goodIn_app (goodIn_of _ (by decide +kernel)) ggX4_hadInAll_J6_bitCount_0f7a4
theorem dX4_hadInAll_0 : decode cX4_hadInAll 0 = .ok (.iconst 0, 1) := by decide +kernel
theorem dX4_hadInAll_1 : decode cX4_hadInAll 1 = .ok (.istore_n 1, 1) := by decide +kernel
theorem dX4_hadInAll_2 : decode cX4_hadInAll 2 = .ok (.iconst 0, 1) := by decide +kernel
theorem dX4_hadInAll_3 : decode cX4_hadInAll 3 = .ok (.istore_n 2, 1) := by decide +kernel
theorem dX4_hadInAll_4 : decode cX4_hadInAll 4 = .ok (.iload_n 2, 1) := by decide +kernel
theorem dX4_hadInAll_5 : decode cX4_hadInAll 5 = .ok (.aload_n 0, 1) := by decide +kernel
theorem dX4_hadInAll_6 : decode cX4_hadInAll 6 = .ok (.getfield 39, 3) := by decide +kernel
theorem dX4_hadInAll_9 : decode cX4_hadInAll 9 = .ok (.if_icmp .ge 21, 3) := by decide +kernel
theorem dX4_hadInAll_12 : decode cX4_hadInAll 12 = .ok (.iload_n 1, 1) := by decide +kernel
theorem dX4_hadInAll_13 : decode cX4_hadInAll 13 = .ok (.aload_n 0, 1) := by decide +kernel
theorem dX4_hadInAll_14 : decode cX4_hadInAll 14 = .ok (.getfield 24, 3) := by decide +kernel
theorem dX4_hadInAll_17 : decode cX4_hadInAll 17 = .ok (.iload_n 2, 1) := by decide +kernel
theorem dX4_hadInAll_18 : decode cX4_hadInAll 18 = .ok (.iaload, 1) := by decide +kernel
theorem dX4_hadInAll_19 : decode cX4_hadInAll 19 = .ok (.invokestatic 94, 3) := by decide +kernel
theorem dX4_hadInAll_22 : decode cX4_hadInAll 22 = .ok (.iadd, 1) := by decide +kernel
theorem dX4_hadInAll_23 : decode cX4_hadInAll 23 = .ok (.istore_n 1, 1) := by decide +kernel
theorem dX4_hadInAll_24 : decode cX4_hadInAll 24 = .ok (.iinc 2 1, 3) := by decide +kernel
theorem dX4_hadInAll_27 : decode cX4_hadInAll 27 = .ok (.goto (-23), 3) := by decide +kernel
theorem dX4_hadInAll_30 : decode cX4_hadInAll 30 = .ok (.iload_n 1, 1) := by decide +kernel
theorem dX4_hadInAll_31 : decode cX4_hadInAll 31 = .ok (.ireturn, 1) := by decide +kernel
theorem dX4_paidSet_0 : decode cX4_paidSet 0 = .ok (.iconst 0, 1) := by decide +kernel
theorem dX4_paidSet_1 : decode cX4_paidSet 1 = .ok (.istore_n 1, 1) := by decide +kernel
theorem dX4_paidSet_2 : decode cX4_paidSet 2 = .ok (.iconst 0, 1) := by decide +kernel
theorem dX4_paidSet_3 : decode cX4_paidSet 3 = .ok (.istore_n 2, 1) := by decide +kernel
theorem dX4_paidSet_4 : decode cX4_paidSet 4 = .ok (.iload_n 2, 1) := by decide +kernel
theorem dX4_paidSet_5 : decode cX4_paidSet 5 = .ok (.aload_n 0, 1) := by decide +kernel
theorem dX4_paidSet_6 : decode cX4_paidSet 6 = .ok (.getfield 39, 3) := by decide +kernel
theorem dX4_paidSet_9 : decode cX4_paidSet 9 = .ok (.if_icmp .ge 28, 3) := by decide +kernel
theorem dX4_paidSet_12 : decode cX4_paidSet 12 = .ok (.iload_n 1, 1) := by decide +kernel
theorem dX4_paidSet_13 : decode cX4_paidSet 13 = .ok (.aload_n 0, 1) := by decide +kernel
theorem dX4_paidSet_14 : decode cX4_paidSet 14 = .ok (.getfield 27, 3) := by decide +kernel
theorem dX4_paidSet_17 : decode cX4_paidSet 17 = .ok (.iload_n 2, 1) := by decide +kernel
theorem dX4_paidSet_18 : decode cX4_paidSet 18 = .ok (.iaload, 1) := by decide +kernel
theorem dX4_paidSet_19 : decode cX4_paidSet 19 = .ok (.ifCond .ne 9, 3) := by decide +kernel
theorem dX4_paidSet_22 : decode cX4_paidSet 22 = .ok (.iconst 1, 1) := by decide +kernel
theorem dX4_paidSet_23 : decode cX4_paidSet 23 = .ok (.iload_n 2, 1) := by decide +kernel
theorem dX4_paidSet_24 : decode cX4_paidSet 24 = .ok (.ishl, 1) := by decide +kernel
theorem dX4_paidSet_25 : decode cX4_paidSet 25 = .ok (.goto 4, 3) := by decide +kernel
theorem dX4_paidSet_28 : decode cX4_paidSet 28 = .ok (.iconst 0, 1) := by decide +kernel
theorem dX4_paidSet_29 : decode cX4_paidSet 29 = .ok (.ior, 1) := by decide +kernel
theorem dX4_paidSet_30 : decode cX4_paidSet 30 = .ok (.istore_n 1, 1) := by decide +kernel
theorem dX4_paidSet_31 : decode cX4_paidSet 31 = .ok (.iinc 2 1, 3) := by decide +kernel
theorem dX4_paidSet_34 : decode cX4_paidSet 34 = .ok (.goto (-30), 3) := by decide +kernel
theorem dX4_paidSet_37 : decode cX4_paidSet 37 = .ok (.iload_n 1, 1) := by decide +kernel
theorem dX4_paidSet_38 : decode cX4_paidSet 38 = .ok (.ireturn, 1) := by decide +kernel
set_option maxRecDepth 20000 in
theorem ggX4_howManyOf_X0_isOf : GoodIn wsX4_howManyOf wsX0_isOf := goodIn_r _ [6] (by decide +kernel) (by decide +kernel)
set_option maxRecDepth 20000 in
theorem gX4_howManyOf_X0_isOf : GoodIn wsX4_howManyOf (va_wsS RX4 99 yX0_isOf wsX0_isOf) := goodIn_app (goodIn_of _ (by decide +kernel)) ggX4_howManyOf_X0_isOf
theorem dX4_howManyOf_0 : decode cX4_howManyOf 0 = .ok (.iconst 0, 1) := by decide +kernel
theorem dX4_howManyOf_1 : decode cX4_howManyOf 1 = .ok (.istore_n 2, 1) := by decide +kernel
theorem dX4_howManyOf_2 : decode cX4_howManyOf 2 = .ok (.iconst 0, 1) := by decide +kernel
theorem dX4_howManyOf_3 : decode cX4_howManyOf 3 = .ok (.istore_n 3, 1) := by decide +kernel
theorem dX4_howManyOf_4 : decode cX4_howManyOf 4 = .ok (.iload_n 3, 1) := by decide +kernel
theorem dX4_howManyOf_5 : decode cX4_howManyOf 5 = .ok (.aload_n 0, 1) := by decide +kernel
theorem dX4_howManyOf_6 : decode cX4_howManyOf 6 = .ok (.getfield 39, 3) := by decide +kernel
theorem dX4_howManyOf_9 : decode cX4_howManyOf 9 = .ok (.if_icmp .ge 30, 3) := by decide +kernel
theorem dX4_howManyOf_12 : decode cX4_howManyOf 12 = .ok (.iload_n 2, 1) := by decide +kernel
theorem dX4_howManyOf_13 : decode cX4_howManyOf 13 = .ok (.aload_n 0, 1) := by decide +kernel
theorem dX4_howManyOf_14 : decode cX4_howManyOf 14 = .ok (.getfield 15, 3) := by decide +kernel
theorem dX4_howManyOf_17 : decode cX4_howManyOf 17 = .ok (.iload_n 3, 1) := by decide +kernel
theorem dX4_howManyOf_18 : decode cX4_howManyOf 18 = .ok (.iaload, 1) := by decide +kernel
theorem dX4_howManyOf_19 : decode cX4_howManyOf 19 = .ok (.iload_n 1, 1) := by decide +kernel
theorem dX4_howManyOf_20 : decode cX4_howManyOf 20 = .ok (.invokestatic 99, 3) := by decide +kernel
theorem dX4_howManyOf_23 : decode cX4_howManyOf 23 = .ok (.ifCond .eq 7, 3) := by decide +kernel
theorem dX4_howManyOf_26 : decode cX4_howManyOf 26 = .ok (.iconst 1, 1) := by decide +kernel
theorem dX4_howManyOf_27 : decode cX4_howManyOf 27 = .ok (.goto 4, 3) := by decide +kernel
theorem dX4_howManyOf_30 : decode cX4_howManyOf 30 = .ok (.iconst 0, 1) := by decide +kernel
theorem dX4_howManyOf_31 : decode cX4_howManyOf 31 = .ok (.iadd, 1) := by decide +kernel
theorem dX4_howManyOf_32 : decode cX4_howManyOf 32 = .ok (.istore_n 2, 1) := by decide +kernel
theorem dX4_howManyOf_33 : decode cX4_howManyOf 33 = .ok (.iinc 3 1, 3) := by decide +kernel
theorem dX4_howManyOf_36 : decode cX4_howManyOf 36 = .ok (.goto (-32), 3) := by decide +kernel
theorem dX4_howManyOf_39 : decode cX4_howManyOf 39 = .ok (.iload_n 2, 1) := by decide +kernel
theorem dX4_howManyOf_40 : decode cX4_howManyOf 40 = .ok (.ireturn, 1) := by decide +kernel
theorem dX4_canCut_0 : decode cX4_canCut 0 = .ok (.aload_n 0, 1) := by decide +kernel
theorem dX4_canCut_1 : decode cX4_canCut 1 = .ok (.getfield 43, 3) := by decide +kernel
theorem dX4_canCut_4 : decode cX4_canCut 4 = .ok (.ifCond .le 7, 3) := by decide +kernel
theorem dX4_canCut_7 : decode cX4_canCut 7 = .ok (.iconst 1, 1) := by decide +kernel
theorem dX4_canCut_8 : decode cX4_canCut 8 = .ok (.goto 4, 3) := by decide +kernel
theorem dX4_canCut_11 : decode cX4_canCut 11 = .ok (.iconst 0, 1) := by decide +kernel
theorem dX4_canCut_12 : decode cX4_canCut 12 = .ok (.ireturn, 1) := by decide +kernel
set_option maxRecDepth 20000 in
theorem ggX4_canGive_X4_fitFor : GoodIn wsX4_canGive wsX4_fitFor := goodIn_r _ [5, 6, 7, 8, 9, 10, 4, 11, 12, 13, 14, 15, 16, 17, 18, 19, 20, 21, 22, 23, 24, 25, 26, 27, 28, 29, 30, 31, 32, 36, 37, 38, 39, 40, 41, 42, 43, 44, 45, 46, 47, 48] (by decide +kernel) (by decide +kernel)
set_option maxRecDepth 20000 in
theorem gX4_canGive_X4_fitFor : GoodIn wsX4_canGive (wsV RX4 91 RX4 yX4_fitFor wsX4_fitFor) := goodIn_app (goodIn_of _ (by decide +kernel)) ggX4_canGive_X4_fitFor
set_option maxRecDepth 20000 in
theorem ggX4_canGive_X5_holds : GoodIn wsX4_canGive wsX5_holds := goodIn_r _ [35] (by decide +kernel) (by decide +kernel)
set_option maxRecDepth 20000 in
theorem gX4_canGive_X5_holds_n103 : GoodIn wsX4_canGive (wsX5_holds) := ggX4_canGive_X5_holds
theorem dX4_canGive_0 : decode cX4_canGive 0 = .ok (.aload_n 0, 1) := by decide +kernel
theorem dX4_canGive_1 : decode cX4_canGive 1 = .ok (.iload_n 1, 1) := by decide +kernel
theorem dX4_canGive_2 : decode cX4_canGive 2 = .ok (.invokevirtual 91, 3) := by decide +kernel
theorem dX4_canGive_5 : decode cX4_canGive 5 = .ok (.iload_n 2, 1) := by decide +kernel
theorem dX4_canGive_6 : decode cX4_canGive 6 = .ok (.invokestatic 103, 3) := by decide +kernel
theorem dX4_canGive_9 : decode cX4_canGive 9 = .ok (.ireturn, 1) := by decide +kernel
set_option maxRecDepth 20000 in
theorem ggX4_canTakeBack_X5_holds : GoodIn wsX4_canTakeBack wsX5_holds := goodIn_r _ [4] (by decide +kernel) (by decide +kernel)
set_option maxRecDepth 20000 in
theorem gX4_canTakeBack_X5_holds_n103 : GoodIn wsX4_canTakeBack (wsX5_holds) := ggX4_canTakeBack_X5_holds
theorem dX4_canTakeBack_0 : decode cX4_canTakeBack 0 = .ok (.aload_n 0, 1) := by decide +kernel
theorem dX4_canTakeBack_1 : decode cX4_canTakeBack 1 = .ok (.getfield 24, 3) := by decide +kernel
theorem dX4_canTakeBack_4 : decode cX4_canTakeBack 4 = .ok (.iload_n 1, 1) := by decide +kernel
theorem dX4_canTakeBack_5 : decode cX4_canTakeBack 5 = .ok (.iaload, 1) := by decide +kernel
theorem dX4_canTakeBack_6 : decode cX4_canTakeBack 6 = .ok (.iload_n 2, 1) := by decide +kernel
theorem dX4_canTakeBack_7 : decode cX4_canTakeBack 7 = .ok (.invokestatic 103, 3) := by decide +kernel
theorem dX4_canTakeBack_10 : decode cX4_canTakeBack 10 = .ok (.ireturn, 1) := by decide +kernel
theorem dX4_canBake_0 : decode cX4_canBake 0 = .ok (.aload_n 0, 1) := by decide +kernel
theorem dX4_canBake_1 : decode cX4_canBake 1 = .ok (.getfield 39, 3) := by decide +kernel
theorem dX4_canBake_4 : decode cX4_canBake 4 = .ok (.ifCond .le 16, 3) := by decide +kernel
theorem dX4_canBake_7 : decode cX4_canBake 7 = .ok (.aload_n 0, 1) := by decide +kernel
theorem dX4_canBake_8 : decode cX4_canBake 8 = .ok (.getfield 43, 3) := by decide +kernel
theorem dX4_canBake_11 : decode cX4_canBake 11 = .ok (.bipush 99, 2) := by decide +kernel
theorem dX4_canBake_13 : decode cX4_canBake 13 = .ok (.if_icmp .ge 7, 3) := by decide +kernel
theorem dX4_canBake_16 : decode cX4_canBake 16 = .ok (.iconst 1, 1) := by decide +kernel
theorem dX4_canBake_17 : decode cX4_canBake 17 = .ok (.goto 4, 3) := by decide +kernel
theorem dX4_canBake_20 : decode cX4_canBake 20 = .ok (.iconst 0, 1) := by decide +kernel
theorem dX4_canBake_21 : decode cX4_canBake 21 = .ok (.ireturn, 1) := by decide +kernel
set_option maxRecDepth 20000 in
theorem ggX4_cutLoaf_X4_changeLying : GoodIn wsX4_cutLoaf wsX4_changeLying := goodIn_r _ [6, 7, 8, 17, 18, 19, 20, 21, 22, 23, 24, 25, 26, 27, 28, 29] (by decide +kernel) (by decide +kernel)
set_option maxRecDepth 20000 in
theorem gX4_cutLoaf_X4_changeLying : GoodIn wsX4_cutLoaf (wsV RX4 106 RX4 yX4_changeLying wsX4_changeLying) := goodIn_app (goodIn_of _ (by decide +kernel)) ggX4_cutLoaf_X4_changeLying
set_option maxRecDepth 20000 in
theorem ggX4_cutLoaf_X4_noteDeed : GoodIn wsX4_cutLoaf wsX4_noteDeed := goodIn_r _ [12, 13, 14, 15, 16, 17, 18, 19, 20, 21, 22, 23, 24, 25, 26, 27, 28, 29] (by decide +kernel) (by decide +kernel)
set_option maxRecDepth 20000 in
theorem gX4_cutLoaf_X4_noteDeed : GoodIn wsX4_cutLoaf (wsV RX4 110 RX4 yX4_noteDeed wsX4_noteDeed) := goodIn_app (goodIn_of _ (by decide +kernel)) ggX4_cutLoaf_X4_noteDeed
theorem dX4_cutLoaf_0 : decode cX4_cutLoaf 0 = .ok (.aload_n 0, 1) := by decide +kernel
theorem dX4_cutLoaf_1 : decode cX4_cutLoaf 1 = .ok (.dup, 1) := by decide +kernel
theorem dX4_cutLoaf_2 : decode cX4_cutLoaf 2 = .ok (.getfield 43, 3) := by decide +kernel
theorem dX4_cutLoaf_5 : decode cX4_cutLoaf 5 = .ok (.iconst 1, 1) := by decide +kernel
theorem dX4_cutLoaf_6 : decode cX4_cutLoaf 6 = .ok (.isub, 1) := by decide +kernel
theorem dX4_cutLoaf_7 : decode cX4_cutLoaf 7 = .ok (.putfield 43, 3) := by decide +kernel
theorem dX4_cutLoaf_10 : decode cX4_cutLoaf 10 = .ok (.aload_n 0, 1) := by decide +kernel
theorem dX4_cutLoaf_11 : decode cX4_cutLoaf 11 = .ok (.iload_n 1, 1) := by decide +kernel
theorem dX4_cutLoaf_12 : decode cX4_cutLoaf 12 = .ok (.iload_n 1, 1) := by decide +kernel
theorem dX4_cutLoaf_13 : decode cX4_cutLoaf 13 = .ok (.invokevirtual 106, 3) := by decide +kernel
theorem dX4_cutLoaf_16 : decode cX4_cutLoaf 16 = .ok (.aload_n 0, 1) := by decide +kernel
theorem dX4_cutLoaf_17 : decode cX4_cutLoaf 17 = .ok (.iconst 1, 1) := by decide +kernel
theorem dX4_cutLoaf_18 : decode cX4_cutLoaf 18 = .ok (.iconst 0, 1) := by decide +kernel
theorem dX4_cutLoaf_19 : decode cX4_cutLoaf 19 = .ok (.iload_n 1, 1) := by decide +kernel
theorem dX4_cutLoaf_20 : decode cX4_cutLoaf 20 = .ok (.invokevirtual 110, 3) := by decide +kernel
theorem dX4_cutLoaf_23 : decode cX4_cutLoaf 23 = .ok (.return_, 1) := by decide +kernel
set_option maxRecDepth 20000 in
theorem ggX4_givePart_X4_toHand : GoodIn wsX4_givePart wsX4_toHand := goodIn_r _ [5, 6, 7, 8, 9, 10, 4, 11, 12, 13, 14, 15, 16, 17, 26, 27, 28, 29, 30, 31, 32, 33, 34, 35, 36, 37, 38] (by decide +kernel) (by decide +kernel)
set_option maxRecDepth 20000 in
theorem gX4_givePart_X4_toHand : GoodIn wsX4_givePart (wsV RX4 114 RX4 yX4_toHand wsX4_toHand) := goodIn_app (goodIn_of _ (by decide +kernel)) ggX4_givePart_X4_toHand
set_option maxRecDepth 20000 in
theorem ggX4_givePart_X4_noteDeed : GoodIn wsX4_givePart wsX4_noteDeed := goodIn_r _ [21, 22, 23, 24, 25, 26, 27, 28, 29, 30, 31, 32, 33, 34, 35, 36, 37, 38] (by decide +kernel) (by decide +kernel)
set_option maxRecDepth 20000 in
theorem gX4_givePart_X4_noteDeed : GoodIn wsX4_givePart (wsV RX4 110 RX4 yX4_noteDeed wsX4_noteDeed) := goodIn_app (goodIn_of _ (by decide +kernel)) ggX4_givePart_X4_noteDeed
theorem dX4_givePart_0 : decode cX4_givePart 0 = .ok (.aload_n 0, 1) := by decide +kernel
theorem dX4_givePart_1 : decode cX4_givePart 1 = .ok (.iload_n 1, 1) := by decide +kernel
theorem dX4_givePart_2 : decode cX4_givePart 2 = .ok (.iload_n 2, 1) := by decide +kernel
theorem dX4_givePart_3 : decode cX4_givePart 3 = .ok (.invokevirtual 114, 3) := by decide +kernel
theorem dX4_givePart_6 : decode cX4_givePart 6 = .ok (.aload_n 0, 1) := by decide +kernel
theorem dX4_givePart_7 : decode cX4_givePart 7 = .ok (.iconst 2, 1) := by decide +kernel
theorem dX4_givePart_8 : decode cX4_givePart 8 = .ok (.iload_n 1, 1) := by decide +kernel
theorem dX4_givePart_9 : decode cX4_givePart 9 = .ok (.iload_n 2, 1) := by decide +kernel
theorem dX4_givePart_10 : decode cX4_givePart 10 = .ok (.invokevirtual 110, 3) := by decide +kernel
theorem dX4_givePart_13 : decode cX4_givePart 13 = .ok (.return_, 1) := by decide +kernel
set_option maxRecDepth 20000 in
theorem ggX4_takeBack_X4_fromHand : GoodIn wsX4_takeBack wsX4_fromHand := goodIn_r _ [5, 6, 7, 8, 9, 10, 4, 11, 12, 13, 14, 15, 16, 17, 26, 27, 28, 29, 30, 31, 32, 33, 34, 35, 36, 37, 38] (by decide +kernel) (by decide +kernel)
set_option maxRecDepth 20000 in
theorem gX4_takeBack_X4_fromHand : GoodIn wsX4_takeBack (wsV RX4 117 RX4 yX4_fromHand wsX4_fromHand) := goodIn_app (goodIn_of _ (by decide +kernel)) ggX4_takeBack_X4_fromHand
set_option maxRecDepth 20000 in
theorem ggX4_takeBack_X4_noteDeed : GoodIn wsX4_takeBack wsX4_noteDeed := goodIn_r _ [21, 22, 23, 24, 25, 26, 27, 28, 29, 30, 31, 32, 33, 34, 35, 36, 37, 38] (by decide +kernel) (by decide +kernel)
set_option maxRecDepth 20000 in
theorem gX4_takeBack_X4_noteDeed : GoodIn wsX4_takeBack (wsV RX4 110 RX4 yX4_noteDeed wsX4_noteDeed) := goodIn_app (goodIn_of _ (by decide +kernel)) ggX4_takeBack_X4_noteDeed
theorem dX4_takeBack_0 : decode cX4_takeBack 0 = .ok (.aload_n 0, 1) := by decide +kernel
theorem dX4_takeBack_1 : decode cX4_takeBack 1 = .ok (.iload_n 1, 1) := by decide +kernel
theorem dX4_takeBack_2 : decode cX4_takeBack 2 = .ok (.iload_n 2, 1) := by decide +kernel
theorem dX4_takeBack_3 : decode cX4_takeBack 3 = .ok (.invokevirtual 117, 3) := by decide +kernel
theorem dX4_takeBack_6 : decode cX4_takeBack 6 = .ok (.aload_n 0, 1) := by decide +kernel
theorem dX4_takeBack_7 : decode cX4_takeBack 7 = .ok (.iconst 3, 1) := by decide +kernel
theorem dX4_takeBack_8 : decode cX4_takeBack 8 = .ok (.iload_n 1, 1) := by decide +kernel
theorem dX4_takeBack_9 : decode cX4_takeBack 9 = .ok (.iload_n 2, 1) := by decide +kernel
theorem dX4_takeBack_10 : decode cX4_takeBack 10 = .ok (.invokevirtual 110, 3) := by decide +kernel
theorem dX4_takeBack_13 : decode cX4_takeBack 13 = .ok (.return_, 1) := by decide +kernel
set_option maxRecDepth 20000 in
theorem ggX4_bakeLoaves_X4_noteDeed : GoodIn wsX4_bakeLoaves wsX4_noteDeed := goodIn_r _ [10, 11, 12, 13, 14, 15, 16, 17, 18, 19, 20, 21, 22, 23, 24, 25, 26, 27] (by decide +kernel) (by decide +kernel)
set_option maxRecDepth 20000 in
theorem gX4_bakeLoaves_X4_noteDeed : GoodIn wsX4_bakeLoaves (wsV RX4 110 RX4 yX4_noteDeed wsX4_noteDeed) := goodIn_app (goodIn_of _ (by decide +kernel)) ggX4_bakeLoaves_X4_noteDeed
theorem dX4_bakeLoaves_0 : decode cX4_bakeLoaves 0 = .ok (.iload_n 1, 1) := by decide +kernel
theorem dX4_bakeLoaves_1 : decode cX4_bakeLoaves 1 = .ok (.bipush 99, 2) := by decide +kernel
theorem dX4_bakeLoaves_3 : decode cX4_bakeLoaves 3 = .ok (.aload_n 0, 1) := by decide +kernel
theorem dX4_bakeLoaves_4 : decode cX4_bakeLoaves 4 = .ok (.getfield 43, 3) := by decide +kernel
theorem dX4_bakeLoaves_7 : decode cX4_bakeLoaves 7 = .ok (.isub, 1) := by decide +kernel
theorem dX4_bakeLoaves_8 : decode cX4_bakeLoaves 8 = .ok (.invokestatic 120, 3) := by decide +kernel
theorem dX4_bakeLoaves_11 : decode cX4_bakeLoaves 11 = .ok (.istore_n 2, 1) := by decide +kernel
theorem dX4_bakeLoaves_12 : decode cX4_bakeLoaves 12 = .ok (.aload_n 0, 1) := by decide +kernel
theorem dX4_bakeLoaves_13 : decode cX4_bakeLoaves 13 = .ok (.dup, 1) := by decide +kernel
theorem dX4_bakeLoaves_14 : decode cX4_bakeLoaves 14 = .ok (.getfield 43, 3) := by decide +kernel
theorem dX4_bakeLoaves_17 : decode cX4_bakeLoaves 17 = .ok (.iload_n 2, 1) := by decide +kernel
theorem dX4_bakeLoaves_18 : decode cX4_bakeLoaves 18 = .ok (.iadd, 1) := by decide +kernel
theorem dX4_bakeLoaves_19 : decode cX4_bakeLoaves 19 = .ok (.putfield 43, 3) := by decide +kernel
theorem dX4_bakeLoaves_22 : decode cX4_bakeLoaves 22 = .ok (.aload_n 0, 1) := by decide +kernel
theorem dX4_bakeLoaves_23 : decode cX4_bakeLoaves 23 = .ok (.iconst 4, 1) := by decide +kernel
theorem dX4_bakeLoaves_24 : decode cX4_bakeLoaves 24 = .ok (.iconst 0, 1) := by decide +kernel
theorem dX4_bakeLoaves_25 : decode cX4_bakeLoaves 25 = .ok (.iload_n 2, 1) := by decide +kernel
theorem dX4_bakeLoaves_26 : decode cX4_bakeLoaves 26 = .ok (.invokevirtual 110, 3) := by decide +kernel
theorem dX4_bakeLoaves_29 : decode cX4_bakeLoaves 29 = .ok (.return_, 1) := by decide +kernel
set_option maxRecDepth 20000 in
theorem ggX4_deedByLot_X4_canCut : GoodIn wsX4_deedByLot wsX4_canCut := goodIn_r _ [6, 7, 86, 87, 88, 89, 90, 91, 92, 93, 94, 95, 96, 97, 98] (by decide +kernel) (by decide +kernel)
set_option maxRecDepth 20000 in
theorem gX4_deedByLot_X4_canCut : GoodIn wsX4_deedByLot (wsV RX4 123 RX4 yX4_canCut wsX4_canCut) := goodIn_app (goodIn_of _ (by decide +kernel)) ggX4_deedByLot_X4_canCut
set_option maxRecDepth 20000 in
theorem ggX4_deedByLot_X4_cutLoaf : GoodIn wsX4_deedByLot wsX4_cutLoaf := goodIn_r _ [11, 7, 12, 13, 14, 5, 15, 16, 17, 18, 19, 20, 21, 22, 23, 24, 25, 86, 87, 88, 89, 90, 91, 92, 93, 94, 95, 96, 97, 98] (by decide +kernel) (by decide +kernel)
set_option maxRecDepth 20000 in
theorem gX4_deedByLot_X4_cutLoaf : GoodIn wsX4_deedByLot (wsV RX4 127 RX4 yX4_cutLoaf wsX4_cutLoaf) := goodIn_app (goodIn_of _ (by decide +kernel)) ggX4_deedByLot_X4_cutLoaf
set_option maxRecDepth 20000 in
theorem ggX4_deedByLot_X4_canTakeBack : GoodIn wsX4_deedByLot wsX4_canTakeBack := goodIn_r _ [29, 30, 31, 32, 33, 86, 87, 88, 89, 90, 91, 92, 93, 94, 95, 96, 97, 98] (by decide +kernel) (by decide +kernel)
set_option maxRecDepth 20000 in
theorem gX4_deedByLot_X4_canTakeBack : GoodIn wsX4_deedByLot (wsV RX4 131 RX4 yX4_canTakeBack wsX4_canTakeBack) := goodIn_app (goodIn_of _ (by decide +kernel)) ggX4_deedByLot_X4_canTakeBack
set_option maxRecDepth 20000 in
theorem ggX4_deedByLot_X4_takeBack : GoodIn wsX4_deedByLot wsX4_takeBack := goodIn_r _ [37, 38, 39, 40, 5, 41, 30, 42, 12, 13, 14, 15, 16, 17, 43, 32, 44, 45, 18, 19, 20, 21, 22, 23, 24, 25, 86, 87, 88, 89, 90, 91, 92, 93, 94, 95, 96, 97, 98] (by decide +kernel) (by decide +kernel)
set_option maxRecDepth 20000 in
theorem gX4_deedByLot_X4_takeBack : GoodIn wsX4_deedByLot (wsV RX4 134 RX4 yX4_takeBack wsX4_takeBack) := goodIn_app (goodIn_of _ (by decide +kernel)) ggX4_deedByLot_X4_takeBack
set_option maxRecDepth 20000 in
theorem ggX4_deedByLot_X4_canGive : GoodIn wsX4_deedByLot wsX4_canGive := goodIn_r _ [49, 50, 51, 52, 5, 53, 17, 42, 54, 55, 56, 57, 58, 30, 59, 60, 61, 62, 63, 64, 65, 66, 67, 68, 69, 70, 71, 72, 73, 74, 75, 76, 77, 31, 32, 33, 86, 87, 88, 89, 90, 91, 92, 93, 94, 95, 96, 97, 98] (by decide +kernel) (by decide +kernel)
set_option maxRecDepth 20000 in
theorem gX4_deedByLot_X4_canGive : GoodIn wsX4_deedByLot (wsV RX4 137 RX4 yX4_canGive wsX4_canGive) := goodIn_app (goodIn_of _ (by decide +kernel)) ggX4_deedByLot_X4_canGive
set_option maxRecDepth 20000 in
theorem ggX4_deedByLot_X4_givePart : GoodIn wsX4_deedByLot wsX4_givePart := goodIn_r _ [81, 82, 83, 84, 5, 85, 30, 42, 12, 13, 14, 15, 16, 17, 43, 32, 44, 45, 18, 19, 20, 21, 22, 23, 24, 25, 86, 87, 88, 89, 90, 91, 92, 93, 94, 95, 96, 97, 98] (by decide +kernel) (by decide +kernel)
set_option maxRecDepth 20000 in
theorem gX4_deedByLot_X4_givePart : GoodIn wsX4_deedByLot (wsV RX4 140 RX4 yX4_givePart wsX4_givePart) := goodIn_app (goodIn_of _ (by decide +kernel)) ggX4_deedByLot_X4_givePart
set_option maxRecDepth 20000 in
theorem ggX4_deedByLot_X4_noteDeed : GoodIn wsX4_deedByLot wsX4_noteDeed := goodIn_r _ [21, 22, 23, 24, 25, 86, 87, 88, 89, 90, 91, 92, 93, 94, 95, 96, 97, 98] (by decide +kernel) (by decide +kernel)
set_option maxRecDepth 20000 in
theorem gX4_deedByLot_X4_noteDeed : GoodIn wsX4_deedByLot (wsV RX4 110 RX4 yX4_noteDeed wsX4_noteDeed) := goodIn_app (goodIn_of _ (by decide +kernel)) ggX4_deedByLot_X4_noteDeed
theorem dX4_deedByLot_0 : decode cX4_deedByLot 0 = .ok (.aload_n 0, 1) := by decide +kernel
theorem dX4_deedByLot_1 : decode cX4_deedByLot 1 = .ok (.getfield 39, 3) := by decide +kernel
theorem dX4_deedByLot_4 : decode cX4_deedByLot 4 = .ok (.ifCond .ne 4, 3) := by decide +kernel
theorem dX4_deedByLot_7 : decode cX4_deedByLot 7 = .ok (.return_, 1) := by decide +kernel
theorem dX4_deedByLot_8 : decode cX4_deedByLot 8 = .ok (.iload_n 1, 1) := by decide +kernel
theorem dX4_deedByLot_9 : decode cX4_deedByLot 9 = .ok (.bipush 8, 2) := by decide +kernel
theorem dX4_deedByLot_11 : decode cX4_deedByLot 11 = .ok (.idiv, 1) := by decide +kernel
theorem dX4_deedByLot_12 : decode cX4_deedByLot 12 = .ok (.bipush 15, 2) := by decide +kernel
theorem dX4_deedByLot_14 : decode cX4_deedByLot 14 = .ok (.irem, 1) := by decide +kernel
theorem dX4_deedByLot_15 : decode cX4_deedByLot 15 = .ok (.iconst 2, 1) := by decide +kernel
theorem dX4_deedByLot_16 : decode cX4_deedByLot 16 = .ok (.iadd, 1) := by decide +kernel
theorem dX4_deedByLot_17 : decode cX4_deedByLot 17 = .ok (.istore_n 2, 1) := by decide +kernel
theorem dX4_deedByLot_18 : decode cX4_deedByLot 18 = .ok (.iload_n 1, 1) := by decide +kernel
theorem dX4_deedByLot_19 : decode cX4_deedByLot 19 = .ok (.sipush 128, 3) := by decide +kernel
theorem dX4_deedByLot_22 : decode cX4_deedByLot 22 = .ok (.idiv, 1) := by decide +kernel
theorem dX4_deedByLot_23 : decode cX4_deedByLot 23 = .ok (.aload_n 0, 1) := by decide +kernel
theorem dX4_deedByLot_24 : decode cX4_deedByLot 24 = .ok (.getfield 39, 3) := by decide +kernel
theorem dX4_deedByLot_27 : decode cX4_deedByLot 27 = .ok (.irem, 1) := by decide +kernel
theorem dX4_deedByLot_28 : decode cX4_deedByLot 28 = .ok (.istore_n 3, 1) := by decide +kernel
theorem dX4_deedByLot_29 : decode cX4_deedByLot 29 = .ok (.iload_n 1, 1) := by decide +kernel
theorem dX4_deedByLot_30 : decode cX4_deedByLot 30 = .ok (.iconst 4, 1) := by decide +kernel
theorem dX4_deedByLot_31 : decode cX4_deedByLot 31 = .ok (.irem, 1) := by decide +kernel
theorem dX4_deedByLot_32 : decode cX4_deedByLot 32 = .ok (.istore 4, 2) := by decide +kernel
theorem dX4_deedByLot_34 : decode cX4_deedByLot 34 = .ok (.iload 4, 2) := by decide +kernel
theorem dX4_deedByLot_36 : decode cX4_deedByLot 36 = .ok (.ifCond .ne 18, 3) := by decide +kernel
theorem dX4_deedByLot_39 : decode cX4_deedByLot 39 = .ok (.aload_n 0, 1) := by decide +kernel
theorem dX4_deedByLot_40 : decode cX4_deedByLot 40 = .ok (.invokevirtual 123, 3) := by decide +kernel
theorem dX4_deedByLot_43 : decode cX4_deedByLot 43 = .ok (.ifCond .eq 11, 3) := by decide +kernel
theorem dX4_deedByLot_46 : decode cX4_deedByLot 46 = .ok (.aload_n 0, 1) := by decide +kernel
theorem dX4_deedByLot_47 : decode cX4_deedByLot 47 = .ok (.iload_n 2, 1) := by decide +kernel
theorem dX4_deedByLot_48 : decode cX4_deedByLot 48 = .ok (.invokevirtual 127, 3) := by decide +kernel
theorem dX4_deedByLot_51 : decode cX4_deedByLot 51 = .ok (.goto 64, 3) := by decide +kernel
theorem dX4_deedByLot_54 : decode cX4_deedByLot 54 = .ok (.iload 4, 2) := by decide +kernel
theorem dX4_deedByLot_56 : decode cX4_deedByLot 56 = .ok (.iconst 3, 1) := by decide +kernel
theorem dX4_deedByLot_57 : decode cX4_deedByLot 57 = .ok (.if_icmp .ne 21, 3) := by decide +kernel
theorem dX4_deedByLot_60 : decode cX4_deedByLot 60 = .ok (.aload_n 0, 1) := by decide +kernel
theorem dX4_deedByLot_61 : decode cX4_deedByLot 61 = .ok (.iload_n 3, 1) := by decide +kernel
theorem dX4_deedByLot_62 : decode cX4_deedByLot 62 = .ok (.iload_n 2, 1) := by decide +kernel
theorem dX4_deedByLot_63 : decode cX4_deedByLot 63 = .ok (.invokevirtual 131, 3) := by decide +kernel
theorem dX4_deedByLot_66 : decode cX4_deedByLot 66 = .ok (.ifCond .eq 12, 3) := by decide +kernel
theorem dX4_deedByLot_69 : decode cX4_deedByLot 69 = .ok (.aload_n 0, 1) := by decide +kernel
theorem dX4_deedByLot_70 : decode cX4_deedByLot 70 = .ok (.iload_n 3, 1) := by decide +kernel
theorem dX4_deedByLot_71 : decode cX4_deedByLot 71 = .ok (.iload_n 2, 1) := by decide +kernel
theorem dX4_deedByLot_72 : decode cX4_deedByLot 72 = .ok (.invokevirtual 134, 3) := by decide +kernel
theorem dX4_deedByLot_75 : decode cX4_deedByLot 75 = .ok (.goto 40, 3) := by decide +kernel
theorem dX4_deedByLot_78 : decode cX4_deedByLot 78 = .ok (.iload 4, 2) := by decide +kernel
theorem dX4_deedByLot_80 : decode cX4_deedByLot 80 = .ok (.iconst 1, 1) := by decide +kernel
theorem dX4_deedByLot_81 : decode cX4_deedByLot 81 = .ok (.if_icmp .eq 9, 3) := by decide +kernel
theorem dX4_deedByLot_84 : decode cX4_deedByLot 84 = .ok (.iload 4, 2) := by decide +kernel
theorem dX4_deedByLot_86 : decode cX4_deedByLot 86 = .ok (.iconst 2, 1) := by decide +kernel
theorem dX4_deedByLot_87 : decode cX4_deedByLot 87 = .ok (.if_icmp .ne 21, 3) := by decide +kernel
theorem dX4_deedByLot_90 : decode cX4_deedByLot 90 = .ok (.aload_n 0, 1) := by decide +kernel
theorem dX4_deedByLot_91 : decode cX4_deedByLot 91 = .ok (.iload_n 3, 1) := by decide +kernel
theorem dX4_deedByLot_92 : decode cX4_deedByLot 92 = .ok (.iload_n 2, 1) := by decide +kernel
theorem dX4_deedByLot_93 : decode cX4_deedByLot 93 = .ok (.invokevirtual 137, 3) := by decide +kernel
theorem dX4_deedByLot_96 : decode cX4_deedByLot 96 = .ok (.ifCond .eq 12, 3) := by decide +kernel
theorem dX4_deedByLot_99 : decode cX4_deedByLot 99 = .ok (.aload_n 0, 1) := by decide +kernel
theorem dX4_deedByLot_100 : decode cX4_deedByLot 100 = .ok (.iload_n 3, 1) := by decide +kernel
