theorem dX4_deedByLot_101 : decode cX4_deedByLot 101 = .ok (.iload_n 2, 1) := by decide +kernel
theorem dX4_deedByLot_102 : decode cX4_deedByLot 102 = .ok (.invokevirtual 140, 3) := by decide +kernel
theorem dX4_deedByLot_105 : decode cX4_deedByLot 105 = .ok (.goto 10, 3) := by decide +kernel
theorem dX4_deedByLot_108 : decode cX4_deedByLot 108 = .ok (.aload_n 0, 1) := by decide +kernel
theorem dX4_deedByLot_109 : decode cX4_deedByLot 109 = .ok (.iconst 0, 1) := by decide +kernel
theorem dX4_deedByLot_110 : decode cX4_deedByLot 110 = .ok (.iconst 0, 1) := by decide +kernel
theorem dX4_deedByLot_111 : decode cX4_deedByLot 111 = .ok (.iconst 0, 1) := by decide +kernel
theorem dX4_deedByLot_112 : decode cX4_deedByLot 112 = .ok (.invokevirtual 110, 3) := by decide +kernel
theorem dX4_deedByLot_115 : decode cX4_deedByLot 115 = .ok (.return_, 1) := by decide +kernel
set_option maxRecDepth 20000 in
theorem ggX4_undoFrom_X4_undoOne : GoodIn wsX4_undoFrom wsX4_undoOne := goodIn_r _ [9, 10, 11, 12, 13, 8, 14, 15, 16, 17, 18, 19, 20, 21, 22, 23, 24, 25, 26, 27, 28, 29, 30, 31, 32, 33, 34, 35, 36, 37, 38, 39, 40, 41, 42, 43] (by decide +kernel) (by decide +kernel)
set_option maxRecDepth 20000 in
theorem gX4_undoFrom_X4_undoOne : GoodIn wsX4_undoFrom (wsV RX4 143 RX4 yX4_undoOne wsX4_undoOne) := goodIn_app (goodIn_of _ (by decide +kernel)) ggX4_undoFrom_X4_undoOne
theorem dX4_undoFrom_0 : decode cX4_undoFrom 0 = .ok (.aload_n 0, 1) := by decide +kernel
theorem dX4_undoFrom_1 : decode cX4_undoFrom 1 = .ok (.getfield 46, 3) := by decide +kernel
theorem dX4_undoFrom_4 : decode cX4_undoFrom 4 = .ok (.iload_n 1, 1) := by decide +kernel
theorem dX4_undoFrom_5 : decode cX4_undoFrom 5 = .ok (.if_icmp .le 54, 3) := by decide +kernel
theorem dX4_undoFrom_8 : decode cX4_undoFrom 8 = .ok (.aload_n 0, 1) := by decide +kernel
theorem dX4_undoFrom_9 : decode cX4_undoFrom 9 = .ok (.getfield 46, 3) := by decide +kernel
theorem dX4_undoFrom_12 : decode cX4_undoFrom 12 = .ok (.ifCond .le 47, 3) := by decide +kernel
theorem dX4_undoFrom_15 : decode cX4_undoFrom 15 = .ok (.aload_n 0, 1) := by decide +kernel
theorem dX4_undoFrom_16 : decode cX4_undoFrom 16 = .ok (.dup, 1) := by decide +kernel
theorem dX4_undoFrom_17 : decode cX4_undoFrom 17 = .ok (.getfield 46, 3) := by decide +kernel
theorem dX4_undoFrom_20 : decode cX4_undoFrom 20 = .ok (.iconst 1, 1) := by decide +kernel
theorem dX4_undoFrom_21 : decode cX4_undoFrom 21 = .ok (.isub, 1) := by decide +kernel
theorem dX4_undoFrom_22 : decode cX4_undoFrom 22 = .ok (.putfield 46, 3) := by decide +kernel
theorem dX4_undoFrom_25 : decode cX4_undoFrom 25 = .ok (.aload_n 0, 1) := by decide +kernel
theorem dX4_undoFrom_26 : decode cX4_undoFrom 26 = .ok (.aload_n 0, 1) := by decide +kernel
theorem dX4_undoFrom_27 : decode cX4_undoFrom 27 = .ok (.getfield 30, 3) := by decide +kernel
theorem dX4_undoFrom_30 : decode cX4_undoFrom 30 = .ok (.aload_n 0, 1) := by decide +kernel
theorem dX4_undoFrom_31 : decode cX4_undoFrom 31 = .ok (.getfield 46, 3) := by decide +kernel
theorem dX4_undoFrom_34 : decode cX4_undoFrom 34 = .ok (.iaload, 1) := by decide +kernel
theorem dX4_undoFrom_35 : decode cX4_undoFrom 35 = .ok (.aload_n 0, 1) := by decide +kernel
theorem dX4_undoFrom_36 : decode cX4_undoFrom 36 = .ok (.getfield 33, 3) := by decide +kernel
theorem dX4_undoFrom_39 : decode cX4_undoFrom 39 = .ok (.aload_n 0, 1) := by decide +kernel
theorem dX4_undoFrom_40 : decode cX4_undoFrom 40 = .ok (.getfield 46, 3) := by decide +kernel
theorem dX4_undoFrom_43 : decode cX4_undoFrom 43 = .ok (.iaload, 1) := by decide +kernel
theorem dX4_undoFrom_44 : decode cX4_undoFrom 44 = .ok (.aload_n 0, 1) := by decide +kernel
theorem dX4_undoFrom_45 : decode cX4_undoFrom 45 = .ok (.getfield 36, 3) := by decide +kernel
theorem dX4_undoFrom_48 : decode cX4_undoFrom 48 = .ok (.aload_n 0, 1) := by decide +kernel
theorem dX4_undoFrom_49 : decode cX4_undoFrom 49 = .ok (.getfield 46, 3) := by decide +kernel
theorem dX4_undoFrom_52 : decode cX4_undoFrom 52 = .ok (.iaload, 1) := by decide +kernel
theorem dX4_undoFrom_53 : decode cX4_undoFrom 53 = .ok (.invokevirtual 143, 3) := by decide +kernel
theorem dX4_undoFrom_56 : decode cX4_undoFrom 56 = .ok (.goto (-56), 3) := by decide +kernel
theorem dX4_undoFrom_59 : decode cX4_undoFrom 59 = .ok (.return_, 1) := by decide +kernel
set_option maxRecDepth 20000 in
theorem ggX4_undoOne_X4_changeLying : GoodIn wsX4_undoOne wsX4_changeLying := goodIn_r _ [6, 7, 8, 23, 24, 25, 26, 27, 28, 29, 30, 31, 32, 33, 34, 35] (by decide +kernel) (by decide +kernel)
set_option maxRecDepth 20000 in
theorem gX4_undoOne_X4_changeLying : GoodIn wsX4_undoOne (wsV RX4 106 RX4 yX4_changeLying wsX4_changeLying) := goodIn_app (goodIn_of _ (by decide +kernel)) ggX4_undoOne_X4_changeLying
set_option maxRecDepth 20000 in
theorem ggX4_undoOne_X4_fromHand : GoodIn wsX4_undoOne wsX4_fromHand := goodIn_r _ [12, 13, 14, 2, 3, 4, 5, 6, 7, 8, 15, 16, 17, 18, 23, 24, 25, 26, 27, 28, 29, 30, 31, 32, 33, 34, 35] (by decide +kernel) (by decide +kernel)
set_option maxRecDepth 20000 in
theorem gX4_undoOne_X4_fromHand : GoodIn wsX4_undoOne (wsV RX4 117 RX4 yX4_fromHand wsX4_fromHand) := goodIn_app (goodIn_of _ (by decide +kernel)) ggX4_undoOne_X4_fromHand
set_option maxRecDepth 20000 in
theorem ggX4_undoOne_X4_toHand : GoodIn wsX4_undoOne wsX4_toHand := goodIn_r _ [22, 13, 14, 2, 3, 4, 5, 6, 7, 8, 15, 16, 17, 18, 23, 24, 25, 26, 27, 28, 29, 30, 31, 32, 33, 34, 35] (by decide +kernel) (by decide +kernel)
set_option maxRecDepth 20000 in
theorem gX4_undoOne_X4_toHand : GoodIn wsX4_undoOne (wsV RX4 114 RX4 yX4_toHand wsX4_toHand) := goodIn_app (goodIn_of _ (by decide +kernel)) ggX4_undoOne_X4_toHand
theorem dX4_undoOne_0 : decode cX4_undoOne 0 = .ok (.iload_n 1, 1) := by decide +kernel
theorem dX4_undoOne_1 : decode cX4_undoOne 1 = .ok (.tableswitch 82 1 4 #[31, 51, 60, 69], 31) := by decide +kernel
theorem dX4_undoOne_32 : decode cX4_undoOne 32 = .ok (.aload_n 0, 1) := by decide +kernel
theorem dX4_undoOne_33 : decode cX4_undoOne 33 = .ok (.dup, 1) := by decide +kernel
theorem dX4_undoOne_34 : decode cX4_undoOne 34 = .ok (.getfield 43, 3) := by decide +kernel
theorem dX4_undoOne_37 : decode cX4_undoOne 37 = .ok (.iconst 1, 1) := by decide +kernel
theorem dX4_undoOne_38 : decode cX4_undoOne 38 = .ok (.iadd, 1) := by decide +kernel
theorem dX4_undoOne_39 : decode cX4_undoOne 39 = .ok (.putfield 43, 3) := by decide +kernel
theorem dX4_undoOne_42 : decode cX4_undoOne 42 = .ok (.aload_n 0, 1) := by decide +kernel
theorem dX4_undoOne_43 : decode cX4_undoOne 43 = .ok (.iload_n 3, 1) := by decide +kernel
theorem dX4_undoOne_44 : decode cX4_undoOne 44 = .ok (.iload_n 3, 1) := by decide +kernel
theorem dX4_undoOne_45 : decode cX4_undoOne 45 = .ok (.ineg, 1) := by decide +kernel
theorem dX4_undoOne_46 : decode cX4_undoOne 46 = .ok (.invokevirtual 106, 3) := by decide +kernel
theorem dX4_undoOne_49 : decode cX4_undoOne 49 = .ok (.goto 34, 3) := by decide +kernel
theorem dX4_undoOne_52 : decode cX4_undoOne 52 = .ok (.aload_n 0, 1) := by decide +kernel
theorem dX4_undoOne_53 : decode cX4_undoOne 53 = .ok (.iload_n 2, 1) := by decide +kernel
theorem dX4_undoOne_54 : decode cX4_undoOne 54 = .ok (.iload_n 3, 1) := by decide +kernel
theorem dX4_undoOne_55 : decode cX4_undoOne 55 = .ok (.invokevirtual 117, 3) := by decide +kernel
theorem dX4_undoOne_58 : decode cX4_undoOne 58 = .ok (.goto 25, 3) := by decide +kernel
theorem dX4_undoOne_61 : decode cX4_undoOne 61 = .ok (.aload_n 0, 1) := by decide +kernel
theorem dX4_undoOne_62 : decode cX4_undoOne 62 = .ok (.iload_n 2, 1) := by decide +kernel
theorem dX4_undoOne_63 : decode cX4_undoOne 63 = .ok (.iload_n 3, 1) := by decide +kernel
theorem dX4_undoOne_64 : decode cX4_undoOne 64 = .ok (.invokevirtual 114, 3) := by decide +kernel
theorem dX4_undoOne_67 : decode cX4_undoOne 67 = .ok (.goto 16, 3) := by decide +kernel
theorem dX4_undoOne_70 : decode cX4_undoOne 70 = .ok (.aload_n 0, 1) := by decide +kernel
theorem dX4_undoOne_71 : decode cX4_undoOne 71 = .ok (.dup, 1) := by decide +kernel
theorem dX4_undoOne_72 : decode cX4_undoOne 72 = .ok (.getfield 43, 3) := by decide +kernel
theorem dX4_undoOne_75 : decode cX4_undoOne 75 = .ok (.iload_n 3, 1) := by decide +kernel
theorem dX4_undoOne_76 : decode cX4_undoOne 76 = .ok (.isub, 1) := by decide +kernel
theorem dX4_undoOne_77 : decode cX4_undoOne 77 = .ok (.putfield 43, 3) := by decide +kernel
theorem dX4_undoOne_80 : decode cX4_undoOne 80 = .ok (.goto 3, 3) := by decide +kernel
theorem dX4_undoOne_83 : decode cX4_undoOne 83 = .ok (.return_, 1) := by decide +kernel
theorem dX4_noteDeed_0 : decode cX4_noteDeed 0 = .ok (.aload_n 0, 1) := by decide +kernel
theorem dX4_noteDeed_1 : decode cX4_noteDeed 1 = .ok (.getfield 46, 3) := by decide +kernel
theorem dX4_noteDeed_4 : decode cX4_noteDeed 4 = .ok (.bipush 40, 2) := by decide +kernel
theorem dX4_noteDeed_6 : decode cX4_noteDeed 6 = .ok (.if_icmp .ge 43, 3) := by decide +kernel
theorem dX4_noteDeed_9 : decode cX4_noteDeed 9 = .ok (.aload_n 0, 1) := by decide +kernel
theorem dX4_noteDeed_10 : decode cX4_noteDeed 10 = .ok (.getfield 30, 3) := by decide +kernel
theorem dX4_noteDeed_13 : decode cX4_noteDeed 13 = .ok (.aload_n 0, 1) := by decide +kernel
theorem dX4_noteDeed_14 : decode cX4_noteDeed 14 = .ok (.getfield 46, 3) := by decide +kernel
theorem dX4_noteDeed_17 : decode cX4_noteDeed 17 = .ok (.iload_n 1, 1) := by decide +kernel
theorem dX4_noteDeed_18 : decode cX4_noteDeed 18 = .ok (.iastore, 1) := by decide +kernel
theorem dX4_noteDeed_19 : decode cX4_noteDeed 19 = .ok (.aload_n 0, 1) := by decide +kernel
theorem dX4_noteDeed_20 : decode cX4_noteDeed 20 = .ok (.getfield 33, 3) := by decide +kernel
theorem dX4_noteDeed_23 : decode cX4_noteDeed 23 = .ok (.aload_n 0, 1) := by decide +kernel
theorem dX4_noteDeed_24 : decode cX4_noteDeed 24 = .ok (.getfield 46, 3) := by decide +kernel
theorem dX4_noteDeed_27 : decode cX4_noteDeed 27 = .ok (.iload_n 2, 1) := by decide +kernel
theorem dX4_noteDeed_28 : decode cX4_noteDeed 28 = .ok (.iastore, 1) := by decide +kernel
theorem dX4_noteDeed_29 : decode cX4_noteDeed 29 = .ok (.aload_n 0, 1) := by decide +kernel
theorem dX4_noteDeed_30 : decode cX4_noteDeed 30 = .ok (.getfield 36, 3) := by decide +kernel
theorem dX4_noteDeed_33 : decode cX4_noteDeed 33 = .ok (.aload_n 0, 1) := by decide +kernel
theorem dX4_noteDeed_34 : decode cX4_noteDeed 34 = .ok (.getfield 46, 3) := by decide +kernel
theorem dX4_noteDeed_37 : decode cX4_noteDeed 37 = .ok (.iload_n 3, 1) := by decide +kernel
theorem dX4_noteDeed_38 : decode cX4_noteDeed 38 = .ok (.iastore, 1) := by decide +kernel
theorem dX4_noteDeed_39 : decode cX4_noteDeed 39 = .ok (.aload_n 0, 1) := by decide +kernel
theorem dX4_noteDeed_40 : decode cX4_noteDeed 40 = .ok (.dup, 1) := by decide +kernel
theorem dX4_noteDeed_41 : decode cX4_noteDeed 41 = .ok (.getfield 46, 3) := by decide +kernel
theorem dX4_noteDeed_44 : decode cX4_noteDeed 44 = .ok (.iconst 1, 1) := by decide +kernel
theorem dX4_noteDeed_45 : decode cX4_noteDeed 45 = .ok (.iadd, 1) := by decide +kernel
theorem dX4_noteDeed_46 : decode cX4_noteDeed 46 = .ok (.putfield 46, 3) := by decide +kernel
theorem dX4_noteDeed_49 : decode cX4_noteDeed 49 = .ok (.return_, 1) := by decide +kernel
set_option maxRecDepth 20000 in
theorem ggX4_toHand_X4_changeLying : GoodIn wsX4_toHand wsX4_changeLying := goodIn_r _ [7, 8, 9, 14, 15, 16, 17, 18, 19, 20, 21, 22, 23, 24, 25, 26] (by decide +kernel) (by decide +kernel)
set_option maxRecDepth 20000 in
theorem gX4_toHand_X4_changeLying : GoodIn wsX4_toHand (wsV RX4 106 RX4 yX4_changeLying wsX4_changeLying) := goodIn_app (goodIn_of _ (by decide +kernel)) ggX4_toHand_X4_changeLying
set_option maxRecDepth 20000 in
theorem ggX4_toHand_X5_partSize : GoodIn wsX4_toHand wsX5_partSize := goodIn_r _ [12, 13] (by decide +kernel) (by decide +kernel)
set_option maxRecDepth 20000 in
theorem gX4_toHand_X5_partSize_n146 : GoodIn wsX4_toHand (wsX5_partSize) := ggX4_toHand_X5_partSize
theorem dX4_toHand_0 : decode cX4_toHand 0 = .ok (.aload_n 0, 1) := by decide +kernel
theorem dX4_toHand_1 : decode cX4_toHand 1 = .ok (.iload_n 2, 1) := by decide +kernel
theorem dX4_toHand_2 : decode cX4_toHand 2 = .ok (.iconst (-1), 1) := by decide +kernel
theorem dX4_toHand_3 : decode cX4_toHand 3 = .ok (.invokevirtual 106, 3) := by decide +kernel
theorem dX4_toHand_6 : decode cX4_toHand 6 = .ok (.aload_n 0, 1) := by decide +kernel
theorem dX4_toHand_7 : decode cX4_toHand 7 = .ok (.getfield 24, 3) := by decide +kernel
theorem dX4_toHand_10 : decode cX4_toHand 10 = .ok (.iload_n 1, 1) := by decide +kernel
theorem dX4_toHand_11 : decode cX4_toHand 11 = .ok (.dup2, 1) := by decide +kernel
theorem dX4_toHand_12 : decode cX4_toHand 12 = .ok (.iaload, 1) := by decide +kernel
theorem dX4_toHand_13 : decode cX4_toHand 13 = .ok (.iconst 1, 1) := by decide +kernel
theorem dX4_toHand_14 : decode cX4_toHand 14 = .ok (.iload_n 2, 1) := by decide +kernel
theorem dX4_toHand_15 : decode cX4_toHand 15 = .ok (.ishl, 1) := by decide +kernel
theorem dX4_toHand_16 : decode cX4_toHand 16 = .ok (.ior, 1) := by decide +kernel
theorem dX4_toHand_17 : decode cX4_toHand 17 = .ok (.iastore, 1) := by decide +kernel
theorem dX4_toHand_18 : decode cX4_toHand 18 = .ok (.aload_n 0, 1) := by decide +kernel
theorem dX4_toHand_19 : decode cX4_toHand 19 = .ok (.getfield 27, 3) := by decide +kernel
theorem dX4_toHand_22 : decode cX4_toHand 22 = .ok (.iload_n 1, 1) := by decide +kernel
theorem dX4_toHand_23 : decode cX4_toHand 23 = .ok (.dup2, 1) := by decide +kernel
theorem dX4_toHand_24 : decode cX4_toHand 24 = .ok (.iaload, 1) := by decide +kernel
theorem dX4_toHand_25 : decode cX4_toHand 25 = .ok (.iload_n 2, 1) := by decide +kernel
theorem dX4_toHand_26 : decode cX4_toHand 26 = .ok (.invokestatic 146, 3) := by decide +kernel
theorem dX4_toHand_29 : decode cX4_toHand 29 = .ok (.isub, 1) := by decide +kernel
theorem dX4_toHand_30 : decode cX4_toHand 30 = .ok (.iastore, 1) := by decide +kernel
theorem dX4_toHand_31 : decode cX4_toHand 31 = .ok (.return_, 1) := by decide +kernel
set_option maxRecDepth 20000 in
theorem ggX4_fromHand_X4_changeLying : GoodIn wsX4_fromHand wsX4_changeLying := goodIn_r _ [7, 8, 9, 14, 15, 16, 17, 18, 19, 20, 21, 22, 23, 24, 25, 26] (by decide +kernel) (by decide +kernel)
set_option maxRecDepth 20000 in
theorem gX4_fromHand_X4_changeLying : GoodIn wsX4_fromHand (wsV RX4 106 RX4 yX4_changeLying wsX4_changeLying) := goodIn_app (goodIn_of _ (by decide +kernel)) ggX4_fromHand_X4_changeLying
set_option maxRecDepth 20000 in
theorem ggX4_fromHand_X5_partSize : GoodIn wsX4_fromHand wsX5_partSize := goodIn_r _ [12, 13] (by decide +kernel) (by decide +kernel)
set_option maxRecDepth 20000 in
theorem gX4_fromHand_X5_partSize_n146 : GoodIn wsX4_fromHand (wsX5_partSize) := ggX4_fromHand_X5_partSize
theorem dX4_fromHand_0 : decode cX4_fromHand 0 = .ok (.aload_n 0, 1) := by decide +kernel
theorem dX4_fromHand_1 : decode cX4_fromHand 1 = .ok (.iload_n 2, 1) := by decide +kernel
theorem dX4_fromHand_2 : decode cX4_fromHand 2 = .ok (.iconst 1, 1) := by decide +kernel
theorem dX4_fromHand_3 : decode cX4_fromHand 3 = .ok (.invokevirtual 106, 3) := by decide +kernel
theorem dX4_fromHand_6 : decode cX4_fromHand 6 = .ok (.aload_n 0, 1) := by decide +kernel
theorem dX4_fromHand_7 : decode cX4_fromHand 7 = .ok (.getfield 24, 3) := by decide +kernel
theorem dX4_fromHand_10 : decode cX4_fromHand 10 = .ok (.iload_n 1, 1) := by decide +kernel
theorem dX4_fromHand_11 : decode cX4_fromHand 11 = .ok (.dup2, 1) := by decide +kernel
theorem dX4_fromHand_12 : decode cX4_fromHand 12 = .ok (.iaload, 1) := by decide +kernel
theorem dX4_fromHand_13 : decode cX4_fromHand 13 = .ok (.iconst 1, 1) := by decide +kernel
theorem dX4_fromHand_14 : decode cX4_fromHand 14 = .ok (.iload_n 2, 1) := by decide +kernel
theorem dX4_fromHand_15 : decode cX4_fromHand 15 = .ok (.ishl, 1) := by decide +kernel
theorem dX4_fromHand_16 : decode cX4_fromHand 16 = .ok (.iconst (-1), 1) := by decide +kernel
theorem dX4_fromHand_17 : decode cX4_fromHand 17 = .ok (.ixor, 1) := by decide +kernel
theorem dX4_fromHand_18 : decode cX4_fromHand 18 = .ok (.iand, 1) := by decide +kernel
theorem dX4_fromHand_19 : decode cX4_fromHand 19 = .ok (.iastore, 1) := by decide +kernel
theorem dX4_fromHand_20 : decode cX4_fromHand 20 = .ok (.aload_n 0, 1) := by decide +kernel
theorem dX4_fromHand_21 : decode cX4_fromHand 21 = .ok (.getfield 27, 3) := by decide +kernel
theorem dX4_fromHand_24 : decode cX4_fromHand 24 = .ok (.iload_n 1, 1) := by decide +kernel
theorem dX4_fromHand_25 : decode cX4_fromHand 25 = .ok (.dup2, 1) := by decide +kernel
theorem dX4_fromHand_26 : decode cX4_fromHand 26 = .ok (.iaload, 1) := by decide +kernel
theorem dX4_fromHand_27 : decode cX4_fromHand 27 = .ok (.iload_n 2, 1) := by decide +kernel
theorem dX4_fromHand_28 : decode cX4_fromHand 28 = .ok (.invokestatic 146, 3) := by decide +kernel
theorem dX4_fromHand_31 : decode cX4_fromHand 31 = .ok (.iadd, 1) := by decide +kernel
theorem dX4_fromHand_32 : decode cX4_fromHand 32 = .ok (.iastore, 1) := by decide +kernel
theorem dX4_fromHand_33 : decode cX4_fromHand 33 = .ok (.return_, 1) := by decide +kernel
theorem dX4_changeLying_0 : decode cX4_changeLying 0 = .ok (.aload_n 0, 1) := by decide +kernel
theorem dX4_changeLying_1 : decode cX4_changeLying 1 = .ok (.getfield 9, 3) := by decide +kernel
theorem dX4_changeLying_4 : decode cX4_changeLying 4 = .ok (.iload_n 1, 1) := by decide +kernel
theorem dX4_changeLying_5 : decode cX4_changeLying 5 = .ok (.dup2, 1) := by decide +kernel
theorem dX4_changeLying_6 : decode cX4_changeLying 6 = .ok (.iaload, 1) := by decide +kernel
theorem dX4_changeLying_7 : decode cX4_changeLying 7 = .ok (.iload_n 2, 1) := by decide +kernel
theorem dX4_changeLying_8 : decode cX4_changeLying 8 = .ok (.iadd, 1) := by decide +kernel
theorem dX4_changeLying_9 : decode cX4_changeLying 9 = .ok (.iastore, 1) := by decide +kernel
theorem dX4_changeLying_10 : decode cX4_changeLying 10 = .ok (.aload_n 0, 1) := by decide +kernel
theorem dX4_changeLying_11 : decode cX4_changeLying 11 = .ok (.aload_n 0, 1) := by decide +kernel
theorem dX4_changeLying_12 : decode cX4_changeLying 12 = .ok (.getfield 9, 3) := by decide +kernel
theorem dX4_changeLying_15 : decode cX4_changeLying 15 = .ok (.iload_n 1, 1) := by decide +kernel
theorem dX4_changeLying_16 : decode cX4_changeLying 16 = .ok (.iaload, 1) := by decide +kernel
theorem dX4_changeLying_17 : decode cX4_changeLying 17 = .ok (.ifCond .le 14, 3) := by decide +kernel
theorem dX4_changeLying_20 : decode cX4_changeLying 20 = .ok (.aload_n 0, 1) := by decide +kernel
theorem dX4_changeLying_21 : decode cX4_changeLying 21 = .ok (.getfield 49, 3) := by decide +kernel
theorem dX4_changeLying_24 : decode cX4_changeLying 24 = .ok (.iconst 1, 1) := by decide +kernel
theorem dX4_changeLying_25 : decode cX4_changeLying 25 = .ok (.iload_n 1, 1) := by decide +kernel
theorem dX4_changeLying_26 : decode cX4_changeLying 26 = .ok (.ishl, 1) := by decide +kernel
theorem dX4_changeLying_27 : decode cX4_changeLying 27 = .ok (.ior, 1) := by decide +kernel
theorem dX4_changeLying_28 : decode cX4_changeLying 28 = .ok (.goto 13, 3) := by decide +kernel
theorem dX4_changeLying_31 : decode cX4_changeLying 31 = .ok (.aload_n 0, 1) := by decide +kernel
theorem dX4_changeLying_32 : decode cX4_changeLying 32 = .ok (.getfield 49, 3) := by decide +kernel
theorem dX4_changeLying_35 : decode cX4_changeLying 35 = .ok (.iconst 1, 1) := by decide +kernel
theorem dX4_changeLying_36 : decode cX4_changeLying 36 = .ok (.iload_n 1, 1) := by decide +kernel
theorem dX4_changeLying_37 : decode cX4_changeLying 37 = .ok (.ishl, 1) := by decide +kernel
theorem dX4_changeLying_38 : decode cX4_changeLying 38 = .ok (.iconst (-1), 1) := by decide +kernel
theorem dX4_changeLying_39 : decode cX4_changeLying 39 = .ok (.ixor, 1) := by decide +kernel
theorem dX4_changeLying_40 : decode cX4_changeLying 40 = .ok (.iand, 1) := by decide +kernel
theorem dX4_changeLying_41 : decode cX4_changeLying 41 = .ok (.putfield 49, 3) := by decide +kernel
theorem dX4_changeLying_44 : decode cX4_changeLying 44 = .ok (.return_, 1) := by decide +kernel
set_option maxRecDepth 20000 in
theorem ggX4_gainByTurns_X4_bestGain : GoodIn wsX4_gainByTurns wsX4_bestGain := goodIn_r _ [6, 7, 8, 9, 10, 11, 12, 13, 5, 14, 15, 16, 17, 18, 19, 20, 21, 22, 23, 24, 25, 26, 27, 28, 29, 30, 31, 32, 33, 34, 35, 36, 37, 38, 39, 40, 41, 42, 43, 44, 45, 46, 47, 48, 49, 50, 51, 52, 53, 54, 55, 56, 57, 2, 3, 4, 58, 59, 60, 61, 62, 63, 64, 65, 66, 67, 68, 69, 70, 71, 72, 73, 74] (by decide +kernel) (by decide +kernel)
set_option maxRecDepth 20000 in
theorem gX4_gainByTurns_X4_bestGain : GoodIn wsX4_gainByTurns (wsV RX4 150 RX4 yX4_bestGain wsX4_bestGain) := goodIn_app (goodIn_of _ (by decide +kernel)) ggX4_gainByTurns_X4_bestGain
theorem dX4_gainByTurns_0 : decode cX4_gainByTurns 0 = .ok (.ldc 149, 2) := by decide +kernel
theorem dX4_gainByTurns_2 : decode cX4_gainByTurns 2 = .ok (.istore 4, 2) := by decide +kernel
theorem dX4_gainByTurns_4 : decode cX4_gainByTurns 4 = .ok (.aload_n 0, 1) := by decide +kernel
theorem dX4_gainByTurns_5 : decode cX4_gainByTurns 5 = .ok (.iload_n 1, 1) := by decide +kernel
theorem dX4_gainByTurns_6 : decode cX4_gainByTurns 6 = .ok (.iload_n 2, 1) := by decide +kernel
theorem dX4_gainByTurns_7 : decode cX4_gainByTurns 7 = .ok (.iload_n 3, 1) := by decide +kernel
theorem dX4_gainByTurns_8 : decode cX4_gainByTurns 8 = .ok (.iload 4, 2) := by decide +kernel
theorem dX4_gainByTurns_10 : decode cX4_gainByTurns 10 = .ok (.ineg, 1) := by decide +kernel
theorem dX4_gainByTurns_11 : decode cX4_gainByTurns 11 = .ok (.iload 4, 2) := by decide +kernel
theorem dX4_gainByTurns_13 : decode cX4_gainByTurns 13 = .ok (.invokevirtual 150, 3) := by decide +kernel
theorem dX4_gainByTurns_16 : decode cX4_gainByTurns 16 = .ok (.ireturn, 1) := by decide +kernel
set_option maxRecDepth 20000 in
theorem ggX4_bestGain_X4_fitFor : GoodIn wsX4_bestGain wsX4_fitFor := goodIn_r _ [9, 10, 11, 12, 13, 14, 8, 15, 16, 17, 18, 19, 20, 21, 22, 23, 24, 25, 26, 27, 28, 29, 30, 31, 1, 2, 3, 4, 32, 60, 61, 62, 63, 64, 65, 66, 67, 68, 69, 70, 71, 72] (by decide +kernel) (by decide +kernel)
set_option maxRecDepth 20000 in
theorem gX4_bestGain_X4_fitFor : GoodIn wsX4_bestGain (wsV RX4 91 RX4 yX4_fitFor wsX4_fitFor) := goodIn_app (goodIn_of _ (by decide +kernel)) ggX4_bestGain_X4_fitFor
set_option maxRecDepth 20000 in
theorem ggX4_bestGain_J6_numberOfTrailingZeros_0f7a4 : GoodIn wsX4_bestGain wsJ6_numberOfTrailingZeros_0f7a4 := goodIn_r _ [36, 37] (by decide +kernel) (by decide +kernel)
set_option maxRecDepth 20000 in
theorem gX4_bestGain_J6_numberOfTrailingZeros_0f7a4 : GoodIn wsX4_bestGain (va_wsS RX4 154 yJ6_numberOfTrailingZeros_0f7a4 wsJ6_numberOfTrailingZeros_0f7a4) := goodIn_app (goodIn_of _ (by decide +kernel)) ggX4_bestGain_J6_numberOfTrailingZeros_0f7a4
set_option maxRecDepth 20000 in
theorem ggX4_bestGain_X5_partSize : GoodIn wsX4_bestGain wsX5_partSize := goodIn_r _ [40, 41] (by decide +kernel) (by decide +kernel)
set_option maxRecDepth 20000 in
theorem gX4_bestGain_X5_partSize_n146 : GoodIn wsX4_bestGain (wsX5_partSize) := ggX4_bestGain_X5_partSize
set_option maxRecDepth 20000 in
theorem ggX4_bestGain_X5_holds : GoodIn wsX4_bestGain wsX5_holds := goodIn_r _ [43] (by decide +kernel) (by decide +kernel)
set_option maxRecDepth 20000 in
theorem gX4_bestGain_X5_holds_n103 : GoodIn wsX4_bestGain (wsX5_holds) := ggX4_bestGain_X5_holds
set_option maxRecDepth 20000 in
theorem ggX4_bestGain_X4_toHand : GoodIn wsX4_bestGain wsX4_toHand := goodIn_r _ [47, 17, 11, 48, 49, 50, 8, 51, 52, 10, 38, 39, 40, 41, 60, 61, 62, 63, 64, 65, 66, 67, 68, 69, 70, 71, 72] (by decide +kernel) (by decide +kernel)
set_option maxRecDepth 20000 in
theorem gX4_bestGain_X4_toHand : GoodIn wsX4_bestGain (wsV RX4 114 RX4 yX4_toHand wsX4_toHand) := goodIn_app (goodIn_of _ (by decide +kernel)) ggX4_bestGain_X4_toHand
set_option maxRecDepth 20000 in
theorem ggX4_bestGain_X4_bestGain : GoodIn wsX4_bestGain wsX4_bestGain := goodIn_r _ [0, 1, 2, 3, 4, 5, 6, 7, 8, 9, 10, 11, 12, 13, 14, 15, 16, 17, 18, 19, 20, 21, 22, 23, 24, 25, 26, 27, 28, 29, 30, 31, 32, 33, 34, 35, 36, 37, 38, 39, 40, 41, 42, 43, 44, 45, 46, 47, 48, 49, 50, 51, 52, 53, 54, 55, 56, 57, 58, 59, 60, 61, 62, 63, 64, 65, 66, 67, 68, 69, 70, 71, 72] (by decide +kernel) (by decide +kernel)
set_option maxRecDepth 20000 in
theorem gX4_bestGain_X4_bestGain : GoodIn wsX4_bestGain (wsV RX4 150 RX4 yX4_bestGain wsX4_bestGain) := goodIn_app (goodIn_of _ (by decide +kernel)) ggX4_bestGain_X4_bestGain
set_option maxRecDepth 20000 in
theorem ggX4_bestGain_X4_fromHand : GoodIn wsX4_bestGain wsX4_fromHand := goodIn_r _ [59, 17, 11, 48, 49, 50, 8, 51, 52, 10, 38, 39, 40, 41, 60, 61, 62, 63, 64, 65, 66, 67, 68, 69, 70, 71, 72] (by decide +kernel) (by decide +kernel)
set_option maxRecDepth 20000 in
theorem gX4_bestGain_X4_fromHand : GoodIn wsX4_bestGain (wsV RX4 117 RX4 yX4_fromHand wsX4_fromHand) := goodIn_app (goodIn_of _ (by decide +kernel)) ggX4_bestGain_X4_fromHand
theorem dX4_bestGain_0 : decode cX4_bestGain 0 = .ok (.iload_n 3, 1) := by decide +kernel
theorem dX4_bestGain_1 : decode cX4_bestGain 1 = .ok (.ifCond .gt 5, 3) := by decide +kernel
theorem dX4_bestGain_4 : decode cX4_bestGain 4 = .ok (.iconst 0, 1) := by decide +kernel
theorem dX4_bestGain_5 : decode cX4_bestGain 5 = .ok (.ireturn, 1) := by decide +kernel
theorem dX4_bestGain_6 : decode cX4_bestGain 6 = .ok (.aload_n 0, 1) := by decide +kernel
theorem dX4_bestGain_7 : decode cX4_bestGain 7 = .ok (.iload_n 1, 1) := by decide +kernel
theorem dX4_bestGain_8 : decode cX4_bestGain 8 = .ok (.invokevirtual 91, 3) := by decide +kernel
theorem dX4_bestGain_11 : decode cX4_bestGain 11 = .ok (.istore 6, 2) := by decide +kernel
theorem dX4_bestGain_13 : decode cX4_bestGain 13 = .ok (.iload_n 3, 1) := by decide +kernel
theorem dX4_bestGain_14 : decode cX4_bestGain 14 = .ok (.iconst 1, 1) := by decide +kernel
theorem dX4_bestGain_15 : decode cX4_bestGain 15 = .ok (.if_icmp .ne 21, 3) := by decide +kernel
theorem dX4_bestGain_18 : decode cX4_bestGain 18 = .ok (.iload 6, 2) := by decide +kernel
theorem dX4_bestGain_20 : decode cX4_bestGain 20 = .ok (.ifCond .ne 7, 3) := by decide +kernel
theorem dX4_bestGain_23 : decode cX4_bestGain 23 = .ok (.iconst 0, 1) := by decide +kernel
theorem dX4_bestGain_24 : decode cX4_bestGain 24 = .ok (.goto 11, 3) := by decide +kernel
theorem dX4_bestGain_27 : decode cX4_bestGain 27 = .ok (.iload 6, 2) := by decide +kernel
theorem dX4_bestGain_29 : decode cX4_bestGain 29 = .ok (.invokestatic 154, 3) := by decide +kernel
theorem dX4_bestGain_32 : decode cX4_bestGain 32 = .ok (.invokestatic 146, 3) := by decide +kernel
theorem dX4_bestGain_35 : decode cX4_bestGain 35 = .ok (.ireturn, 1) := by decide +kernel
theorem dX4_bestGain_36 : decode cX4_bestGain 36 = .ok (.iload 4, 2) := by decide +kernel
theorem dX4_bestGain_38 : decode cX4_bestGain 38 = .ok (.istore 7, 2) := by decide +kernel
theorem dX4_bestGain_40 : decode cX4_bestGain 40 = .ok (.iconst 2, 1) := by decide +kernel
theorem dX4_bestGain_41 : decode cX4_bestGain 41 = .ok (.istore 8, 2) := by decide +kernel
theorem dX4_bestGain_43 : decode cX4_bestGain 43 = .ok (.iload 8, 2) := by decide +kernel
theorem dX4_bestGain_45 : decode cX4_bestGain 45 = .ok (.bipush 16, 2) := by decide +kernel
theorem dX4_bestGain_47 : decode cX4_bestGain 47 = .ok (.if_icmp .gt 76, 3) := by decide +kernel
theorem dX4_bestGain_50 : decode cX4_bestGain 50 = .ok (.iload 7, 2) := by decide +kernel
theorem dX4_bestGain_52 : decode cX4_bestGain 52 = .ok (.iload 5, 2) := by decide +kernel
theorem dX4_bestGain_54 : decode cX4_bestGain 54 = .ok (.if_icmp .ge 69, 3) := by decide +kernel
theorem dX4_bestGain_57 : decode cX4_bestGain 57 = .ok (.iload 6, 2) := by decide +kernel
theorem dX4_bestGain_59 : decode cX4_bestGain 59 = .ok (.iload 8, 2) := by decide +kernel
theorem dX4_bestGain_61 : decode cX4_bestGain 61 = .ok (.invokestatic 103, 3) := by decide +kernel
theorem dX4_bestGain_64 : decode cX4_bestGain 64 = .ok (.ifCond .eq 53, 3) := by decide +kernel
theorem dX4_bestGain_67 : decode cX4_bestGain 67 = .ok (.iload 8, 2) := by decide +kernel
theorem dX4_bestGain_69 : decode cX4_bestGain 69 = .ok (.invokestatic 146, 3) := by decide +kernel
theorem dX4_bestGain_72 : decode cX4_bestGain 72 = .ok (.istore 9, 2) := by decide +kernel
theorem dX4_bestGain_74 : decode cX4_bestGain 74 = .ok (.aload_n 0, 1) := by decide +kernel
theorem dX4_bestGain_75 : decode cX4_bestGain 75 = .ok (.iload_n 1, 1) := by decide +kernel
theorem dX4_bestGain_76 : decode cX4_bestGain 76 = .ok (.iload 8, 2) := by decide +kernel
theorem dX4_bestGain_78 : decode cX4_bestGain 78 = .ok (.invokevirtual 114, 3) := by decide +kernel
theorem dX4_bestGain_81 : decode cX4_bestGain 81 = .ok (.iload 7, 2) := by decide +kernel
theorem dX4_bestGain_83 : decode cX4_bestGain 83 = .ok (.iload 9, 2) := by decide +kernel
theorem dX4_bestGain_85 : decode cX4_bestGain 85 = .ok (.aload_n 0, 1) := by decide +kernel
theorem dX4_bestGain_86 : decode cX4_bestGain 86 = .ok (.iload_n 2, 1) := by decide +kernel
theorem dX4_bestGain_87 : decode cX4_bestGain 87 = .ok (.iload_n 1, 1) := by decide +kernel
theorem dX4_bestGain_88 : decode cX4_bestGain 88 = .ok (.iload_n 3, 1) := by decide +kernel
theorem dX4_bestGain_89 : decode cX4_bestGain 89 = .ok (.iconst 1, 1) := by decide +kernel
theorem dX4_bestGain_90 : decode cX4_bestGain 90 = .ok (.isub, 1) := by decide +kernel
theorem dX4_bestGain_91 : decode cX4_bestGain 91 = .ok (.iload 9, 2) := by decide +kernel
theorem dX4_bestGain_93 : decode cX4_bestGain 93 = .ok (.iload 5, 2) := by decide +kernel
theorem dX4_bestGain_95 : decode cX4_bestGain 95 = .ok (.isub, 1) := by decide +kernel
theorem dX4_bestGain_96 : decode cX4_bestGain 96 = .ok (.iload 9, 2) := by decide +kernel
theorem dX4_bestGain_98 : decode cX4_bestGain 98 = .ok (.iload 7, 2) := by decide +kernel
theorem dX4_bestGain_100 : decode cX4_bestGain 100 = .ok (.isub, 1) := by decide +kernel
theorem dX4_bestGain_101 : decode cX4_bestGain 101 = .ok (.invokevirtual 150, 3) := by decide +kernel
theorem dX4_bestGain_104 : decode cX4_bestGain 104 = .ok (.isub, 1) := by decide +kernel
theorem dX4_bestGain_105 : decode cX4_bestGain 105 = .ok (.invokestatic 84, 3) := by decide +kernel
theorem dX4_bestGain_108 : decode cX4_bestGain 108 = .ok (.istore 7, 2) := by decide +kernel
theorem dX4_bestGain_110 : decode cX4_bestGain 110 = .ok (.aload_n 0, 1) := by decide +kernel
theorem dX4_bestGain_111 : decode cX4_bestGain 111 = .ok (.iload_n 1, 1) := by decide +kernel
theorem dX4_bestGain_112 : decode cX4_bestGain 112 = .ok (.iload 8, 2) := by decide +kernel
theorem dX4_bestGain_114 : decode cX4_bestGain 114 = .ok (.invokevirtual 117, 3) := by decide +kernel
theorem dX4_bestGain_117 : decode cX4_bestGain 117 = .ok (.iinc 8 1, 3) := by decide +kernel
theorem dX4_bestGain_120 : decode cX4_bestGain 120 = .ok (.goto (-77), 3) := by decide +kernel
theorem dX4_bestGain_123 : decode cX4_bestGain 123 = .ok (.iload 7, 2) := by decide +kernel
theorem dX4_bestGain_125 : decode cX4_bestGain 125 = .ok (.iload 5, 2) := by decide +kernel
theorem dX4_bestGain_127 : decode cX4_bestGain 127 = .ok (.if_icmp .ge 27, 3) := by decide +kernel
theorem dX4_bestGain_130 : decode cX4_bestGain 130 = .ok (.iload 7, 2) := by decide +kernel
theorem dX4_bestGain_132 : decode cX4_bestGain 132 = .ok (.aload_n 0, 1) := by decide +kernel
theorem dX4_bestGain_133 : decode cX4_bestGain 133 = .ok (.iload_n 2, 1) := by decide +kernel
theorem dX4_bestGain_134 : decode cX4_bestGain 134 = .ok (.iload_n 1, 1) := by decide +kernel
theorem dX4_bestGain_135 : decode cX4_bestGain 135 = .ok (.iload_n 3, 1) := by decide +kernel
theorem dX4_bestGain_136 : decode cX4_bestGain 136 = .ok (.iconst 1, 1) := by decide +kernel
theorem dX4_bestGain_137 : decode cX4_bestGain 137 = .ok (.isub, 1) := by decide +kernel
theorem dX4_bestGain_138 : decode cX4_bestGain 138 = .ok (.iload 5, 2) := by decide +kernel
theorem dX4_bestGain_140 : decode cX4_bestGain 140 = .ok (.ineg, 1) := by decide +kernel
theorem dX4_bestGain_141 : decode cX4_bestGain 141 = .ok (.iload 7, 2) := by decide +kernel
theorem dX4_bestGain_143 : decode cX4_bestGain 143 = .ok (.ineg, 1) := by decide +kernel
theorem dX4_bestGain_144 : decode cX4_bestGain 144 = .ok (.invokevirtual 150, 3) := by decide +kernel
theorem dX4_bestGain_147 : decode cX4_bestGain 147 = .ok (.ineg, 1) := by decide +kernel
theorem dX4_bestGain_148 : decode cX4_bestGain 148 = .ok (.invokestatic 84, 3) := by decide +kernel
theorem dX4_bestGain_151 : decode cX4_bestGain 151 = .ok (.goto 5, 3) := by decide +kernel
theorem dX4_bestGain_154 : decode cX4_bestGain 154 = .ok (.iload 7, 2) := by decide +kernel
theorem dX4_bestGain_156 : decode cX4_bestGain 156 = .ok (.ireturn, 1) := by decide +kernel
set_option maxRecDepth 20000 in
theorem ggX5_init_X3_init : GoodIn wsX5_init wsX3_init := goodIn_r _ [28, 29, 2, 3, 30, 31, 32, 33, 34, 22, 35, 36, 58, 59, 60] (by decide +kernel) (by decide +kernel)
set_option maxRecDepth 20000 in
theorem gX5_init_X3_init : GoodIn wsX5_init (wsX3_init) := ggX5_init_X3_init
set_option maxRecDepth 20000 in
theorem ggX5_init_X2_init : GoodIn wsX5_init wsX2_init := goodIn_r _ [38, 39, 2, 3, 22, 40, 41, 42, 73, 74, 75, 76, 77] (by decide +kernel) (by decide +kernel)
set_option maxRecDepth 20000 in
theorem gX5_init_X2_init_n23 : GoodIn wsX5_init (wsX2_init) := ggX5_init_X2_init
set_option maxRecDepth 20000 in
theorem ggX5_init_X4_init : GoodIn wsX5_init wsX4_init := goodIn_r _ [44, 45, 2, 3, 22, 46, 47, 48, 49, 50, 51, 52, 53, 54, 78, 79, 80, 81, 82, 83, 84, 85, 86, 87, 88, 89, 90] (by decide +kernel) (by decide +kernel)
set_option maxRecDepth 20000 in
theorem gX5_init_X4_init_n30 : GoodIn wsX5_init (wsX4_init) := ggX5_init_X4_init
set_option maxRecDepth 20000 in
theorem ggX5_init_X1_init : GoodIn wsX5_init wsX1_init := goodIn_r _ [56, 57, 2, 3] (by decide +kernel) (by decide +kernel)
set_option maxRecDepth 20000 in
theorem gX5_init_X1_init_n41 : GoodIn wsX5_init (wsX1_init) := ggX5_init_X1_init
theorem dX5_init_0 : decode cX5_init 0 = .ok (.aload_n 0, 1) := by decide +kernel
theorem dX5_init_1 : decode cX5_init 1 = .ok (.invokespecial 1, 3) := by decide +kernel
theorem dX5_init_4 : decode cX5_init 4 = .ok (.aload_n 0, 1) := by decide +kernel
theorem dX5_init_5 : decode cX5_init 5 = .ok (.new 7, 3) := by decide +kernel
theorem dX5_init_8 : decode cX5_init 8 = .ok (.dup, 1) := by decide +kernel
theorem dX5_init_9 : decode cX5_init 9 = .ok (.bipush 6, 2) := by decide +kernel
theorem dX5_init_11 : decode cX5_init 11 = .ok (.bipush 40, 2) := by decide +kernel
theorem dX5_init_13 : decode cX5_init 13 = .ok (.invokespecial 11, 3) := by decide +kernel
theorem dX5_init_16 : decode cX5_init 16 = .ok (.putfield 14, 3) := by decide +kernel
theorem dX5_init_19 : decode cX5_init 19 = .ok (.aload_n 0, 1) := by decide +kernel
theorem dX5_init_20 : decode cX5_init 20 = .ok (.new 7, 3) := by decide +kernel
theorem dX5_init_23 : decode cX5_init 23 = .ok (.dup, 1) := by decide +kernel
theorem dX5_init_24 : decode cX5_init 24 = .ok (.iconst 4, 1) := by decide +kernel
theorem dX5_init_25 : decode cX5_init 25 = .ok (.bipush 60, 2) := by decide +kernel
theorem dX5_init_27 : decode cX5_init 27 = .ok (.invokespecial 11, 3) := by decide +kernel
theorem dX5_init_30 : decode cX5_init 30 = .ok (.putfield 18, 3) := by decide +kernel
theorem dX5_init_33 : decode cX5_init 33 = .ok (.aload_n 0, 1) := by decide +kernel
theorem dX5_init_34 : decode cX5_init 34 = .ok (.new 21, 3) := by decide +kernel
theorem dX5_init_37 : decode cX5_init 37 = .ok (.dup, 1) := by decide +kernel
theorem dX5_init_38 : decode cX5_init 38 = .ok (.invokespecial 23, 3) := by decide +kernel
theorem dX5_init_41 : decode cX5_init 41 = .ok (.putfield 24, 3) := by decide +kernel
theorem dX5_init_44 : decode cX5_init 44 = .ok (.aload_n 0, 1) := by decide +kernel
theorem dX5_init_45 : decode cX5_init 45 = .ok (.new 28, 3) := by decide +kernel
theorem dX5_init_48 : decode cX5_init 48 = .ok (.dup, 1) := by decide +kernel
theorem dX5_init_49 : decode cX5_init 49 = .ok (.invokespecial 30, 3) := by decide +kernel
theorem dX5_init_52 : decode cX5_init 52 = .ok (.putfield 31, 3) := by decide +kernel
theorem dX5_init_55 : decode cX5_init 55 = .ok (.aload_n 0, 1) := by decide +kernel
theorem dX5_init_56 : decode cX5_init 56 = .ok (.iconst 3, 1) := by decide +kernel
theorem dX5_init_57 : decode cX5_init 57 = .ok (.anewarray 28, 3) := by decide +kernel
theorem dX5_init_60 : decode cX5_init 60 = .ok (.putfield 35, 3) := by decide +kernel
theorem dX5_init_63 : decode cX5_init 63 = .ok (.iconst 0, 1) := by decide +kernel
theorem dX5_init_64 : decode cX5_init 64 = .ok (.istore_n 1, 1) := by decide +kernel
theorem dX5_init_65 : decode cX5_init 65 = .ok (.iload_n 1, 1) := by decide +kernel
theorem dX5_init_66 : decode cX5_init 66 = .ok (.iconst 3, 1) := by decide +kernel
theorem dX5_init_67 : decode cX5_init 67 = .ok (.if_icmp .ge 22, 3) := by decide +kernel
theorem dX5_init_70 : decode cX5_init 70 = .ok (.aload_n 0, 1) := by decide +kernel
theorem dX5_init_71 : decode cX5_init 71 = .ok (.getfield 35, 3) := by decide +kernel
theorem dX5_init_74 : decode cX5_init 74 = .ok (.iload_n 1, 1) := by decide +kernel
theorem dX5_init_75 : decode cX5_init 75 = .ok (.new 28, 3) := by decide +kernel
theorem dX5_init_78 : decode cX5_init 78 = .ok (.dup, 1) := by decide +kernel
theorem dX5_init_79 : decode cX5_init 79 = .ok (.invokespecial 30, 3) := by decide +kernel
theorem dX5_init_82 : decode cX5_init 82 = .ok (.aastore, 1) := by decide +kernel
theorem dX5_init_83 : decode cX5_init 83 = .ok (.iinc 1 1, 3) := by decide +kernel
theorem dX5_init_86 : decode cX5_init 86 = .ok (.goto (-21), 3) := by decide +kernel
theorem dX5_init_89 : decode cX5_init 89 = .ok (.aload_n 0, 1) := by decide +kernel
theorem dX5_init_90 : decode cX5_init 90 = .ok (.new 39, 3) := by decide +kernel
theorem dX5_init_93 : decode cX5_init 93 = .ok (.dup, 1) := by decide +kernel
theorem dX5_init_94 : decode cX5_init 94 = .ok (.invokespecial 41, 3) := by decide +kernel
theorem dX5_init_97 : decode cX5_init 97 = .ok (.putfield 42, 3) := by decide +kernel
theorem dX5_init_100 : decode cX5_init 100 = .ok (.aload_n 0, 1) := by decide +kernel
theorem dX5_init_101 : decode cX5_init 101 = .ok (.bipush 17, 2) := by decide +kernel
theorem dX5_init_103 : decode cX5_init 103 = .ok (.newarray .int, 2) := by decide +kernel
theorem dX5_init_105 : decode cX5_init 105 = .ok (.putfield 46, 3) := by decide +kernel
theorem dX5_init_108 : decode cX5_init 108 = .ok (.aload_n 0, 1) := by decide +kernel
theorem dX5_init_109 : decode cX5_init 109 = .ok (.bipush 6, 2) := by decide +kernel
theorem dX5_init_111 : decode cX5_init 111 = .ok (.newarray .int, 2) := by decide +kernel
theorem dX5_init_113 : decode cX5_init 113 = .ok (.putfield 50, 3) := by decide +kernel
theorem dX5_init_116 : decode cX5_init 116 = .ok (.aload_n 0, 1) := by decide +kernel
theorem dX5_init_117 : decode cX5_init 117 = .ok (.lconst 1, 1) := by decide +kernel
theorem dX5_init_118 : decode cX5_init 118 = .ok (.putfield 53, 3) := by decide +kernel
theorem dX5_init_121 : decode cX5_init 121 = .ok (.return_, 1) := by decide +kernel
set_option maxRecDepth 20000 in
theorem ggX5_row_X3_isNumber : GoodIn wsX5_row wsX3_isNumber := goodIn_r _ [6, 7, 34, 35, 36] (by decide +kernel) (by decide +kernel)
set_option maxRecDepth 20000 in
theorem gX5_row_X3_isNumber : GoodIn wsX5_row (wsV RX5 57 RX3 yX3_isNumber wsX3_isNumber) := goodIn_app (goodIn_of _ (by decide +kernel)) ggX5_row_X3_isNumber
set_option maxRecDepth 20000 in
theorem ggX5_row_X5_found : GoodIn wsX5_row wsX5_found := goodIn_r _ [12, 13, 14, 22, 23, 24, 25, 26, 27, 28, 29, 30, 31, 32, 33] (by decide +kernel) (by decide +kernel)
set_option maxRecDepth 20000 in
theorem gX5_row_X5_found : GoodIn wsX5_row (wsV RX5 61 RX5 yX5_found wsX5_found) := goodIn_app (goodIn_of _ (by decide +kernel)) ggX5_row_X5_found
set_option maxRecDepth 20000 in
theorem ggX5_row_X3_make : GoodIn wsX5_row wsX3_make := goodIn_r _ [18, 19, 7, 20, 21, 3, 4, 5, 6, 34, 35, 36] (by decide +kernel) (by decide +kernel)
set_option maxRecDepth 20000 in
theorem gX5_row_X3_make : GoodIn wsX5_row (wsV RX5 65 RX3 yX3_make wsX3_make) := goodIn_app (goodIn_of _ (by decide +kernel)) ggX5_row_X3_make
theorem dX5_row_0 : decode cX5_row 0 = .ok (.aload_n 0, 1) := by decide +kernel
theorem dX5_row_1 : decode cX5_row 1 = .ok (.getfield 14, 3) := by decide +kernel
theorem dX5_row_4 : decode cX5_row 4 = .ok (.iload_n 1, 1) := by decide +kernel
theorem dX5_row_5 : decode cX5_row 5 = .ok (.invokevirtual 57, 3) := by decide +kernel
theorem dX5_row_8 : decode cX5_row 8 = .ok (.ifCond .eq 9, 3) := by decide +kernel
theorem dX5_row_11 : decode cX5_row 11 = .ok (.iload_n 2, 1) := by decide +kernel
theorem dX5_row_12 : decode cX5_row 12 = .ok (.bipush 40, 2) := by decide +kernel
theorem dX5_row_14 : decode cX5_row 14 = .ok (.if_icmp .le 5, 3) := by decide +kernel
theorem dX5_row_17 : decode cX5_row 17 = .ok (.iconst (-1), 1) := by decide +kernel
theorem dX5_row_18 : decode cX5_row 18 = .ok (.ireturn, 1) := by decide +kernel
theorem dX5_row_19 : decode cX5_row 19 = .ok (.iload_n 2, 1) := by decide +kernel
theorem dX5_row_20 : decode cX5_row 20 = .ok (.ifCond .ge 9, 3) := by decide +kernel
theorem dX5_row_23 : decode cX5_row 23 = .ok (.aload_n 0, 1) := by decide +kernel
theorem dX5_row_24 : decode cX5_row 24 = .ok (.iconst 5, 1) := by decide +kernel
theorem dX5_row_25 : decode cX5_row 25 = .ok (.invokevirtual 61, 3) := by decide +kernel
theorem dX5_row_28 : decode cX5_row 28 = .ok (.ireturn, 1) := by decide +kernel
theorem dX5_row_29 : decode cX5_row 29 = .ok (.aload_n 0, 1) := by decide +kernel
theorem dX5_row_30 : decode cX5_row 30 = .ok (.getfield 14, 3) := by decide +kernel
theorem dX5_row_33 : decode cX5_row 33 = .ok (.iload_n 1, 1) := by decide +kernel
theorem dX5_row_34 : decode cX5_row 34 = .ok (.iload_n 2, 1) := by decide +kernel
theorem dX5_row_35 : decode cX5_row 35 = .ok (.iconst 0, 1) := by decide +kernel
theorem dX5_row_36 : decode cX5_row 36 = .ok (.invokevirtual 65, 3) := by decide +kernel
theorem dX5_row_39 : decode cX5_row 39 = .ok (.iload_n 2, 1) := by decide +kernel
theorem dX5_row_40 : decode cX5_row 40 = .ok (.ireturn, 1) := by decide +kernel
set_option maxRecDepth 20000 in
theorem ggX5_lay_X5_refusePlace : GoodIn wsX5_lay wsX5_refusePlace := goodIn_r _ [7, 8, 9, 10, 6, 11, 12, 13, 14, 15, 16, 17, 18, 19, 20, 21, 22, 23, 24, 25, 26, 27, 28, 29, 30, 31, 32, 33, 34, 35, 36, 60, 61, 62, 48, 49, 50, 51, 52, 53, 54, 55, 56, 57, 58, 59] (by decide +kernel) (by decide +kernel)
set_option maxRecDepth 20000 in
theorem gX5_lay_X5_refusePlace : GoodIn wsX5_lay (wsV RX5 69 RX5 yX5_refusePlace wsX5_refusePlace) := goodIn_app (goodIn_of _ (by decide +kernel)) ggX5_lay_X5_refusePlace
set_option maxRecDepth 20000 in
theorem ggX5_lay_X3_read : GoodIn wsX5_lay wsX3_read := goodIn_r _ [40, 41, 42, 43, 34, 35, 15, 36, 17, 26, 13, 14, 16, 60, 61, 62] (by decide +kernel) (by decide +kernel)
set_option maxRecDepth 20000 in
theorem gX5_lay_X3_read : GoodIn wsX5_lay (wsV RX5 73 RX3 yX3_read wsX3_read) := goodIn_app (goodIn_of _ (by decide +kernel)) ggX5_lay_X3_read
set_option maxRecDepth 20000 in
theorem ggX5_lay_X3_write : GoodIn wsX5_lay wsX3_write := goodIn_r _ [47, 41, 42, 43, 34, 35, 15, 36, 17, 26, 13, 14, 16, 60, 61, 62] (by decide +kernel) (by decide +kernel)
set_option maxRecDepth 20000 in
theorem gX5_lay_X3_write : GoodIn wsX5_lay (wsV RX5 81 RX3 yX3_write wsX3_write) := goodIn_app (goodIn_of _ (by decide +kernel)) ggX5_lay_X3_write
theorem dX5_lay_0 : decode cX5_lay 0 = .ok (.aload_n 0, 1) := by decide +kernel
theorem dX5_lay_1 : decode cX5_lay 1 = .ok (.aload_n 0, 1) := by decide +kernel
theorem dX5_lay_2 : decode cX5_lay 2 = .ok (.getfield 14, 3) := by decide +kernel
theorem dX5_lay_5 : decode cX5_lay 5 = .ok (.iload_n 1, 1) := by decide +kernel
theorem dX5_lay_6 : decode cX5_lay 6 = .ok (.iload_n 2, 1) := by decide +kernel
theorem dX5_lay_7 : decode cX5_lay 7 = .ok (.invokevirtual 69, 3) := by decide +kernel
theorem dX5_lay_10 : decode cX5_lay 10 = .ok (.istore 4, 2) := by decide +kernel
theorem dX5_lay_12 : decode cX5_lay 12 = .ok (.iload 4, 2) := by decide +kernel
theorem dX5_lay_14 : decode cX5_lay 14 = .ok (.ifCond .eq 6, 3) := by decide +kernel
theorem dX5_lay_17 : decode cX5_lay 17 = .ok (.iload 4, 2) := by decide +kernel
theorem dX5_lay_19 : decode cX5_lay 19 = .ok (.ireturn, 1) := by decide +kernel
theorem dX5_lay_20 : decode cX5_lay 20 = .ok (.aload_n 0, 1) := by decide +kernel
theorem dX5_lay_21 : decode cX5_lay 21 = .ok (.aload_n 0, 1) := by decide +kernel
theorem dX5_lay_22 : decode cX5_lay 22 = .ok (.getfield 14, 3) := by decide +kernel
theorem dX5_lay_25 : decode cX5_lay 25 = .ok (.iload_n 1, 1) := by decide +kernel
theorem dX5_lay_26 : decode cX5_lay 26 = .ok (.iload_n 2, 1) := by decide +kernel
theorem dX5_lay_27 : decode cX5_lay 27 = .ok (.invokevirtual 73, 3) := by decide +kernel
theorem dX5_lay_30 : decode cX5_lay 30 = .ok (.putfield 77, 3) := by decide +kernel
theorem dX5_lay_33 : decode cX5_lay 33 = .ok (.aload_n 0, 1) := by decide +kernel
theorem dX5_lay_34 : decode cX5_lay 34 = .ok (.getfield 14, 3) := by decide +kernel
theorem dX5_lay_37 : decode cX5_lay 37 = .ok (.iload_n 1, 1) := by decide +kernel
theorem dX5_lay_38 : decode cX5_lay 38 = .ok (.iload_n 2, 1) := by decide +kernel
theorem dX5_lay_39 : decode cX5_lay 39 = .ok (.iload_n 3, 1) := by decide +kernel
theorem dX5_lay_40 : decode cX5_lay 40 = .ok (.invokevirtual 81, 3) := by decide +kernel
theorem dX5_lay_43 : decode cX5_lay 43 = .ok (.iconst 1, 1) := by decide +kernel
theorem dX5_lay_44 : decode cX5_lay 44 = .ok (.ireturn, 1) := by decide +kernel
set_option maxRecDepth 20000 in
theorem ggX5_at_X5_refusePlace : GoodIn wsX5_at wsX5_refusePlace := goodIn_r _ [7, 8, 9, 10, 6, 11, 12, 13, 14, 15, 16, 17, 18, 19, 20, 21, 22, 23, 24, 25, 26, 27, 28, 29, 30, 31, 32, 33, 34, 35, 36, 56, 57, 58, 44, 45, 46, 47, 48, 49, 50, 51, 52, 53, 54, 55] (by decide +kernel) (by decide +kernel)
set_option maxRecDepth 20000 in
theorem gX5_at_X5_refusePlace : GoodIn wsX5_at (wsV RX5 69 RX5 yX5_refusePlace wsX5_refusePlace) := goodIn_app (goodIn_of _ (by decide +kernel)) ggX5_at_X5_refusePlace
set_option maxRecDepth 20000 in
theorem ggX5_at_X3_read : GoodIn wsX5_at wsX3_read := goodIn_r _ [40, 41, 42, 43, 34, 35, 15, 36, 17, 26, 13, 14, 16, 56, 57, 58] (by decide +kernel) (by decide +kernel)
set_option maxRecDepth 20000 in
theorem gX5_at_X3_read : GoodIn wsX5_at (wsV RX5 73 RX3 yX3_read wsX3_read) := goodIn_app (goodIn_of _ (by decide +kernel)) ggX5_at_X3_read
theorem dX5_at_0 : decode cX5_at 0 = .ok (.aload_n 0, 1) := by decide +kernel
theorem dX5_at_1 : decode cX5_at 1 = .ok (.aload_n 0, 1) := by decide +kernel
theorem dX5_at_2 : decode cX5_at 2 = .ok (.getfield 14, 3) := by decide +kernel
theorem dX5_at_5 : decode cX5_at 5 = .ok (.iload_n 1, 1) := by decide +kernel
theorem dX5_at_6 : decode cX5_at 6 = .ok (.iload_n 2, 1) := by decide +kernel
theorem dX5_at_7 : decode cX5_at 7 = .ok (.invokevirtual 69, 3) := by decide +kernel
theorem dX5_at_10 : decode cX5_at 10 = .ok (.istore_n 3, 1) := by decide +kernel
theorem dX5_at_11 : decode cX5_at 11 = .ok (.iload_n 3, 1) := by decide +kernel
theorem dX5_at_12 : decode cX5_at 12 = .ok (.ifCond .eq 5, 3) := by decide +kernel
theorem dX5_at_15 : decode cX5_at 15 = .ok (.iload_n 3, 1) := by decide +kernel
theorem dX5_at_16 : decode cX5_at 16 = .ok (.ireturn, 1) := by decide +kernel
theorem dX5_at_17 : decode cX5_at 17 = .ok (.aload_n 0, 1) := by decide +kernel
theorem dX5_at_18 : decode cX5_at 18 = .ok (.aload_n 0, 1) := by decide +kernel
theorem dX5_at_19 : decode cX5_at 19 = .ok (.getfield 14, 3) := by decide +kernel
theorem dX5_at_22 : decode cX5_at 22 = .ok (.iload_n 1, 1) := by decide +kernel
theorem dX5_at_23 : decode cX5_at 23 = .ok (.iload_n 2, 1) := by decide +kernel
theorem dX5_at_24 : decode cX5_at 24 = .ok (.invokevirtual 73, 3) := by decide +kernel
theorem dX5_at_27 : decode cX5_at 27 = .ok (.putfield 77, 3) := by decide +kernel
theorem dX5_at_30 : decode cX5_at 30 = .ok (.iconst 1, 1) := by decide +kernel
theorem dX5_at_31 : decode cX5_at 31 = .ok (.ireturn, 1) := by decide +kernel
set_option maxRecDepth 20000 in
theorem ggX5_tear_X5_refuseMissing : GoodIn wsX5_tear wsX5_refuseMissing := goodIn_r _ [6, 7, 8, 9, 10, 11, 12, 13, 14, 15, 16, 17, 18, 19, 20, 21, 22, 23, 24, 5, 25, 26, 27, 44, 45, 46, 32, 33, 34, 35, 36, 37, 38, 39, 40, 41, 42, 43] (by decide +kernel) (by decide +kernel)
set_option maxRecDepth 20000 in
theorem gX5_tear_X5_refuseMissing : GoodIn wsX5_tear (wsV RX5 84 RX5 yX5_refuseMissing wsX5_refuseMissing) := goodIn_app (goodIn_of _ (by decide +kernel)) ggX5_tear_X5_refuseMissing
set_option maxRecDepth 20000 in
theorem ggX5_tear_X3_drop : GoodIn wsX5_tear wsX3_drop := goodIn_r _ [31, 12, 21, 8, 9, 10, 11, 44, 45, 46] (by decide +kernel) (by decide +kernel)
set_option maxRecDepth 20000 in
theorem gX5_tear_X3_drop : GoodIn wsX5_tear (wsV RX5 88 RX3 yX3_drop wsX3_drop) := goodIn_app (goodIn_of _ (by decide +kernel)) ggX5_tear_X3_drop
theorem dX5_tear_0 : decode cX5_tear 0 = .ok (.aload_n 0, 1) := by decide +kernel
theorem dX5_tear_1 : decode cX5_tear 1 = .ok (.aload_n 0, 1) := by decide +kernel
theorem dX5_tear_2 : decode cX5_tear 2 = .ok (.getfield 14, 3) := by decide +kernel
theorem dX5_tear_5 : decode cX5_tear 5 = .ok (.iload_n 1, 1) := by decide +kernel
theorem dX5_tear_6 : decode cX5_tear 6 = .ok (.invokevirtual 84, 3) := by decide +kernel
theorem dX5_tear_9 : decode cX5_tear 9 = .ok (.istore_n 2, 1) := by decide +kernel
theorem dX5_tear_10 : decode cX5_tear 10 = .ok (.iload_n 2, 1) := by decide +kernel
theorem dX5_tear_11 : decode cX5_tear 11 = .ok (.ifCond .eq 5, 3) := by decide +kernel
theorem dX5_tear_14 : decode cX5_tear 14 = .ok (.iload_n 2, 1) := by decide +kernel
theorem dX5_tear_15 : decode cX5_tear 15 = .ok (.ireturn, 1) := by decide +kernel
theorem dX5_tear_16 : decode cX5_tear 16 = .ok (.aload_n 0, 1) := by decide +kernel
theorem dX5_tear_17 : decode cX5_tear 17 = .ok (.getfield 14, 3) := by decide +kernel
theorem dX5_tear_20 : decode cX5_tear 20 = .ok (.iload_n 1, 1) := by decide +kernel
theorem dX5_tear_21 : decode cX5_tear 21 = .ok (.invokevirtual 88, 3) := by decide +kernel
theorem dX5_tear_24 : decode cX5_tear 24 = .ok (.iconst 1, 1) := by decide +kernel
theorem dX5_tear_25 : decode cX5_tear 25 = .ok (.ireturn, 1) := by decide +kernel
set_option maxRecDepth 20000 in
theorem ggX5_copy_X3_isNumber : GoodIn wsX5_copy wsX3_isNumber := goodIn_r _ [6, 7, 51, 52, 53] (by decide +kernel) (by decide +kernel)
set_option maxRecDepth 20000 in
theorem gX5_copy_X3_isNumber : GoodIn wsX5_copy (wsV RX5 57 RX3 yX3_isNumber wsX3_isNumber) := goodIn_app (goodIn_of _ (by decide +kernel)) ggX5_copy_X3_isNumber
set_option maxRecDepth 20000 in
theorem ggX5_copy_X5_found : GoodIn wsX5_copy wsX5_found := goodIn_r _ [12, 13, 14, 39, 40, 41, 42, 43, 44, 45, 46, 47, 48, 49, 50] (by decide +kernel) (by decide +kernel)
set_option maxRecDepth 20000 in
theorem gX5_copy_X5_found : GoodIn wsX5_copy (wsV RX5 61 RX5 yX5_found wsX5_found) := goodIn_app (goodIn_of _ (by decide +kernel)) ggX5_copy_X5_found
set_option maxRecDepth 20000 in
theorem ggX5_copy_X3_isThere : GoodIn wsX5_copy wsX3_isThere := goodIn_r _ [18, 19, 20, 21, 5, 22, 7, 23, 3, 4, 6, 51, 52, 53] (by decide +kernel) (by decide +kernel)
set_option maxRecDepth 20000 in
theorem gX5_copy_X3_isThere : GoodIn wsX5_copy (wsV RX5 92 RX3 yX3_isThere wsX3_isThere) := goodIn_app (goodIn_of _ (by decide +kernel)) ggX5_copy_X3_isThere
set_option maxRecDepth 20000 in
theorem ggX5_copy_X3_hasStretch : GoodIn wsX5_copy wsX3_hasStretch := goodIn_r _ [27, 19, 20, 21, 5, 22, 7, 23, 3, 4, 6, 51, 52, 53] (by decide +kernel) (by decide +kernel)
set_option maxRecDepth 20000 in
theorem gX5_copy_X3_hasStretch : GoodIn wsX5_copy (wsV RX5 95 RX3 yX3_hasStretch wsX3_hasStretch) := goodIn_app (goodIn_of _ (by decide +kernel)) ggX5_copy_X3_hasStretch
set_option maxRecDepth 20000 in
theorem ggX5_copy_X3_move : GoodIn wsX5_copy wsX3_move := goodIn_r _ [31, 32, 33, 34, 35, 36, 37, 38, 25, 26, 5, 27, 19, 20, 21, 22, 7, 23, 3, 4, 6, 51, 52, 53] (by decide +kernel) (by decide +kernel)
set_option maxRecDepth 20000 in
theorem gX5_copy_X3_move : GoodIn wsX5_copy (wsV RX5 99 RX3 yX3_move wsX3_move) := goodIn_app (goodIn_of _ (by decide +kernel)) ggX5_copy_X3_move
theorem dX5_copy_0 : decode cX5_copy 0 = .ok (.aload_n 0, 1) := by decide +kernel
theorem dX5_copy_1 : decode cX5_copy 1 = .ok (.getfield 14, 3) := by decide +kernel
theorem dX5_copy_4 : decode cX5_copy 4 = .ok (.iload_n 1, 1) := by decide +kernel
theorem dX5_copy_5 : decode cX5_copy 5 = .ok (.invokevirtual 57, 3) := by decide +kernel
theorem dX5_copy_8 : decode cX5_copy 8 = .ok (.ifCond .eq 14, 3) := by decide +kernel
theorem dX5_copy_11 : decode cX5_copy 11 = .ok (.aload_n 0, 1) := by decide +kernel
theorem dX5_copy_12 : decode cX5_copy 12 = .ok (.getfield 14, 3) := by decide +kernel
theorem dX5_copy_15 : decode cX5_copy 15 = .ok (.iload_n 3, 1) := by decide +kernel
theorem dX5_copy_16 : decode cX5_copy 16 = .ok (.invokevirtual 57, 3) := by decide +kernel
theorem dX5_copy_19 : decode cX5_copy 19 = .ok (.ifCond .ne 5, 3) := by decide +kernel
theorem dX5_copy_22 : decode cX5_copy 22 = .ok (.iconst (-1), 1) := by decide +kernel
theorem dX5_copy_23 : decode cX5_copy 23 = .ok (.ireturn, 1) := by decide +kernel
theorem dX5_copy_24 : decode cX5_copy 24 = .ok (.iload 5, 2) := by decide +kernel
theorem dX5_copy_26 : decode cX5_copy 26 = .ok (.ifCond .ge 9, 3) := by decide +kernel
theorem dX5_copy_29 : decode cX5_copy 29 = .ok (.aload_n 0, 1) := by decide +kernel
theorem dX5_copy_30 : decode cX5_copy 30 = .ok (.iconst 5, 1) := by decide +kernel
theorem dX5_copy_31 : decode cX5_copy 31 = .ok (.invokevirtual 61, 3) := by decide +kernel
theorem dX5_copy_34 : decode cX5_copy 34 = .ok (.ireturn, 1) := by decide +kernel
theorem dX5_copy_35 : decode cX5_copy 35 = .ok (.aload_n 0, 1) := by decide +kernel
theorem dX5_copy_36 : decode cX5_copy 36 = .ok (.getfield 14, 3) := by decide +kernel
theorem dX5_copy_39 : decode cX5_copy 39 = .ok (.iload_n 1, 1) := by decide +kernel
theorem dX5_copy_40 : decode cX5_copy 40 = .ok (.invokevirtual 92, 3) := by decide +kernel
theorem dX5_copy_43 : decode cX5_copy 43 = .ok (.ifCond .eq 14, 3) := by decide +kernel
theorem dX5_copy_46 : decode cX5_copy 46 = .ok (.aload_n 0, 1) := by decide +kernel
theorem dX5_copy_47 : decode cX5_copy 47 = .ok (.getfield 14, 3) := by decide +kernel
theorem dX5_copy_50 : decode cX5_copy 50 = .ok (.iload_n 3, 1) := by decide +kernel
theorem dX5_copy_51 : decode cX5_copy 51 = .ok (.invokevirtual 92, 3) := by decide +kernel
theorem dX5_copy_54 : decode cX5_copy 54 = .ok (.ifCond .ne 9, 3) := by decide +kernel
theorem dX5_copy_57 : decode cX5_copy 57 = .ok (.aload_n 0, 1) := by decide +kernel
theorem dX5_copy_58 : decode cX5_copy 58 = .ok (.iconst 1, 1) := by decide +kernel
theorem dX5_copy_59 : decode cX5_copy 59 = .ok (.invokevirtual 61, 3) := by decide +kernel
theorem dX5_copy_62 : decode cX5_copy 62 = .ok (.ireturn, 1) := by decide +kernel
theorem dX5_copy_63 : decode cX5_copy 63 = .ok (.aload_n 0, 1) := by decide +kernel
theorem dX5_copy_64 : decode cX5_copy 64 = .ok (.getfield 14, 3) := by decide +kernel
theorem dX5_copy_67 : decode cX5_copy 67 = .ok (.iload_n 1, 1) := by decide +kernel
theorem dX5_copy_68 : decode cX5_copy 68 = .ok (.iload_n 2, 1) := by decide +kernel
theorem dX5_copy_69 : decode cX5_copy 69 = .ok (.iload 5, 2) := by decide +kernel
theorem dX5_copy_71 : decode cX5_copy 71 = .ok (.invokevirtual 95, 3) := by decide +kernel
theorem dX5_copy_74 : decode cX5_copy 74 = .ok (.ifCond .eq 18, 3) := by decide +kernel
theorem dX5_copy_77 : decode cX5_copy 77 = .ok (.aload_n 0, 1) := by decide +kernel
theorem dX5_copy_78 : decode cX5_copy 78 = .ok (.getfield 14, 3) := by decide +kernel
theorem dX5_copy_81 : decode cX5_copy 81 = .ok (.iload_n 3, 1) := by decide +kernel
theorem dX5_copy_82 : decode cX5_copy 82 = .ok (.iload 4, 2) := by decide +kernel
theorem dX5_copy_84 : decode cX5_copy 84 = .ok (.iload 5, 2) := by decide +kernel
theorem dX5_copy_86 : decode cX5_copy 86 = .ok (.invokevirtual 95, 3) := by decide +kernel
theorem dX5_copy_89 : decode cX5_copy 89 = .ok (.ifCond .ne 9, 3) := by decide +kernel
theorem dX5_copy_92 : decode cX5_copy 92 = .ok (.aload_n 0, 1) := by decide +kernel
theorem dX5_copy_93 : decode cX5_copy 93 = .ok (.iconst 2, 1) := by decide +kernel
theorem dX5_copy_94 : decode cX5_copy 94 = .ok (.invokevirtual 61, 3) := by decide +kernel
theorem dX5_copy_97 : decode cX5_copy 97 = .ok (.ireturn, 1) := by decide +kernel
theorem dX5_copy_98 : decode cX5_copy 98 = .ok (.aload_n 0, 1) := by decide +kernel
theorem dX5_copy_99 : decode cX5_copy 99 = .ok (.getfield 14, 3) := by decide +kernel
theorem dX5_copy_102 : decode cX5_copy 102 = .ok (.iload_n 1, 1) := by decide +kernel
theorem dX5_copy_103 : decode cX5_copy 103 = .ok (.iload_n 2, 1) := by decide +kernel
theorem dX5_copy_104 : decode cX5_copy 104 = .ok (.iload_n 3, 1) := by decide +kernel
theorem dX5_copy_105 : decode cX5_copy 105 = .ok (.iload 4, 2) := by decide +kernel
theorem dX5_copy_107 : decode cX5_copy 107 = .ok (.iload 5, 2) := by decide +kernel
theorem dX5_copy_109 : decode cX5_copy 109 = .ok (.invokevirtual 99, 3) := by decide +kernel
theorem dX5_copy_112 : decode cX5_copy 112 = .ok (.iconst 1, 1) := by decide +kernel
theorem dX5_copy_113 : decode cX5_copy 113 = .ok (.ireturn, 1) := by decide +kernel
set_option maxRecDepth 20000 in
theorem ggX5_mean_X5_refuseMissing : GoodIn wsX5_mean wsX5_refuseMissing := goodIn_r _ [7, 8, 9, 10, 11, 12, 13, 14, 15, 16, 17, 18, 19, 20, 21, 22, 23, 24, 25, 6, 26, 27, 28, 52, 53, 54, 40, 41, 42, 43, 44, 45, 46, 47, 48, 49, 50, 51] (by decide +kernel) (by decide +kernel)
set_option maxRecDepth 20000 in
theorem gX5_mean_X5_refuseMissing : GoodIn wsX5_mean (wsV RX5 84 RX5 yX5_refuseMissing wsX5_refuseMissing) := goodIn_app (goodIn_of _ (by decide +kernel)) ggX5_mean_X5_refuseMissing
set_option maxRecDepth 20000 in
theorem ggX5_mean_X3_sizeOf : GoodIn wsX5_mean wsX3_sizeOf := goodIn_r _ [21, 13, 22, 9, 10, 11, 12, 52, 53, 54] (by decide +kernel) (by decide +kernel)
set_option maxRecDepth 20000 in
theorem gX5_mean_X3_sizeOf : GoodIn wsX5_mean (wsV RX5 103 RX3 yX3_sizeOf wsX3_sizeOf) := goodIn_app (goodIn_of _ (by decide +kernel)) ggX5_mean_X3_sizeOf
set_option maxRecDepth 20000 in
theorem ggX5_mean_X5_found : GoodIn wsX5_mean wsX5_found := goodIn_r _ [26, 27, 28, 40, 41, 42, 43, 44, 45, 46, 47, 48, 49, 50, 51] (by decide +kernel) (by decide +kernel)
set_option maxRecDepth 20000 in
theorem gX5_mean_X5_found : GoodIn wsX5_mean (wsV RX5 61 RX5 yX5_found wsX5_found) := goodIn_app (goodIn_of _ (by decide +kernel)) ggX5_mean_X5_found
set_option maxRecDepth 20000 in
theorem ggX5_mean_X3_read : GoodIn wsX5_mean wsX3_read := goodIn_r _ [33, 34, 35, 36, 37, 38, 11, 39, 13, 22, 9, 10, 12, 52, 53, 54] (by decide +kernel) (by decide +kernel)
set_option maxRecDepth 20000 in
theorem gX5_mean_X3_read : GoodIn wsX5_mean (wsV RX5 73 RX3 yX3_read wsX3_read) := goodIn_app (goodIn_of _ (by decide +kernel)) ggX5_mean_X3_read
theorem dX5_mean_0 : decode cX5_mean 0 = .ok (.aload_n 0, 1) := by decide +kernel
theorem dX5_mean_1 : decode cX5_mean 1 = .ok (.aload_n 0, 1) := by decide +kernel
theorem dX5_mean_2 : decode cX5_mean 2 = .ok (.getfield 14, 3) := by decide +kernel
theorem dX5_mean_5 : decode cX5_mean 5 = .ok (.iload_n 1, 1) := by decide +kernel
theorem dX5_mean_6 : decode cX5_mean 6 = .ok (.invokevirtual 84, 3) := by decide +kernel
theorem dX5_mean_9 : decode cX5_mean 9 = .ok (.istore_n 2, 1) := by decide +kernel
theorem dX5_mean_10 : decode cX5_mean 10 = .ok (.iload_n 2, 1) := by decide +kernel
theorem dX5_mean_11 : decode cX5_mean 11 = .ok (.ifCond .eq 5, 3) := by decide +kernel
theorem dX5_mean_14 : decode cX5_mean 14 = .ok (.iload_n 2, 1) := by decide +kernel
theorem dX5_mean_15 : decode cX5_mean 15 = .ok (.ireturn, 1) := by decide +kernel
theorem dX5_mean_16 : decode cX5_mean 16 = .ok (.aload_n 0, 1) := by decide +kernel
theorem dX5_mean_17 : decode cX5_mean 17 = .ok (.getfield 14, 3) := by decide +kernel
theorem dX5_mean_20 : decode cX5_mean 20 = .ok (.iload_n 1, 1) := by decide +kernel
theorem dX5_mean_21 : decode cX5_mean 21 = .ok (.invokevirtual 103, 3) := by decide +kernel
theorem dX5_mean_24 : decode cX5_mean 24 = .ok (.istore_n 3, 1) := by decide +kernel
theorem dX5_mean_25 : decode cX5_mean 25 = .ok (.iload_n 3, 1) := by decide +kernel
theorem dX5_mean_26 : decode cX5_mean 26 = .ok (.ifCond .gt 9, 3) := by decide +kernel
theorem dX5_mean_29 : decode cX5_mean 29 = .ok (.aload_n 0, 1) := by decide +kernel
theorem dX5_mean_30 : decode cX5_mean 30 = .ok (.iconst 4, 1) := by decide +kernel
theorem dX5_mean_31 : decode cX5_mean 31 = .ok (.invokevirtual 61, 3) := by decide +kernel
theorem dX5_mean_34 : decode cX5_mean 34 = .ok (.ireturn, 1) := by decide +kernel
theorem dX5_mean_35 : decode cX5_mean 35 = .ok (.lconst 0, 1) := by decide +kernel
theorem dX5_mean_36 : decode cX5_mean 36 = .ok (.lstore 4, 2) := by decide +kernel
theorem dX5_mean_38 : decode cX5_mean 38 = .ok (.iconst 0, 1) := by decide +kernel
theorem dX5_mean_39 : decode cX5_mean 39 = .ok (.istore 6, 2) := by decide +kernel
theorem dX5_mean_41 : decode cX5_mean 41 = .ok (.iload 6, 2) := by decide +kernel
theorem dX5_mean_43 : decode cX5_mean 43 = .ok (.iload_n 3, 1) := by decide +kernel
theorem dX5_mean_44 : decode cX5_mean 44 = .ok (.if_icmp .ge 25, 3) := by decide +kernel
theorem dX5_mean_47 : decode cX5_mean 47 = .ok (.lload 4, 2) := by decide +kernel
theorem dX5_mean_49 : decode cX5_mean 49 = .ok (.aload_n 0, 1) := by decide +kernel
theorem dX5_mean_50 : decode cX5_mean 50 = .ok (.getfield 14, 3) := by decide +kernel
theorem dX5_mean_53 : decode cX5_mean 53 = .ok (.iload_n 1, 1) := by decide +kernel
theorem dX5_mean_54 : decode cX5_mean 54 = .ok (.iload 6, 2) := by decide +kernel
theorem dX5_mean_56 : decode cX5_mean 56 = .ok (.invokevirtual 73, 3) := by decide +kernel
theorem dX5_mean_59 : decode cX5_mean 59 = .ok (.i2l, 1) := by decide +kernel
theorem dX5_mean_60 : decode cX5_mean 60 = .ok (.ladd, 1) := by decide +kernel
theorem dX5_mean_61 : decode cX5_mean 61 = .ok (.lstore 4, 2) := by decide +kernel
theorem dX5_mean_63 : decode cX5_mean 63 = .ok (.iinc 6 1, 3) := by decide +kernel
theorem dX5_mean_66 : decode cX5_mean 66 = .ok (.goto (-25), 3) := by decide +kernel
theorem dX5_mean_69 : decode cX5_mean 69 = .ok (.aload_n 0, 1) := by decide +kernel
theorem dX5_mean_70 : decode cX5_mean 70 = .ok (.lload 4, 2) := by decide +kernel
theorem dX5_mean_72 : decode cX5_mean 72 = .ok (.iload_n 3, 1) := by decide +kernel
theorem dX5_mean_73 : decode cX5_mean 73 = .ok (.i2l, 1) := by decide +kernel
theorem dX5_mean_74 : decode cX5_mean 74 = .ok (.ldiv, 1) := by decide +kernel
theorem dX5_mean_75 : decode cX5_mean 75 = .ok (.l2i, 1) := by decide +kernel
theorem dX5_mean_76 : decode cX5_mean 76 = .ok (.putfield 77, 3) := by decide +kernel
theorem dX5_mean_79 : decode cX5_mean 79 = .ok (.iconst 1, 1) := by decide +kernel
theorem dX5_mean_80 : decode cX5_mean 80 = .ok (.ireturn, 1) := by decide +kernel
set_option maxRecDepth 20000 in
theorem ggX5_text_X3_isNumber : GoodIn wsX5_text wsX3_isNumber := goodIn_r _ [6, 7, 34, 35, 36] (by decide +kernel) (by decide +kernel)
set_option maxRecDepth 20000 in
theorem gX5_text_X3_isNumber : GoodIn wsX5_text (wsV RX5 57 RX3 yX3_isNumber wsX3_isNumber) := goodIn_app (goodIn_of _ (by decide +kernel)) ggX5_text_X3_isNumber
set_option maxRecDepth 20000 in
theorem ggX5_text_X5_found : GoodIn wsX5_text wsX5_found := goodIn_r _ [12, 13, 14, 22, 23, 24, 25, 26, 27, 28, 29, 30, 31, 32, 33] (by decide +kernel) (by decide +kernel)
set_option maxRecDepth 20000 in
theorem gX5_text_X5_found : GoodIn wsX5_text (wsV RX5 61 RX5 yX5_found wsX5_found) := goodIn_app (goodIn_of _ (by decide +kernel)) ggX5_text_X5_found
set_option maxRecDepth 20000 in
theorem ggX5_text_X3_make : GoodIn wsX5_text wsX3_make := goodIn_r _ [18, 19, 7, 20, 21, 3, 4, 5, 6, 34, 35, 36] (by decide +kernel) (by decide +kernel)
set_option maxRecDepth 20000 in
theorem gX5_text_X3_make : GoodIn wsX5_text (wsV RX5 65 RX3 yX3_make wsX3_make) := goodIn_app (goodIn_of _ (by decide +kernel)) ggX5_text_X3_make
theorem dX5_text_0 : decode cX5_text 0 = .ok (.aload_n 0, 1) := by decide +kernel
theorem dX5_text_1 : decode cX5_text 1 = .ok (.getfield 18, 3) := by decide +kernel
theorem dX5_text_4 : decode cX5_text 4 = .ok (.iload_n 1, 1) := by decide +kernel
theorem dX5_text_5 : decode cX5_text 5 = .ok (.invokevirtual 57, 3) := by decide +kernel
theorem dX5_text_8 : decode cX5_text 8 = .ok (.ifCond .eq 9, 3) := by decide +kernel
theorem dX5_text_11 : decode cX5_text 11 = .ok (.iload_n 2, 1) := by decide +kernel
theorem dX5_text_12 : decode cX5_text 12 = .ok (.bipush 60, 2) := by decide +kernel
theorem dX5_text_14 : decode cX5_text 14 = .ok (.if_icmp .le 5, 3) := by decide +kernel
theorem dX5_text_17 : decode cX5_text 17 = .ok (.iconst (-1), 1) := by decide +kernel
theorem dX5_text_18 : decode cX5_text 18 = .ok (.ireturn, 1) := by decide +kernel
theorem dX5_text_19 : decode cX5_text 19 = .ok (.iload_n 2, 1) := by decide +kernel
theorem dX5_text_20 : decode cX5_text 20 = .ok (.ifCond .ge 9, 3) := by decide +kernel
theorem dX5_text_23 : decode cX5_text 23 = .ok (.aload_n 0, 1) := by decide +kernel
theorem dX5_text_24 : decode cX5_text 24 = .ok (.iconst 5, 1) := by decide +kernel
theorem dX5_text_25 : decode cX5_text 25 = .ok (.invokevirtual 61, 3) := by decide +kernel
theorem dX5_text_28 : decode cX5_text 28 = .ok (.ireturn, 1) := by decide +kernel
theorem dX5_text_29 : decode cX5_text 29 = .ok (.aload_n 0, 1) := by decide +kernel
theorem dX5_text_30 : decode cX5_text 30 = .ok (.getfield 18, 3) := by decide +kernel
theorem dX5_text_33 : decode cX5_text 33 = .ok (.iload_n 1, 1) := by decide +kernel
theorem dX5_text_34 : decode cX5_text 34 = .ok (.iload_n 2, 1) := by decide +kernel
theorem dX5_text_35 : decode cX5_text 35 = .ok (.bipush 32, 2) := by decide +kernel
theorem dX5_text_37 : decode cX5_text 37 = .ok (.invokevirtual 65, 3) := by decide +kernel
theorem dX5_text_40 : decode cX5_text 40 = .ok (.iload_n 2, 1) := by decide +kernel
theorem dX5_text_41 : decode cX5_text 41 = .ok (.ireturn, 1) := by decide +kernel
set_option maxRecDepth 20000 in
theorem ggX5_put_X5_refusePlace : GoodIn wsX5_put wsX5_refusePlace := goodIn_r _ [6, 7, 8, 9, 5, 10, 11, 12, 13, 14, 15, 16, 17, 18, 19, 20, 21, 22, 23, 24, 25, 26, 27, 28, 29, 30, 31, 32, 33, 34, 35, 59, 60, 61, 47, 48, 49, 50, 51, 52, 53, 54, 55, 56, 57, 58] (by decide +kernel) (by decide +kernel)
set_option maxRecDepth 20000 in
theorem gX5_put_X5_refusePlace : GoodIn wsX5_put (wsV RX5 69 RX5 yX5_refusePlace wsX5_refusePlace) := goodIn_app (goodIn_of _ (by decide +kernel)) ggX5_put_X5_refusePlace
set_option maxRecDepth 20000 in
theorem ggX5_put_X3_read : GoodIn wsX5_put wsX3_read := goodIn_r _ [39, 40, 41, 42, 33, 34, 14, 35, 16, 25, 12, 13, 15, 59, 60, 61] (by decide +kernel) (by decide +kernel)
set_option maxRecDepth 20000 in
theorem gX5_put_X3_read : GoodIn wsX5_put (wsV RX5 73 RX3 yX3_read wsX3_read) := goodIn_app (goodIn_of _ (by decide +kernel)) ggX5_put_X3_read
set_option maxRecDepth 20000 in
theorem ggX5_put_X3_write : GoodIn wsX5_put wsX3_write := goodIn_r _ [46, 40, 41, 42, 33, 34, 14, 35, 16, 25, 12, 13, 15, 59, 60, 61] (by decide +kernel) (by decide +kernel)
set_option maxRecDepth 20000 in
theorem gX5_put_X3_write : GoodIn wsX5_put (wsV RX5 81 RX3 yX3_write wsX3_write) := goodIn_app (goodIn_of _ (by decide +kernel)) ggX5_put_X3_write
theorem dX5_put_0 : decode cX5_put 0 = .ok (.aload_n 0, 1) := by decide +kernel
theorem dX5_put_1 : decode cX5_put 1 = .ok (.aload_n 0, 1) := by decide +kernel
theorem dX5_put_2 : decode cX5_put 2 = .ok (.getfield 18, 3) := by decide +kernel
theorem dX5_put_5 : decode cX5_put 5 = .ok (.iload_n 1, 1) := by decide +kernel
theorem dX5_put_6 : decode cX5_put 6 = .ok (.iload_n 2, 1) := by decide +kernel
theorem dX5_put_7 : decode cX5_put 7 = .ok (.invokevirtual 69, 3) := by decide +kernel
theorem dX5_put_10 : decode cX5_put 10 = .ok (.istore 4, 2) := by decide +kernel
theorem dX5_put_12 : decode cX5_put 12 = .ok (.iload 4, 2) := by decide +kernel
theorem dX5_put_14 : decode cX5_put 14 = .ok (.ifCond .eq 6, 3) := by decide +kernel
theorem dX5_put_17 : decode cX5_put 17 = .ok (.iload 4, 2) := by decide +kernel
theorem dX5_put_19 : decode cX5_put 19 = .ok (.ireturn, 1) := by decide +kernel
theorem dX5_put_20 : decode cX5_put 20 = .ok (.aload_n 0, 1) := by decide +kernel
theorem dX5_put_21 : decode cX5_put 21 = .ok (.getfield 18, 3) := by decide +kernel
theorem dX5_put_24 : decode cX5_put 24 = .ok (.iload_n 1, 1) := by decide +kernel
theorem dX5_put_25 : decode cX5_put 25 = .ok (.iload_n 2, 1) := by decide +kernel
theorem dX5_put_26 : decode cX5_put 26 = .ok (.invokevirtual 73, 3) := by decide +kernel
theorem dX5_put_29 : decode cX5_put 29 = .ok (.istore 5, 2) := by decide +kernel
theorem dX5_put_31 : decode cX5_put 31 = .ok (.aload_n 0, 1) := by decide +kernel
theorem dX5_put_32 : decode cX5_put 32 = .ok (.getfield 18, 3) := by decide +kernel
theorem dX5_put_35 : decode cX5_put 35 = .ok (.iload_n 1, 1) := by decide +kernel
theorem dX5_put_36 : decode cX5_put 36 = .ok (.iload_n 2, 1) := by decide +kernel
theorem dX5_put_37 : decode cX5_put 37 = .ok (.iload_n 3, 1) := by decide +kernel
theorem dX5_put_38 : decode cX5_put 38 = .ok (.i2b, 1) := by decide +kernel
theorem dX5_put_39 : decode cX5_put 39 = .ok (.invokevirtual 81, 3) := by decide +kernel
theorem dX5_put_42 : decode cX5_put 42 = .ok (.iload 5, 2) := by decide +kernel
theorem dX5_put_44 : decode cX5_put 44 = .ok (.sipush 1000, 3) := by decide +kernel
theorem dX5_put_47 : decode cX5_put 47 = .ok (.iadd, 1) := by decide +kernel
theorem dX5_put_48 : decode cX5_put 48 = .ok (.ireturn, 1) := by decide +kernel
set_option maxRecDepth 20000 in
theorem ggX5_fault_X5_refuseMissing : GoodIn wsX5_fault wsX5_refuseMissing := goodIn_r _ [7, 8, 9, 10, 11, 12, 13, 14, 15, 16, 17, 18, 19, 20, 21, 22, 23, 24, 25, 6, 26, 27, 28, 76, 77, 78, 64, 65, 66, 67, 68, 69, 70, 71, 72, 73, 74, 75] (by decide +kernel) (by decide +kernel)
set_option maxRecDepth 20000 in
theorem gX5_fault_X5_refuseMissing : GoodIn wsX5_fault (wsV RX5 84 RX5 yX5_refuseMissing wsX5_refuseMissing) := goodIn_app (goodIn_of _ (by decide +kernel)) ggX5_fault_X5_refuseMissing
set_option maxRecDepth 20000 in
theorem ggX5_fault_X2_readTable : GoodIn wsX5_fault wsX2_readTable := goodIn_r _ [33, 34, 35, 36, 19, 20, 11, 21, 13, 22, 9, 10, 12, 37, 38, 32, 39, 40, 41, 42, 43, 44, 45, 46, 47, 48, 49, 50, 51, 52, 53, 54, 55, 56, 57, 58, 59, 60, 61, 62, 63, 79, 80, 81, 82, 83, 76, 77, 78] (by decide +kernel) (by decide +kernel)
set_option maxRecDepth 20000 in
theorem gX5_fault_X2_readTable : GoodIn wsX5_fault (wsV RX5 106 RX2 yX2_readTable wsX2_readTable) := goodIn_app (goodIn_of _ (by decide +kernel)) ggX5_fault_X2_readTable
theorem dX5_fault_0 : decode cX5_fault 0 = .ok (.aload_n 0, 1) := by decide +kernel
theorem dX5_fault_1 : decode cX5_fault 1 = .ok (.aload_n 0, 1) := by decide +kernel
theorem dX5_fault_2 : decode cX5_fault 2 = .ok (.getfield 18, 3) := by decide +kernel
theorem dX5_fault_5 : decode cX5_fault 5 = .ok (.iload_n 1, 1) := by decide +kernel
theorem dX5_fault_6 : decode cX5_fault 6 = .ok (.invokevirtual 84, 3) := by decide +kernel
theorem dX5_fault_9 : decode cX5_fault 9 = .ok (.istore_n 2, 1) := by decide +kernel
theorem dX5_fault_10 : decode cX5_fault 10 = .ok (.iload_n 2, 1) := by decide +kernel
theorem dX5_fault_11 : decode cX5_fault 11 = .ok (.ifCond .eq 7, 3) := by decide +kernel
theorem dX5_fault_14 : decode cX5_fault 14 = .ok (.iload_n 2, 1) := by decide +kernel
theorem dX5_fault_15 : decode cX5_fault 15 = .ok (.goto 15, 3) := by decide +kernel
theorem dX5_fault_18 : decode cX5_fault 18 = .ok (.aload_n 0, 1) := by decide +kernel
theorem dX5_fault_19 : decode cX5_fault 19 = .ok (.getfield 24, 3) := by decide +kernel
theorem dX5_fault_22 : decode cX5_fault 22 = .ok (.aload_n 0, 1) := by decide +kernel
theorem dX5_fault_23 : decode cX5_fault 23 = .ok (.getfield 18, 3) := by decide +kernel
theorem dX5_fault_26 : decode cX5_fault 26 = .ok (.iload_n 1, 1) := by decide +kernel
theorem dX5_fault_27 : decode cX5_fault 27 = .ok (.invokevirtual 106, 3) := by decide +kernel
theorem dX5_fault_30 : decode cX5_fault 30 = .ok (.ireturn, 1) := by decide +kernel
set_option maxRecDepth 20000 in
theorem ggX5_table_X5_refuseMissing : GoodIn wsX5_table wsX5_refuseMissing := goodIn_r _ [9, 10, 11, 12, 13, 14, 15, 16, 17, 18, 19, 20, 21, 22, 23, 24, 25, 26, 27, 8, 28, 29, 30, 116, 117, 118, 91, 92, 93, 94, 95, 96, 97, 98, 99, 100, 101, 102] (by decide +kernel) (by decide +kernel)
set_option maxRecDepth 20000 in
theorem gX5_table_X5_refuseMissing : GoodIn wsX5_table (wsV RX5 84 RX5 yX5_refuseMissing wsX5_refuseMissing) := goodIn_app (goodIn_of _ (by decide +kernel)) ggX5_table_X5_refuseMissing
set_option maxRecDepth 20000 in
theorem ggX5_table_X2_readTable : GoodIn wsX5_table wsX2_readTable := goodIn_r _ [35, 36, 37, 38, 21, 22, 13, 23, 15, 24, 11, 12, 14, 39, 40, 34, 41, 42, 43, 44, 45, 46, 47, 48, 49, 50, 51, 52, 53, 54, 55, 56, 57, 58, 59, 60, 61, 62, 63, 64, 65, 119, 120, 121, 122, 123, 116, 117, 118] (by decide +kernel) (by decide +kernel)
set_option maxRecDepth 20000 in
theorem gX5_table_X2_readTable : GoodIn wsX5_table (wsV RX5 106 RX2 yX2_readTable wsX2_readTable) := goodIn_app (goodIn_of _ (by decide +kernel)) ggX5_table_X2_readTable
set_option maxRecDepth 20000 in
theorem ggX5_table_X4_begin : GoodIn wsX5_table wsX4_begin := goodIn_r _ [70, 71, 72, 73, 74, 75, 76, 77, 78, 79, 80, 69, 81, 82, 83, 84, 85, 86, 87, 88, 89, 119, 120, 121, 122, 123, 103, 104, 105, 106, 107, 108, 109, 110, 111, 112, 113, 114, 115] (by decide +kernel) (by decide +kernel)
set_option maxRecDepth 20000 in
theorem gX5_table_X4_begin : GoodIn wsX5_table (wsV RX5 109 RX4 yX4_begin wsX4_begin) := goodIn_app (goodIn_of _ (by decide +kernel)) ggX5_table_X4_begin
set_option maxRecDepth 20000 in
theorem ggX5_table_X4_clear : GoodIn wsX5_table wsX4_clear := goodIn_r _ [81, 71, 72, 82, 83, 84, 103, 104, 105, 106, 107, 108, 109, 110, 111, 112, 113, 114, 115] (by decide +kernel) (by decide +kernel)
set_option maxRecDepth 20000 in
theorem gX5_table_X4_clear : GoodIn wsX5_table (wsV RX5 113 RX4 yX4_clear wsX4_clear) := goodIn_app (goodIn_of _ (by decide +kernel)) ggX5_table_X4_clear
theorem dX5_table_0 : decode cX5_table 0 = .ok (.aload_n 0, 1) := by decide +kernel
theorem dX5_table_1 : decode cX5_table 1 = .ok (.aload_n 0, 1) := by decide +kernel
theorem dX5_table_2 : decode cX5_table 2 = .ok (.getfield 18, 3) := by decide +kernel
theorem dX5_table_5 : decode cX5_table 5 = .ok (.iload_n 1, 1) := by decide +kernel
theorem dX5_table_6 : decode cX5_table 6 = .ok (.invokevirtual 84, 3) := by decide +kernel
theorem dX5_table_9 : decode cX5_table 9 = .ok (.istore_n 2, 1) := by decide +kernel
theorem dX5_table_10 : decode cX5_table 10 = .ok (.iload_n 2, 1) := by decide +kernel
theorem dX5_table_11 : decode cX5_table 11 = .ok (.ifCond .eq 5, 3) := by decide +kernel
theorem dX5_table_14 : decode cX5_table 14 = .ok (.iload_n 2, 1) := by decide +kernel
theorem dX5_table_15 : decode cX5_table 15 = .ok (.ireturn, 1) := by decide +kernel
theorem dX5_table_16 : decode cX5_table 16 = .ok (.aload_n 0, 1) := by decide +kernel
theorem dX5_table_17 : decode cX5_table 17 = .ok (.getfield 24, 3) := by decide +kernel
theorem dX5_table_20 : decode cX5_table 20 = .ok (.aload_n 0, 1) := by decide +kernel
theorem dX5_table_21 : decode cX5_table 21 = .ok (.getfield 18, 3) := by decide +kernel
theorem dX5_table_24 : decode cX5_table 24 = .ok (.iload_n 1, 1) := by decide +kernel
theorem dX5_table_25 : decode cX5_table 25 = .ok (.invokevirtual 106, 3) := by decide +kernel
theorem dX5_table_28 : decode cX5_table 28 = .ok (.bipush (-9), 2) := by decide +kernel
theorem dX5_table_30 : decode cX5_table 30 = .ok (.if_icmp .eq 6, 3) := by decide +kernel
theorem dX5_table_33 : decode cX5_table 33 = .ok (.bipush (-4), 2) := by decide +kernel
theorem dX5_table_35 : decode cX5_table 35 = .ok (.ireturn, 1) := by decide +kernel
theorem dX5_table_36 : decode cX5_table 36 = .ok (.aload_n 0, 1) := by decide +kernel
theorem dX5_table_37 : decode cX5_table 37 = .ok (.getfield 31, 3) := by decide +kernel
theorem dX5_table_40 : decode cX5_table 40 = .ok (.aload_n 0, 1) := by decide +kernel
theorem dX5_table_41 : decode cX5_table 41 = .ok (.getfield 24, 3) := by decide +kernel
theorem dX5_table_44 : decode cX5_table 44 = .ok (.invokevirtual 109, 3) := by decide +kernel
theorem dX5_table_47 : decode cX5_table 47 = .ok (.iconst 0, 1) := by decide +kernel
theorem dX5_table_48 : decode cX5_table 48 = .ok (.istore_n 3, 1) := by decide +kernel
theorem dX5_table_49 : decode cX5_table 49 = .ok (.iload_n 3, 1) := by decide +kernel
theorem dX5_table_50 : decode cX5_table 50 = .ok (.iconst 3, 1) := by decide +kernel
theorem dX5_table_51 : decode cX5_table 51 = .ok (.if_icmp .ge 18, 3) := by decide +kernel
theorem dX5_table_54 : decode cX5_table 54 = .ok (.aload_n 0, 1) := by decide +kernel
theorem dX5_table_55 : decode cX5_table 55 = .ok (.getfield 35, 3) := by decide +kernel
theorem dX5_table_58 : decode cX5_table 58 = .ok (.iload_n 3, 1) := by decide +kernel
theorem dX5_table_59 : decode cX5_table 59 = .ok (.aaload, 1) := by decide +kernel
theorem dX5_table_60 : decode cX5_table 60 = .ok (.invokevirtual 113, 3) := by decide +kernel
theorem dX5_table_63 : decode cX5_table 63 = .ok (.iinc 3 1, 3) := by decide +kernel
theorem dX5_table_66 : decode cX5_table 66 = .ok (.goto (-17), 3) := by decide +kernel
theorem dX5_table_69 : decode cX5_table 69 = .ok (.aload_n 0, 1) := by decide +kernel
theorem dX5_table_70 : decode cX5_table 70 = .ok (.getfield 31, 3) := by decide +kernel
theorem dX5_table_73 : decode cX5_table 73 = .ok (.getfield 116, 3) := by decide +kernel
theorem dX5_table_76 : decode cX5_table 76 = .ok (.ireturn, 1) := by decide +kernel
set_option maxRecDepth 20000 in
theorem ggX5_worker_X4_isWorker : GoodIn wsX5_worker wsX4_isWorker := goodIn_r _ [7, 8, 58, 59, 60, 61, 62, 63, 64, 65, 66, 67, 68, 69, 70] (by decide +kernel) (by decide +kernel)
set_option maxRecDepth 20000 in
theorem gX5_worker_X4_isWorker : GoodIn wsX5_worker (wsV RX5 119 RX4 yX4_isWorker wsX4_isWorker) := goodIn_app (goodIn_of _ (by decide +kernel)) ggX5_worker_X4_isWorker
set_option maxRecDepth 20000 in
theorem ggX5_worker_X4_factOf : GoodIn wsX5_worker wsX4_factOf := goodIn_r _ [12, 13, 14, 15, 16, 17, 18, 19, 20, 6, 21, 22, 23, 24, 25, 26, 27, 28, 29, 30, 31, 32, 33, 34, 35, 36, 37, 38, 39, 40, 41, 42, 43, 44, 45, 58, 59, 60, 61, 62, 63, 64, 65, 66, 67, 68, 69, 70] (by decide +kernel) (by decide +kernel)
set_option maxRecDepth 20000 in
theorem gX5_worker_X4_factOf : GoodIn wsX5_worker (wsV RX5 122 RX4 yX4_factOf wsX4_factOf) := goodIn_app (goodIn_of _ (by decide +kernel)) ggX5_worker_X4_factOf
theorem dX5_worker_0 : decode cX5_worker 0 = .ok (.aload_n 0, 1) := by decide +kernel
theorem dX5_worker_1 : decode cX5_worker 1 = .ok (.getfield 31, 3) := by decide +kernel
theorem dX5_worker_4 : decode cX5_worker 4 = .ok (.iload_n 1, 1) := by decide +kernel
theorem dX5_worker_5 : decode cX5_worker 5 = .ok (.invokevirtual 119, 3) := by decide +kernel
theorem dX5_worker_8 : decode cX5_worker 8 = .ok (.ifCond .eq 13, 3) := by decide +kernel
theorem dX5_worker_11 : decode cX5_worker 11 = .ok (.iload_n 2, 1) := by decide +kernel
theorem dX5_worker_12 : decode cX5_worker 12 = .ok (.ifCond .lt 9, 3) := by decide +kernel
theorem dX5_worker_15 : decode cX5_worker 15 = .ok (.iload_n 2, 1) := by decide +kernel
theorem dX5_worker_16 : decode cX5_worker 16 = .ok (.bipush 6, 2) := by decide +kernel
theorem dX5_worker_18 : decode cX5_worker 18 = .ok (.if_icmp .lt 5, 3) := by decide +kernel
theorem dX5_worker_21 : decode cX5_worker 21 = .ok (.iconst (-1), 1) := by decide +kernel
theorem dX5_worker_22 : decode cX5_worker 22 = .ok (.ireturn, 1) := by decide +kernel
theorem dX5_worker_23 : decode cX5_worker 23 = .ok (.aload_n 0, 1) := by decide +kernel
theorem dX5_worker_24 : decode cX5_worker 24 = .ok (.aload_n 0, 1) := by decide +kernel
theorem dX5_worker_25 : decode cX5_worker 25 = .ok (.getfield 31, 3) := by decide +kernel
theorem dX5_worker_28 : decode cX5_worker 28 = .ok (.iload_n 1, 1) := by decide +kernel
theorem dX5_worker_29 : decode cX5_worker 29 = .ok (.iload_n 2, 1) := by decide +kernel
theorem dX5_worker_30 : decode cX5_worker 30 = .ok (.invokevirtual 122, 3) := by decide +kernel
theorem dX5_worker_33 : decode cX5_worker 33 = .ok (.putfield 77, 3) := by decide +kernel
theorem dX5_worker_36 : decode cX5_worker 36 = .ok (.iconst 1, 1) := by decide +kernel
theorem dX5_worker_37 : decode cX5_worker 37 = .ok (.ireturn, 1) := by decide +kernel
set_option maxRecDepth 20000 in
theorem ggX5_mark_X4_isWorker : GoodIn wsX5_mark wsX4_isWorker := goodIn_r _ [8, 9, 49, 50, 51, 52, 53, 54, 55, 56, 57, 58, 59, 60, 61] (by decide +kernel) (by decide +kernel)
set_option maxRecDepth 20000 in
theorem gX5_mark_X4_isWorker : GoodIn wsX5_mark (wsV RX5 119 RX4 yX4_isWorker wsX4_isWorker) := goodIn_app (goodIn_of _ (by decide +kernel)) ggX5_mark_X4_isWorker
set_option maxRecDepth 20000 in
theorem ggX5_mark_X0_isOf : GoodIn wsX5_mark wsX0_isOf := goodIn_r _ [13] (by decide +kernel) (by decide +kernel)
set_option maxRecDepth 20000 in
theorem gX5_mark_X0_isOf : GoodIn wsX5_mark (va_wsS RX5 130 yX0_isOf wsX0_isOf) := goodIn_app (goodIn_of _ (by decide +kernel)) ggX5_mark_X0_isOf
set_option maxRecDepth 20000 in
theorem ggX5_mark_X5_found : GoodIn wsX5_mark wsX5_found := goodIn_r _ [18, 19, 20, 37, 38, 39, 40, 41, 42, 43, 44, 45, 46, 47, 48] (by decide +kernel) (by decide +kernel)
set_option maxRecDepth 20000 in
theorem gX5_mark_X5_found : GoodIn wsX5_mark (wsV RX5 61 RX5 yX5_found wsX5_found) := goodIn_app (goodIn_of _ (by decide +kernel)) ggX5_mark_X5_found
set_option maxRecDepth 20000 in
theorem ggX5_mark_X0_partsOf : GoodIn wsX5_mark wsX0_partsOf := goodIn_r _ [23, 24, 25, 26, 27, 28, 29] (by decide +kernel) (by decide +kernel)
set_option maxRecDepth 20000 in
theorem gX5_mark_X0_partsOf : GoodIn wsX5_mark (va_wsS RX5 134 yX0_partsOf wsX0_partsOf) := goodIn_app (goodIn_of _ (by decide +kernel)) ggX5_mark_X0_partsOf
set_option maxRecDepth 20000 in
theorem ggX5_mark_J6_bitCount_0f7a4 : GoodIn wsX5_mark wsJ6_bitCount_0f7a4 := goodIn_r _ [33, 34, 35, 36] (by decide +kernel) (by decide +kernel)
set_option maxRecDepth 20000 in
theorem gX5_mark_J6_bitCount_0f7a4 : GoodIn wsX5_mark (va_wsS RX5 137 yJ6_bitCount_0f7a4 wsJ6_bitCount_0f7a4) := goodIn_app (goodIn_of _ (by decide +kernel)) ggX5_mark_J6_bitCount_0f7a4
theorem dX5_mark_0 : decode cX5_mark 0 = .ok (.aload_n 0, 1) := by decide +kernel
theorem dX5_mark_1 : decode cX5_mark 1 = .ok (.getfield 31, 3) := by decide +kernel
theorem dX5_mark_4 : decode cX5_mark 4 = .ok (.iload_n 1, 1) := by decide +kernel
theorem dX5_mark_5 : decode cX5_mark 5 = .ok (.invokevirtual 119, 3) := by decide +kernel
theorem dX5_mark_8 : decode cX5_mark 8 = .ok (.ifCond .eq 13, 3) := by decide +kernel
theorem dX5_mark_11 : decode cX5_mark 11 = .ok (.iload_n 2, 1) := by decide +kernel
theorem dX5_mark_12 : decode cX5_mark 12 = .ok (.ifCond .le 9, 3) := by decide +kernel
theorem dX5_mark_15 : decode cX5_mark 15 = .ok (.iload_n 2, 1) := by decide +kernel
theorem dX5_mark_16 : decode cX5_mark 16 = .ok (.bipush 6, 2) := by decide +kernel
theorem dX5_mark_18 : decode cX5_mark 18 = .ok (.if_icmp .lt 5, 3) := by decide +kernel
theorem dX5_mark_21 : decode cX5_mark 21 = .ok (.iconst (-1), 1) := by decide +kernel
theorem dX5_mark_22 : decode cX5_mark 22 = .ok (.ireturn, 1) := by decide +kernel
theorem dX5_mark_23 : decode cX5_mark 23 = .ok (.aload_n 0, 1) := by decide +kernel
theorem dX5_mark_24 : decode cX5_mark 24 = .ok (.getfield 31, 3) := by decide +kernel
theorem dX5_mark_27 : decode cX5_mark 27 = .ok (.getfield 127, 3) := by decide +kernel
theorem dX5_mark_30 : decode cX5_mark 30 = .ok (.iload_n 1, 1) := by decide +kernel
theorem dX5_mark_31 : decode cX5_mark 31 = .ok (.iaload, 1) := by decide +kernel
theorem dX5_mark_32 : decode cX5_mark 32 = .ok (.istore_n 3, 1) := by decide +kernel
theorem dX5_mark_33 : decode cX5_mark 33 = .ok (.iload_n 3, 1) := by decide +kernel
theorem dX5_mark_34 : decode cX5_mark 34 = .ok (.iload_n 2, 1) := by decide +kernel
theorem dX5_mark_35 : decode cX5_mark 35 = .ok (.invokestatic 130, 3) := by decide +kernel
theorem dX5_mark_38 : decode cX5_mark 38 = .ok (.ifCond .ne 9, 3) := by decide +kernel
theorem dX5_mark_41 : decode cX5_mark 41 = .ok (.aload_n 0, 1) := by decide +kernel
theorem dX5_mark_42 : decode cX5_mark 42 = .ok (.iconst 3, 1) := by decide +kernel
theorem dX5_mark_43 : decode cX5_mark 43 = .ok (.invokevirtual 61, 3) := by decide +kernel
theorem dX5_mark_46 : decode cX5_mark 46 = .ok (.ireturn, 1) := by decide +kernel
theorem dX5_mark_47 : decode cX5_mark 47 = .ok (.iload_n 3, 1) := by decide +kernel
theorem dX5_mark_48 : decode cX5_mark 48 = .ok (.invokestatic 134, 3) := by decide +kernel
theorem dX5_mark_51 : decode cX5_mark 51 = .ok (.istore 4, 2) := by decide +kernel
theorem dX5_mark_53 : decode cX5_mark 53 = .ok (.iload_n 2, 1) := by decide +kernel
theorem dX5_mark_54 : decode cX5_mark 54 = .ok (.tableswitch 78 1 4 #[30, 36, 50, 66], 30) := by decide +kernel
theorem dX5_mark_84 : decode cX5_mark 84 = .ok (.iload 4, 2) := by decide +kernel
theorem dX5_mark_86 : decode cX5_mark 86 = .ok (.invokestatic 137, 3) := by decide +kernel
theorem dX5_mark_89 : decode cX5_mark 89 = .ok (.ireturn, 1) := by decide +kernel
theorem dX5_mark_90 : decode cX5_mark 90 = .ok (.aload_n 0, 1) := by decide +kernel
theorem dX5_mark_91 : decode cX5_mark 91 = .ok (.getfield 31, 3) := by decide +kernel
theorem dX5_mark_94 : decode cX5_mark 94 = .ok (.getfield 142, 3) := by decide +kernel
theorem dX5_mark_97 : decode cX5_mark 97 = .ok (.iload 4, 2) := by decide +kernel
theorem dX5_mark_99 : decode cX5_mark 99 = .ok (.iand, 1) := by decide +kernel
theorem dX5_mark_100 : decode cX5_mark 100 = .ok (.invokestatic 137, 3) := by decide +kernel
theorem dX5_mark_103 : decode cX5_mark 103 = .ok (.ireturn, 1) := by decide +kernel
theorem dX5_mark_104 : decode cX5_mark 104 = .ok (.aload_n 0, 1) := by decide +kernel
theorem dX5_mark_105 : decode cX5_mark 105 = .ok (.getfield 31, 3) := by decide +kernel
theorem dX5_mark_108 : decode cX5_mark 108 = .ok (.getfield 142, 3) := by decide +kernel
theorem dX5_mark_111 : decode cX5_mark 111 = .ok (.iload 4, 2) := by decide +kernel
theorem dX5_mark_113 : decode cX5_mark 113 = .ok (.iconst (-1), 1) := by decide +kernel
theorem dX5_mark_114 : decode cX5_mark 114 = .ok (.ixor, 1) := by decide +kernel
theorem dX5_mark_115 : decode cX5_mark 115 = .ok (.iand, 1) := by decide +kernel
theorem dX5_mark_116 : decode cX5_mark 116 = .ok (.invokestatic 137, 3) := by decide +kernel
theorem dX5_mark_119 : decode cX5_mark 119 = .ok (.ireturn, 1) := by decide +kernel
theorem dX5_mark_120 : decode cX5_mark 120 = .ok (.iload 4, 2) := by decide +kernel
theorem dX5_mark_122 : decode cX5_mark 122 = .ok (.invokestatic 137, 3) := by decide +kernel
theorem dX5_mark_125 : decode cX5_mark 125 = .ok (.ldc 145, 2) := by decide +kernel
theorem dX5_mark_127 : decode cX5_mark 127 = .ok (.invokestatic 137, 3) := by decide +kernel
theorem dX5_mark_130 : decode cX5_mark 130 = .ok (.isub, 1) := by decide +kernel
theorem dX5_mark_131 : decode cX5_mark 131 = .ok (.ireturn, 1) := by decide +kernel
theorem dX5_mark_132 : decode cX5_mark 132 = .ok (.ldc 146, 2) := by decide +kernel
theorem dX5_mark_134 : decode cX5_mark 134 = .ok (.invokestatic 137, 3) := by decide +kernel
theorem dX5_mark_137 : decode cX5_mark 137 = .ok (.iload 4, 2) := by decide +kernel
theorem dX5_mark_139 : decode cX5_mark 139 = .ok (.invokestatic 137, 3) := by decide +kernel
theorem dX5_mark_142 : decode cX5_mark 142 = .ok (.isub, 1) := by decide +kernel
theorem dX5_mark_143 : decode cX5_mark 143 = .ok (.ireturn, 1) := by decide +kernel
set_option maxRecDepth 20000 in
theorem ggX5_takes_X4_isWorker : GoodIn wsX5_takes wsX4_isWorker := goodIn_r _ [6, 7, 37, 38, 39, 40, 41, 42, 43, 44, 45, 46, 47, 48, 49] (by decide +kernel) (by decide +kernel)
set_option maxRecDepth 20000 in
theorem gX5_takes_X4_isWorker : GoodIn wsX5_takes (wsV RX5 119 RX4 yX4_isWorker wsX4_isWorker) := goodIn_app (goodIn_of _ (by decide +kernel)) ggX5_takes_X4_isWorker
set_option maxRecDepth 20000 in
theorem ggX5_takes_X5_isPart : GoodIn wsX5_takes wsX5_isPart := goodIn_r _ [11] (by decide +kernel) (by decide +kernel)
set_option maxRecDepth 20000 in
theorem gX5_takes_X5_isPart : GoodIn wsX5_takes (va_wsS RX5 147 yX5_isPart wsX5_isPart) := goodIn_app (goodIn_of _ (by decide +kernel)) ggX5_takes_X5_isPart
set_option maxRecDepth 20000 in
theorem ggX5_takes_X0_partsOf : GoodIn wsX5_takes wsX0_partsOf := goodIn_r _ [15, 16, 17, 18, 19, 20, 21] (by decide +kernel) (by decide +kernel)
set_option maxRecDepth 20000 in
theorem gX5_takes_X0_partsOf : GoodIn wsX5_takes (va_wsS RX5 134 yX0_partsOf wsX0_partsOf) := goodIn_app (goodIn_of _ (by decide +kernel)) ggX5_takes_X0_partsOf
set_option maxRecDepth 20000 in
theorem ggX5_takes_X5_holds : GoodIn wsX5_takes wsX5_holds := goodIn_r _ [24] (by decide +kernel) (by decide +kernel)
set_option maxRecDepth 20000 in
theorem gX5_takes_X5_holds : GoodIn wsX5_takes (va_wsS RX5 150 yX5_holds wsX5_holds) := goodIn_app (goodIn_of _ (by decide +kernel)) ggX5_takes_X5_holds
theorem dX5_takes_0 : decode cX5_takes 0 = .ok (.aload_n 0, 1) := by decide +kernel
theorem dX5_takes_1 : decode cX5_takes 1 = .ok (.getfield 31, 3) := by decide +kernel
theorem dX5_takes_4 : decode cX5_takes 4 = .ok (.iload_n 1, 1) := by decide +kernel
theorem dX5_takes_5 : decode cX5_takes 5 = .ok (.invokevirtual 119, 3) := by decide +kernel
theorem dX5_takes_8 : decode cX5_takes 8 = .ok (.ifCond .eq 10, 3) := by decide +kernel
theorem dX5_takes_11 : decode cX5_takes 11 = .ok (.iload_n 2, 1) := by decide +kernel
theorem dX5_takes_12 : decode cX5_takes 12 = .ok (.invokestatic 147, 3) := by decide +kernel
theorem dX5_takes_15 : decode cX5_takes 15 = .ok (.ifCond .ne 5, 3) := by decide +kernel
theorem dX5_takes_18 : decode cX5_takes 18 = .ok (.iconst (-1), 1) := by decide +kernel
theorem dX5_takes_19 : decode cX5_takes 19 = .ok (.ireturn, 1) := by decide +kernel
theorem dX5_takes_20 : decode cX5_takes 20 = .ok (.aload_n 0, 1) := by decide +kernel
theorem dX5_takes_21 : decode cX5_takes 21 = .ok (.getfield 31, 3) := by decide +kernel
theorem dX5_takes_24 : decode cX5_takes 24 = .ok (.getfield 127, 3) := by decide +kernel
theorem dX5_takes_27 : decode cX5_takes 27 = .ok (.iload_n 1, 1) := by decide +kernel
theorem dX5_takes_28 : decode cX5_takes 28 = .ok (.iaload, 1) := by decide +kernel
theorem dX5_takes_29 : decode cX5_takes 29 = .ok (.invokestatic 134, 3) := by decide +kernel
theorem dX5_takes_32 : decode cX5_takes 32 = .ok (.iload_n 2, 1) := by decide +kernel
theorem dX5_takes_33 : decode cX5_takes 33 = .ok (.invokestatic 150, 3) := by decide +kernel
theorem dX5_takes_36 : decode cX5_takes 36 = .ok (.ifCond .eq 7, 3) := by decide +kernel
theorem dX5_takes_39 : decode cX5_takes 39 = .ok (.iconst 1, 1) := by decide +kernel
theorem dX5_takes_40 : decode cX5_takes 40 = .ok (.goto 4, 3) := by decide +kernel
theorem dX5_takes_43 : decode cX5_takes 43 = .ok (.iconst 0, 1) := by decide +kernel
theorem dX5_takes_44 : decode cX5_takes 44 = .ok (.ireturn, 1) := by decide +kernel
set_option maxRecDepth 20000 in
theorem ggX5_cut_X5_isPart : GoodIn wsX5_cut wsX5_isPart := goodIn_r _ [5] (by decide +kernel) (by decide +kernel)
set_option maxRecDepth 20000 in
theorem gX5_cut_X5_isPart : GoodIn wsX5_cut (va_wsS RX5 147 yX5_isPart wsX5_isPart) := goodIn_app (goodIn_of _ (by decide +kernel)) ggX5_cut_X5_isPart
set_option maxRecDepth 20000 in
theorem ggX5_cut_X4_canCut : GoodIn wsX5_cut wsX4_canCut := goodIn_r _ [10, 11, 46, 47, 48, 49, 50, 51, 52, 53, 54, 55, 56, 57, 58] (by decide +kernel) (by decide +kernel)
set_option maxRecDepth 20000 in
theorem gX5_cut_X4_canCut : GoodIn wsX5_cut (wsV RX5 153 RX4 yX4_canCut wsX4_canCut) := goodIn_app (goodIn_of _ (by decide +kernel)) ggX5_cut_X4_canCut
set_option maxRecDepth 20000 in
theorem ggX5_cut_X4_hasRoomFor : GoodIn wsX5_cut wsX4_hasRoomFor := goodIn_r _ [15, 16, 46, 47, 48, 49, 50, 51, 52, 53, 54, 55, 56, 57, 58] (by decide +kernel) (by decide +kernel)
set_option maxRecDepth 20000 in
theorem gX5_cut_X4_hasRoomFor : GoodIn wsX5_cut (wsV RX5 157 RX4 yX4_hasRoomFor wsX4_hasRoomFor) := goodIn_app (goodIn_of _ (by decide +kernel)) ggX5_cut_X4_hasRoomFor
set_option maxRecDepth 20000 in
theorem ggX5_cut_X4_cutLoaf : GoodIn wsX5_cut wsX4_cutLoaf := goodIn_r _ [20, 11, 21, 22, 23, 9, 24, 25, 26, 27, 28, 29, 30, 16, 31, 32, 33, 46, 47, 48, 49, 50, 51, 52, 53, 54, 55, 56, 57, 58] (by decide +kernel) (by decide +kernel)
set_option maxRecDepth 20000 in
theorem gX5_cut_X4_cutLoaf : GoodIn wsX5_cut (wsV RX5 160 RX4 yX4_cutLoaf wsX4_cutLoaf) := goodIn_app (goodIn_of _ (by decide +kernel)) ggX5_cut_X4_cutLoaf
theorem dX5_cut_0 : decode cX5_cut 0 = .ok (.iload_n 1, 1) := by decide +kernel
theorem dX5_cut_1 : decode cX5_cut 1 = .ok (.invokestatic 147, 3) := by decide +kernel
theorem dX5_cut_4 : decode cX5_cut 4 = .ok (.ifCond .ne 5, 3) := by decide +kernel
theorem dX5_cut_7 : decode cX5_cut 7 = .ok (.iconst (-1), 1) := by decide +kernel
theorem dX5_cut_8 : decode cX5_cut 8 = .ok (.ireturn, 1) := by decide +kernel
theorem dX5_cut_9 : decode cX5_cut 9 = .ok (.aload_n 0, 1) := by decide +kernel
theorem dX5_cut_10 : decode cX5_cut 10 = .ok (.getfield 31, 3) := by decide +kernel
theorem dX5_cut_13 : decode cX5_cut 13 = .ok (.invokevirtual 153, 3) := by decide +kernel
theorem dX5_cut_16 : decode cX5_cut 16 = .ok (.ifCond .ne 6, 3) := by decide +kernel
theorem dX5_cut_19 : decode cX5_cut 19 = .ok (.bipush (-4), 2) := by decide +kernel
theorem dX5_cut_21 : decode cX5_cut 21 = .ok (.ireturn, 1) := by decide +kernel
theorem dX5_cut_22 : decode cX5_cut 22 = .ok (.aload_n 0, 1) := by decide +kernel
theorem dX5_cut_23 : decode cX5_cut 23 = .ok (.getfield 31, 3) := by decide +kernel
theorem dX5_cut_26 : decode cX5_cut 26 = .ok (.iconst 1, 1) := by decide +kernel
theorem dX5_cut_27 : decode cX5_cut 27 = .ok (.invokevirtual 157, 3) := by decide +kernel
theorem dX5_cut_30 : decode cX5_cut 30 = .ok (.ifCond .ne 6, 3) := by decide +kernel
theorem dX5_cut_33 : decode cX5_cut 33 = .ok (.bipush (-2), 2) := by decide +kernel
theorem dX5_cut_35 : decode cX5_cut 35 = .ok (.ireturn, 1) := by decide +kernel
theorem dX5_cut_36 : decode cX5_cut 36 = .ok (.aload_n 0, 1) := by decide +kernel
theorem dX5_cut_37 : decode cX5_cut 37 = .ok (.getfield 31, 3) := by decide +kernel
theorem dX5_cut_40 : decode cX5_cut 40 = .ok (.iload_n 1, 1) := by decide +kernel
theorem dX5_cut_41 : decode cX5_cut 41 = .ok (.invokevirtual 160, 3) := by decide +kernel
theorem dX5_cut_44 : decode cX5_cut 44 = .ok (.aload_n 0, 1) := by decide +kernel
theorem dX5_cut_45 : decode cX5_cut 45 = .ok (.getfield 31, 3) := by decide +kernel
theorem dX5_cut_48 : decode cX5_cut 48 = .ok (.getfield 163, 3) := by decide +kernel
theorem dX5_cut_51 : decode cX5_cut 51 = .ok (.iload_n 1, 1) := by decide +kernel
theorem dX5_cut_52 : decode cX5_cut 52 = .ok (.iaload, 1) := by decide +kernel
theorem dX5_cut_53 : decode cX5_cut 53 = .ok (.ireturn, 1) := by decide +kernel
set_option maxRecDepth 20000 in
theorem ggX5_give_X4_isWorker : GoodIn wsX5_give wsX4_isWorker := goodIn_r _ [6, 7, 96, 97, 98, 99, 100, 101, 102, 103, 104, 105, 106, 107, 108] (by decide +kernel) (by decide +kernel)
set_option maxRecDepth 20000 in
theorem gX5_give_X4_isWorker : GoodIn wsX5_give (wsV RX5 119 RX4 yX4_isWorker wsX4_isWorker) := goodIn_app (goodIn_of _ (by decide +kernel)) ggX5_give_X4_isWorker
set_option maxRecDepth 20000 in
theorem ggX5_give_X5_isPart : GoodIn wsX5_give wsX5_isPart := goodIn_r _ [11] (by decide +kernel) (by decide +kernel)
set_option maxRecDepth 20000 in
theorem gX5_give_X5_isPart : GoodIn wsX5_give (va_wsS RX5 147 yX5_isPart wsX5_isPart) := goodIn_app (goodIn_of _ (by decide +kernel)) ggX5_give_X5_isPart
set_option maxRecDepth 20000 in
theorem ggX5_give_X4_canGive : GoodIn wsX5_give wsX4_canGive := goodIn_r _ [15, 16, 17, 18, 5, 19, 20, 21, 22, 23, 24, 25, 26, 27, 28, 29, 30, 31, 32, 33, 34, 35, 36, 37, 38, 39, 40, 41, 42, 43, 44, 45, 46, 47, 10, 48, 96, 97, 98, 99, 100, 101, 102, 103, 104, 105, 106, 107, 108] (by decide +kernel) (by decide +kernel)
set_option maxRecDepth 20000 in
theorem gX5_give_X4_canGive : GoodIn wsX5_give (wsV RX5 166 RX4 yX4_canGive wsX4_canGive) := goodIn_app (goodIn_of _ (by decide +kernel)) ggX5_give_X4_canGive
set_option maxRecDepth 20000 in
theorem ggX5_give_X4_hasRoomFor : GoodIn wsX5_give wsX4_hasRoomFor := goodIn_r _ [52, 53, 96, 97, 98, 99, 100, 101, 102, 103, 104, 105, 106, 107, 108] (by decide +kernel) (by decide +kernel)
set_option maxRecDepth 20000 in
theorem gX5_give_X4_hasRoomFor : GoodIn wsX5_give (wsV RX5 157 RX4 yX4_hasRoomFor wsX4_hasRoomFor) := goodIn_app (goodIn_of _ (by decide +kernel)) ggX5_give_X4_hasRoomFor
set_option maxRecDepth 20000 in
theorem ggX5_give_X4_givePart : GoodIn wsX5_give wsX4_givePart := goodIn_r _ [57, 58, 59, 60, 5, 61, 27, 21, 62, 63, 64, 65, 66, 20, 67, 10, 68, 69, 70, 71, 72, 73, 53, 74, 75, 76, 96, 97, 98, 99, 100, 101, 102, 103, 104, 105, 106, 107, 108] (by decide +kernel) (by decide +kernel)
set_option maxRecDepth 20000 in
theorem gX5_give_X4_givePart : GoodIn wsX5_give (wsV RX5 169 RX4 yX4_givePart wsX4_givePart) := goodIn_app (goodIn_of _ (by decide +kernel)) ggX5_give_X4_givePart
set_option maxRecDepth 20000 in
theorem ggX5_give_J6_bitCount_0f7a4 : GoodIn wsX5_give wsJ6_bitCount_0f7a4 := goodIn_r _ [80, 81, 82, 83] (by decide +kernel) (by decide +kernel)
set_option maxRecDepth 20000 in
theorem gX5_give_J6_bitCount_0f7a4 : GoodIn wsX5_give (va_wsS RX5 137 yJ6_bitCount_0f7a4 wsJ6_bitCount_0f7a4) := goodIn_app (goodIn_of _ (by decide +kernel)) ggX5_give_J6_bitCount_0f7a4
theorem dX5_give_0 : decode cX5_give 0 = .ok (.aload_n 0, 1) := by decide +kernel
theorem dX5_give_1 : decode cX5_give 1 = .ok (.getfield 31, 3) := by decide +kernel
theorem dX5_give_4 : decode cX5_give 4 = .ok (.iload_n 1, 1) := by decide +kernel
theorem dX5_give_5 : decode cX5_give 5 = .ok (.invokevirtual 119, 3) := by decide +kernel
theorem dX5_give_8 : decode cX5_give 8 = .ok (.ifCond .eq 10, 3) := by decide +kernel
theorem dX5_give_11 : decode cX5_give 11 = .ok (.iload_n 2, 1) := by decide +kernel
theorem dX5_give_12 : decode cX5_give 12 = .ok (.invokestatic 147, 3) := by decide +kernel
theorem dX5_give_15 : decode cX5_give 15 = .ok (.ifCond .ne 5, 3) := by decide +kernel
theorem dX5_give_18 : decode cX5_give 18 = .ok (.iconst (-1), 1) := by decide +kernel
theorem dX5_give_19 : decode cX5_give 19 = .ok (.ireturn, 1) := by decide +kernel
theorem dX5_give_20 : decode cX5_give 20 = .ok (.aload_n 0, 1) := by decide +kernel
theorem dX5_give_21 : decode cX5_give 21 = .ok (.getfield 31, 3) := by decide +kernel
theorem dX5_give_24 : decode cX5_give 24 = .ok (.iload_n 1, 1) := by decide +kernel
theorem dX5_give_25 : decode cX5_give 25 = .ok (.iload_n 2, 1) := by decide +kernel
theorem dX5_give_26 : decode cX5_give 26 = .ok (.invokevirtual 166, 3) := by decide +kernel
theorem dX5_give_29 : decode cX5_give 29 = .ok (.ifCond .ne 6, 3) := by decide +kernel
theorem dX5_give_32 : decode cX5_give 32 = .ok (.bipush (-4), 2) := by decide +kernel
theorem dX5_give_34 : decode cX5_give 34 = .ok (.ireturn, 1) := by decide +kernel
theorem dX5_give_35 : decode cX5_give 35 = .ok (.aload_n 0, 1) := by decide +kernel
theorem dX5_give_36 : decode cX5_give 36 = .ok (.getfield 31, 3) := by decide +kernel
theorem dX5_give_39 : decode cX5_give 39 = .ok (.iconst 1, 1) := by decide +kernel
theorem dX5_give_40 : decode cX5_give 40 = .ok (.invokevirtual 157, 3) := by decide +kernel
theorem dX5_give_43 : decode cX5_give 43 = .ok (.ifCond .ne 6, 3) := by decide +kernel
theorem dX5_give_46 : decode cX5_give 46 = .ok (.bipush (-2), 2) := by decide +kernel
theorem dX5_give_48 : decode cX5_give 48 = .ok (.ireturn, 1) := by decide +kernel
theorem dX5_give_49 : decode cX5_give 49 = .ok (.aload_n 0, 1) := by decide +kernel
theorem dX5_give_50 : decode cX5_give 50 = .ok (.getfield 31, 3) := by decide +kernel
theorem dX5_give_53 : decode cX5_give 53 = .ok (.iload_n 1, 1) := by decide +kernel
theorem dX5_give_54 : decode cX5_give 54 = .ok (.iload_n 2, 1) := by decide +kernel
theorem dX5_give_55 : decode cX5_give 55 = .ok (.invokevirtual 169, 3) := by decide +kernel
theorem dX5_give_58 : decode cX5_give 58 = .ok (.aload_n 0, 1) := by decide +kernel
theorem dX5_give_59 : decode cX5_give 59 = .ok (.getfield 31, 3) := by decide +kernel
theorem dX5_give_62 : decode cX5_give 62 = .ok (.getfield 172, 3) := by decide +kernel
theorem dX5_give_65 : decode cX5_give 65 = .ok (.iload_n 1, 1) := by decide +kernel
theorem dX5_give_66 : decode cX5_give 66 = .ok (.iaload, 1) := by decide +kernel
theorem dX5_give_67 : decode cX5_give 67 = .ok (.invokestatic 137, 3) := by decide +kernel
theorem dX5_give_70 : decode cX5_give 70 = .ok (.ireturn, 1) := by decide +kernel
set_option maxRecDepth 20000 in
theorem ggX5_back_X4_isWorker : GoodIn wsX5_back wsX4_isWorker := goodIn_r _ [6, 7, 68, 69, 70, 71, 72, 73, 74, 75, 76, 77, 78, 79, 80] (by decide +kernel) (by decide +kernel)
set_option maxRecDepth 20000 in
theorem gX5_back_X4_isWorker : GoodIn wsX5_back (wsV RX5 119 RX4 yX4_isWorker wsX4_isWorker) := goodIn_app (goodIn_of _ (by decide +kernel)) ggX5_back_X4_isWorker
set_option maxRecDepth 20000 in
theorem ggX5_back_X5_isPart : GoodIn wsX5_back wsX5_isPart := goodIn_r _ [11] (by decide +kernel) (by decide +kernel)
set_option maxRecDepth 20000 in
theorem gX5_back_X5_isPart : GoodIn wsX5_back (va_wsS RX5 147 yX5_isPart wsX5_isPart) := goodIn_app (goodIn_of _ (by decide +kernel)) ggX5_back_X5_isPart
set_option maxRecDepth 20000 in
theorem ggX5_back_X4_canTakeBack : GoodIn wsX5_back wsX4_canTakeBack := goodIn_r _ [15, 16, 17, 10, 18, 68, 69, 70, 71, 72, 73, 74, 75, 76, 77, 78, 79, 80] (by decide +kernel) (by decide +kernel)
set_option maxRecDepth 20000 in
theorem gX5_back_X4_canTakeBack : GoodIn wsX5_back (wsV RX5 175 RX4 yX4_canTakeBack wsX4_canTakeBack) := goodIn_app (goodIn_of _ (by decide +kernel)) ggX5_back_X4_canTakeBack
set_option maxRecDepth 20000 in
theorem ggX5_back_X4_hasRoomFor : GoodIn wsX5_back wsX4_hasRoomFor := goodIn_r _ [22, 23, 68, 69, 70, 71, 72, 73, 74, 75, 76, 77, 78, 79, 80] (by decide +kernel) (by decide +kernel)
set_option maxRecDepth 20000 in
theorem gX5_back_X4_hasRoomFor : GoodIn wsX5_back (wsV RX5 157 RX4 yX4_hasRoomFor wsX4_hasRoomFor) := goodIn_app (goodIn_of _ (by decide +kernel)) ggX5_back_X4_hasRoomFor
set_option maxRecDepth 20000 in
theorem ggX5_back_X4_takeBack : GoodIn wsX5_back wsX4_takeBack := goodIn_r _ [27, 28, 29, 30, 5, 31, 16, 32, 33, 34, 35, 36, 37, 38, 39, 10, 40, 41, 42, 43, 44, 45, 23, 46, 47, 48, 68, 69, 70, 71, 72, 73, 74, 75, 76, 77, 78, 79, 80] (by decide +kernel) (by decide +kernel)
set_option maxRecDepth 20000 in
theorem gX5_back_X4_takeBack : GoodIn wsX5_back (wsV RX5 178 RX4 yX4_takeBack wsX4_takeBack) := goodIn_app (goodIn_of _ (by decide +kernel)) ggX5_back_X4_takeBack
set_option maxRecDepth 20000 in
theorem ggX5_back_J6_bitCount_0f7a4 : GoodIn wsX5_back wsJ6_bitCount_0f7a4 := goodIn_r _ [52, 53, 54, 55] (by decide +kernel) (by decide +kernel)
set_option maxRecDepth 20000 in
theorem gX5_back_J6_bitCount_0f7a4 : GoodIn wsX5_back (va_wsS RX5 137 yJ6_bitCount_0f7a4 wsJ6_bitCount_0f7a4) := goodIn_app (goodIn_of _ (by decide +kernel)) ggX5_back_J6_bitCount_0f7a4
theorem dX5_back_0 : decode cX5_back 0 = .ok (.aload_n 0, 1) := by decide +kernel
theorem dX5_back_1 : decode cX5_back 1 = .ok (.getfield 31, 3) := by decide +kernel
theorem dX5_back_4 : decode cX5_back 4 = .ok (.iload_n 1, 1) := by decide +kernel
theorem dX5_back_5 : decode cX5_back 5 = .ok (.invokevirtual 119, 3) := by decide +kernel
theorem dX5_back_8 : decode cX5_back 8 = .ok (.ifCond .eq 10, 3) := by decide +kernel
theorem dX5_back_11 : decode cX5_back 11 = .ok (.iload_n 2, 1) := by decide +kernel
theorem dX5_back_12 : decode cX5_back 12 = .ok (.invokestatic 147, 3) := by decide +kernel
theorem dX5_back_15 : decode cX5_back 15 = .ok (.ifCond .ne 5, 3) := by decide +kernel
theorem dX5_back_18 : decode cX5_back 18 = .ok (.iconst (-1), 1) := by decide +kernel
theorem dX5_back_19 : decode cX5_back 19 = .ok (.ireturn, 1) := by decide +kernel
theorem dX5_back_20 : decode cX5_back 20 = .ok (.aload_n 0, 1) := by decide +kernel
theorem dX5_back_21 : decode cX5_back 21 = .ok (.getfield 31, 3) := by decide +kernel
theorem dX5_back_24 : decode cX5_back 24 = .ok (.iload_n 1, 1) := by decide +kernel
theorem dX5_back_25 : decode cX5_back 25 = .ok (.iload_n 2, 1) := by decide +kernel
theorem dX5_back_26 : decode cX5_back 26 = .ok (.invokevirtual 175, 3) := by decide +kernel
theorem dX5_back_29 : decode cX5_back 29 = .ok (.ifCond .ne 6, 3) := by decide +kernel
theorem dX5_back_32 : decode cX5_back 32 = .ok (.bipush (-4), 2) := by decide +kernel
theorem dX5_back_34 : decode cX5_back 34 = .ok (.ireturn, 1) := by decide +kernel
theorem dX5_back_35 : decode cX5_back 35 = .ok (.aload_n 0, 1) := by decide +kernel
theorem dX5_back_36 : decode cX5_back 36 = .ok (.getfield 31, 3) := by decide +kernel
theorem dX5_back_39 : decode cX5_back 39 = .ok (.iconst 1, 1) := by decide +kernel
theorem dX5_back_40 : decode cX5_back 40 = .ok (.invokevirtual 157, 3) := by decide +kernel
theorem dX5_back_43 : decode cX5_back 43 = .ok (.ifCond .ne 6, 3) := by decide +kernel
theorem dX5_back_46 : decode cX5_back 46 = .ok (.bipush (-2), 2) := by decide +kernel
theorem dX5_back_48 : decode cX5_back 48 = .ok (.ireturn, 1) := by decide +kernel
theorem dX5_back_49 : decode cX5_back 49 = .ok (.aload_n 0, 1) := by decide +kernel
theorem dX5_back_50 : decode cX5_back 50 = .ok (.getfield 31, 3) := by decide +kernel
theorem dX5_back_53 : decode cX5_back 53 = .ok (.iload_n 1, 1) := by decide +kernel
theorem dX5_back_54 : decode cX5_back 54 = .ok (.iload_n 2, 1) := by decide +kernel
theorem dX5_back_55 : decode cX5_back 55 = .ok (.invokevirtual 178, 3) := by decide +kernel
theorem dX5_back_58 : decode cX5_back 58 = .ok (.aload_n 0, 1) := by decide +kernel
theorem dX5_back_59 : decode cX5_back 59 = .ok (.getfield 31, 3) := by decide +kernel
theorem dX5_back_62 : decode cX5_back 62 = .ok (.getfield 172, 3) := by decide +kernel
theorem dX5_back_65 : decode cX5_back 65 = .ok (.iload_n 1, 1) := by decide +kernel
theorem dX5_back_66 : decode cX5_back 66 = .ok (.iaload, 1) := by decide +kernel
theorem dX5_back_67 : decode cX5_back 67 = .ok (.invokestatic 137, 3) := by decide +kernel
theorem dX5_back_70 : decode cX5_back 70 = .ok (.ireturn, 1) := by decide +kernel
set_option maxRecDepth 20000 in
theorem ggX5_bake_X4_canBake : GoodIn wsX5_bake wsX4_canBake := goodIn_r _ [6, 7, 8, 41, 42, 43, 44, 45, 46, 47, 48, 49, 50, 51, 52, 53] (by decide +kernel) (by decide +kernel)
set_option maxRecDepth 20000 in
theorem gX5_bake_X4_canBake : GoodIn wsX5_bake (wsV RX5 181 RX4 yX4_canBake wsX4_canBake) := goodIn_app (goodIn_of _ (by decide +kernel)) ggX5_bake_X4_canBake
set_option maxRecDepth 20000 in
theorem ggX5_bake_X4_hasRoomFor : GoodIn wsX5_bake wsX4_hasRoomFor := goodIn_r _ [12, 13, 41, 42, 43, 44, 45, 46, 47, 48, 49, 50, 51, 52, 53] (by decide +kernel) (by decide +kernel)
set_option maxRecDepth 20000 in
theorem gX5_bake_X4_hasRoomFor : GoodIn wsX5_bake (wsV RX5 157 RX4 yX4_hasRoomFor wsX4_hasRoomFor) := goodIn_app (goodIn_of _ (by decide +kernel)) ggX5_bake_X4_hasRoomFor
set_option maxRecDepth 20000 in
theorem ggX5_bake_X4_bakeLoaves : GoodIn wsX5_bake wsX4_bakeLoaves := goodIn_r _ [17, 8, 18, 19, 20, 21, 22, 23, 24, 5, 25, 13, 26, 27, 28, 41, 42, 43, 44, 45, 46, 47, 48, 49, 50, 51, 52, 53] (by decide +kernel) (by decide +kernel)
set_option maxRecDepth 20000 in
theorem gX5_bake_X4_bakeLoaves : GoodIn wsX5_bake (wsV RX5 184 RX4 yX4_bakeLoaves wsX4_bakeLoaves) := goodIn_app (goodIn_of _ (by decide +kernel)) ggX5_bake_X4_bakeLoaves
theorem dX5_bake_0 : decode cX5_bake 0 = .ok (.iload_n 1, 1) := by decide +kernel
theorem dX5_bake_1 : decode cX5_bake 1 = .ok (.iconst 1, 1) := by decide +kernel
theorem dX5_bake_2 : decode cX5_bake 2 = .ok (.if_icmp .lt 9, 3) := by decide +kernel
theorem dX5_bake_5 : decode cX5_bake 5 = .ok (.iload_n 1, 1) := by decide +kernel
theorem dX5_bake_6 : decode cX5_bake 6 = .ok (.bipush 9, 2) := by decide +kernel
theorem dX5_bake_8 : decode cX5_bake 8 = .ok (.if_icmp .le 5, 3) := by decide +kernel
theorem dX5_bake_11 : decode cX5_bake 11 = .ok (.iconst (-1), 1) := by decide +kernel
theorem dX5_bake_12 : decode cX5_bake 12 = .ok (.ireturn, 1) := by decide +kernel
theorem dX5_bake_13 : decode cX5_bake 13 = .ok (.aload_n 0, 1) := by decide +kernel
theorem dX5_bake_14 : decode cX5_bake 14 = .ok (.getfield 31, 3) := by decide +kernel
theorem dX5_bake_17 : decode cX5_bake 17 = .ok (.invokevirtual 181, 3) := by decide +kernel
theorem dX5_bake_20 : decode cX5_bake 20 = .ok (.ifCond .ne 6, 3) := by decide +kernel
theorem dX5_bake_23 : decode cX5_bake 23 = .ok (.bipush (-4), 2) := by decide +kernel
theorem dX5_bake_25 : decode cX5_bake 25 = .ok (.ireturn, 1) := by decide +kernel
theorem dX5_bake_26 : decode cX5_bake 26 = .ok (.aload_n 0, 1) := by decide +kernel
theorem dX5_bake_27 : decode cX5_bake 27 = .ok (.getfield 31, 3) := by decide +kernel
theorem dX5_bake_30 : decode cX5_bake 30 = .ok (.iconst 1, 1) := by decide +kernel
theorem dX5_bake_31 : decode cX5_bake 31 = .ok (.invokevirtual 157, 3) := by decide +kernel
theorem dX5_bake_34 : decode cX5_bake 34 = .ok (.ifCond .ne 6, 3) := by decide +kernel
theorem dX5_bake_37 : decode cX5_bake 37 = .ok (.bipush (-2), 2) := by decide +kernel
theorem dX5_bake_39 : decode cX5_bake 39 = .ok (.ireturn, 1) := by decide +kernel
theorem dX5_bake_40 : decode cX5_bake 40 = .ok (.aload_n 0, 1) := by decide +kernel
theorem dX5_bake_41 : decode cX5_bake 41 = .ok (.getfield 31, 3) := by decide +kernel
theorem dX5_bake_44 : decode cX5_bake 44 = .ok (.iload_n 1, 1) := by decide +kernel
theorem dX5_bake_45 : decode cX5_bake 45 = .ok (.invokevirtual 184, 3) := by decide +kernel
theorem dX5_bake_48 : decode cX5_bake 48 = .ok (.aload_n 0, 1) := by decide +kernel
theorem dX5_bake_49 : decode cX5_bake 49 = .ok (.getfield 31, 3) := by decide +kernel
theorem dX5_bake_52 : decode cX5_bake 52 = .ok (.getfield 187, 3) := by decide +kernel
theorem dX5_bake_55 : decode cX5_bake 55 = .ok (.ireturn, 1) := by decide +kernel
set_option maxRecDepth 20000 in
theorem ggX5_undo_X4_undoFrom : GoodIn wsX5_undo wsX4_undoFrom := goodIn_r _ [6, 7, 8, 9, 10, 11, 12, 13, 5, 14, 15, 16, 17, 18, 19, 20, 21, 22, 23, 24, 25, 26, 27, 28, 29, 30, 31, 32, 33, 34, 35, 48, 49, 50, 51, 52, 53, 54, 55, 56, 57, 58, 59, 60] (by decide +kernel) (by decide +kernel)
set_option maxRecDepth 20000 in
theorem gX5_undo_X4_undoFrom : GoodIn wsX5_undo (wsV RX5 193 RX4 yX4_undoFrom wsX4_undoFrom) := goodIn_app (goodIn_of _ (by decide +kernel)) ggX5_undo_X4_undoFrom
theorem dX5_undo_0 : decode cX5_undo 0 = .ok (.iload_n 1, 1) := by decide +kernel
theorem dX5_undo_1 : decode cX5_undo 1 = .ok (.ifCond .lt 14, 3) := by decide +kernel
theorem dX5_undo_4 : decode cX5_undo 4 = .ok (.iload_n 1, 1) := by decide +kernel
theorem dX5_undo_5 : decode cX5_undo 5 = .ok (.aload_n 0, 1) := by decide +kernel
theorem dX5_undo_6 : decode cX5_undo 6 = .ok (.getfield 31, 3) := by decide +kernel
theorem dX5_undo_9 : decode cX5_undo 9 = .ok (.getfield 190, 3) := by decide +kernel
theorem dX5_undo_12 : decode cX5_undo 12 = .ok (.if_icmp .le 5, 3) := by decide +kernel
theorem dX5_undo_15 : decode cX5_undo 15 = .ok (.iconst (-1), 1) := by decide +kernel
theorem dX5_undo_16 : decode cX5_undo 16 = .ok (.ireturn, 1) := by decide +kernel
theorem dX5_undo_17 : decode cX5_undo 17 = .ok (.aload_n 0, 1) := by decide +kernel
theorem dX5_undo_18 : decode cX5_undo 18 = .ok (.getfield 31, 3) := by decide +kernel
theorem dX5_undo_21 : decode cX5_undo 21 = .ok (.getfield 190, 3) := by decide +kernel
theorem dX5_undo_24 : decode cX5_undo 24 = .ok (.iload_n 1, 1) := by decide +kernel
theorem dX5_undo_25 : decode cX5_undo 25 = .ok (.isub, 1) := by decide +kernel
theorem dX5_undo_26 : decode cX5_undo 26 = .ok (.istore_n 2, 1) := by decide +kernel
theorem dX5_undo_27 : decode cX5_undo 27 = .ok (.aload_n 0, 1) := by decide +kernel
theorem dX5_undo_28 : decode cX5_undo 28 = .ok (.getfield 31, 3) := by decide +kernel
theorem dX5_undo_31 : decode cX5_undo 31 = .ok (.iload_n 1, 1) := by decide +kernel
theorem dX5_undo_32 : decode cX5_undo 32 = .ok (.invokevirtual 193, 3) := by decide +kernel
theorem dX5_undo_35 : decode cX5_undo 35 = .ok (.iload_n 2, 1) := by decide +kernel
theorem dX5_undo_36 : decode cX5_undo 36 = .ok (.ireturn, 1) := by decide +kernel
set_option maxRecDepth 20000 in
theorem ggX5_keep_X4_becomeLike : GoodIn wsX5_keep wsX4_becomeLike := goodIn_r _ [7, 8, 9, 10, 11, 12, 13, 14, 15, 16, 17, 18, 19, 20, 21, 22, 23, 24, 37, 38, 39, 40, 41, 42, 43, 44, 45, 46, 47, 48, 49] (by decide +kernel) (by decide +kernel)
set_option maxRecDepth 20000 in
theorem gX5_keep_X4_becomeLike : GoodIn wsX5_keep (wsV RX5 196 RX4 yX4_becomeLike wsX4_becomeLike) := goodIn_app (goodIn_of _ (by decide +kernel)) ggX5_keep_X4_becomeLike
theorem dX5_keep_0 : decode cX5_keep 0 = .ok (.iload_n 1, 1) := by decide +kernel
theorem dX5_keep_1 : decode cX5_keep 1 = .ok (.ifCond .lt 8, 3) := by decide +kernel
theorem dX5_keep_4 : decode cX5_keep 4 = .ok (.iload_n 1, 1) := by decide +kernel
theorem dX5_keep_5 : decode cX5_keep 5 = .ok (.iconst 3, 1) := by decide +kernel
theorem dX5_keep_6 : decode cX5_keep 6 = .ok (.if_icmp .lt 5, 3) := by decide +kernel
theorem dX5_keep_9 : decode cX5_keep 9 = .ok (.iconst (-1), 1) := by decide +kernel
theorem dX5_keep_10 : decode cX5_keep 10 = .ok (.ireturn, 1) := by decide +kernel
theorem dX5_keep_11 : decode cX5_keep 11 = .ok (.aload_n 0, 1) := by decide +kernel
theorem dX5_keep_12 : decode cX5_keep 12 = .ok (.getfield 31, 3) := by decide +kernel
theorem dX5_keep_15 : decode cX5_keep 15 = .ok (.getfield 116, 3) := by decide +kernel
theorem dX5_keep_18 : decode cX5_keep 18 = .ok (.ifCond .ne 6, 3) := by decide +kernel
theorem dX5_keep_21 : decode cX5_keep 21 = .ok (.bipush (-4), 2) := by decide +kernel
theorem dX5_keep_23 : decode cX5_keep 23 = .ok (.ireturn, 1) := by decide +kernel
theorem dX5_keep_24 : decode cX5_keep 24 = .ok (.aload_n 0, 1) := by decide +kernel
theorem dX5_keep_25 : decode cX5_keep 25 = .ok (.getfield 35, 3) := by decide +kernel
theorem dX5_keep_28 : decode cX5_keep 28 = .ok (.iload_n 1, 1) := by decide +kernel
theorem dX5_keep_29 : decode cX5_keep 29 = .ok (.aaload, 1) := by decide +kernel
theorem dX5_keep_30 : decode cX5_keep 30 = .ok (.aload_n 0, 1) := by decide +kernel
theorem dX5_keep_31 : decode cX5_keep 31 = .ok (.getfield 31, 3) := by decide +kernel
theorem dX5_keep_34 : decode cX5_keep 34 = .ok (.invokevirtual 196, 3) := by decide +kernel
theorem dX5_keep_37 : decode cX5_keep 37 = .ok (.aload_n 0, 1) := by decide +kernel
theorem dX5_keep_38 : decode cX5_keep 38 = .ok (.getfield 31, 3) := by decide +kernel
theorem dX5_keep_41 : decode cX5_keep 41 = .ok (.getfield 190, 3) := by decide +kernel
theorem dX5_keep_44 : decode cX5_keep 44 = .ok (.ireturn, 1) := by decide +kernel
set_option maxRecDepth 20000 in
theorem ggX5_on_X5_found : GoodIn wsX5_on wsX5_found := goodIn_r _ [7, 8, 9, 32, 33, 34, 35, 36, 37, 38, 39, 40, 41, 42, 43] (by decide +kernel) (by decide +kernel)
set_option maxRecDepth 20000 in
theorem gX5_on_X5_found : GoodIn wsX5_on (wsV RX5 61 RX5 yX5_found wsX5_found) := goodIn_app (goodIn_of _ (by decide +kernel)) ggX5_on_X5_found
set_option maxRecDepth 20000 in
theorem ggX5_on_X4_becomeLike : GoodIn wsX5_on wsX4_becomeLike := goodIn_r _ [14, 15, 16, 17, 18, 19, 20, 21, 22, 23, 24, 25, 26, 27, 28, 29, 30, 31, 44, 45, 46, 47, 48, 49, 50, 51, 52, 53, 54, 55, 56] (by decide +kernel) (by decide +kernel)
set_option maxRecDepth 20000 in
theorem gX5_on_X4_becomeLike : GoodIn wsX5_on (wsV RX5 196 RX4 yX4_becomeLike wsX4_becomeLike) := goodIn_app (goodIn_of _ (by decide +kernel)) ggX5_on_X4_becomeLike
theorem dX5_on_0 : decode cX5_on 0 = .ok (.iload_n 1, 1) := by decide +kernel
theorem dX5_on_1 : decode cX5_on 1 = .ok (.ifCond .lt 8, 3) := by decide +kernel
theorem dX5_on_4 : decode cX5_on 4 = .ok (.iload_n 1, 1) := by decide +kernel
theorem dX5_on_5 : decode cX5_on 5 = .ok (.iconst 3, 1) := by decide +kernel
theorem dX5_on_6 : decode cX5_on 6 = .ok (.if_icmp .lt 5, 3) := by decide +kernel
theorem dX5_on_9 : decode cX5_on 9 = .ok (.iconst (-1), 1) := by decide +kernel
theorem dX5_on_10 : decode cX5_on 10 = .ok (.ireturn, 1) := by decide +kernel
theorem dX5_on_11 : decode cX5_on 11 = .ok (.aload_n 0, 1) := by decide +kernel
theorem dX5_on_12 : decode cX5_on 12 = .ok (.getfield 35, 3) := by decide +kernel
theorem dX5_on_15 : decode cX5_on 15 = .ok (.iload_n 1, 1) := by decide +kernel
theorem dX5_on_16 : decode cX5_on 16 = .ok (.aaload, 1) := by decide +kernel
theorem dX5_on_17 : decode cX5_on 17 = .ok (.getfield 116, 3) := by decide +kernel
theorem dX5_on_20 : decode cX5_on 20 = .ok (.ifCond .ne 9, 3) := by decide +kernel
theorem dX5_on_23 : decode cX5_on 23 = .ok (.aload_n 0, 1) := by decide +kernel
theorem dX5_on_24 : decode cX5_on 24 = .ok (.iconst 1, 1) := by decide +kernel
theorem dX5_on_25 : decode cX5_on 25 = .ok (.invokevirtual 61, 3) := by decide +kernel
theorem dX5_on_28 : decode cX5_on 28 = .ok (.ireturn, 1) := by decide +kernel
theorem dX5_on_29 : decode cX5_on 29 = .ok (.aload_n 0, 1) := by decide +kernel
theorem dX5_on_30 : decode cX5_on 30 = .ok (.getfield 31, 3) := by decide +kernel
theorem dX5_on_33 : decode cX5_on 33 = .ok (.aload_n 0, 1) := by decide +kernel
theorem dX5_on_34 : decode cX5_on 34 = .ok (.getfield 35, 3) := by decide +kernel
theorem dX5_on_37 : decode cX5_on 37 = .ok (.iload_n 1, 1) := by decide +kernel
theorem dX5_on_38 : decode cX5_on 38 = .ok (.aaload, 1) := by decide +kernel
theorem dX5_on_39 : decode cX5_on 39 = .ok (.invokevirtual 196, 3) := by decide +kernel
theorem dX5_on_42 : decode cX5_on 42 = .ok (.aload_n 0, 1) := by decide +kernel
theorem dX5_on_43 : decode cX5_on 43 = .ok (.getfield 31, 3) := by decide +kernel
theorem dX5_on_46 : decode cX5_on 46 = .ok (.getfield 190, 3) := by decide +kernel
theorem dX5_on_49 : decode cX5_on 49 = .ok (.ireturn, 1) := by decide +kernel
set_option maxRecDepth 20000 in
theorem ggX5_lacks_X4_isWorker : GoodIn wsX5_lacks wsX4_isWorker := goodIn_r _ [7, 8, 31, 32, 33, 34, 35, 36, 37, 38, 39, 40, 41, 42, 43] (by decide +kernel) (by decide +kernel)
set_option maxRecDepth 20000 in
theorem gX5_lacks_X4_isWorker : GoodIn wsX5_lacks (wsV RX5 119 RX4 yX4_isWorker wsX4_isWorker) := goodIn_app (goodIn_of _ (by decide +kernel)) ggX5_lacks_X4_isWorker
set_option maxRecDepth 20000 in
theorem ggX5_lacks_X5_tellFraction : GoodIn wsX5_lacks wsX5_tellFraction := goodIn_r _ [13, 14, 15, 16, 17, 12, 18, 19, 20, 21, 22, 23, 24, 25, 26, 27, 28, 29, 30] (by decide +kernel) (by decide +kernel)
set_option maxRecDepth 20000 in
theorem gX5_lacks_X5_tellFraction : GoodIn wsX5_lacks (wsV RX5 205 RX5 yX5_tellFraction wsX5_tellFraction) := goodIn_app (goodIn_of _ (by decide +kernel)) ggX5_lacks_X5_tellFraction
theorem dX5_lacks_0 : decode cX5_lacks 0 = .ok (.aload_n 0, 1) := by decide +kernel
theorem dX5_lacks_1 : decode cX5_lacks 1 = .ok (.getfield 31, 3) := by decide +kernel
theorem dX5_lacks_4 : decode cX5_lacks 4 = .ok (.iload_n 1, 1) := by decide +kernel
theorem dX5_lacks_5 : decode cX5_lacks 5 = .ok (.invokevirtual 119, 3) := by decide +kernel
theorem dX5_lacks_8 : decode cX5_lacks 8 = .ok (.ifCond .ne 5, 3) := by decide +kernel
theorem dX5_lacks_11 : decode cX5_lacks 11 = .ok (.iconst (-1), 1) := by decide +kernel
theorem dX5_lacks_12 : decode cX5_lacks 12 = .ok (.ireturn, 1) := by decide +kernel
theorem dX5_lacks_13 : decode cX5_lacks 13 = .ok (.aload_n 0, 1) := by decide +kernel
theorem dX5_lacks_14 : decode cX5_lacks 14 = .ok (.aload_n 0, 1) := by decide +kernel
theorem dX5_lacks_15 : decode cX5_lacks 15 = .ok (.getfield 31, 3) := by decide +kernel
theorem dX5_lacks_18 : decode cX5_lacks 18 = .ok (.getfield 200, 3) := by decide +kernel
theorem dX5_lacks_21 : decode cX5_lacks 21 = .ok (.iload_n 1, 1) := by decide +kernel
theorem dX5_lacks_22 : decode cX5_lacks 22 = .ok (.iaload, 1) := by decide +kernel
theorem dX5_lacks_23 : decode cX5_lacks 23 = .ok (.i2l, 1) := by decide +kernel
theorem dX5_lacks_24 : decode cX5_lacks 24 = .ok (.ldc2_w 203, 3) := by decide +kernel
theorem dX5_lacks_27 : decode cX5_lacks 27 = .ok (.invokevirtual 205, 3) := by decide +kernel
theorem dX5_lacks_30 : decode cX5_lacks 30 = .ok (.iconst 1, 1) := by decide +kernel
theorem dX5_lacks_31 : decode cX5_lacks 31 = .ok (.ireturn, 1) := by decide +kernel
set_option maxRecDepth 20000 in
theorem ggX5_ways_X4_isWorker : GoodIn wsX5_ways wsX4_isWorker := goodIn_r _ [8, 9, 75, 76, 77, 78, 79, 80, 81, 82, 83, 84, 85, 86, 87] (by decide +kernel) (by decide +kernel)
set_option maxRecDepth 20000 in
theorem gX5_ways_X4_isWorker : GoodIn wsX5_ways (wsV RX5 119 RX4 yX4_isWorker wsX4_isWorker) := goodIn_app (goodIn_of _ (by decide +kernel)) ggX5_ways_X4_isWorker
set_option maxRecDepth 20000 in
theorem ggX5_ways_X4_openTo : GoodIn wsX5_ways wsX4_openTo := goodIn_r _ [13, 14, 15, 16, 17, 18, 19, 20, 21, 22, 23, 24, 25, 75, 76, 77, 78, 79, 80, 81, 82, 83, 84, 85, 86, 87] (by decide +kernel) (by decide +kernel)
set_option maxRecDepth 20000 in
theorem gX5_ways_X4_openTo : GoodIn wsX5_ways (wsV RX5 209 RX4 yX4_openTo wsX4_openTo) := goodIn_app (goodIn_of _ (by decide +kernel)) ggX5_ways_X4_openTo
set_option maxRecDepth 20000 in
theorem ggX5_ways_X1_lookFor : GoodIn wsX5_ways wsX1_lookFor := goodIn_r _ [30, 31, 32, 33, 34, 35, 36, 37, 38, 29, 39, 40, 41, 42, 43, 44, 45, 46, 47, 48, 49, 50, 51, 52, 53, 54, 55, 56, 57, 58, 59, 60, 61, 62, 88, 89, 90, 91, 92] (by decide +kernel) (by decide +kernel)
set_option maxRecDepth 20000 in
theorem gX5_ways_X1_lookFor : GoodIn wsX5_ways (wsV RX5 212 RX1 yX1_lookFor wsX1_lookFor) := goodIn_app (goodIn_of _ (by decide +kernel)) ggX5_ways_X1_lookFor
theorem dX5_ways_0 : decode cX5_ways 0 = .ok (.aload_n 0, 1) := by decide +kernel
theorem dX5_ways_1 : decode cX5_ways 1 = .ok (.getfield 31, 3) := by decide +kernel
theorem dX5_ways_4 : decode cX5_ways 4 = .ok (.iload_n 1, 1) := by decide +kernel
theorem dX5_ways_5 : decode cX5_ways 5 = .ok (.invokevirtual 119, 3) := by decide +kernel
theorem dX5_ways_8 : decode cX5_ways 8 = .ok (.ifCond .ne 5, 3) := by decide +kernel
theorem dX5_ways_11 : decode cX5_ways 11 = .ok (.iconst (-1), 1) := by decide +kernel
theorem dX5_ways_12 : decode cX5_ways 12 = .ok (.ireturn, 1) := by decide +kernel
theorem dX5_ways_13 : decode cX5_ways 13 = .ok (.aload_n 0, 1) := by decide +kernel
theorem dX5_ways_14 : decode cX5_ways 14 = .ok (.getfield 42, 3) := by decide +kernel
theorem dX5_ways_17 : decode cX5_ways 17 = .ok (.aload_n 0, 1) := by decide +kernel
theorem dX5_ways_18 : decode cX5_ways 18 = .ok (.getfield 31, 3) := by decide +kernel
theorem dX5_ways_21 : decode cX5_ways 21 = .ok (.getfield 200, 3) := by decide +kernel
theorem dX5_ways_24 : decode cX5_ways 24 = .ok (.iload_n 1, 1) := by decide +kernel
theorem dX5_ways_25 : decode cX5_ways 25 = .ok (.iaload, 1) := by decide +kernel
theorem dX5_ways_26 : decode cX5_ways 26 = .ok (.aload_n 0, 1) := by decide +kernel
theorem dX5_ways_27 : decode cX5_ways 27 = .ok (.getfield 31, 3) := by decide +kernel
theorem dX5_ways_30 : decode cX5_ways 30 = .ok (.iload_n 1, 1) := by decide +kernel
theorem dX5_ways_31 : decode cX5_ways 31 = .ok (.invokevirtual 209, 3) := by decide +kernel
theorem dX5_ways_34 : decode cX5_ways 34 = .ok (.invokevirtual 212, 3) := by decide +kernel
theorem dX5_ways_37 : decode cX5_ways 37 = .ok (.aload_n 0, 1) := by decide +kernel
theorem dX5_ways_38 : decode cX5_ways 38 = .ok (.getfield 42, 3) := by decide +kernel
theorem dX5_ways_41 : decode cX5_ways 41 = .ok (.getfield 215, 3) := by decide +kernel
theorem dX5_ways_44 : decode cX5_ways 44 = .ok (.ifCond .ne 6, 3) := by decide +kernel
theorem dX5_ways_47 : decode cX5_ways 47 = .ok (.bipush (-9), 2) := by decide +kernel
theorem dX5_ways_49 : decode cX5_ways 49 = .ok (.ireturn, 1) := by decide +kernel
theorem dX5_ways_50 : decode cX5_ways 50 = .ok (.aload_n 0, 1) := by decide +kernel
theorem dX5_ways_51 : decode cX5_ways 51 = .ok (.aload_n 0, 1) := by decide +kernel
theorem dX5_ways_52 : decode cX5_ways 52 = .ok (.getfield 42, 3) := by decide +kernel
theorem dX5_ways_55 : decode cX5_ways 55 = .ok (.getfield 218, 3) := by decide +kernel
theorem dX5_ways_58 : decode cX5_ways 58 = .ok (.putfield 77, 3) := by decide +kernel
theorem dX5_ways_61 : decode cX5_ways 61 = .ok (.aload_n 0, 1) := by decide +kernel
theorem dX5_ways_62 : decode cX5_ways 62 = .ok (.getfield 42, 3) := by decide +kernel
theorem dX5_ways_65 : decode cX5_ways 65 = .ok (.getfield 215, 3) := by decide +kernel
theorem dX5_ways_68 : decode cX5_ways 68 = .ok (.ireturn, 1) := by decide +kernel
set_option maxRecDepth 20000 in
theorem ggX5_writes_X4_isWorker : GoodIn wsX5_writes wsX4_isWorker := goodIn_r _ [8, 9, 97, 98, 99, 100, 101, 102, 103, 104, 105, 106, 107, 108, 109] (by decide +kernel) (by decide +kernel)
set_option maxRecDepth 20000 in
theorem gX5_writes_X4_isWorker : GoodIn wsX5_writes (wsV RX5 119 RX4 yX4_isWorker wsX4_isWorker) := goodIn_app (goodIn_of _ (by decide +kernel)) ggX5_writes_X4_isWorker
set_option maxRecDepth 20000 in
theorem ggX5_writes_X3_isNumber : GoodIn wsX5_writes wsX3_isNumber := goodIn_r _ [14, 15, 115, 116, 117] (by decide +kernel) (by decide +kernel)
set_option maxRecDepth 20000 in
theorem gX5_writes_X3_isNumber : GoodIn wsX5_writes (wsV RX5 57 RX3 yX3_isNumber wsX3_isNumber) := goodIn_app (goodIn_of _ (by decide +kernel)) ggX5_writes_X3_isNumber
set_option maxRecDepth 20000 in
theorem ggX5_writes_X4_openTo : GoodIn wsX5_writes wsX4_openTo := goodIn_r _ [19, 20, 21, 22, 23, 24, 25, 26, 27, 28, 29, 30, 31, 97, 98, 99, 100, 101, 102, 103, 104, 105, 106, 107, 108, 109] (by decide +kernel) (by decide +kernel)
set_option maxRecDepth 20000 in
theorem gX5_writes_X4_openTo : GoodIn wsX5_writes (wsV RX5 209 RX4 yX4_openTo wsX4_openTo) := goodIn_app (goodIn_of _ (by decide +kernel)) ggX5_writes_X4_openTo
set_option maxRecDepth 20000 in
theorem ggX5_writes_X1_lookFor : GoodIn wsX5_writes wsX1_lookFor := goodIn_r _ [36, 37, 38, 39, 40, 41, 42, 43, 44, 35, 45, 46, 47, 48, 49, 50, 51, 52, 53, 54, 55, 56, 57, 58, 59, 60, 61, 62, 63, 64, 65, 66, 67, 68, 110, 111, 112, 113, 114] (by decide +kernel) (by decide +kernel)
set_option maxRecDepth 20000 in
theorem gX5_writes_X1_lookFor : GoodIn wsX5_writes (wsV RX5 212 RX1 yX1_lookFor wsX1_lookFor) := goodIn_app (goodIn_of _ (by decide +kernel)) ggX5_writes_X1_lookFor
set_option maxRecDepth 20000 in
theorem ggX5_writes_X3_make : GoodIn wsX5_writes wsX3_make := goodIn_r _ [72, 73, 15, 74, 75, 11, 12, 13, 14, 115, 116, 117] (by decide +kernel) (by decide +kernel)
set_option maxRecDepth 20000 in
theorem gX5_writes_X3_make : GoodIn wsX5_writes (wsV RX5 65 RX3 yX3_make wsX3_make) := goodIn_app (goodIn_of _ (by decide +kernel)) ggX5_writes_X3_make
set_option maxRecDepth 20000 in
theorem ggX5_writes_X5_holds : GoodIn wsX5_writes wsX5_holds := goodIn_r _ [65] (by decide +kernel) (by decide +kernel)
set_option maxRecDepth 20000 in
theorem gX5_writes_X5_holds : GoodIn wsX5_writes (va_wsS RX5 150 yX5_holds wsX5_holds) := goodIn_app (goodIn_of _ (by decide +kernel)) ggX5_writes_X5_holds
set_option maxRecDepth 20000 in
theorem ggX5_writes_X3_write : GoodIn wsX5_writes wsX3_write := goodIn_r _ [80, 74, 73, 81, 82, 83, 13, 84, 15, 75, 11, 12, 14, 115, 116, 117] (by decide +kernel) (by decide +kernel)
set_option maxRecDepth 20000 in
theorem gX5_writes_X3_write : GoodIn wsX5_writes (wsV RX5 81 RX3 yX3_write wsX3_write) := goodIn_app (goodIn_of _ (by decide +kernel)) ggX5_writes_X3_write
theorem dX5_writes_0 : decode cX5_writes 0 = .ok (.aload_n 0, 1) := by decide +kernel
theorem dX5_writes_1 : decode cX5_writes 1 = .ok (.getfield 31, 3) := by decide +kernel
theorem dX5_writes_4 : decode cX5_writes 4 = .ok (.iload_n 1, 1) := by decide +kernel
theorem dX5_writes_5 : decode cX5_writes 5 = .ok (.invokevirtual 119, 3) := by decide +kernel
theorem dX5_writes_8 : decode cX5_writes 8 = .ok (.ifCond .eq 14, 3) := by decide +kernel
theorem dX5_writes_11 : decode cX5_writes 11 = .ok (.aload_n 0, 1) := by decide +kernel
theorem dX5_writes_12 : decode cX5_writes 12 = .ok (.getfield 14, 3) := by decide +kernel
theorem dX5_writes_15 : decode cX5_writes 15 = .ok (.iload_n 2, 1) := by decide +kernel
theorem dX5_writes_16 : decode cX5_writes 16 = .ok (.invokevirtual 57, 3) := by decide +kernel
theorem dX5_writes_19 : decode cX5_writes 19 = .ok (.ifCond .ne 5, 3) := by decide +kernel
theorem dX5_writes_22 : decode cX5_writes 22 = .ok (.iconst (-1), 1) := by decide +kernel
theorem dX5_writes_23 : decode cX5_writes 23 = .ok (.ireturn, 1) := by decide +kernel
theorem dX5_writes_24 : decode cX5_writes 24 = .ok (.aload_n 0, 1) := by decide +kernel
theorem dX5_writes_25 : decode cX5_writes 25 = .ok (.getfield 42, 3) := by decide +kernel
theorem dX5_writes_28 : decode cX5_writes 28 = .ok (.aload_n 0, 1) := by decide +kernel
theorem dX5_writes_29 : decode cX5_writes 29 = .ok (.getfield 31, 3) := by decide +kernel
theorem dX5_writes_32 : decode cX5_writes 32 = .ok (.getfield 200, 3) := by decide +kernel
theorem dX5_writes_35 : decode cX5_writes 35 = .ok (.iload_n 1, 1) := by decide +kernel
theorem dX5_writes_36 : decode cX5_writes 36 = .ok (.iaload, 1) := by decide +kernel
theorem dX5_writes_37 : decode cX5_writes 37 = .ok (.aload_n 0, 1) := by decide +kernel
theorem dX5_writes_38 : decode cX5_writes 38 = .ok (.getfield 31, 3) := by decide +kernel
theorem dX5_writes_41 : decode cX5_writes 41 = .ok (.iload_n 1, 1) := by decide +kernel
theorem dX5_writes_42 : decode cX5_writes 42 = .ok (.invokevirtual 209, 3) := by decide +kernel
theorem dX5_writes_45 : decode cX5_writes 45 = .ok (.invokevirtual 212, 3) := by decide +kernel
theorem dX5_writes_48 : decode cX5_writes 48 = .ok (.aload_n 0, 1) := by decide +kernel
theorem dX5_writes_49 : decode cX5_writes 49 = .ok (.getfield 42, 3) := by decide +kernel
theorem dX5_writes_52 : decode cX5_writes 52 = .ok (.getfield 215, 3) := by decide +kernel
theorem dX5_writes_55 : decode cX5_writes 55 = .ok (.ifCond .ne 6, 3) := by decide +kernel
theorem dX5_writes_58 : decode cX5_writes 58 = .ok (.bipush (-9), 2) := by decide +kernel
theorem dX5_writes_60 : decode cX5_writes 60 = .ok (.ireturn, 1) := by decide +kernel
theorem dX5_writes_61 : decode cX5_writes 61 = .ok (.aload_n 0, 1) := by decide +kernel
theorem dX5_writes_62 : decode cX5_writes 62 = .ok (.getfield 14, 3) := by decide +kernel
theorem dX5_writes_65 : decode cX5_writes 65 = .ok (.iload_n 2, 1) := by decide +kernel
theorem dX5_writes_66 : decode cX5_writes 66 = .ok (.aload_n 0, 1) := by decide +kernel
theorem dX5_writes_67 : decode cX5_writes 67 = .ok (.getfield 42, 3) := by decide +kernel
theorem dX5_writes_70 : decode cX5_writes 70 = .ok (.getfield 221, 3) := by decide +kernel
theorem dX5_writes_73 : decode cX5_writes 73 = .ok (.iconst 0, 1) := by decide +kernel
theorem dX5_writes_74 : decode cX5_writes 74 = .ok (.invokevirtual 65, 3) := by decide +kernel
theorem dX5_writes_77 : decode cX5_writes 77 = .ok (.iconst 0, 1) := by decide +kernel
theorem dX5_writes_78 : decode cX5_writes 78 = .ok (.istore_n 3, 1) := by decide +kernel
theorem dX5_writes_79 : decode cX5_writes 79 = .ok (.iconst 2, 1) := by decide +kernel
theorem dX5_writes_80 : decode cX5_writes 80 = .ok (.istore 4, 2) := by decide +kernel
theorem dX5_writes_82 : decode cX5_writes 82 = .ok (.iload 4, 2) := by decide +kernel
theorem dX5_writes_84 : decode cX5_writes 84 = .ok (.bipush 16, 2) := by decide +kernel
theorem dX5_writes_86 : decode cX5_writes 86 = .ok (.if_icmp .gt 38, 3) := by decide +kernel
theorem dX5_writes_89 : decode cX5_writes 89 = .ok (.aload_n 0, 1) := by decide +kernel
theorem dX5_writes_90 : decode cX5_writes 90 = .ok (.getfield 42, 3) := by decide +kernel
theorem dX5_writes_93 : decode cX5_writes 93 = .ok (.getfield 224, 3) := by decide +kernel
theorem dX5_writes_96 : decode cX5_writes 96 = .ok (.iload 4, 2) := by decide +kernel
theorem dX5_writes_98 : decode cX5_writes 98 = .ok (.invokestatic 150, 3) := by decide +kernel
theorem dX5_writes_101 : decode cX5_writes 101 = .ok (.ifCond .eq 17, 3) := by decide +kernel
theorem dX5_writes_104 : decode cX5_writes 104 = .ok (.aload_n 0, 1) := by decide +kernel
theorem dX5_writes_105 : decode cX5_writes 105 = .ok (.getfield 14, 3) := by decide +kernel
theorem dX5_writes_108 : decode cX5_writes 108 = .ok (.iload_n 2, 1) := by decide +kernel
theorem dX5_writes_109 : decode cX5_writes 109 = .ok (.iload_n 3, 1) := by decide +kernel
theorem dX5_writes_110 : decode cX5_writes 110 = .ok (.iload 4, 2) := by decide +kernel
theorem dX5_writes_112 : decode cX5_writes 112 = .ok (.invokevirtual 81, 3) := by decide +kernel
theorem dX5_writes_115 : decode cX5_writes 115 = .ok (.iinc 3 1, 3) := by decide +kernel
theorem dX5_writes_118 : decode cX5_writes 118 = .ok (.iinc 4 1, 3) := by decide +kernel
theorem dX5_writes_121 : decode cX5_writes 121 = .ok (.goto (-39), 3) := by decide +kernel
theorem dX5_writes_124 : decode cX5_writes 124 = .ok (.aload_n 0, 1) := by decide +kernel
theorem dX5_writes_125 : decode cX5_writes 125 = .ok (.getfield 42, 3) := by decide +kernel
theorem dX5_writes_128 : decode cX5_writes 128 = .ok (.getfield 221, 3) := by decide +kernel
theorem dX5_writes_131 : decode cX5_writes 131 = .ok (.ireturn, 1) := by decide +kernel
set_option maxRecDepth 20000 in
theorem ggX5_greedy_X4_isWorker : GoodIn wsX5_greedy wsX4_isWorker := goodIn_r _ [8, 9, 42, 43, 44, 45, 46, 47, 48, 49, 50, 51, 52, 53, 54] (by decide +kernel) (by decide +kernel)
set_option maxRecDepth 20000 in
theorem gX5_greedy_X4_isWorker : GoodIn wsX5_greedy (wsV RX5 119 RX4 yX4_isWorker wsX4_isWorker) := goodIn_app (goodIn_of _ (by decide +kernel)) ggX5_greedy_X4_isWorker
set_option maxRecDepth 20000 in
theorem ggX5_greedy_X4_openTo : GoodIn wsX5_greedy wsX4_openTo := goodIn_r _ [13, 14, 15, 16, 17, 18, 19, 20, 21, 22, 23, 24, 25, 42, 43, 44, 45, 46, 47, 48, 49, 50, 51, 52, 53, 54] (by decide +kernel) (by decide +kernel)
set_option maxRecDepth 20000 in
theorem gX5_greedy_X4_openTo : GoodIn wsX5_greedy (wsV RX5 209 RX4 yX4_openTo wsX4_openTo) := goodIn_app (goodIn_of _ (by decide +kernel)) ggX5_greedy_X4_openTo
set_option maxRecDepth 20000 in
theorem ggX5_greedy_X5_holds : GoodIn wsX5_greedy wsX5_holds := goodIn_r _ [29] (by decide +kernel) (by decide +kernel)
set_option maxRecDepth 20000 in
theorem gX5_greedy_X5_holds : GoodIn wsX5_greedy (va_wsS RX5 150 yX5_holds wsX5_holds) := goodIn_app (goodIn_of _ (by decide +kernel)) ggX5_greedy_X5_holds
theorem dX5_greedy_0 : decode cX5_greedy 0 = .ok (.aload_n 0, 1) := by decide +kernel
theorem dX5_greedy_1 : decode cX5_greedy 1 = .ok (.getfield 31, 3) := by decide +kernel
theorem dX5_greedy_4 : decode cX5_greedy 4 = .ok (.iload_n 1, 1) := by decide +kernel
theorem dX5_greedy_5 : decode cX5_greedy 5 = .ok (.invokevirtual 119, 3) := by decide +kernel
theorem dX5_greedy_8 : decode cX5_greedy 8 = .ok (.ifCond .ne 5, 3) := by decide +kernel
theorem dX5_greedy_11 : decode cX5_greedy 11 = .ok (.iconst (-1), 1) := by decide +kernel
theorem dX5_greedy_12 : decode cX5_greedy 12 = .ok (.ireturn, 1) := by decide +kernel
theorem dX5_greedy_13 : decode cX5_greedy 13 = .ok (.aload_n 0, 1) := by decide +kernel
theorem dX5_greedy_14 : decode cX5_greedy 14 = .ok (.getfield 31, 3) := by decide +kernel
theorem dX5_greedy_17 : decode cX5_greedy 17 = .ok (.iload_n 1, 1) := by decide +kernel
theorem dX5_greedy_18 : decode cX5_greedy 18 = .ok (.invokevirtual 209, 3) := by decide +kernel
theorem dX5_greedy_21 : decode cX5_greedy 21 = .ok (.istore_n 2, 1) := by decide +kernel
theorem dX5_greedy_22 : decode cX5_greedy 22 = .ok (.aload_n 0, 1) := by decide +kernel
theorem dX5_greedy_23 : decode cX5_greedy 23 = .ok (.getfield 31, 3) := by decide +kernel
theorem dX5_greedy_26 : decode cX5_greedy 26 = .ok (.getfield 200, 3) := by decide +kernel
theorem dX5_greedy_29 : decode cX5_greedy 29 = .ok (.iload_n 1, 1) := by decide +kernel
theorem dX5_greedy_30 : decode cX5_greedy 30 = .ok (.iaload, 1) := by decide +kernel
theorem dX5_greedy_31 : decode cX5_greedy 31 = .ok (.istore_n 3, 1) := by decide +kernel
theorem dX5_greedy_32 : decode cX5_greedy 32 = .ok (.iconst 0, 1) := by decide +kernel
theorem dX5_greedy_33 : decode cX5_greedy 33 = .ok (.istore 4, 2) := by decide +kernel
theorem dX5_greedy_35 : decode cX5_greedy 35 = .ok (.iconst 0, 1) := by decide +kernel
theorem dX5_greedy_36 : decode cX5_greedy 36 = .ok (.istore 5, 2) := by decide +kernel
theorem dX5_greedy_38 : decode cX5_greedy 38 = .ok (.iconst 2, 1) := by decide +kernel
theorem dX5_greedy_39 : decode cX5_greedy 39 = .ok (.istore 6, 2) := by decide +kernel
theorem dX5_greedy_41 : decode cX5_greedy 41 = .ok (.iload 6, 2) := by decide +kernel
theorem dX5_greedy_43 : decode cX5_greedy 43 = .ok (.bipush 16, 2) := by decide +kernel
theorem dX5_greedy_45 : decode cX5_greedy 45 = .ok (.if_icmp .gt 42, 3) := by decide +kernel
theorem dX5_greedy_48 : decode cX5_greedy 48 = .ok (.iload_n 2, 1) := by decide +kernel
theorem dX5_greedy_49 : decode cX5_greedy 49 = .ok (.iload 6, 2) := by decide +kernel
theorem dX5_greedy_51 : decode cX5_greedy 51 = .ok (.invokestatic 150, 3) := by decide +kernel
theorem dX5_greedy_54 : decode cX5_greedy 54 = .ok (.ifCond .eq 27, 3) := by decide +kernel
