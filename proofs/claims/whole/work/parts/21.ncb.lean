theorem dX4_readRoads_0 : decode cX4_readRoads 0 = .ok (.iconst 0, 1) := by decide +kernel
theorem dX4_readRoads_1 : decode cX4_readRoads 1 = .ok (.istore_n 2, 1) := by decide +kernel
theorem dX4_readRoads_2 : decode cX4_readRoads 2 = .ok (.iload_n 2, 1) := by decide +kernel
theorem dX4_readRoads_3 : decode cX4_readRoads 3 = .ok (.bipush 14, 2) := by decide +kernel
theorem dX4_readRoads_5 : decode cX4_readRoads 5 = .ok (.if_icmp .gt 50, 3) := by decide +kernel
theorem dX4_readRoads_8 : decode cX4_readRoads 8 = .ok (.aload_n 0, 1) := by decide +kernel
theorem dX4_readRoads_9 : decode cX4_readRoads 9 = .ok (.getfield 10, 3) := by decide +kernel
theorem dX4_readRoads_12 : decode cX4_readRoads 12 = .ok (.ldc 81, 2) := by decide +kernel
theorem dX4_readRoads_14 : decode cX4_readRoads 14 = .ok (.invokevirtual 63, 3) := by decide +kernel
theorem dX4_readRoads_17 : decode cX4_readRoads 17 = .ok (.ifCond .eq 38, 3) := by decide +kernel
theorem dX4_readRoads_20 : decode cX4_readRoads 20 = .ok (.iload_n 2, 1) := by decide +kernel
theorem dX4_readRoads_21 : decode cX4_readRoads 21 = .ok (.bipush 14, 2) := by decide +kernel
theorem dX4_readRoads_23 : decode cX4_readRoads 23 = .ok (.if_icmp .ne 9, 3) := by decide +kernel
theorem dX4_readRoads_26 : decode cX4_readRoads 26 = .ok (.aload_n 0, 1) := by decide +kernel
theorem dX4_readRoads_27 : decode cX4_readRoads 27 = .ok (.iconst 3, 1) := by decide +kernel
theorem dX4_readRoads_28 : decode cX4_readRoads 28 = .ok (.invokevirtual 50, 3) := by decide +kernel
theorem dX4_readRoads_31 : decode cX4_readRoads 31 = .ok (.ireturn, 1) := by decide +kernel
theorem dX4_readRoads_32 : decode cX4_readRoads 32 = .ok (.aload_n 0, 1) := by decide +kernel
theorem dX4_readRoads_33 : decode cX4_readRoads 33 = .ok (.getfield 10, 3) := by decide +kernel
theorem dX4_readRoads_36 : decode cX4_readRoads 36 = .ok (.invokevirtual 67, 3) := by decide +kernel
theorem dX4_readRoads_39 : decode cX4_readRoads 39 = .ok (.aload_n 0, 1) := by decide +kernel
theorem dX4_readRoads_40 : decode cX4_readRoads 40 = .ok (.aload_n 1, 1) := by decide +kernel
theorem dX4_readRoads_41 : decode cX4_readRoads 41 = .ok (.invokevirtual 83, 3) := by decide +kernel
theorem dX4_readRoads_44 : decode cX4_readRoads 44 = .ok (.ifCond .ne 5, 3) := by decide +kernel
theorem dX4_readRoads_47 : decode cX4_readRoads 47 = .ok (.iconst 0, 1) := by decide +kernel
theorem dX4_readRoads_48 : decode cX4_readRoads 48 = .ok (.ireturn, 1) := by decide +kernel
theorem dX4_readRoads_49 : decode cX4_readRoads 49 = .ok (.iinc 2 1, 3) := by decide +kernel
theorem dX4_readRoads_52 : decode cX4_readRoads 52 = .ok (.goto (-50), 3) := by decide +kernel
theorem dX4_readRoads_55 : decode cX4_readRoads 55 = .ok (.iconst 1, 1) := by decide +kernel
theorem dX4_readRoads_56 : decode cX4_readRoads 56 = .ok (.ireturn, 1) := by decide +kernel
set_option maxRecDepth 20000 in
theorem ggX4_readRoad_X4_takeNumber : GoodIn wsX4_readRoad wsX4_takeNumber := goodIn_r _ [9, 2, 3, 4, 1, 10, 11, 12, 8, 13, 14, 15, 16, 17, 18, 19, 20, 21, 22, 23, 24, 25, 26, 27, 28, 29, 30, 31, 32, 33, 34, 35, 36, 37, 38, 53, 54, 55, 56, 57, 58, 59, 60, 61, 62] (by decide +kernel) (by decide +kernel)
set_option maxRecDepth 20000 in
theorem gX4_readRoad_X4_takeNumber : GoodIn wsX4_readRoad (wsV RX4 70 RX4 yX4_takeNumber wsX4_takeNumber) := goodIn_app (goodIn_of _ (by decide +kernel)) ggX4_readRoad_X4_takeNumber
set_option maxRecDepth 20000 in
theorem ggX4_readRoad_X4_faulty : GoodIn wsX4_readRoad wsX4_faulty := goodIn_r _ [13, 14, 2, 15, 16, 53, 54, 55, 56, 57, 58, 59, 60, 61, 62] (by decide +kernel) (by decide +kernel)
set_option maxRecDepth 20000 in
theorem gX4_readRoad_X4_faulty : GoodIn wsX4_readRoad (wsV RX4 50 RX4 yX4_faulty wsX4_faulty) := goodIn_app (goodIn_of _ (by decide +kernel)) ggX4_readRoad_X4_faulty
set_option maxRecDepth 20000 in
theorem ggX4_readRoad_X5_addRoad : GoodIn wsX4_readRoad wsX5_addRoad := goodIn_r _ [43, 44, 45, 46, 47, 48, 63, 64, 65, 66, 67, 68, 69, 70] (by decide +kernel) (by decide +kernel)
set_option maxRecDepth 20000 in
theorem gX4_readRoad_X5_addRoad : GoodIn wsX4_readRoad (wsV RX4 89 RX5 yX5_addRoad wsX5_addRoad) := goodIn_app (goodIn_of _ (by decide +kernel)) ggX4_readRoad_X5_addRoad
set_option maxRecDepth 20000 in
theorem ggX4_readRoad_X4_takeSign : GoodIn wsX4_readRoad wsX4_takeSign := goodIn_r _ [52, 2, 3, 10, 11, 12, 8, 13, 14, 15, 16, 20, 21, 22, 23, 24, 25, 26, 27, 28, 29, 30, 31, 32, 33, 34, 35, 36, 37, 38, 53, 54, 55, 56, 57, 58, 59, 60, 61, 62] (by decide +kernel) (by decide +kernel)
set_option maxRecDepth 20000 in
theorem gX4_readRoad_X4_takeSign : GoodIn wsX4_readRoad (wsV RX4 77 RX4 yX4_takeSign wsX4_takeSign) := goodIn_app (goodIn_of _ (by decide +kernel)) ggX4_readRoad_X4_takeSign
theorem dX4_readRoad_0 : decode cX4_readRoad 0 = .ok (.aload_n 0, 1) := by decide +kernel
theorem dX4_readRoad_1 : decode cX4_readRoad 1 = .ok (.iconst 0, 1) := by decide +kernel
theorem dX4_readRoad_2 : decode cX4_readRoad 2 = .ok (.bipush 7, 2) := by decide +kernel
theorem dX4_readRoad_4 : decode cX4_readRoad 4 = .ok (.invokevirtual 70, 3) := by decide +kernel
theorem dX4_readRoad_7 : decode cX4_readRoad 7 = .ok (.ifCond .ne 5, 3) := by decide +kernel
theorem dX4_readRoad_10 : decode cX4_readRoad 10 = .ok (.iconst 0, 1) := by decide +kernel
theorem dX4_readRoad_11 : decode cX4_readRoad 11 = .ok (.ireturn, 1) := by decide +kernel
theorem dX4_readRoad_12 : decode cX4_readRoad 12 = .ok (.aload_n 0, 1) := by decide +kernel
theorem dX4_readRoad_13 : decode cX4_readRoad 13 = .ok (.getfield 16, 3) := by decide +kernel
theorem dX4_readRoad_16 : decode cX4_readRoad 16 = .ok (.istore_n 2, 1) := by decide +kernel
theorem dX4_readRoad_17 : decode cX4_readRoad 17 = .ok (.aload_n 0, 1) := by decide +kernel
theorem dX4_readRoad_18 : decode cX4_readRoad 18 = .ok (.getfield 10, 3) := by decide +kernel
theorem dX4_readRoad_21 : decode cX4_readRoad 21 = .ok (.getfield 47, 3) := by decide +kernel
theorem dX4_readRoad_24 : decode cX4_readRoad 24 = .ok (.iconst 2, 1) := by decide +kernel
theorem dX4_readRoad_25 : decode cX4_readRoad 25 = .ok (.if_icmp .ne 20, 3) := by decide +kernel
theorem dX4_readRoad_28 : decode cX4_readRoad 28 = .ok (.aload_n 0, 1) := by decide +kernel
theorem dX4_readRoad_29 : decode cX4_readRoad 29 = .ok (.getfield 10, 3) := by decide +kernel
theorem dX4_readRoad_32 : decode cX4_readRoad 32 = .ok (.getfield 86, 3) := by decide +kernel
theorem dX4_readRoad_35 : decode cX4_readRoad 35 = .ok (.iload_n 2, 1) := by decide +kernel
theorem dX4_readRoad_36 : decode cX4_readRoad 36 = .ok (.if_icmp .ne 9, 3) := by decide +kernel
theorem dX4_readRoad_39 : decode cX4_readRoad 39 = .ok (.aload_n 0, 1) := by decide +kernel
theorem dX4_readRoad_40 : decode cX4_readRoad 40 = .ok (.iconst 2, 1) := by decide +kernel
theorem dX4_readRoad_41 : decode cX4_readRoad 41 = .ok (.invokevirtual 50, 3) := by decide +kernel
theorem dX4_readRoad_44 : decode cX4_readRoad 44 = .ok (.ireturn, 1) := by decide +kernel
theorem dX4_readRoad_45 : decode cX4_readRoad 45 = .ok (.aload_n 0, 1) := by decide +kernel
theorem dX4_readRoad_46 : decode cX4_readRoad 46 = .ok (.iconst 0, 1) := by decide +kernel
theorem dX4_readRoad_47 : decode cX4_readRoad 47 = .ok (.bipush 7, 2) := by decide +kernel
theorem dX4_readRoad_49 : decode cX4_readRoad 49 = .ok (.invokevirtual 70, 3) := by decide +kernel
theorem dX4_readRoad_52 : decode cX4_readRoad 52 = .ok (.ifCond .ne 5, 3) := by decide +kernel
theorem dX4_readRoad_55 : decode cX4_readRoad 55 = .ok (.iconst 0, 1) := by decide +kernel
theorem dX4_readRoad_56 : decode cX4_readRoad 56 = .ok (.ireturn, 1) := by decide +kernel
theorem dX4_readRoad_57 : decode cX4_readRoad 57 = .ok (.aload_n 0, 1) := by decide +kernel
theorem dX4_readRoad_58 : decode cX4_readRoad 58 = .ok (.getfield 16, 3) := by decide +kernel
theorem dX4_readRoad_61 : decode cX4_readRoad 61 = .ok (.istore_n 3, 1) := by decide +kernel
theorem dX4_readRoad_62 : decode cX4_readRoad 62 = .ok (.aload_n 0, 1) := by decide +kernel
theorem dX4_readRoad_63 : decode cX4_readRoad 63 = .ok (.iconst 1, 1) := by decide +kernel
theorem dX4_readRoad_64 : decode cX4_readRoad 64 = .ok (.bipush 90, 2) := by decide +kernel
theorem dX4_readRoad_66 : decode cX4_readRoad 66 = .ok (.invokevirtual 70, 3) := by decide +kernel
theorem dX4_readRoad_69 : decode cX4_readRoad 69 = .ok (.ifCond .ne 5, 3) := by decide +kernel
theorem dX4_readRoad_72 : decode cX4_readRoad 72 = .ok (.iconst 0, 1) := by decide +kernel
theorem dX4_readRoad_73 : decode cX4_readRoad 73 = .ok (.ireturn, 1) := by decide +kernel
theorem dX4_readRoad_74 : decode cX4_readRoad 74 = .ok (.aload_n 1, 1) := by decide +kernel
theorem dX4_readRoad_75 : decode cX4_readRoad 75 = .ok (.iload_n 2, 1) := by decide +kernel
theorem dX4_readRoad_76 : decode cX4_readRoad 76 = .ok (.iload_n 3, 1) := by decide +kernel
theorem dX4_readRoad_77 : decode cX4_readRoad 77 = .ok (.aload_n 0, 1) := by decide +kernel
theorem dX4_readRoad_78 : decode cX4_readRoad 78 = .ok (.getfield 16, 3) := by decide +kernel
theorem dX4_readRoad_81 : decode cX4_readRoad 81 = .ok (.invokevirtual 89, 3) := by decide +kernel
theorem dX4_readRoad_84 : decode cX4_readRoad 84 = .ok (.aload_n 0, 1) := by decide +kernel
theorem dX4_readRoad_85 : decode cX4_readRoad 85 = .ok (.invokevirtual 77, 3) := by decide +kernel
theorem dX4_readRoad_88 : decode cX4_readRoad 88 = .ok (.ireturn, 1) := by decide +kernel
set_option maxRecDepth 20000 in
theorem ggX4_readHolders_X7_isWord : GoodIn wsX4_readHolders wsX7_isWord := goodIn_r _ [7, 8, 9, 10, 11, 12, 13, 14, 15, 16, 17, 18, 19, 20, 21, 22, 23, 24, 25, 26, 27, 28, 29, 30, 31, 32, 33, 34, 35, 36, 37, 38, 39, 40, 41, 42, 43, 44, 45, 46, 47, 48, 49, 50, 51, 52, 53, 54, 55, 56, 57, 58, 59, 60, 107, 108, 109, 110, 111, 112] (by decide +kernel) (by decide +kernel)
set_option maxRecDepth 20000 in
theorem gX4_readHolders_X7_isWord : GoodIn wsX4_readHolders (wsV RX4 63 RX7 yX7_isWord wsX7_isWord) := goodIn_app (goodIn_of _ (by decide +kernel)) ggX4_readHolders_X7_isWord
set_option maxRecDepth 20000 in
theorem ggX4_readHolders_X4_faulty : GoodIn wsX4_readHolders wsX4_faulty := goodIn_r _ [65, 66, 1, 67, 68, 103, 104, 105, 106, 107, 108, 109, 110, 111, 112] (by decide +kernel) (by decide +kernel)
set_option maxRecDepth 20000 in
theorem gX4_readHolders_X4_faulty : GoodIn wsX4_readHolders (wsV RX4 50 RX4 yX4_faulty wsX4_faulty) := goodIn_app (goodIn_of _ (by decide +kernel)) ggX4_readHolders_X4_faulty
set_option maxRecDepth 20000 in
theorem ggX4_readHolders_X7_step : GoodIn wsX4_readHolders wsX7_step := goodIn_r _ [72, 9, 10, 73, 8, 74, 75, 76, 6, 77, 11, 78, 79, 80, 81, 82, 107, 108, 109, 110, 111, 112] (by decide +kernel) (by decide +kernel)
set_option maxRecDepth 20000 in
theorem gX4_readHolders_X7_step : GoodIn wsX4_readHolders (wsV RX4 67 RX7 yX7_step wsX7_step) := goodIn_app (goodIn_of _ (by decide +kernel)) ggX4_readHolders_X7_step
set_option maxRecDepth 20000 in
theorem ggX4_readHolders_X4_takeNumber : GoodIn wsX4_readHolders wsX4_takeNumber := goodIn_r _ [86, 1, 87, 88, 2, 61, 62, 63, 64, 65, 66, 67, 68, 89, 90, 91, 69, 70, 71, 6, 72, 9, 10, 73, 8, 74, 75, 76, 77, 11, 78, 79, 80, 81, 82, 103, 104, 105, 106, 107, 108, 109, 110, 111, 112] (by decide +kernel) (by decide +kernel)
set_option maxRecDepth 20000 in
theorem gX4_readHolders_X4_takeNumber : GoodIn wsX4_readHolders (wsV RX4 70 RX4 yX4_takeNumber wsX4_takeNumber) := goodIn_app (goodIn_of _ (by decide +kernel)) ggX4_readHolders_X4_takeNumber
set_option maxRecDepth 20000 in
theorem ggX4_readHolders_X5_addHolder : GoodIn wsX4_readHolders wsX5_addHolder := goodIn_r _ [96, 97, 98, 113, 114, 115, 116, 117, 118, 119, 120] (by decide +kernel) (by decide +kernel)
set_option maxRecDepth 20000 in
theorem gX4_readHolders_X5_addHolder : GoodIn wsX4_readHolders (wsV RX4 95 RX5 yX5_addHolder wsX5_addHolder) := goodIn_app (goodIn_of _ (by decide +kernel)) ggX4_readHolders_X5_addHolder
set_option maxRecDepth 20000 in
theorem ggX4_readHolders_X4_takeSign : GoodIn wsX4_readHolders wsX4_takeSign := goodIn_r _ [102, 1, 87, 61, 62, 63, 64, 65, 66, 67, 68, 69, 70, 71, 6, 72, 9, 10, 73, 8, 74, 75, 76, 77, 11, 78, 79, 80, 81, 82, 103, 104, 105, 106, 107, 108, 109, 110, 111, 112] (by decide +kernel) (by decide +kernel)
set_option maxRecDepth 20000 in
theorem gX4_readHolders_X4_takeSign : GoodIn wsX4_readHolders (wsV RX4 77 RX4 yX4_takeSign wsX4_takeSign) := goodIn_app (goodIn_of _ (by decide +kernel)) ggX4_readHolders_X4_takeSign
theorem dX4_readHolders_0 : decode cX4_readHolders 0 = .ok (.iconst 0, 1) := by decide +kernel
theorem dX4_readHolders_1 : decode cX4_readHolders 1 = .ok (.istore_n 2, 1) := by decide +kernel
theorem dX4_readHolders_2 : decode cX4_readHolders 2 = .ok (.iload_n 2, 1) := by decide +kernel
theorem dX4_readHolders_3 : decode cX4_readHolders 3 = .ok (.bipush 6, 2) := by decide +kernel
theorem dX4_readHolders_5 : decode cX4_readHolders 5 = .ok (.if_icmp .gt 69, 3) := by decide +kernel
theorem dX4_readHolders_8 : decode cX4_readHolders 8 = .ok (.aload_n 0, 1) := by decide +kernel
theorem dX4_readHolders_9 : decode cX4_readHolders 9 = .ok (.getfield 10, 3) := by decide +kernel
theorem dX4_readHolders_12 : decode cX4_readHolders 12 = .ok (.ldc 93, 2) := by decide +kernel
theorem dX4_readHolders_14 : decode cX4_readHolders 14 = .ok (.invokevirtual 63, 3) := by decide +kernel
theorem dX4_readHolders_17 : decode cX4_readHolders 17 = .ok (.ifCond .eq 57, 3) := by decide +kernel
theorem dX4_readHolders_20 : decode cX4_readHolders 20 = .ok (.iload_n 2, 1) := by decide +kernel
theorem dX4_readHolders_21 : decode cX4_readHolders 21 = .ok (.bipush 6, 2) := by decide +kernel
theorem dX4_readHolders_23 : decode cX4_readHolders 23 = .ok (.if_icmp .ne 9, 3) := by decide +kernel
theorem dX4_readHolders_26 : decode cX4_readHolders 26 = .ok (.aload_n 0, 1) := by decide +kernel
theorem dX4_readHolders_27 : decode cX4_readHolders 27 = .ok (.iconst 3, 1) := by decide +kernel
theorem dX4_readHolders_28 : decode cX4_readHolders 28 = .ok (.invokevirtual 50, 3) := by decide +kernel
theorem dX4_readHolders_31 : decode cX4_readHolders 31 = .ok (.ireturn, 1) := by decide +kernel
theorem dX4_readHolders_32 : decode cX4_readHolders 32 = .ok (.aload_n 0, 1) := by decide +kernel
theorem dX4_readHolders_33 : decode cX4_readHolders 33 = .ok (.getfield 10, 3) := by decide +kernel
theorem dX4_readHolders_36 : decode cX4_readHolders 36 = .ok (.invokevirtual 67, 3) := by decide +kernel
theorem dX4_readHolders_39 : decode cX4_readHolders 39 = .ok (.aload_n 0, 1) := by decide +kernel
theorem dX4_readHolders_40 : decode cX4_readHolders 40 = .ok (.iconst 1, 1) := by decide +kernel
theorem dX4_readHolders_41 : decode cX4_readHolders 41 = .ok (.bipush 7, 2) := by decide +kernel
theorem dX4_readHolders_43 : decode cX4_readHolders 43 = .ok (.invokevirtual 70, 3) := by decide +kernel
theorem dX4_readHolders_46 : decode cX4_readHolders 46 = .ok (.ifCond .ne 5, 3) := by decide +kernel
theorem dX4_readHolders_49 : decode cX4_readHolders 49 = .ok (.iconst 0, 1) := by decide +kernel
theorem dX4_readHolders_50 : decode cX4_readHolders 50 = .ok (.ireturn, 1) := by decide +kernel
theorem dX4_readHolders_51 : decode cX4_readHolders 51 = .ok (.aload_n 1, 1) := by decide +kernel
theorem dX4_readHolders_52 : decode cX4_readHolders 52 = .ok (.aload_n 0, 1) := by decide +kernel
theorem dX4_readHolders_53 : decode cX4_readHolders 53 = .ok (.getfield 16, 3) := by decide +kernel
theorem dX4_readHolders_56 : decode cX4_readHolders 56 = .ok (.invokevirtual 95, 3) := by decide +kernel
theorem dX4_readHolders_59 : decode cX4_readHolders 59 = .ok (.aload_n 0, 1) := by decide +kernel
theorem dX4_readHolders_60 : decode cX4_readHolders 60 = .ok (.invokevirtual 77, 3) := by decide +kernel
theorem dX4_readHolders_63 : decode cX4_readHolders 63 = .ok (.ifCond .ne 5, 3) := by decide +kernel
theorem dX4_readHolders_66 : decode cX4_readHolders 66 = .ok (.iconst 0, 1) := by decide +kernel
theorem dX4_readHolders_67 : decode cX4_readHolders 67 = .ok (.ireturn, 1) := by decide +kernel
theorem dX4_readHolders_68 : decode cX4_readHolders 68 = .ok (.iinc 2 1, 3) := by decide +kernel
theorem dX4_readHolders_71 : decode cX4_readHolders 71 = .ok (.goto (-69), 3) := by decide +kernel
theorem dX4_readHolders_74 : decode cX4_readHolders 74 = .ok (.iconst 1, 1) := by decide +kernel
theorem dX4_readHolders_75 : decode cX4_readHolders 75 = .ok (.ireturn, 1) := by decide +kernel
set_option maxRecDepth 20000 in
theorem ggX4_readCoins_X7_isWord : GoodIn wsX4_readCoins wsX7_isWord := goodIn_r _ [6, 7, 8, 9, 10, 11, 12, 13, 14, 15, 16, 17, 18, 19, 20, 21, 22, 23, 24, 25, 26, 27, 28, 29, 30, 31, 32, 33, 34, 35, 36, 37, 38, 39, 40, 41, 42, 43, 44, 45, 46, 47, 48, 49, 50, 51, 52, 53, 54, 55, 56, 57, 58, 59, 121, 122, 123, 124, 125, 126] (by decide +kernel) (by decide +kernel)
set_option maxRecDepth 20000 in
theorem gX4_readCoins_X7_isWord : GoodIn wsX4_readCoins (wsV RX4 63 RX7 yX7_isWord wsX7_isWord) := goodIn_app (goodIn_of _ (by decide +kernel)) ggX4_readCoins_X7_isWord
set_option maxRecDepth 20000 in
theorem ggX4_readCoins_X4_faulty : GoodIn wsX4_readCoins wsX4_faulty := goodIn_r _ [64, 65, 1, 66, 67, 117, 118, 119, 120, 121, 122, 123, 124, 125, 126] (by decide +kernel) (by decide +kernel)
set_option maxRecDepth 20000 in
theorem gX4_readCoins_X4_faulty : GoodIn wsX4_readCoins (wsV RX4 50 RX4 yX4_faulty wsX4_faulty) := goodIn_app (goodIn_of _ (by decide +kernel)) ggX4_readCoins_X4_faulty
set_option maxRecDepth 20000 in
theorem ggX4_readCoins_X7_step : GoodIn wsX4_readCoins wsX7_step := goodIn_r _ [71, 8, 9, 72, 7, 73, 74, 75, 5, 76, 10, 77, 78, 79, 80, 81, 121, 122, 123, 124, 125, 126] (by decide +kernel) (by decide +kernel)
set_option maxRecDepth 20000 in
theorem gX4_readCoins_X7_step : GoodIn wsX4_readCoins (wsV RX4 67 RX7 yX7_step wsX7_step) := goodIn_app (goodIn_of _ (by decide +kernel)) ggX4_readCoins_X7_step
set_option maxRecDepth 20000 in
theorem ggX4_readCoins_X4_readCoin : GoodIn wsX4_readCoins wsX4_readCoin := goodIn_r _ [85, 1, 86, 87, 88, 89, 90, 63, 91, 2, 3, 4, 5, 6, 7, 8, 9, 10, 11, 12, 13, 14, 15, 16, 17, 18, 19, 20, 21, 22, 23, 24, 25, 26, 27, 28, 29, 30, 31, 32, 33, 34, 35, 36, 37, 38, 39, 40, 41, 42, 43, 44, 45, 46, 47, 48, 49, 50, 51, 52, 53, 54, 55, 56, 57, 58, 59, 60, 61, 62, 64, 65, 66, 67, 68, 69, 70, 71, 72, 73, 74, 75, 76, 77, 78, 79, 80, 81, 92, 93, 94, 95, 96, 97, 98, 99, 100, 101, 102, 103, 104, 105, 106, 107, 108, 109, 110, 111, 112, 113, 114, 115, 116, 117, 118, 119, 120, 127, 128, 129, 130, 131, 132, 133, 134, 121, 122, 123, 124, 125, 126] (by decide +kernel) (by decide +kernel)
set_option maxRecDepth 20000 in
theorem gX4_readCoins_X4_readCoin : GoodIn wsX4_readCoins (wsV RX4 101 RX4 yX4_readCoin wsX4_readCoin) := goodIn_app (goodIn_of _ (by decide +kernel)) ggX4_readCoins_X4_readCoin
theorem dX4_readCoins_0 : decode cX4_readCoins 0 = .ok (.iconst 0, 1) := by decide +kernel
theorem dX4_readCoins_1 : decode cX4_readCoins 1 = .ok (.istore_n 2, 1) := by decide +kernel
theorem dX4_readCoins_2 : decode cX4_readCoins 2 = .ok (.iload_n 2, 1) := by decide +kernel
theorem dX4_readCoins_3 : decode cX4_readCoins 3 = .ok (.bipush 12, 2) := by decide +kernel
theorem dX4_readCoins_5 : decode cX4_readCoins 5 = .ok (.if_icmp .gt 50, 3) := by decide +kernel
theorem dX4_readCoins_8 : decode cX4_readCoins 8 = .ok (.aload_n 0, 1) := by decide +kernel
theorem dX4_readCoins_9 : decode cX4_readCoins 9 = .ok (.getfield 10, 3) := by decide +kernel
theorem dX4_readCoins_12 : decode cX4_readCoins 12 = .ok (.ldc 99, 2) := by decide +kernel
theorem dX4_readCoins_14 : decode cX4_readCoins 14 = .ok (.invokevirtual 63, 3) := by decide +kernel
theorem dX4_readCoins_17 : decode cX4_readCoins 17 = .ok (.ifCond .eq 38, 3) := by decide +kernel
theorem dX4_readCoins_20 : decode cX4_readCoins 20 = .ok (.iload_n 2, 1) := by decide +kernel
theorem dX4_readCoins_21 : decode cX4_readCoins 21 = .ok (.bipush 12, 2) := by decide +kernel
theorem dX4_readCoins_23 : decode cX4_readCoins 23 = .ok (.if_icmp .ne 9, 3) := by decide +kernel
theorem dX4_readCoins_26 : decode cX4_readCoins 26 = .ok (.aload_n 0, 1) := by decide +kernel
theorem dX4_readCoins_27 : decode cX4_readCoins 27 = .ok (.iconst 3, 1) := by decide +kernel
theorem dX4_readCoins_28 : decode cX4_readCoins 28 = .ok (.invokevirtual 50, 3) := by decide +kernel
theorem dX4_readCoins_31 : decode cX4_readCoins 31 = .ok (.ireturn, 1) := by decide +kernel
theorem dX4_readCoins_32 : decode cX4_readCoins 32 = .ok (.aload_n 0, 1) := by decide +kernel
theorem dX4_readCoins_33 : decode cX4_readCoins 33 = .ok (.getfield 10, 3) := by decide +kernel
theorem dX4_readCoins_36 : decode cX4_readCoins 36 = .ok (.invokevirtual 67, 3) := by decide +kernel
theorem dX4_readCoins_39 : decode cX4_readCoins 39 = .ok (.aload_n 0, 1) := by decide +kernel
theorem dX4_readCoins_40 : decode cX4_readCoins 40 = .ok (.aload_n 1, 1) := by decide +kernel
theorem dX4_readCoins_41 : decode cX4_readCoins 41 = .ok (.invokevirtual 101, 3) := by decide +kernel
theorem dX4_readCoins_44 : decode cX4_readCoins 44 = .ok (.ifCond .ne 5, 3) := by decide +kernel
theorem dX4_readCoins_47 : decode cX4_readCoins 47 = .ok (.iconst 0, 1) := by decide +kernel
theorem dX4_readCoins_48 : decode cX4_readCoins 48 = .ok (.ireturn, 1) := by decide +kernel
theorem dX4_readCoins_49 : decode cX4_readCoins 49 = .ok (.iinc 2 1, 3) := by decide +kernel
theorem dX4_readCoins_52 : decode cX4_readCoins 52 = .ok (.goto (-50), 3) := by decide +kernel
theorem dX4_readCoins_55 : decode cX4_readCoins 55 = .ok (.iconst 1, 1) := by decide +kernel
theorem dX4_readCoins_56 : decode cX4_readCoins 56 = .ok (.ireturn, 1) := by decide +kernel
set_option maxRecDepth 20000 in
theorem ggX4_readCoin_X4_kindOfWord : GoodIn wsX4_readCoin wsX4_kindOfWord := goodIn_r _ [8, 1, 9, 10, 11, 12, 13, 14, 15, 16, 17, 18, 19, 20, 21, 22, 23, 24, 25, 26, 27, 28, 29, 30, 31, 32, 33, 34, 35, 36, 37, 38, 39, 40, 41, 42, 43, 44, 45, 46, 47, 48, 49, 50, 51, 52, 53, 54, 55, 56, 57, 58, 59, 60, 61, 62, 63, 64, 65, 66, 113, 114, 115, 116, 125, 126, 127, 128, 129, 130] (by decide +kernel) (by decide +kernel)
set_option maxRecDepth 20000 in
theorem gX4_readCoin_X4_kindOfWord : GoodIn wsX4_readCoin (wsV RX4 104 RX4 yX4_kindOfWord wsX4_kindOfWord) := goodIn_app (goodIn_of _ (by decide +kernel)) ggX4_readCoin_X4_kindOfWord
set_option maxRecDepth 20000 in
theorem ggX4_readCoin_X4_faulty : GoodIn wsX4_readCoin wsX4_faulty := goodIn_r _ [70, 71, 1, 72, 73, 113, 114, 115, 116, 125, 126, 127, 128, 129, 130] (by decide +kernel) (by decide +kernel)
set_option maxRecDepth 20000 in
theorem gX4_readCoin_X4_faulty : GoodIn wsX4_readCoin (wsV RX4 50 RX4 yX4_faulty wsX4_faulty) := goodIn_app (goodIn_of _ (by decide +kernel)) ggX4_readCoin_X4_faulty
set_option maxRecDepth 20000 in
theorem ggX4_readCoin_X7_step : GoodIn wsX4_readCoin wsX7_step := goodIn_r _ [77, 15, 16, 78, 14, 79, 80, 81, 12, 82, 17, 83, 84, 85, 86, 87, 125, 126, 127, 128, 129, 130] (by decide +kernel) (by decide +kernel)
set_option maxRecDepth 20000 in
theorem gX4_readCoin_X7_step : GoodIn wsX4_readCoin (wsV RX4 67 RX7 yX7_step wsX7_step) := goodIn_app (goodIn_of _ (by decide +kernel)) ggX4_readCoin_X7_step
set_option maxRecDepth 20000 in
theorem ggX4_readCoin_X4_takeNumber : GoodIn wsX4_readCoin wsX4_takeNumber := goodIn_r _ [91, 1, 92, 93, 3, 67, 68, 69, 7, 70, 71, 72, 73, 94, 95, 96, 74, 75, 76, 12, 77, 15, 16, 78, 14, 79, 80, 81, 82, 17, 83, 84, 85, 86, 87, 113, 114, 115, 116, 125, 126, 127, 128, 129, 130] (by decide +kernel) (by decide +kernel)
set_option maxRecDepth 20000 in
theorem gX4_readCoin_X4_takeNumber : GoodIn wsX4_readCoin (wsV RX4 70 RX4 yX4_takeNumber wsX4_takeNumber) := goodIn_app (goodIn_of _ (by decide +kernel)) ggX4_readCoin_X4_takeNumber
set_option maxRecDepth 20000 in
theorem ggX4_readCoin_X5_addCoin : GoodIn wsX4_readCoin wsX5_addCoin := goodIn_r _ [101, 102, 103, 104, 105, 106, 100, 107, 108, 117, 118, 119, 120, 121, 122, 123, 124] (by decide +kernel) (by decide +kernel)
set_option maxRecDepth 20000 in
theorem gX4_readCoin_X5_addCoin : GoodIn wsX4_readCoin (wsV RX4 111 RX5 yX5_addCoin wsX5_addCoin) := goodIn_app (goodIn_of _ (by decide +kernel)) ggX4_readCoin_X5_addCoin
set_option maxRecDepth 20000 in
theorem ggX4_readCoin_X4_takeSign : GoodIn wsX4_readCoin wsX4_takeSign := goodIn_r _ [112, 1, 92, 67, 68, 69, 7, 70, 71, 72, 73, 74, 75, 76, 12, 77, 15, 16, 78, 14, 79, 80, 81, 82, 17, 83, 84, 85, 86, 87, 113, 114, 115, 116, 125, 126, 127, 128, 129, 130] (by decide +kernel) (by decide +kernel)
set_option maxRecDepth 20000 in
theorem gX4_readCoin_X4_takeSign : GoodIn wsX4_readCoin (wsV RX4 77 RX4 yX4_takeSign wsX4_takeSign) := goodIn_app (goodIn_of _ (by decide +kernel)) ggX4_readCoin_X4_takeSign
theorem dX4_readCoin_0 : decode cX4_readCoin 0 = .ok (.aload_n 0, 1) := by decide +kernel
theorem dX4_readCoin_1 : decode cX4_readCoin 1 = .ok (.invokevirtual 104, 3) := by decide +kernel
theorem dX4_readCoin_4 : decode cX4_readCoin 4 = .ok (.istore_n 2, 1) := by decide +kernel
theorem dX4_readCoin_5 : decode cX4_readCoin 5 = .ok (.iload_n 2, 1) := by decide +kernel
theorem dX4_readCoin_6 : decode cX4_readCoin 6 = .ok (.ifCond .ne 9, 3) := by decide +kernel
theorem dX4_readCoin_9 : decode cX4_readCoin 9 = .ok (.aload_n 0, 1) := by decide +kernel
theorem dX4_readCoin_10 : decode cX4_readCoin 10 = .ok (.iconst 1, 1) := by decide +kernel
theorem dX4_readCoin_11 : decode cX4_readCoin 11 = .ok (.invokevirtual 50, 3) := by decide +kernel
theorem dX4_readCoin_14 : decode cX4_readCoin 14 = .ok (.ireturn, 1) := by decide +kernel
theorem dX4_readCoin_15 : decode cX4_readCoin 15 = .ok (.aload_n 0, 1) := by decide +kernel
theorem dX4_readCoin_16 : decode cX4_readCoin 16 = .ok (.getfield 10, 3) := by decide +kernel
theorem dX4_readCoin_19 : decode cX4_readCoin 19 = .ok (.invokevirtual 67, 3) := by decide +kernel
theorem dX4_readCoin_22 : decode cX4_readCoin 22 = .ok (.aload_n 0, 1) := by decide +kernel
theorem dX4_readCoin_23 : decode cX4_readCoin 23 = .ok (.iconst 0, 1) := by decide +kernel
theorem dX4_readCoin_24 : decode cX4_readCoin 24 = .ok (.aload_n 1, 1) := by decide +kernel
theorem dX4_readCoin_25 : decode cX4_readCoin 25 = .ok (.getfield 108, 3) := by decide +kernel
theorem dX4_readCoin_28 : decode cX4_readCoin 28 = .ok (.iconst 1, 1) := by decide +kernel
theorem dX4_readCoin_29 : decode cX4_readCoin 29 = .ok (.isub, 1) := by decide +kernel
theorem dX4_readCoin_30 : decode cX4_readCoin 30 = .ok (.invokevirtual 70, 3) := by decide +kernel
theorem dX4_readCoin_33 : decode cX4_readCoin 33 = .ok (.ifCond .ne 5, 3) := by decide +kernel
theorem dX4_readCoin_36 : decode cX4_readCoin 36 = .ok (.iconst 0, 1) := by decide +kernel
theorem dX4_readCoin_37 : decode cX4_readCoin 37 = .ok (.ireturn, 1) := by decide +kernel
theorem dX4_readCoin_38 : decode cX4_readCoin 38 = .ok (.aload_n 0, 1) := by decide +kernel
theorem dX4_readCoin_39 : decode cX4_readCoin 39 = .ok (.getfield 16, 3) := by decide +kernel
theorem dX4_readCoin_42 : decode cX4_readCoin 42 = .ok (.istore_n 3, 1) := by decide +kernel
theorem dX4_readCoin_43 : decode cX4_readCoin 43 = .ok (.aload_n 0, 1) := by decide +kernel
theorem dX4_readCoin_44 : decode cX4_readCoin 44 = .ok (.iconst 0, 1) := by decide +kernel
theorem dX4_readCoin_45 : decode cX4_readCoin 45 = .ok (.sipush 400, 3) := by decide +kernel
theorem dX4_readCoin_48 : decode cX4_readCoin 48 = .ok (.invokevirtual 70, 3) := by decide +kernel
theorem dX4_readCoin_51 : decode cX4_readCoin 51 = .ok (.ifCond .ne 5, 3) := by decide +kernel
theorem dX4_readCoin_54 : decode cX4_readCoin 54 = .ok (.iconst 0, 1) := by decide +kernel
theorem dX4_readCoin_55 : decode cX4_readCoin 55 = .ok (.ireturn, 1) := by decide +kernel
theorem dX4_readCoin_56 : decode cX4_readCoin 56 = .ok (.aload_n 1, 1) := by decide +kernel
theorem dX4_readCoin_57 : decode cX4_readCoin 57 = .ok (.iload_n 2, 1) := by decide +kernel
theorem dX4_readCoin_58 : decode cX4_readCoin 58 = .ok (.iload_n 3, 1) := by decide +kernel
theorem dX4_readCoin_59 : decode cX4_readCoin 59 = .ok (.aload_n 0, 1) := by decide +kernel
theorem dX4_readCoin_60 : decode cX4_readCoin 60 = .ok (.getfield 16, 3) := by decide +kernel
theorem dX4_readCoin_63 : decode cX4_readCoin 63 = .ok (.invokevirtual 111, 3) := by decide +kernel
theorem dX4_readCoin_66 : decode cX4_readCoin 66 = .ok (.aload_n 0, 1) := by decide +kernel
theorem dX4_readCoin_67 : decode cX4_readCoin 67 = .ok (.invokevirtual 77, 3) := by decide +kernel
theorem dX4_readCoin_70 : decode cX4_readCoin 70 = .ok (.ireturn, 1) := by decide +kernel
set_option maxRecDepth 20000 in
theorem ggX4_kindOfWord_X7_isWord : GoodIn wsX4_kindOfWord wsX7_isWord := goodIn_r _ [6, 7, 8, 9, 10, 11, 12, 13, 14, 15, 16, 17, 18, 19, 20, 21, 22, 23, 24, 25, 26, 27, 28, 29, 30, 31, 32, 33, 34, 35, 36, 37, 38, 39, 40, 41, 42, 43, 44, 45, 46, 47, 48, 49, 50, 51, 52, 53, 54, 55, 56, 57, 58, 59, 64, 65, 66, 67, 68, 69] (by decide +kernel) (by decide +kernel)
set_option maxRecDepth 20000 in
theorem gX4_kindOfWord_X7_isWord : GoodIn wsX4_kindOfWord (wsV RX4 63 RX7 yX7_isWord wsX7_isWord) := goodIn_app (goodIn_of _ (by decide +kernel)) ggX4_kindOfWord_X7_isWord
theorem dX4_kindOfWord_0 : decode cX4_kindOfWord 0 = .ok (.aload_n 0, 1) := by decide +kernel
theorem dX4_kindOfWord_1 : decode cX4_kindOfWord 1 = .ok (.getfield 10, 3) := by decide +kernel
theorem dX4_kindOfWord_4 : decode cX4_kindOfWord 4 = .ok (.ldc 114, 2) := by decide +kernel
theorem dX4_kindOfWord_6 : decode cX4_kindOfWord 6 = .ok (.invokevirtual 63, 3) := by decide +kernel
theorem dX4_kindOfWord_9 : decode cX4_kindOfWord 9 = .ok (.ifCond .eq 5, 3) := by decide +kernel
theorem dX4_kindOfWord_12 : decode cX4_kindOfWord 12 = .ok (.iconst 2, 1) := by decide +kernel
theorem dX4_kindOfWord_13 : decode cX4_kindOfWord 13 = .ok (.ireturn, 1) := by decide +kernel
theorem dX4_kindOfWord_14 : decode cX4_kindOfWord 14 = .ok (.aload_n 0, 1) := by decide +kernel
theorem dX4_kindOfWord_15 : decode cX4_kindOfWord 15 = .ok (.getfield 10, 3) := by decide +kernel
theorem dX4_kindOfWord_18 : decode cX4_kindOfWord 18 = .ok (.ldc 118, 2) := by decide +kernel
theorem dX4_kindOfWord_20 : decode cX4_kindOfWord 20 = .ok (.invokevirtual 63, 3) := by decide +kernel
theorem dX4_kindOfWord_23 : decode cX4_kindOfWord 23 = .ok (.ifCond .eq 5, 3) := by decide +kernel
theorem dX4_kindOfWord_26 : decode cX4_kindOfWord 26 = .ok (.iconst 1, 1) := by decide +kernel
theorem dX4_kindOfWord_27 : decode cX4_kindOfWord 27 = .ok (.ireturn, 1) := by decide +kernel
theorem dX4_kindOfWord_28 : decode cX4_kindOfWord 28 = .ok (.aload_n 0, 1) := by decide +kernel
theorem dX4_kindOfWord_29 : decode cX4_kindOfWord 29 = .ok (.getfield 10, 3) := by decide +kernel
theorem dX4_kindOfWord_32 : decode cX4_kindOfWord 32 = .ok (.ldc 120, 2) := by decide +kernel
theorem dX4_kindOfWord_34 : decode cX4_kindOfWord 34 = .ok (.invokevirtual 63, 3) := by decide +kernel
theorem dX4_kindOfWord_37 : decode cX4_kindOfWord 37 = .ok (.ifCond .eq 5, 3) := by decide +kernel
theorem dX4_kindOfWord_40 : decode cX4_kindOfWord 40 = .ok (.iconst 3, 1) := by decide +kernel
theorem dX4_kindOfWord_41 : decode cX4_kindOfWord 41 = .ok (.ireturn, 1) := by decide +kernel
theorem dX4_kindOfWord_42 : decode cX4_kindOfWord 42 = .ok (.aload_n 0, 1) := by decide +kernel
theorem dX4_kindOfWord_43 : decode cX4_kindOfWord 43 = .ok (.getfield 10, 3) := by decide +kernel
theorem dX4_kindOfWord_46 : decode cX4_kindOfWord 46 = .ok (.ldc 122, 2) := by decide +kernel
theorem dX4_kindOfWord_48 : decode cX4_kindOfWord 48 = .ok (.invokevirtual 63, 3) := by decide +kernel
theorem dX4_kindOfWord_51 : decode cX4_kindOfWord 51 = .ok (.ifCond .eq 5, 3) := by decide +kernel
theorem dX4_kindOfWord_54 : decode cX4_kindOfWord 54 = .ok (.iconst 5, 1) := by decide +kernel
theorem dX4_kindOfWord_55 : decode cX4_kindOfWord 55 = .ok (.ireturn, 1) := by decide +kernel
theorem dX4_kindOfWord_56 : decode cX4_kindOfWord 56 = .ok (.aload_n 0, 1) := by decide +kernel
theorem dX4_kindOfWord_57 : decode cX4_kindOfWord 57 = .ok (.getfield 10, 3) := by decide +kernel
theorem dX4_kindOfWord_60 : decode cX4_kindOfWord 60 = .ok (.ldc 124, 2) := by decide +kernel
theorem dX4_kindOfWord_62 : decode cX4_kindOfWord 62 = .ok (.invokevirtual 63, 3) := by decide +kernel
theorem dX4_kindOfWord_65 : decode cX4_kindOfWord 65 = .ok (.ifCond .eq 7, 3) := by decide +kernel
theorem dX4_kindOfWord_68 : decode cX4_kindOfWord 68 = .ok (.iconst 4, 1) := by decide +kernel
theorem dX4_kindOfWord_69 : decode cX4_kindOfWord 69 = .ok (.goto 4, 3) := by decide +kernel
theorem dX4_kindOfWord_72 : decode cX4_kindOfWord 72 = .ok (.iconst 0, 1) := by decide +kernel
theorem dX4_kindOfWord_73 : decode cX4_kindOfWord 73 = .ok (.ireturn, 1) := by decide +kernel
set_option maxRecDepth 20000 in
theorem ggX4_takeNumber_X4_faulty : GoodIn wsX4_takeNumber wsX4_faulty := goodIn_r _ [9, 10, 1, 11, 12, 35, 36, 37, 38, 39, 40, 41, 42, 43, 44] (by decide +kernel) (by decide +kernel)
set_option maxRecDepth 20000 in
theorem gX4_takeNumber_X4_faulty : GoodIn wsX4_takeNumber (wsV RX4 50 RX4 yX4_faulty wsX4_faulty) := goodIn_app (goodIn_of _ (by decide +kernel)) ggX4_takeNumber_X4_faulty
set_option maxRecDepth 20000 in
theorem ggX4_takeNumber_X8_outside : GoodIn wsX4_takeNumber wsX8_outside := goodIn_r _ [15] (by decide +kernel) (by decide +kernel)
set_option maxRecDepth 20000 in
theorem gX4_takeNumber_X8_outside_n126 : GoodIn wsX4_takeNumber (wsX8_outside) := ggX4_takeNumber_X8_outside
set_option maxRecDepth 20000 in
theorem ggX4_takeNumber_X7_step : GoodIn wsX4_takeNumber wsX7_step := goodIn_r _ [20, 21, 22, 23, 24, 25, 26, 27, 19, 28, 29, 30, 31, 32, 33, 34, 39, 40, 41, 42, 43, 44] (by decide +kernel) (by decide +kernel)
set_option maxRecDepth 20000 in
theorem gX4_takeNumber_X7_step : GoodIn wsX4_takeNumber (wsV RX4 67 RX7 yX7_step wsX7_step) := goodIn_app (goodIn_of _ (by decide +kernel)) ggX4_takeNumber_X7_step
theorem dX4_takeNumber_0 : decode cX4_takeNumber 0 = .ok (.aload_n 0, 1) := by decide +kernel
theorem dX4_takeNumber_1 : decode cX4_takeNumber 1 = .ok (.getfield 10, 3) := by decide +kernel
theorem dX4_takeNumber_4 : decode cX4_takeNumber 4 = .ok (.getfield 47, 3) := by decide +kernel
theorem dX4_takeNumber_7 : decode cX4_takeNumber 7 = .ok (.iconst 2, 1) := by decide +kernel
theorem dX4_takeNumber_8 : decode cX4_takeNumber 8 = .ok (.if_icmp .eq 9, 3) := by decide +kernel
theorem dX4_takeNumber_11 : decode cX4_takeNumber 11 = .ok (.aload_n 0, 1) := by decide +kernel
theorem dX4_takeNumber_12 : decode cX4_takeNumber 12 = .ok (.iconst 1, 1) := by decide +kernel
theorem dX4_takeNumber_13 : decode cX4_takeNumber 13 = .ok (.invokevirtual 50, 3) := by decide +kernel
theorem dX4_takeNumber_16 : decode cX4_takeNumber 16 = .ok (.ireturn, 1) := by decide +kernel
theorem dX4_takeNumber_17 : decode cX4_takeNumber 17 = .ok (.aload_n 0, 1) := by decide +kernel
theorem dX4_takeNumber_18 : decode cX4_takeNumber 18 = .ok (.getfield 10, 3) := by decide +kernel
theorem dX4_takeNumber_21 : decode cX4_takeNumber 21 = .ok (.getfield 86, 3) := by decide +kernel
theorem dX4_takeNumber_24 : decode cX4_takeNumber 24 = .ok (.iload_n 1, 1) := by decide +kernel
theorem dX4_takeNumber_25 : decode cX4_takeNumber 25 = .ok (.iload_n 2, 1) := by decide +kernel
theorem dX4_takeNumber_26 : decode cX4_takeNumber 26 = .ok (.invokestatic 126, 3) := by decide +kernel
theorem dX4_takeNumber_29 : decode cX4_takeNumber 29 = .ok (.ifCond .eq 9, 3) := by decide +kernel
theorem dX4_takeNumber_32 : decode cX4_takeNumber 32 = .ok (.aload_n 0, 1) := by decide +kernel
theorem dX4_takeNumber_33 : decode cX4_takeNumber 33 = .ok (.iconst 2, 1) := by decide +kernel
theorem dX4_takeNumber_34 : decode cX4_takeNumber 34 = .ok (.invokevirtual 50, 3) := by decide +kernel
theorem dX4_takeNumber_37 : decode cX4_takeNumber 37 = .ok (.ireturn, 1) := by decide +kernel
theorem dX4_takeNumber_38 : decode cX4_takeNumber 38 = .ok (.aload_n 0, 1) := by decide +kernel
theorem dX4_takeNumber_39 : decode cX4_takeNumber 39 = .ok (.aload_n 0, 1) := by decide +kernel
theorem dX4_takeNumber_40 : decode cX4_takeNumber 40 = .ok (.getfield 10, 3) := by decide +kernel
theorem dX4_takeNumber_43 : decode cX4_takeNumber 43 = .ok (.getfield 86, 3) := by decide +kernel
theorem dX4_takeNumber_46 : decode cX4_takeNumber 46 = .ok (.putfield 16, 3) := by decide +kernel
theorem dX4_takeNumber_49 : decode cX4_takeNumber 49 = .ok (.aload_n 0, 1) := by decide +kernel
theorem dX4_takeNumber_50 : decode cX4_takeNumber 50 = .ok (.getfield 10, 3) := by decide +kernel
theorem dX4_takeNumber_53 : decode cX4_takeNumber 53 = .ok (.invokevirtual 67, 3) := by decide +kernel
theorem dX4_takeNumber_56 : decode cX4_takeNumber 56 = .ok (.iconst 1, 1) := by decide +kernel
theorem dX4_takeNumber_57 : decode cX4_takeNumber 57 = .ok (.ireturn, 1) := by decide +kernel
set_option maxRecDepth 20000 in
theorem ggX4_takeSign_X4_faulty : GoodIn wsX4_takeSign wsX4_faulty := goodIn_r _ [7, 8, 1, 9, 10, 30, 31, 32, 33, 34, 35, 36, 37, 38, 39] (by decide +kernel) (by decide +kernel)
set_option maxRecDepth 20000 in
theorem gX4_takeSign_X4_faulty : GoodIn wsX4_takeSign (wsV RX4 50 RX4 yX4_faulty wsX4_faulty) := goodIn_app (goodIn_of _ (by decide +kernel)) ggX4_takeSign_X4_faulty
set_option maxRecDepth 20000 in
theorem ggX4_takeSign_X7_step : GoodIn wsX4_takeSign wsX7_step := goodIn_r _ [15, 16, 17, 18, 19, 20, 21, 22, 14, 23, 24, 25, 26, 27, 28, 29, 34, 35, 36, 37, 38, 39] (by decide +kernel) (by decide +kernel)
set_option maxRecDepth 20000 in
theorem gX4_takeSign_X7_step : GoodIn wsX4_takeSign (wsV RX4 67 RX7 yX7_step wsX7_step) := goodIn_app (goodIn_of _ (by decide +kernel)) ggX4_takeSign_X7_step
theorem dX4_takeSign_0 : decode cX4_takeSign 0 = .ok (.aload_n 0, 1) := by decide +kernel
theorem dX4_takeSign_1 : decode cX4_takeSign 1 = .ok (.getfield 10, 3) := by decide +kernel
theorem dX4_takeSign_4 : decode cX4_takeSign 4 = .ok (.getfield 47, 3) := by decide +kernel
theorem dX4_takeSign_7 : decode cX4_takeSign 7 = .ok (.iconst 3, 1) := by decide +kernel
theorem dX4_takeSign_8 : decode cX4_takeSign 8 = .ok (.if_icmp .eq 9, 3) := by decide +kernel
theorem dX4_takeSign_11 : decode cX4_takeSign 11 = .ok (.aload_n 0, 1) := by decide +kernel
theorem dX4_takeSign_12 : decode cX4_takeSign 12 = .ok (.iconst 1, 1) := by decide +kernel
theorem dX4_takeSign_13 : decode cX4_takeSign 13 = .ok (.invokevirtual 50, 3) := by decide +kernel
theorem dX4_takeSign_16 : decode cX4_takeSign 16 = .ok (.ireturn, 1) := by decide +kernel
theorem dX4_takeSign_17 : decode cX4_takeSign 17 = .ok (.aload_n 0, 1) := by decide +kernel
theorem dX4_takeSign_18 : decode cX4_takeSign 18 = .ok (.getfield 10, 3) := by decide +kernel
theorem dX4_takeSign_21 : decode cX4_takeSign 21 = .ok (.invokevirtual 67, 3) := by decide +kernel
theorem dX4_takeSign_24 : decode cX4_takeSign 24 = .ok (.iconst 1, 1) := by decide +kernel
theorem dX4_takeSign_25 : decode cX4_takeSign 25 = .ok (.ireturn, 1) := by decide +kernel
theorem dX4_faulty_0 : decode cX4_faulty 0 = .ok (.aload_n 0, 1) := by decide +kernel
theorem dX4_faulty_1 : decode cX4_faulty 1 = .ok (.iload_n 1, 1) := by decide +kernel
theorem dX4_faulty_2 : decode cX4_faulty 2 = .ok (.putfield 20, 3) := by decide +kernel
theorem dX4_faulty_5 : decode cX4_faulty 5 = .ok (.aload_n 0, 1) := by decide +kernel
theorem dX4_faulty_6 : decode cX4_faulty 6 = .ok (.aload_n 0, 1) := by decide +kernel
theorem dX4_faulty_7 : decode cX4_faulty 7 = .ok (.getfield 10, 3) := by decide +kernel
theorem dX4_faulty_10 : decode cX4_faulty 10 = .ok (.getfield 132, 3) := by decide +kernel
theorem dX4_faulty_13 : decode cX4_faulty 13 = .ok (.putfield 23, 3) := by decide +kernel
theorem dX4_faulty_16 : decode cX4_faulty 16 = .ok (.iconst 0, 1) := by decide +kernel
theorem dX4_faulty_17 : decode cX4_faulty 17 = .ok (.ireturn, 1) := by decide +kernel
theorem dX5_init_0 : decode cX5_init 0 = .ok (.aload_n 0, 1) := by decide +kernel
theorem dX5_init_1 : decode cX5_init 1 = .ok (.invokespecial 3, 3) := by decide +kernel
theorem dX5_init_4 : decode cX5_init 4 = .ok (.aload_n 0, 1) := by decide +kernel
theorem dX5_init_5 : decode cX5_init 5 = .ok (.bipush 64, 2) := by decide +kernel
theorem dX5_init_7 : decode cX5_init 7 = .ok (.newarray .int, 2) := by decide +kernel
theorem dX5_init_9 : decode cX5_init 9 = .ok (.putfield 11, 3) := by decide +kernel
theorem dX5_init_12 : decode cX5_init 12 = .ok (.aload_n 0, 1) := by decide +kernel
theorem dX5_init_13 : decode cX5_init 13 = .ok (.bipush 6, 2) := by decide +kernel
theorem dX5_init_15 : decode cX5_init 15 = .ok (.newarray .int, 2) := by decide +kernel
theorem dX5_init_17 : decode cX5_init 17 = .ok (.putfield 15, 3) := by decide +kernel
theorem dX5_init_20 : decode cX5_init 20 = .ok (.aload_n 0, 1) := by decide +kernel
theorem dX5_init_21 : decode cX5_init 21 = .ok (.bipush 12, 2) := by decide +kernel
theorem dX5_init_23 : decode cX5_init 23 = .ok (.newarray .int, 2) := by decide +kernel
theorem dX5_init_25 : decode cX5_init 25 = .ok (.putfield 18, 3) := by decide +kernel
theorem dX5_init_28 : decode cX5_init 28 = .ok (.aload_n 0, 1) := by decide +kernel
theorem dX5_init_29 : decode cX5_init 29 = .ok (.bipush 61, 2) := by decide +kernel
theorem dX5_init_31 : decode cX5_init 31 = .ok (.newarray .int, 2) := by decide +kernel
theorem dX5_init_33 : decode cX5_init 33 = .ok (.putfield 21, 3) := by decide +kernel
theorem dX5_init_36 : decode cX5_init 36 = .ok (.aload_n 0, 1) := by decide +kernel
theorem dX5_init_37 : decode cX5_init 37 = .ok (.iconst 0, 1) := by decide +kernel
theorem dX5_init_38 : decode cX5_init 38 = .ok (.putfield 24, 3) := by decide +kernel
theorem dX5_init_41 : decode cX5_init 41 = .ok (.aload_n 0, 1) := by decide +kernel
theorem dX5_init_42 : decode cX5_init 42 = .ok (.iconst 0, 1) := by decide +kernel
theorem dX5_init_43 : decode cX5_init 43 = .ok (.putfield 28, 3) := by decide +kernel
theorem dX5_init_46 : decode cX5_init 46 = .ok (.aload_n 0, 1) := by decide +kernel
theorem dX5_init_47 : decode cX5_init 47 = .ok (.iconst 0, 1) := by decide +kernel
theorem dX5_init_48 : decode cX5_init 48 = .ok (.putfield 32, 3) := by decide +kernel
theorem dX5_init_51 : decode cX5_init 51 = .ok (.aload_n 0, 1) := by decide +kernel
theorem dX5_init_52 : decode cX5_init 52 = .ok (.iconst 0, 1) := by decide +kernel
theorem dX5_init_53 : decode cX5_init 53 = .ok (.putfield 35, 3) := by decide +kernel
theorem dX5_init_56 : decode cX5_init 56 = .ok (.return_, 1) := by decide +kernel
set_option maxRecDepth 20000 in
theorem ggX5_clear_J7_fill_53178 : GoodIn wsX5_clear wsJ7_fill_53178 := goodIn_r _ [11] (by decide +kernel) (by decide +kernel)
set_option maxRecDepth 20000 in
theorem gX5_clear_J7_fill_53178 : GoodIn wsX5_clear (va_wsS RX5 39 yJ7_fill_53178 wsJ7_fill_53178) := goodIn_app (goodIn_of _ (by decide +kernel)) ggX5_clear_J7_fill_53178
theorem dX5_clear_0 : decode cX5_clear 0 = .ok (.aload_n 0, 1) := by decide +kernel
theorem dX5_clear_1 : decode cX5_clear 1 = .ok (.getfield 11, 3) := by decide +kernel
theorem dX5_clear_4 : decode cX5_clear 4 = .ok (.ldc 38, 2) := by decide +kernel
theorem dX5_clear_6 : decode cX5_clear 6 = .ok (.invokestatic 39, 3) := by decide +kernel
theorem dX5_clear_9 : decode cX5_clear 9 = .ok (.iconst 0, 1) := by decide +kernel
theorem dX5_clear_10 : decode cX5_clear 10 = .ok (.istore_n 1, 1) := by decide +kernel
theorem dX5_clear_11 : decode cX5_clear 11 = .ok (.iload_n 1, 1) := by decide +kernel
theorem dX5_clear_12 : decode cX5_clear 12 = .ok (.bipush 8, 2) := by decide +kernel
theorem dX5_clear_14 : decode cX5_clear 14 = .ok (.if_icmp .ge 21, 3) := by decide +kernel
theorem dX5_clear_17 : decode cX5_clear 17 = .ok (.aload_n 0, 1) := by decide +kernel
theorem dX5_clear_18 : decode cX5_clear 18 = .ok (.getfield 11, 3) := by decide +kernel
theorem dX5_clear_21 : decode cX5_clear 21 = .ok (.iload_n 1, 1) := by decide +kernel
theorem dX5_clear_22 : decode cX5_clear 22 = .ok (.bipush 8, 2) := by decide +kernel
theorem dX5_clear_24 : decode cX5_clear 24 = .ok (.imul, 1) := by decide +kernel
theorem dX5_clear_25 : decode cX5_clear 25 = .ok (.iload_n 1, 1) := by decide +kernel
theorem dX5_clear_26 : decode cX5_clear 26 = .ok (.iadd, 1) := by decide +kernel
theorem dX5_clear_27 : decode cX5_clear 27 = .ok (.iconst 0, 1) := by decide +kernel
theorem dX5_clear_28 : decode cX5_clear 28 = .ok (.iastore, 1) := by decide +kernel
theorem dX5_clear_29 : decode cX5_clear 29 = .ok (.iinc 1 1, 3) := by decide +kernel
theorem dX5_clear_32 : decode cX5_clear 32 = .ok (.goto (-21), 3) := by decide +kernel
theorem dX5_clear_35 : decode cX5_clear 35 = .ok (.aload_n 0, 1) := by decide +kernel
theorem dX5_clear_36 : decode cX5_clear 36 = .ok (.getfield 21, 3) := by decide +kernel
theorem dX5_clear_39 : decode cX5_clear 39 = .ok (.iconst 0, 1) := by decide +kernel
theorem dX5_clear_40 : decode cX5_clear 40 = .ok (.invokestatic 39, 3) := by decide +kernel
theorem dX5_clear_43 : decode cX5_clear 43 = .ok (.aload_n 0, 1) := by decide +kernel
theorem dX5_clear_44 : decode cX5_clear 44 = .ok (.iconst 0, 1) := by decide +kernel
theorem dX5_clear_45 : decode cX5_clear 45 = .ok (.putfield 24, 3) := by decide +kernel
theorem dX5_clear_48 : decode cX5_clear 48 = .ok (.aload_n 0, 1) := by decide +kernel
theorem dX5_clear_49 : decode cX5_clear 49 = .ok (.iconst 0, 1) := by decide +kernel
theorem dX5_clear_50 : decode cX5_clear 50 = .ok (.putfield 28, 3) := by decide +kernel
theorem dX5_clear_53 : decode cX5_clear 53 = .ok (.aload_n 0, 1) := by decide +kernel
theorem dX5_clear_54 : decode cX5_clear 54 = .ok (.iconst 0, 1) := by decide +kernel
theorem dX5_clear_55 : decode cX5_clear 55 = .ok (.putfield 32, 3) := by decide +kernel
theorem dX5_clear_58 : decode cX5_clear 58 = .ok (.aload_n 0, 1) := by decide +kernel
theorem dX5_clear_59 : decode cX5_clear 59 = .ok (.iconst 0, 1) := by decide +kernel
theorem dX5_clear_60 : decode cX5_clear 60 = .ok (.putfield 35, 3) := by decide +kernel
theorem dX5_clear_63 : decode cX5_clear 63 = .ok (.return_, 1) := by decide +kernel
theorem dX5_takeFrom_0 : decode cX5_takeFrom 0 = .ok (.aload_n 1, 1) := by decide +kernel
theorem dX5_takeFrom_1 : decode cX5_takeFrom 1 = .ok (.getfield 11, 3) := by decide +kernel
theorem dX5_takeFrom_4 : decode cX5_takeFrom 4 = .ok (.iconst 0, 1) := by decide +kernel
theorem dX5_takeFrom_5 : decode cX5_takeFrom 5 = .ok (.aload_n 0, 1) := by decide +kernel
theorem dX5_takeFrom_6 : decode cX5_takeFrom 6 = .ok (.getfield 11, 3) := by decide +kernel
theorem dX5_takeFrom_9 : decode cX5_takeFrom 9 = .ok (.iconst 0, 1) := by decide +kernel
theorem dX5_takeFrom_10 : decode cX5_takeFrom 10 = .ok (.bipush 64, 2) := by decide +kernel
theorem dX5_takeFrom_12 : decode cX5_takeFrom 12 = .ok (.invokestatic 45, 3) := by decide +kernel
theorem dX5_takeFrom_15 : decode cX5_takeFrom 15 = .ok (.aload_n 1, 1) := by decide +kernel
theorem dX5_takeFrom_16 : decode cX5_takeFrom 16 = .ok (.getfield 15, 3) := by decide +kernel
theorem dX5_takeFrom_19 : decode cX5_takeFrom 19 = .ok (.iconst 0, 1) := by decide +kernel
theorem dX5_takeFrom_20 : decode cX5_takeFrom 20 = .ok (.aload_n 0, 1) := by decide +kernel
theorem dX5_takeFrom_21 : decode cX5_takeFrom 21 = .ok (.getfield 15, 3) := by decide +kernel
theorem dX5_takeFrom_24 : decode cX5_takeFrom 24 = .ok (.iconst 0, 1) := by decide +kernel
theorem dX5_takeFrom_25 : decode cX5_takeFrom 25 = .ok (.bipush 6, 2) := by decide +kernel
theorem dX5_takeFrom_27 : decode cX5_takeFrom 27 = .ok (.invokestatic 45, 3) := by decide +kernel
theorem dX5_takeFrom_30 : decode cX5_takeFrom 30 = .ok (.aload_n 1, 1) := by decide +kernel
theorem dX5_takeFrom_31 : decode cX5_takeFrom 31 = .ok (.getfield 18, 3) := by decide +kernel
theorem dX5_takeFrom_34 : decode cX5_takeFrom 34 = .ok (.iconst 0, 1) := by decide +kernel
theorem dX5_takeFrom_35 : decode cX5_takeFrom 35 = .ok (.aload_n 0, 1) := by decide +kernel
theorem dX5_takeFrom_36 : decode cX5_takeFrom 36 = .ok (.getfield 18, 3) := by decide +kernel
theorem dX5_takeFrom_39 : decode cX5_takeFrom 39 = .ok (.iconst 0, 1) := by decide +kernel
theorem dX5_takeFrom_40 : decode cX5_takeFrom 40 = .ok (.bipush 12, 2) := by decide +kernel
theorem dX5_takeFrom_42 : decode cX5_takeFrom 42 = .ok (.invokestatic 45, 3) := by decide +kernel
theorem dX5_takeFrom_45 : decode cX5_takeFrom 45 = .ok (.aload_n 1, 1) := by decide +kernel
theorem dX5_takeFrom_46 : decode cX5_takeFrom 46 = .ok (.getfield 21, 3) := by decide +kernel
theorem dX5_takeFrom_49 : decode cX5_takeFrom 49 = .ok (.iconst 0, 1) := by decide +kernel
theorem dX5_takeFrom_50 : decode cX5_takeFrom 50 = .ok (.aload_n 0, 1) := by decide +kernel
theorem dX5_takeFrom_51 : decode cX5_takeFrom 51 = .ok (.getfield 21, 3) := by decide +kernel
theorem dX5_takeFrom_54 : decode cX5_takeFrom 54 = .ok (.iconst 0, 1) := by decide +kernel
theorem dX5_takeFrom_55 : decode cX5_takeFrom 55 = .ok (.bipush 61, 2) := by decide +kernel
theorem dX5_takeFrom_57 : decode cX5_takeFrom 57 = .ok (.invokestatic 45, 3) := by decide +kernel
theorem dX5_takeFrom_60 : decode cX5_takeFrom 60 = .ok (.aload_n 0, 1) := by decide +kernel
theorem dX5_takeFrom_61 : decode cX5_takeFrom 61 = .ok (.aload_n 1, 1) := by decide +kernel
theorem dX5_takeFrom_62 : decode cX5_takeFrom 62 = .ok (.getfield 24, 3) := by decide +kernel
theorem dX5_takeFrom_65 : decode cX5_takeFrom 65 = .ok (.putfield 24, 3) := by decide +kernel
theorem dX5_takeFrom_68 : decode cX5_takeFrom 68 = .ok (.aload_n 0, 1) := by decide +kernel
theorem dX5_takeFrom_69 : decode cX5_takeFrom 69 = .ok (.aload_n 1, 1) := by decide +kernel
theorem dX5_takeFrom_70 : decode cX5_takeFrom 70 = .ok (.getfield 28, 3) := by decide +kernel
theorem dX5_takeFrom_73 : decode cX5_takeFrom 73 = .ok (.putfield 28, 3) := by decide +kernel
theorem dX5_takeFrom_76 : decode cX5_takeFrom 76 = .ok (.aload_n 0, 1) := by decide +kernel
theorem dX5_takeFrom_77 : decode cX5_takeFrom 77 = .ok (.aload_n 1, 1) := by decide +kernel
theorem dX5_takeFrom_78 : decode cX5_takeFrom 78 = .ok (.getfield 32, 3) := by decide +kernel
theorem dX5_takeFrom_81 : decode cX5_takeFrom 81 = .ok (.putfield 32, 3) := by decide +kernel
theorem dX5_takeFrom_84 : decode cX5_takeFrom 84 = .ok (.aload_n 0, 1) := by decide +kernel
theorem dX5_takeFrom_85 : decode cX5_takeFrom 85 = .ok (.aload_n 1, 1) := by decide +kernel
theorem dX5_takeFrom_86 : decode cX5_takeFrom 86 = .ok (.getfield 35, 3) := by decide +kernel
theorem dX5_takeFrom_89 : decode cX5_takeFrom 89 = .ok (.putfield 35, 3) := by decide +kernel
theorem dX5_takeFrom_92 : decode cX5_takeFrom 92 = .ok (.return_, 1) := by decide +kernel
theorem dX5_addRoad_0 : decode cX5_addRoad 0 = .ok (.aload_n 0, 1) := by decide +kernel
theorem dX5_addRoad_1 : decode cX5_addRoad 1 = .ok (.getfield 11, 3) := by decide +kernel
theorem dX5_addRoad_4 : decode cX5_addRoad 4 = .ok (.iload_n 1, 1) := by decide +kernel
theorem dX5_addRoad_5 : decode cX5_addRoad 5 = .ok (.bipush 8, 2) := by decide +kernel
theorem dX5_addRoad_7 : decode cX5_addRoad 7 = .ok (.imul, 1) := by decide +kernel
theorem dX5_addRoad_8 : decode cX5_addRoad 8 = .ok (.iload_n 2, 1) := by decide +kernel
theorem dX5_addRoad_9 : decode cX5_addRoad 9 = .ok (.iadd, 1) := by decide +kernel
theorem dX5_addRoad_10 : decode cX5_addRoad 10 = .ok (.iaload, 1) := by decide +kernel
theorem dX5_addRoad_11 : decode cX5_addRoad 11 = .ok (.iload_n 3, 1) := by decide +kernel
theorem dX5_addRoad_12 : decode cX5_addRoad 12 = .ok (.invokestatic 51, 3) := by decide +kernel
theorem dX5_addRoad_15 : decode cX5_addRoad 15 = .ok (.istore 4, 2) := by decide +kernel
theorem dX5_addRoad_17 : decode cX5_addRoad 17 = .ok (.aload_n 0, 1) := by decide +kernel
theorem dX5_addRoad_18 : decode cX5_addRoad 18 = .ok (.getfield 11, 3) := by decide +kernel
theorem dX5_addRoad_21 : decode cX5_addRoad 21 = .ok (.iload_n 1, 1) := by decide +kernel
theorem dX5_addRoad_22 : decode cX5_addRoad 22 = .ok (.bipush 8, 2) := by decide +kernel
theorem dX5_addRoad_24 : decode cX5_addRoad 24 = .ok (.imul, 1) := by decide +kernel
theorem dX5_addRoad_25 : decode cX5_addRoad 25 = .ok (.iload_n 2, 1) := by decide +kernel
theorem dX5_addRoad_26 : decode cX5_addRoad 26 = .ok (.iadd, 1) := by decide +kernel
theorem dX5_addRoad_27 : decode cX5_addRoad 27 = .ok (.iload 4, 2) := by decide +kernel
theorem dX5_addRoad_29 : decode cX5_addRoad 29 = .ok (.iastore, 1) := by decide +kernel
theorem dX5_addRoad_30 : decode cX5_addRoad 30 = .ok (.aload_n 0, 1) := by decide +kernel
theorem dX5_addRoad_31 : decode cX5_addRoad 31 = .ok (.getfield 11, 3) := by decide +kernel
theorem dX5_addRoad_34 : decode cX5_addRoad 34 = .ok (.iload_n 2, 1) := by decide +kernel
theorem dX5_addRoad_35 : decode cX5_addRoad 35 = .ok (.bipush 8, 2) := by decide +kernel
theorem dX5_addRoad_37 : decode cX5_addRoad 37 = .ok (.imul, 1) := by decide +kernel
theorem dX5_addRoad_38 : decode cX5_addRoad 38 = .ok (.iload_n 1, 1) := by decide +kernel
theorem dX5_addRoad_39 : decode cX5_addRoad 39 = .ok (.iadd, 1) := by decide +kernel
theorem dX5_addRoad_40 : decode cX5_addRoad 40 = .ok (.iload 4, 2) := by decide +kernel
theorem dX5_addRoad_42 : decode cX5_addRoad 42 = .ok (.iastore, 1) := by decide +kernel
theorem dX5_addRoad_43 : decode cX5_addRoad 43 = .ok (.return_, 1) := by decide +kernel
theorem dX5_addHolder_0 : decode cX5_addHolder 0 = .ok (.aload_n 0, 1) := by decide +kernel
theorem dX5_addHolder_1 : decode cX5_addHolder 1 = .ok (.getfield 32, 3) := by decide +kernel
theorem dX5_addHolder_4 : decode cX5_addHolder 4 = .ok (.bipush 6, 2) := by decide +kernel
theorem dX5_addHolder_6 : decode cX5_addHolder 6 = .ok (.if_icmp .ge 23, 3) := by decide +kernel
theorem dX5_addHolder_9 : decode cX5_addHolder 9 = .ok (.aload_n 0, 1) := by decide +kernel
theorem dX5_addHolder_10 : decode cX5_addHolder 10 = .ok (.getfield 15, 3) := by decide +kernel
theorem dX5_addHolder_13 : decode cX5_addHolder 13 = .ok (.aload_n 0, 1) := by decide +kernel
theorem dX5_addHolder_14 : decode cX5_addHolder 14 = .ok (.getfield 32, 3) := by decide +kernel
theorem dX5_addHolder_17 : decode cX5_addHolder 17 = .ok (.iload_n 1, 1) := by decide +kernel
theorem dX5_addHolder_18 : decode cX5_addHolder 18 = .ok (.iastore, 1) := by decide +kernel
theorem dX5_addHolder_19 : decode cX5_addHolder 19 = .ok (.aload_n 0, 1) := by decide +kernel
theorem dX5_addHolder_20 : decode cX5_addHolder 20 = .ok (.dup, 1) := by decide +kernel
theorem dX5_addHolder_21 : decode cX5_addHolder 21 = .ok (.getfield 32, 3) := by decide +kernel
theorem dX5_addHolder_24 : decode cX5_addHolder 24 = .ok (.iconst 1, 1) := by decide +kernel
theorem dX5_addHolder_25 : decode cX5_addHolder 25 = .ok (.iadd, 1) := by decide +kernel
theorem dX5_addHolder_26 : decode cX5_addHolder 26 = .ok (.putfield 32, 3) := by decide +kernel
theorem dX5_addHolder_29 : decode cX5_addHolder 29 = .ok (.return_, 1) := by decide +kernel
set_option maxRecDepth 20000 in
theorem ggX5_addCoin_X5_put : GoodIn wsX5_addCoin wsX5_put := goodIn_r _ [7, 8, 9, 10, 11, 12, 13, 14, 15, 16] (by decide +kernel) (by decide +kernel)
set_option maxRecDepth 20000 in
theorem gX5_addCoin_X5_put : GoodIn wsX5_addCoin (wsV RX5 57 RX5 yX5_put wsX5_put) := goodIn_app (goodIn_of _ (by decide +kernel)) ggX5_addCoin_X5_put
theorem dX5_addCoin_0 : decode cX5_addCoin 0 = .ok (.aload_n 0, 1) := by decide +kernel
theorem dX5_addCoin_1 : decode cX5_addCoin 1 = .ok (.getfield 35, 3) := by decide +kernel
theorem dX5_addCoin_4 : decode cX5_addCoin 4 = .ok (.bipush 12, 2) := by decide +kernel
theorem dX5_addCoin_6 : decode cX5_addCoin 6 = .ok (.if_icmp .ge 43, 3) := by decide +kernel
theorem dX5_addCoin_9 : decode cX5_addCoin 9 = .ok (.aload_n 0, 1) := by decide +kernel
theorem dX5_addCoin_10 : decode cX5_addCoin 10 = .ok (.getfield 18, 3) := by decide +kernel
theorem dX5_addCoin_13 : decode cX5_addCoin 13 = .ok (.aload_n 0, 1) := by decide +kernel
theorem dX5_addCoin_14 : decode cX5_addCoin 14 = .ok (.getfield 35, 3) := by decide +kernel
theorem dX5_addCoin_17 : decode cX5_addCoin 17 = .ok (.iload_n 1, 1) := by decide +kernel
theorem dX5_addCoin_18 : decode cX5_addCoin 18 = .ok (.iastore, 1) := by decide +kernel
theorem dX5_addCoin_19 : decode cX5_addCoin 19 = .ok (.aload_n 0, 1) := by decide +kernel
theorem dX5_addCoin_20 : decode cX5_addCoin 20 = .ok (.aload_n 0, 1) := by decide +kernel
theorem dX5_addCoin_21 : decode cX5_addCoin 21 = .ok (.getfield 35, 3) := by decide +kernel
theorem dX5_addCoin_24 : decode cX5_addCoin 24 = .ok (.iconst 0, 1) := by decide +kernel
theorem dX5_addCoin_25 : decode cX5_addCoin 25 = .ok (.iload_n 2, 1) := by decide +kernel
theorem dX5_addCoin_26 : decode cX5_addCoin 26 = .ok (.invokevirtual 57, 3) := by decide +kernel
theorem dX5_addCoin_29 : decode cX5_addCoin 29 = .ok (.aload_n 0, 1) := by decide +kernel
theorem dX5_addCoin_30 : decode cX5_addCoin 30 = .ok (.aload_n 0, 1) := by decide +kernel
theorem dX5_addCoin_31 : decode cX5_addCoin 31 = .ok (.getfield 35, 3) := by decide +kernel
theorem dX5_addCoin_34 : decode cX5_addCoin 34 = .ok (.iconst 1, 1) := by decide +kernel
theorem dX5_addCoin_35 : decode cX5_addCoin 35 = .ok (.iload_n 3, 1) := by decide +kernel
theorem dX5_addCoin_36 : decode cX5_addCoin 36 = .ok (.invokevirtual 57, 3) := by decide +kernel
theorem dX5_addCoin_39 : decode cX5_addCoin 39 = .ok (.aload_n 0, 1) := by decide +kernel
theorem dX5_addCoin_40 : decode cX5_addCoin 40 = .ok (.dup, 1) := by decide +kernel
theorem dX5_addCoin_41 : decode cX5_addCoin 41 = .ok (.getfield 35, 3) := by decide +kernel
theorem dX5_addCoin_44 : decode cX5_addCoin 44 = .ok (.iconst 1, 1) := by decide +kernel
theorem dX5_addCoin_45 : decode cX5_addCoin 45 = .ok (.iadd, 1) := by decide +kernel
theorem dX5_addCoin_46 : decode cX5_addCoin 46 = .ok (.putfield 35, 3) := by decide +kernel
theorem dX5_addCoin_49 : decode cX5_addCoin 49 = .ok (.return_, 1) := by decide +kernel
theorem dX5_shortenWays_0 : decode cX5_shortenWays 0 = .ok (.iconst 0, 1) := by decide +kernel
theorem dX5_shortenWays_1 : decode cX5_shortenWays 1 = .ok (.istore_n 1, 1) := by decide +kernel
theorem dX5_shortenWays_2 : decode cX5_shortenWays 2 = .ok (.iload_n 1, 1) := by decide +kernel
theorem dX5_shortenWays_3 : decode cX5_shortenWays 3 = .ok (.bipush 8, 2) := by decide +kernel
theorem dX5_shortenWays_5 : decode cX5_shortenWays 5 = .ok (.if_icmp .ge 89, 3) := by decide +kernel
theorem dX5_shortenWays_8 : decode cX5_shortenWays 8 = .ok (.iconst 0, 1) := by decide +kernel
theorem dX5_shortenWays_9 : decode cX5_shortenWays 9 = .ok (.istore_n 2, 1) := by decide +kernel
theorem dX5_shortenWays_10 : decode cX5_shortenWays 10 = .ok (.iload_n 2, 1) := by decide +kernel
theorem dX5_shortenWays_11 : decode cX5_shortenWays 11 = .ok (.bipush 8, 2) := by decide +kernel
theorem dX5_shortenWays_13 : decode cX5_shortenWays 13 = .ok (.if_icmp .ge 75, 3) := by decide +kernel
theorem dX5_shortenWays_16 : decode cX5_shortenWays 16 = .ok (.iconst 0, 1) := by decide +kernel
theorem dX5_shortenWays_17 : decode cX5_shortenWays 17 = .ok (.istore_n 3, 1) := by decide +kernel
theorem dX5_shortenWays_18 : decode cX5_shortenWays 18 = .ok (.iload_n 3, 1) := by decide +kernel
theorem dX5_shortenWays_19 : decode cX5_shortenWays 19 = .ok (.bipush 8, 2) := by decide +kernel
theorem dX5_shortenWays_21 : decode cX5_shortenWays 21 = .ok (.if_icmp .ge 61, 3) := by decide +kernel
theorem dX5_shortenWays_24 : decode cX5_shortenWays 24 = .ok (.aload_n 0, 1) := by decide +kernel
theorem dX5_shortenWays_25 : decode cX5_shortenWays 25 = .ok (.getfield 11, 3) := by decide +kernel
theorem dX5_shortenWays_28 : decode cX5_shortenWays 28 = .ok (.iload_n 2, 1) := by decide +kernel
theorem dX5_shortenWays_29 : decode cX5_shortenWays 29 = .ok (.bipush 8, 2) := by decide +kernel
theorem dX5_shortenWays_31 : decode cX5_shortenWays 31 = .ok (.imul, 1) := by decide +kernel
theorem dX5_shortenWays_32 : decode cX5_shortenWays 32 = .ok (.iload_n 1, 1) := by decide +kernel
theorem dX5_shortenWays_33 : decode cX5_shortenWays 33 = .ok (.iadd, 1) := by decide +kernel
theorem dX5_shortenWays_34 : decode cX5_shortenWays 34 = .ok (.iaload, 1) := by decide +kernel
theorem dX5_shortenWays_35 : decode cX5_shortenWays 35 = .ok (.aload_n 0, 1) := by decide +kernel
theorem dX5_shortenWays_36 : decode cX5_shortenWays 36 = .ok (.getfield 11, 3) := by decide +kernel
theorem dX5_shortenWays_39 : decode cX5_shortenWays 39 = .ok (.iload_n 1, 1) := by decide +kernel
theorem dX5_shortenWays_40 : decode cX5_shortenWays 40 = .ok (.bipush 8, 2) := by decide +kernel
theorem dX5_shortenWays_42 : decode cX5_shortenWays 42 = .ok (.imul, 1) := by decide +kernel
theorem dX5_shortenWays_43 : decode cX5_shortenWays 43 = .ok (.iload_n 3, 1) := by decide +kernel
theorem dX5_shortenWays_44 : decode cX5_shortenWays 44 = .ok (.iadd, 1) := by decide +kernel
theorem dX5_shortenWays_45 : decode cX5_shortenWays 45 = .ok (.iaload, 1) := by decide +kernel
theorem dX5_shortenWays_46 : decode cX5_shortenWays 46 = .ok (.iadd, 1) := by decide +kernel
theorem dX5_shortenWays_47 : decode cX5_shortenWays 47 = .ok (.istore 4, 2) := by decide +kernel
theorem dX5_shortenWays_49 : decode cX5_shortenWays 49 = .ok (.aload_n 0, 1) := by decide +kernel
theorem dX5_shortenWays_50 : decode cX5_shortenWays 50 = .ok (.getfield 11, 3) := by decide +kernel
theorem dX5_shortenWays_53 : decode cX5_shortenWays 53 = .ok (.iload_n 2, 1) := by decide +kernel
theorem dX5_shortenWays_54 : decode cX5_shortenWays 54 = .ok (.bipush 8, 2) := by decide +kernel
theorem dX5_shortenWays_56 : decode cX5_shortenWays 56 = .ok (.imul, 1) := by decide +kernel
theorem dX5_shortenWays_57 : decode cX5_shortenWays 57 = .ok (.iload_n 3, 1) := by decide +kernel
theorem dX5_shortenWays_58 : decode cX5_shortenWays 58 = .ok (.iadd, 1) := by decide +kernel
theorem dX5_shortenWays_59 : decode cX5_shortenWays 59 = .ok (.aload_n 0, 1) := by decide +kernel
theorem dX5_shortenWays_60 : decode cX5_shortenWays 60 = .ok (.getfield 11, 3) := by decide +kernel
theorem dX5_shortenWays_63 : decode cX5_shortenWays 63 = .ok (.iload_n 2, 1) := by decide +kernel
theorem dX5_shortenWays_64 : decode cX5_shortenWays 64 = .ok (.bipush 8, 2) := by decide +kernel
theorem dX5_shortenWays_66 : decode cX5_shortenWays 66 = .ok (.imul, 1) := by decide +kernel
theorem dX5_shortenWays_67 : decode cX5_shortenWays 67 = .ok (.iload_n 3, 1) := by decide +kernel
theorem dX5_shortenWays_68 : decode cX5_shortenWays 68 = .ok (.iadd, 1) := by decide +kernel
theorem dX5_shortenWays_69 : decode cX5_shortenWays 69 = .ok (.iaload, 1) := by decide +kernel
theorem dX5_shortenWays_70 : decode cX5_shortenWays 70 = .ok (.iload 4, 2) := by decide +kernel
theorem dX5_shortenWays_72 : decode cX5_shortenWays 72 = .ok (.invokestatic 51, 3) := by decide +kernel
theorem dX5_shortenWays_75 : decode cX5_shortenWays 75 = .ok (.iastore, 1) := by decide +kernel
theorem dX5_shortenWays_76 : decode cX5_shortenWays 76 = .ok (.iinc 3 1, 3) := by decide +kernel
theorem dX5_shortenWays_79 : decode cX5_shortenWays 79 = .ok (.goto (-61), 3) := by decide +kernel
theorem dX5_shortenWays_82 : decode cX5_shortenWays 82 = .ok (.iinc 2 1, 3) := by decide +kernel
theorem dX5_shortenWays_85 : decode cX5_shortenWays 85 = .ok (.goto (-75), 3) := by decide +kernel
theorem dX5_shortenWays_88 : decode cX5_shortenWays 88 = .ok (.iinc 1 1, 3) := by decide +kernel
theorem dX5_shortenWays_91 : decode cX5_shortenWays 91 = .ok (.goto (-89), 3) := by decide +kernel
theorem dX5_shortenWays_94 : decode cX5_shortenWays 94 = .ok (.return_, 1) := by decide +kernel
theorem dX5_distance_0 : decode cX5_distance 0 = .ok (.aload_n 0, 1) := by decide +kernel
theorem dX5_distance_1 : decode cX5_distance 1 = .ok (.getfield 11, 3) := by decide +kernel
theorem dX5_distance_4 : decode cX5_distance 4 = .ok (.iload_n 1, 1) := by decide +kernel
theorem dX5_distance_5 : decode cX5_distance 5 = .ok (.bipush 8, 2) := by decide +kernel
theorem dX5_distance_7 : decode cX5_distance 7 = .ok (.imul, 1) := by decide +kernel
theorem dX5_distance_8 : decode cX5_distance 8 = .ok (.iload_n 2, 1) := by decide +kernel
theorem dX5_distance_9 : decode cX5_distance 9 = .ok (.iadd, 1) := by decide +kernel
theorem dX5_distance_10 : decode cX5_distance 10 = .ok (.iaload, 1) := by decide +kernel
theorem dX5_distance_11 : decode cX5_distance 11 = .ok (.istore_n 3, 1) := by decide +kernel
theorem dX5_distance_12 : decode cX5_distance 12 = .ok (.iload_n 3, 1) := by decide +kernel
theorem dX5_distance_13 : decode cX5_distance 13 = .ok (.ldc 38, 2) := by decide +kernel
theorem dX5_distance_15 : decode cX5_distance 15 = .ok (.if_icmp .lt 8, 3) := by decide +kernel
theorem dX5_distance_18 : decode cX5_distance 18 = .ok (.ldc 61, 2) := by decide +kernel
theorem dX5_distance_20 : decode cX5_distance 20 = .ok (.goto 4, 3) := by decide +kernel
theorem dX5_distance_23 : decode cX5_distance 23 = .ok (.iload_n 3, 1) := by decide +kernel
theorem dX5_distance_24 : decode cX5_distance 24 = .ok (.ireturn, 1) := by decide +kernel
theorem dX5_about_0 : decode cX5_about 0 = .ok (.aload_n 0, 1) := by decide +kernel
theorem dX5_about_1 : decode cX5_about 1 = .ok (.getfield 21, 3) := by decide +kernel
theorem dX5_about_4 : decode cX5_about 4 = .ok (.iload_n 1, 1) := by decide +kernel
theorem dX5_about_5 : decode cX5_about 5 = .ok (.iconst 5, 1) := by decide +kernel
theorem dX5_about_6 : decode cX5_about 6 = .ok (.imul, 1) := by decide +kernel
theorem dX5_about_7 : decode cX5_about 7 = .ok (.iload_n 2, 1) := by decide +kernel
theorem dX5_about_8 : decode cX5_about 8 = .ok (.iadd, 1) := by decide +kernel
theorem dX5_about_9 : decode cX5_about 9 = .ok (.iaload, 1) := by decide +kernel
theorem dX5_about_10 : decode cX5_about 10 = .ok (.ireturn, 1) := by decide +kernel
theorem dX5_put_0 : decode cX5_put 0 = .ok (.aload_n 0, 1) := by decide +kernel
theorem dX5_put_1 : decode cX5_put 1 = .ok (.getfield 21, 3) := by decide +kernel
theorem dX5_put_4 : decode cX5_put 4 = .ok (.iload_n 1, 1) := by decide +kernel
theorem dX5_put_5 : decode cX5_put 5 = .ok (.iconst 5, 1) := by decide +kernel
theorem dX5_put_6 : decode cX5_put 6 = .ok (.imul, 1) := by decide +kernel
theorem dX5_put_7 : decode cX5_put 7 = .ok (.iload_n 2, 1) := by decide +kernel
theorem dX5_put_8 : decode cX5_put 8 = .ok (.iadd, 1) := by decide +kernel
theorem dX5_put_9 : decode cX5_put 9 = .ok (.iload_n 3, 1) := by decide +kernel
theorem dX5_put_10 : decode cX5_put 10 = .ok (.iastore, 1) := by decide +kernel
theorem dX5_put_11 : decode cX5_put 11 = .ok (.return_, 1) := by decide +kernel
theorem dX5_today_0 : decode cX5_today 0 = .ok (.aload_n 0, 1) := by decide +kernel
theorem dX5_today_1 : decode cX5_today 1 = .ok (.getfield 21, 3) := by decide +kernel
theorem dX5_today_4 : decode cX5_today 4 = .ok (.bipush 60, 2) := by decide +kernel
theorem dX5_today_6 : decode cX5_today 6 = .ok (.iaload, 1) := by decide +kernel
theorem dX5_today_7 : decode cX5_today 7 = .ok (.ireturn, 1) := by decide +kernel
set_option maxRecDepth 20000 in
theorem ggX5_townOf_X5_about : GoodIn wsX5_townOf wsX5_about := goodIn_r _ [6, 7, 8, 9, 10, 11, 12, 13, 14, 15] (by decide +kernel) (by decide +kernel)
set_option maxRecDepth 20000 in
theorem gX5_townOf_X5_about : GoodIn wsX5_townOf (wsV RX5 62 RX5 yX5_about wsX5_about) := goodIn_app (goodIn_of _ (by decide +kernel)) ggX5_townOf_X5_about
theorem dX5_townOf_0 : decode cX5_townOf 0 = .ok (.aload_n 0, 1) := by decide +kernel
theorem dX5_townOf_1 : decode cX5_townOf 1 = .ok (.getfield 15, 3) := by decide +kernel
theorem dX5_townOf_4 : decode cX5_townOf 4 = .ok (.aload_n 0, 1) := by decide +kernel
theorem dX5_townOf_5 : decode cX5_townOf 5 = .ok (.iload_n 1, 1) := by decide +kernel
theorem dX5_townOf_6 : decode cX5_townOf 6 = .ok (.iconst 0, 1) := by decide +kernel
theorem dX5_townOf_7 : decode cX5_townOf 7 = .ok (.invokevirtual 62, 3) := by decide +kernel
theorem dX5_townOf_10 : decode cX5_townOf 10 = .ok (.iaload, 1) := by decide +kernel
theorem dX5_townOf_11 : decode cX5_townOf 11 = .ok (.ireturn, 1) := by decide +kernel
set_option maxRecDepth 20000 in
theorem ggX5_withHolder_X5_about : GoodIn wsX5_withHolder wsX5_about := goodIn_r _ [5, 6, 7, 8, 9, 10, 11, 12, 13, 14] (by decide +kernel) (by decide +kernel)
set_option maxRecDepth 20000 in
theorem gX5_withHolder_X5_about : GoodIn wsX5_withHolder (wsV RX5 62 RX5 yX5_about wsX5_about) := goodIn_app (goodIn_of _ (by decide +kernel)) ggX5_withHolder_X5_about
