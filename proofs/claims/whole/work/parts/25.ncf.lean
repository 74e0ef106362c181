theorem dX8_far_0 : decode cX8_far 0 = .ok (.aload_n 0, 1) := by decide +kernel
theorem dX8_far_1 : decode cX8_far 1 = .ok (.getfield 57, 3) := by decide +kernel
theorem dX8_far_4 : decode cX8_far 4 = .ok (.getfield 185, 3) := by decide +kernel
theorem dX8_far_7 : decode cX8_far 7 = .ok (.ifCond .ne 6, 3) := by decide +kernel
theorem dX8_far_10 : decode cX8_far 10 = .ok (.ldc 168, 2) := by decide +kernel
theorem dX8_far_12 : decode cX8_far 12 = .ok (.ireturn, 1) := by decide +kernel
theorem dX8_far_13 : decode cX8_far 13 = .ok (.iload_n 1, 1) := by decide +kernel
theorem dX8_far_14 : decode cX8_far 14 = .ok (.iconst 0, 1) := by decide +kernel
theorem dX8_far_15 : decode cX8_far 15 = .ok (.bipush 7, 2) := by decide +kernel
theorem dX8_far_17 : decode cX8_far 17 = .ok (.invokestatic 76, 3) := by decide +kernel
theorem dX8_far_20 : decode cX8_far 20 = .ok (.ifCond .ne 13, 3) := by decide +kernel
theorem dX8_far_23 : decode cX8_far 23 = .ok (.iload_n 2, 1) := by decide +kernel
theorem dX8_far_24 : decode cX8_far 24 = .ok (.iconst 0, 1) := by decide +kernel
theorem dX8_far_25 : decode cX8_far 25 = .ok (.bipush 7, 2) := by decide +kernel
theorem dX8_far_27 : decode cX8_far 27 = .ok (.invokestatic 76, 3) := by decide +kernel
theorem dX8_far_30 : decode cX8_far 30 = .ok (.ifCond .eq 6, 3) := by decide +kernel
theorem dX8_far_33 : decode cX8_far 33 = .ok (.ldc 80, 2) := by decide +kernel
theorem dX8_far_35 : decode cX8_far 35 = .ok (.ireturn, 1) := by decide +kernel
theorem dX8_far_36 : decode cX8_far 36 = .ok (.aload_n 0, 1) := by decide +kernel
theorem dX8_far_37 : decode cX8_far 37 = .ok (.getfield 57, 3) := by decide +kernel
theorem dX8_far_40 : decode cX8_far 40 = .ok (.iload_n 1, 1) := by decide +kernel
theorem dX8_far_41 : decode cX8_far 41 = .ok (.iload_n 2, 1) := by decide +kernel
theorem dX8_far_42 : decode cX8_far 42 = .ok (.invokevirtual 215, 3) := by decide +kernel
theorem dX8_far_45 : decode cX8_far 45 = .ok (.ireturn, 1) := by decide +kernel
set_option maxRecDepth 20000 in
theorem ggX8_late_X5_lateCoins : GoodIn wsX8_late wsX5_lateCoins := goodIn_r _ [8, 9, 10, 11, 12, 7, 13, 14, 15, 16, 17, 18, 19, 20, 21, 22, 23, 24, 25, 26, 27, 28, 29, 30, 31, 32, 33, 34, 35, 36, 37, 38, 39, 40, 41, 42, 43, 44, 45, 46, 47, 48, 49, 50, 51, 52, 53, 54, 55, 67, 68, 69, 70, 71, 72, 73, 74] (by decide +kernel) (by decide +kernel)
set_option maxRecDepth 20000 in
theorem gX8_late_X5_lateCoins : GoodIn wsX8_late (wsV RX8 218 RX5 yX5_lateCoins wsX5_lateCoins) := goodIn_app (goodIn_of _ (by decide +kernel)) ggX8_late_X5_lateCoins
theorem dX8_late_0 : decode cX8_late 0 = .ok (.aload_n 0, 1) := by decide +kernel
theorem dX8_late_1 : decode cX8_late 1 = .ok (.getfield 57, 3) := by decide +kernel
theorem dX8_late_4 : decode cX8_late 4 = .ok (.getfield 185, 3) := by decide +kernel
theorem dX8_late_7 : decode cX8_late 7 = .ok (.ifCond .ne 6, 3) := by decide +kernel
theorem dX8_late_10 : decode cX8_late 10 = .ok (.ldc 168, 2) := by decide +kernel
theorem dX8_late_12 : decode cX8_late 12 = .ok (.ireturn, 1) := by decide +kernel
theorem dX8_late_13 : decode cX8_late 13 = .ok (.aload_n 0, 1) := by decide +kernel
theorem dX8_late_14 : decode cX8_late 14 = .ok (.getfield 57, 3) := by decide +kernel
theorem dX8_late_17 : decode cX8_late 17 = .ok (.invokevirtual 218, 3) := by decide +kernel
theorem dX8_late_20 : decode cX8_late 20 = .ok (.ireturn, 1) := by decide +kernel
set_option maxRecDepth 20000 in
theorem ggX8_mustGo_X8_outside : GoodIn wsX8_mustGo wsX8_outside := goodIn_r _ [8] (by decide +kernel) (by decide +kernel)
set_option maxRecDepth 20000 in
theorem gX8_mustGo_X8_outside : GoodIn wsX8_mustGo (va_wsS RX8 76 yX8_outside wsX8_outside) := goodIn_app (goodIn_of _ (by decide +kernel)) ggX8_mustGo_X8_outside
set_option maxRecDepth 20000 in
theorem ggX8_mustGo_X5_coinsToGo : GoodIn wsX8_mustGo wsX5_coinsToGo := goodIn_r _ [13, 14, 15, 16, 17, 12, 18, 19, 20, 21, 22, 23, 24, 25, 26, 27, 28, 29, 30, 31, 32, 33, 34, 35, 36, 37, 38, 39, 40, 41, 42, 43, 44, 45, 46, 47, 48, 49, 50, 51, 52, 53, 54, 55, 56, 57, 69, 70, 71, 72, 73, 74, 75, 76] (by decide +kernel) (by decide +kernel)
set_option maxRecDepth 20000 in
theorem gX8_mustGo_X5_coinsToGo : GoodIn wsX8_mustGo (wsV RX8 221 RX5 yX5_coinsToGo wsX5_coinsToGo) := goodIn_app (goodIn_of _ (by decide +kernel)) ggX8_mustGo_X5_coinsToGo
theorem dX8_mustGo_0 : decode cX8_mustGo 0 = .ok (.aload_n 0, 1) := by decide +kernel
theorem dX8_mustGo_1 : decode cX8_mustGo 1 = .ok (.getfield 57, 3) := by decide +kernel
theorem dX8_mustGo_4 : decode cX8_mustGo 4 = .ok (.getfield 185, 3) := by decide +kernel
theorem dX8_mustGo_7 : decode cX8_mustGo 7 = .ok (.ifCond .ne 6, 3) := by decide +kernel
theorem dX8_mustGo_10 : decode cX8_mustGo 10 = .ok (.ldc 168, 2) := by decide +kernel
theorem dX8_mustGo_12 : decode cX8_mustGo 12 = .ok (.ireturn, 1) := by decide +kernel
theorem dX8_mustGo_13 : decode cX8_mustGo 13 = .ok (.iload_n 1, 1) := by decide +kernel
theorem dX8_mustGo_14 : decode cX8_mustGo 14 = .ok (.iconst 1, 1) := by decide +kernel
theorem dX8_mustGo_15 : decode cX8_mustGo 15 = .ok (.sipush 400, 3) := by decide +kernel
theorem dX8_mustGo_18 : decode cX8_mustGo 18 = .ok (.invokestatic 76, 3) := by decide +kernel
theorem dX8_mustGo_21 : decode cX8_mustGo 21 = .ok (.ifCond .eq 6, 3) := by decide +kernel
theorem dX8_mustGo_24 : decode cX8_mustGo 24 = .ok (.ldc 80, 2) := by decide +kernel
theorem dX8_mustGo_26 : decode cX8_mustGo 26 = .ok (.ireturn, 1) := by decide +kernel
theorem dX8_mustGo_27 : decode cX8_mustGo 27 = .ok (.aload_n 0, 1) := by decide +kernel
theorem dX8_mustGo_28 : decode cX8_mustGo 28 = .ok (.getfield 57, 3) := by decide +kernel
theorem dX8_mustGo_31 : decode cX8_mustGo 31 = .ok (.iload_n 1, 1) := by decide +kernel
theorem dX8_mustGo_32 : decode cX8_mustGo 32 = .ok (.invokevirtual 221, 3) := by decide +kernel
theorem dX8_mustGo_35 : decode cX8_mustGo 35 = .ok (.ireturn, 1) := by decide +kernel
set_option maxRecDepth 20000 in
theorem ggX8_save_X8_outside : GoodIn wsX8_save wsX8_outside := goodIn_r _ [8] (by decide +kernel) (by decide +kernel)
set_option maxRecDepth 20000 in
theorem gX8_save_X8_outside : GoodIn wsX8_save (va_wsS RX8 76 yX8_outside wsX8_outside) := goodIn_app (goodIn_of _ (by decide +kernel)) ggX8_save_X8_outside
set_option maxRecDepth 20000 in
theorem ggX8_save_X5_coinsForMessengers : GoodIn wsX8_save wsX5_coinsForMessengers := goodIn_r _ [13, 14, 15, 16, 12, 17, 18, 19, 20, 21, 22, 23, 24, 25, 26, 27, 28, 29, 30, 31, 32, 33, 34, 35, 36, 37, 38, 39, 40, 41, 42, 43, 44, 45, 46, 47, 48, 49, 50, 51, 52, 53, 54, 55, 56, 57, 58, 59, 60, 61, 73, 74, 75, 76, 77, 78, 79, 80] (by decide +kernel) (by decide +kernel)
set_option maxRecDepth 20000 in
theorem gX8_save_X5_coinsForMessengers : GoodIn wsX8_save (wsV RX8 224 RX5 yX5_coinsForMessengers wsX5_coinsForMessengers) := goodIn_app (goodIn_of _ (by decide +kernel)) ggX8_save_X5_coinsForMessengers
theorem dX8_save_0 : decode cX8_save 0 = .ok (.aload_n 0, 1) := by decide +kernel
theorem dX8_save_1 : decode cX8_save 1 = .ok (.getfield 57, 3) := by decide +kernel
theorem dX8_save_4 : decode cX8_save 4 = .ok (.getfield 185, 3) := by decide +kernel
theorem dX8_save_7 : decode cX8_save 7 = .ok (.ifCond .ne 6, 3) := by decide +kernel
theorem dX8_save_10 : decode cX8_save 10 = .ok (.ldc 168, 2) := by decide +kernel
theorem dX8_save_12 : decode cX8_save 12 = .ok (.ireturn, 1) := by decide +kernel
theorem dX8_save_13 : decode cX8_save 13 = .ok (.iload_n 1, 1) := by decide +kernel
theorem dX8_save_14 : decode cX8_save 14 = .ok (.iconst 0, 1) := by decide +kernel
theorem dX8_save_15 : decode cX8_save 15 = .ok (.bipush 12, 2) := by decide +kernel
theorem dX8_save_17 : decode cX8_save 17 = .ok (.invokestatic 76, 3) := by decide +kernel
theorem dX8_save_20 : decode cX8_save 20 = .ok (.ifCond .eq 6, 3) := by decide +kernel
theorem dX8_save_23 : decode cX8_save 23 = .ok (.ldc 80, 2) := by decide +kernel
theorem dX8_save_25 : decode cX8_save 25 = .ok (.ireturn, 1) := by decide +kernel
theorem dX8_save_26 : decode cX8_save 26 = .ok (.aload_n 0, 1) := by decide +kernel
theorem dX8_save_27 : decode cX8_save 27 = .ok (.getfield 57, 3) := by decide +kernel
theorem dX8_save_30 : decode cX8_save 30 = .ok (.iload_n 1, 1) := by decide +kernel
theorem dX8_save_31 : decode cX8_save 31 = .ok (.invokevirtual 224, 3) := by decide +kernel
theorem dX8_save_34 : decode cX8_save 34 = .ok (.ireturn, 1) := by decide +kernel
set_option maxRecDepth 20000 in
theorem ggX8_tour_X8_outside : GoodIn wsX8_tour wsX8_outside := goodIn_r _ [11] (by decide +kernel) (by decide +kernel)
set_option maxRecDepth 20000 in
theorem gX8_tour_X8_outside : GoodIn wsX8_tour (va_wsS RX8 76 yX8_outside wsX8_outside) := goodIn_app (goodIn_of _ (by decide +kernel)) ggX8_tour_X8_outside
set_option maxRecDepth 20000 in
theorem ggX8_tour_X2_plan : GoodIn wsX8_tour wsX2_plan := goodIn_r _ [16, 17, 18, 19, 20, 21, 22, 23, 24, 25, 26, 27, 28, 29, 15, 30, 31, 32, 33, 34, 35, 36, 37, 38, 39, 40, 41, 42, 43, 44, 45, 46, 47, 48, 49, 50, 102, 103, 104, 105, 94, 95, 96, 97, 98, 99, 100, 101] (by decide +kernel) (by decide +kernel)
set_option maxRecDepth 20000 in
theorem gX8_tour_X2_plan : GoodIn wsX8_tour (wsV RX8 227 RX2 yX2_plan wsX2_plan) := goodIn_app (goodIn_of _ (by decide +kernel)) ggX8_tour_X2_plan
set_option maxRecDepth 20000 in
theorem ggX8_tour_X5_savedByTour : GoodIn wsX8_tour wsX5_savedByTour := goodIn_r _ [54, 55, 56, 57, 58, 37, 59, 60, 61, 62, 63, 64, 65, 66, 67, 68, 69, 70, 71, 72, 73, 74, 75, 76, 77, 78, 94, 95, 96, 97, 98, 99, 100, 101] (by decide +kernel) (by decide +kernel)
set_option maxRecDepth 20000 in
theorem gX8_tour_X5_savedByTour : GoodIn wsX8_tour (wsV RX8 232 RX5 yX5_savedByTour wsX5_savedByTour) := goodIn_app (goodIn_of _ (by decide +kernel)) ggX8_tour_X5_savedByTour
set_option maxRecDepth 20000 in
theorem ggX8_tour_X2_stop : GoodIn wsX8_tour wsX2_stop := goodIn_r _ [82, 17, 18, 46, 9, 10, 11, 102, 103, 104, 105] (by decide +kernel) (by decide +kernel)
set_option maxRecDepth 20000 in
theorem gX8_tour_X2_stop : GoodIn wsX8_tour (wsV RX8 235 RX2 yX2_stop wsX2_stop) := goodIn_app (goodIn_of _ (by decide +kernel)) ggX8_tour_X2_stop
theorem dX8_tour_0 : decode cX8_tour 0 = .ok (.aload_n 0, 1) := by decide +kernel
theorem dX8_tour_1 : decode cX8_tour 1 = .ok (.getfield 57, 3) := by decide +kernel
theorem dX8_tour_4 : decode cX8_tour 4 = .ok (.getfield 185, 3) := by decide +kernel
theorem dX8_tour_7 : decode cX8_tour 7 = .ok (.ifCond .ne 6, 3) := by decide +kernel
theorem dX8_tour_10 : decode cX8_tour 10 = .ok (.ldc 168, 2) := by decide +kernel
theorem dX8_tour_12 : decode cX8_tour 12 = .ok (.ireturn, 1) := by decide +kernel
theorem dX8_tour_13 : decode cX8_tour 13 = .ok (.iload_n 1, 1) := by decide +kernel
theorem dX8_tour_14 : decode cX8_tour 14 = .ok (.iconst 1, 1) := by decide +kernel
theorem dX8_tour_15 : decode cX8_tour 15 = .ok (.iconst 1, 1) := by decide +kernel
theorem dX8_tour_16 : decode cX8_tour 16 = .ok (.aload_n 0, 1) := by decide +kernel
theorem dX8_tour_17 : decode cX8_tour 17 = .ok (.getfield 57, 3) := by decide +kernel
theorem dX8_tour_20 : decode cX8_tour 20 = .ok (.getfield 156, 3) := by decide +kernel
theorem dX8_tour_23 : decode cX8_tour 23 = .ok (.ishl, 1) := by decide +kernel
theorem dX8_tour_24 : decode cX8_tour 24 = .ok (.iconst 1, 1) := by decide +kernel
theorem dX8_tour_25 : decode cX8_tour 25 = .ok (.isub, 1) := by decide +kernel
theorem dX8_tour_26 : decode cX8_tour 26 = .ok (.invokestatic 76, 3) := by decide +kernel
theorem dX8_tour_29 : decode cX8_tour 29 = .ok (.ifCond .ne 9, 3) := by decide +kernel
theorem dX8_tour_32 : decode cX8_tour 32 = .ok (.iload_n 2, 1) := by decide +kernel
theorem dX8_tour_33 : decode cX8_tour 33 = .ok (.bipush (-2), 2) := by decide +kernel
theorem dX8_tour_35 : decode cX8_tour 35 = .ok (.if_icmp .ge 6, 3) := by decide +kernel
theorem dX8_tour_38 : decode cX8_tour 38 = .ok (.ldc 80, 2) := by decide +kernel
theorem dX8_tour_40 : decode cX8_tour 40 = .ok (.ireturn, 1) := by decide +kernel
theorem dX8_tour_41 : decode cX8_tour 41 = .ok (.aload_n 0, 1) := by decide +kernel
theorem dX8_tour_42 : decode cX8_tour 42 = .ok (.getfield 45, 3) := by decide +kernel
theorem dX8_tour_45 : decode cX8_tour 45 = .ok (.aload_n 0, 1) := by decide +kernel
theorem dX8_tour_46 : decode cX8_tour 46 = .ok (.getfield 57, 3) := by decide +kernel
theorem dX8_tour_49 : decode cX8_tour 49 = .ok (.iload_n 1, 1) := by decide +kernel
theorem dX8_tour_50 : decode cX8_tour 50 = .ok (.invokevirtual 227, 3) := by decide +kernel
theorem dX8_tour_53 : decode cX8_tour 53 = .ok (.istore_n 3, 1) := by decide +kernel
theorem dX8_tour_54 : decode cX8_tour 54 = .ok (.iload_n 3, 1) := by decide +kernel
theorem dX8_tour_55 : decode cX8_tour 55 = .ok (.ldc 231, 2) := by decide +kernel
theorem dX8_tour_57 : decode cX8_tour 57 = .ok (.if_icmp .ne 6, 3) := by decide +kernel
theorem dX8_tour_60 : decode cX8_tour 60 = .ok (.ldc 231, 2) := by decide +kernel
theorem dX8_tour_62 : decode cX8_tour 62 = .ok (.ireturn, 1) := by decide +kernel
theorem dX8_tour_63 : decode cX8_tour 63 = .ok (.iload_n 2, 1) := by decide +kernel
theorem dX8_tour_64 : decode cX8_tour 64 = .ok (.bipush (-2), 2) := by decide +kernel
theorem dX8_tour_66 : decode cX8_tour 66 = .ok (.if_icmp .ne 13, 3) := by decide +kernel
theorem dX8_tour_69 : decode cX8_tour 69 = .ok (.aload_n 0, 1) := by decide +kernel
theorem dX8_tour_70 : decode cX8_tour 70 = .ok (.getfield 57, 3) := by decide +kernel
theorem dX8_tour_73 : decode cX8_tour 73 = .ok (.iload_n 1, 1) := by decide +kernel
theorem dX8_tour_74 : decode cX8_tour 74 = .ok (.iload_n 3, 1) := by decide +kernel
theorem dX8_tour_75 : decode cX8_tour 75 = .ok (.invokevirtual 232, 3) := by decide +kernel
theorem dX8_tour_78 : decode cX8_tour 78 = .ok (.ireturn, 1) := by decide +kernel
theorem dX8_tour_79 : decode cX8_tour 79 = .ok (.iload_n 2, 1) := by decide +kernel
theorem dX8_tour_80 : decode cX8_tour 80 = .ok (.iconst (-1), 1) := by decide +kernel
theorem dX8_tour_81 : decode cX8_tour 81 = .ok (.if_icmp .ne 7, 3) := by decide +kernel
theorem dX8_tour_84 : decode cX8_tour 84 = .ok (.iload_n 3, 1) := by decide +kernel
theorem dX8_tour_85 : decode cX8_tour 85 = .ok (.goto 11, 3) := by decide +kernel
theorem dX8_tour_88 : decode cX8_tour 88 = .ok (.aload_n 0, 1) := by decide +kernel
theorem dX8_tour_89 : decode cX8_tour 89 = .ok (.getfield 45, 3) := by decide +kernel
theorem dX8_tour_92 : decode cX8_tour 92 = .ok (.iload_n 2, 1) := by decide +kernel
theorem dX8_tour_93 : decode cX8_tour 93 = .ok (.invokevirtual 235, 3) := by decide +kernel
theorem dX8_tour_96 : decode cX8_tour 96 = .ok (.ireturn, 1) := by decide +kernel
set_option maxRecDepth 20000 in
theorem ggX8_mint_X8_outside : GoodIn wsX8_mint wsX8_outside := goodIn_r _ [8] (by decide +kernel) (by decide +kernel)
set_option maxRecDepth 20000 in
theorem gX8_mint_X8_outside : GoodIn wsX8_mint (va_wsS RX8 76 yX8_outside wsX8_outside) := goodIn_app (goodIn_of _ (by decide +kernel)) ggX8_mint_X8_outside
set_option maxRecDepth 20000 in
theorem ggX8_mint_X5_bestSecondMint : GoodIn wsX8_mint wsX5_bestSecondMint := goodIn_r _ [13, 14, 15, 16, 12, 17, 18, 19, 20, 21, 22, 23, 24, 25, 26, 27, 28, 29, 30, 31, 32, 33, 34, 35, 36, 37, 38, 39, 40, 41, 42, 43, 44, 45, 46, 47, 48, 49, 50, 51, 52, 53, 54, 55, 56, 57, 58, 59, 60, 73, 74, 75, 76, 77, 78, 79, 80] (by decide +kernel) (by decide +kernel)
set_option maxRecDepth 20000 in
theorem gX8_mint_X5_bestSecondMint : GoodIn wsX8_mint (wsV RX8 238 RX5 yX5_bestSecondMint wsX5_bestSecondMint) := goodIn_app (goodIn_of _ (by decide +kernel)) ggX8_mint_X5_bestSecondMint
set_option maxRecDepth 20000 in
theorem ggX8_mint_X5_lateWithMint : GoodIn wsX8_mint wsX5_lateWithMint := goodIn_r _ [17, 18, 19, 20, 21, 12, 22, 23, 24, 25, 26, 27, 28, 29, 30, 31, 32, 33, 34, 35, 36, 37, 38, 39, 40, 41, 42, 43, 44, 45, 46, 47, 48, 49, 50, 51, 52, 53, 54, 55, 56, 57, 58, 59, 60, 73, 74, 75, 76, 77, 78, 79, 80] (by decide +kernel) (by decide +kernel)
set_option maxRecDepth 20000 in
theorem gX8_mint_X5_lateWithMint : GoodIn wsX8_mint (wsV RX8 241 RX5 yX5_lateWithMint wsX5_lateWithMint) := goodIn_app (goodIn_of _ (by decide +kernel)) ggX8_mint_X5_lateWithMint
theorem dX8_mint_0 : decode cX8_mint 0 = .ok (.aload_n 0, 1) := by decide +kernel
theorem dX8_mint_1 : decode cX8_mint 1 = .ok (.getfield 57, 3) := by decide +kernel
theorem dX8_mint_4 : decode cX8_mint 4 = .ok (.getfield 185, 3) := by decide +kernel
theorem dX8_mint_7 : decode cX8_mint 7 = .ok (.ifCond .ne 6, 3) := by decide +kernel
theorem dX8_mint_10 : decode cX8_mint 10 = .ok (.ldc 168, 2) := by decide +kernel
theorem dX8_mint_12 : decode cX8_mint 12 = .ok (.ireturn, 1) := by decide +kernel
theorem dX8_mint_13 : decode cX8_mint 13 = .ok (.iload_n 1, 1) := by decide +kernel
theorem dX8_mint_14 : decode cX8_mint 14 = .ok (.iconst 0, 1) := by decide +kernel
theorem dX8_mint_15 : decode cX8_mint 15 = .ok (.iconst 1, 1) := by decide +kernel
theorem dX8_mint_16 : decode cX8_mint 16 = .ok (.invokestatic 76, 3) := by decide +kernel
theorem dX8_mint_19 : decode cX8_mint 19 = .ok (.ifCond .eq 6, 3) := by decide +kernel
theorem dX8_mint_22 : decode cX8_mint 22 = .ok (.ldc 80, 2) := by decide +kernel
theorem dX8_mint_24 : decode cX8_mint 24 = .ok (.ireturn, 1) := by decide +kernel
theorem dX8_mint_25 : decode cX8_mint 25 = .ok (.aload_n 0, 1) := by decide +kernel
theorem dX8_mint_26 : decode cX8_mint 26 = .ok (.getfield 57, 3) := by decide +kernel
theorem dX8_mint_29 : decode cX8_mint 29 = .ok (.invokevirtual 238, 3) := by decide +kernel
theorem dX8_mint_32 : decode cX8_mint 32 = .ok (.istore_n 2, 1) := by decide +kernel
theorem dX8_mint_33 : decode cX8_mint 33 = .ok (.iload_n 1, 1) := by decide +kernel
theorem dX8_mint_34 : decode cX8_mint 34 = .ok (.ifCond .ne 7, 3) := by decide +kernel
theorem dX8_mint_37 : decode cX8_mint 37 = .ok (.iload_n 2, 1) := by decide +kernel
theorem dX8_mint_38 : decode cX8_mint 38 = .ok (.goto 11, 3) := by decide +kernel
theorem dX8_mint_41 : decode cX8_mint 41 = .ok (.aload_n 0, 1) := by decide +kernel
theorem dX8_mint_42 : decode cX8_mint 42 = .ok (.getfield 57, 3) := by decide +kernel
theorem dX8_mint_45 : decode cX8_mint 45 = .ok (.iload_n 2, 1) := by decide +kernel
theorem dX8_mint_46 : decode cX8_mint 46 = .ok (.invokevirtual 241, 3) := by decide +kernel
theorem dX8_mint_49 : decode cX8_mint 49 = .ok (.ireturn, 1) := by decide +kernel
set_option maxRecDepth 20000 in
theorem ggX8_sounds_X8_outside : GoodIn wsX8_sounds wsX8_outside := goodIn_r _ [8] (by decide +kernel) (by decide +kernel)
set_option maxRecDepth 20000 in
theorem gX8_sounds_X8_outside : GoodIn wsX8_sounds (va_wsS RX8 76 yX8_outside wsX8_outside) := goodIn_app (goodIn_of _ (by decide +kernel)) ggX8_sounds_X8_outside
set_option maxRecDepth 20000 in
theorem ggX8_sounds_X5_soundingIn : GoodIn wsX8_sounds wsX5_soundingIn := goodIn_r _ [13, 14, 15, 16, 17, 12, 18, 19, 20, 21, 22, 23, 24, 25, 26, 27, 28, 29, 30, 31, 32, 33, 34, 35, 36, 37, 38, 39, 40, 41, 42, 43, 44, 45, 46, 58, 59, 60, 61, 62, 63, 64, 65] (by decide +kernel) (by decide +kernel)
set_option maxRecDepth 20000 in
theorem gX8_sounds_X5_soundingIn : GoodIn wsX8_sounds (wsV RX8 244 RX5 yX5_soundingIn wsX5_soundingIn) := goodIn_app (goodIn_of _ (by decide +kernel)) ggX8_sounds_X5_soundingIn
theorem dX8_sounds_0 : decode cX8_sounds 0 = .ok (.aload_n 0, 1) := by decide +kernel
theorem dX8_sounds_1 : decode cX8_sounds 1 = .ok (.getfield 57, 3) := by decide +kernel
theorem dX8_sounds_4 : decode cX8_sounds 4 = .ok (.getfield 185, 3) := by decide +kernel
theorem dX8_sounds_7 : decode cX8_sounds 7 = .ok (.ifCond .ne 6, 3) := by decide +kernel
theorem dX8_sounds_10 : decode cX8_sounds 10 = .ok (.ldc 168, 2) := by decide +kernel
theorem dX8_sounds_12 : decode cX8_sounds 12 = .ok (.ireturn, 1) := by decide +kernel
theorem dX8_sounds_13 : decode cX8_sounds 13 = .ok (.iload_n 1, 1) := by decide +kernel
theorem dX8_sounds_14 : decode cX8_sounds 14 = .ok (.iconst 0, 1) := by decide +kernel
theorem dX8_sounds_15 : decode cX8_sounds 15 = .ok (.bipush 7, 2) := by decide +kernel
theorem dX8_sounds_17 : decode cX8_sounds 17 = .ok (.invokestatic 76, 3) := by decide +kernel
theorem dX8_sounds_20 : decode cX8_sounds 20 = .ok (.ifCond .ne 14, 3) := by decide +kernel
theorem dX8_sounds_23 : decode cX8_sounds 23 = .ok (.iload_n 2, 1) := by decide +kernel
theorem dX8_sounds_24 : decode cX8_sounds 24 = .ok (.iconst 0, 1) := by decide +kernel
theorem dX8_sounds_25 : decode cX8_sounds 25 = .ok (.sipush 400, 3) := by decide +kernel
theorem dX8_sounds_28 : decode cX8_sounds 28 = .ok (.invokestatic 76, 3) := by decide +kernel
theorem dX8_sounds_31 : decode cX8_sounds 31 = .ok (.ifCond .eq 6, 3) := by decide +kernel
theorem dX8_sounds_34 : decode cX8_sounds 34 = .ok (.ldc 80, 2) := by decide +kernel
theorem dX8_sounds_36 : decode cX8_sounds 36 = .ok (.ireturn, 1) := by decide +kernel
theorem dX8_sounds_37 : decode cX8_sounds 37 = .ok (.aload_n 0, 1) := by decide +kernel
theorem dX8_sounds_38 : decode cX8_sounds 38 = .ok (.getfield 57, 3) := by decide +kernel
theorem dX8_sounds_41 : decode cX8_sounds 41 = .ok (.iload_n 1, 1) := by decide +kernel
theorem dX8_sounds_42 : decode cX8_sounds 42 = .ok (.iload_n 2, 1) := by decide +kernel
theorem dX8_sounds_43 : decode cX8_sounds 43 = .ok (.invokevirtual 244, 3) := by decide +kernel
theorem dX8_sounds_46 : decode cX8_sounds 46 = .ok (.ireturn, 1) := by decide +kernel
set_option maxRecDepth 20000 in
theorem ggX8_ear_X8_outside : GoodIn wsX8_ear wsX8_outside := goodIn_r _ [5] (by decide +kernel) (by decide +kernel)
set_option maxRecDepth 20000 in
theorem gX8_ear_X8_outside : GoodIn wsX8_ear (va_wsS RX8 76 yX8_outside wsX8_outside) := goodIn_app (goodIn_of _ (by decide +kernel)) ggX8_ear_X8_outside
set_option maxRecDepth 20000 in
theorem ggX8_ear_X8_power : GoodIn wsX8_ear wsX8_power := goodIn_r _ [8] (by decide +kernel) (by decide +kernel)
set_option maxRecDepth 20000 in
theorem gX8_ear_X8_power : GoodIn wsX8_ear (va_wsS RX8 247 yX8_power wsX8_power) := goodIn_app (goodIn_of _ (by decide +kernel)) ggX8_ear_X8_power
set_option maxRecDepth 20000 in
theorem ggX8_ear_X8_commonDivisor : GoodIn wsX8_ear wsX8_commonDivisor := goodIn_r _ [11, 12, 13, 14, 15] (by decide +kernel) (by decide +kernel)
set_option maxRecDepth 20000 in
theorem gX8_ear_X8_commonDivisor : GoodIn wsX8_ear (va_wsS RX8 250 yX8_commonDivisor wsX8_commonDivisor) := goodIn_app (goodIn_of _ (by decide +kernel)) ggX8_ear_X8_commonDivisor
theorem dX8_ear_0 : decode cX8_ear 0 = .ok (.iload_n 1, 1) := by decide +kernel
theorem dX8_ear_1 : decode cX8_ear 1 = .ok (.iconst 0, 1) := by decide +kernel
theorem dX8_ear_2 : decode cX8_ear 2 = .ok (.bipush 10, 2) := by decide +kernel
theorem dX8_ear_4 : decode cX8_ear 4 = .ok (.invokestatic 76, 3) := by decide +kernel
theorem dX8_ear_7 : decode cX8_ear 7 = .ok (.ifCond .ne 42, 3) := by decide +kernel
theorem dX8_ear_10 : decode cX8_ear 10 = .ok (.iload_n 2, 1) := by decide +kernel
theorem dX8_ear_11 : decode cX8_ear 11 = .ok (.iconst 0, 1) := by decide +kernel
theorem dX8_ear_12 : decode cX8_ear 12 = .ok (.bipush 10, 2) := by decide +kernel
theorem dX8_ear_14 : decode cX8_ear 14 = .ok (.invokestatic 76, 3) := by decide +kernel
theorem dX8_ear_17 : decode cX8_ear 17 = .ok (.ifCond .ne 32, 3) := by decide +kernel
theorem dX8_ear_20 : decode cX8_ear 20 = .ok (.iload_n 3, 1) := by decide +kernel
theorem dX8_ear_21 : decode cX8_ear 21 = .ok (.iconst 0, 1) := by decide +kernel
theorem dX8_ear_22 : decode cX8_ear 22 = .ok (.iconst 3, 1) := by decide +kernel
theorem dX8_ear_23 : decode cX8_ear 23 = .ok (.invokestatic 76, 3) := by decide +kernel
theorem dX8_ear_26 : decode cX8_ear 26 = .ok (.ifCond .ne 23, 3) := by decide +kernel
theorem dX8_ear_29 : decode cX8_ear 29 = .ok (.iload 4, 2) := by decide +kernel
theorem dX8_ear_31 : decode cX8_ear 31 = .ok (.iconst 0, 1) := by decide +kernel
theorem dX8_ear_32 : decode cX8_ear 32 = .ok (.iload_n 3, 1) := by decide +kernel
theorem dX8_ear_33 : decode cX8_ear 33 = .ok (.invokestatic 76, 3) := by decide +kernel
theorem dX8_ear_36 : decode cX8_ear 36 = .ok (.ifCond .ne 13, 3) := by decide +kernel
theorem dX8_ear_39 : decode cX8_ear 39 = .ok (.iload 5, 2) := by decide +kernel
theorem dX8_ear_41 : decode cX8_ear 41 = .ok (.iconst 0, 1) := by decide +kernel
theorem dX8_ear_42 : decode cX8_ear 42 = .ok (.iconst 1, 1) := by decide +kernel
theorem dX8_ear_43 : decode cX8_ear 43 = .ok (.invokestatic 76, 3) := by decide +kernel
theorem dX8_ear_46 : decode cX8_ear 46 = .ok (.ifCond .eq 6, 3) := by decide +kernel
theorem dX8_ear_49 : decode cX8_ear 49 = .ok (.ldc 80, 2) := by decide +kernel
theorem dX8_ear_51 : decode cX8_ear 51 = .ok (.ireturn, 1) := by decide +kernel
theorem dX8_ear_52 : decode cX8_ear 52 = .ok (.iload_n 1, 1) := by decide +kernel
theorem dX8_ear_53 : decode cX8_ear 53 = .ok (.bipush 10, 2) := by decide +kernel
theorem dX8_ear_55 : decode cX8_ear 55 = .ok (.iload_n 2, 1) := by decide +kernel
theorem dX8_ear_56 : decode cX8_ear 56 = .ok (.isub, 1) := by decide +kernel
theorem dX8_ear_57 : decode cX8_ear 57 = .ok (.iload 4, 2) := by decide +kernel
theorem dX8_ear_59 : decode cX8_ear 59 = .ok (.invokestatic 247, 3) := by decide +kernel
theorem dX8_ear_62 : decode cX8_ear 62 = .ok (.imul, 1) := by decide +kernel
theorem dX8_ear_63 : decode cX8_ear 63 = .ok (.iload_n 2, 1) := by decide +kernel
theorem dX8_ear_64 : decode cX8_ear 64 = .ok (.iload_n 3, 1) := by decide +kernel
theorem dX8_ear_65 : decode cX8_ear 65 = .ok (.iload 4, 2) := by decide +kernel
theorem dX8_ear_67 : decode cX8_ear 67 = .ok (.isub, 1) := by decide +kernel
theorem dX8_ear_68 : decode cX8_ear 68 = .ok (.invokestatic 247, 3) := by decide +kernel
theorem dX8_ear_71 : decode cX8_ear 71 = .ok (.imul, 1) := by decide +kernel
theorem dX8_ear_72 : decode cX8_ear 72 = .ok (.istore 6, 2) := by decide +kernel
theorem dX8_ear_74 : decode cX8_ear 74 = .ok (.bipush 10, 2) := by decide +kernel
theorem dX8_ear_76 : decode cX8_ear 76 = .ok (.iload_n 1, 1) := by decide +kernel
theorem dX8_ear_77 : decode cX8_ear 77 = .ok (.isub, 1) := by decide +kernel
theorem dX8_ear_78 : decode cX8_ear 78 = .ok (.iload_n 2, 1) := by decide +kernel
theorem dX8_ear_79 : decode cX8_ear 79 = .ok (.iload 4, 2) := by decide +kernel
theorem dX8_ear_81 : decode cX8_ear 81 = .ok (.invokestatic 247, 3) := by decide +kernel
theorem dX8_ear_84 : decode cX8_ear 84 = .ok (.imul, 1) := by decide +kernel
theorem dX8_ear_85 : decode cX8_ear 85 = .ok (.bipush 10, 2) := by decide +kernel
theorem dX8_ear_87 : decode cX8_ear 87 = .ok (.iload_n 2, 1) := by decide +kernel
theorem dX8_ear_88 : decode cX8_ear 88 = .ok (.isub, 1) := by decide +kernel
theorem dX8_ear_89 : decode cX8_ear 89 = .ok (.iload_n 3, 1) := by decide +kernel
theorem dX8_ear_90 : decode cX8_ear 90 = .ok (.iload 4, 2) := by decide +kernel
theorem dX8_ear_92 : decode cX8_ear 92 = .ok (.isub, 1) := by decide +kernel
theorem dX8_ear_93 : decode cX8_ear 93 = .ok (.invokestatic 247, 3) := by decide +kernel
theorem dX8_ear_96 : decode cX8_ear 96 = .ok (.imul, 1) := by decide +kernel
theorem dX8_ear_97 : decode cX8_ear 97 = .ok (.istore 7, 2) := by decide +kernel
theorem dX8_ear_99 : decode cX8_ear 99 = .ok (.iload 6, 2) := by decide +kernel
theorem dX8_ear_101 : decode cX8_ear 101 = .ok (.ifCond .ne 14, 3) := by decide +kernel
theorem dX8_ear_104 : decode cX8_ear 104 = .ok (.iload 5, 2) := by decide +kernel
theorem dX8_ear_106 : decode cX8_ear 106 = .ok (.ifCond .ne 7, 3) := by decide +kernel
theorem dX8_ear_109 : decode cX8_ear 109 = .ok (.iconst 0, 1) := by decide +kernel
theorem dX8_ear_110 : decode cX8_ear 110 = .ok (.goto 4, 3) := by decide +kernel
theorem dX8_ear_113 : decode cX8_ear 113 = .ok (.iconst 1, 1) := by decide +kernel
theorem dX8_ear_114 : decode cX8_ear 114 = .ok (.ireturn, 1) := by decide +kernel
theorem dX8_ear_115 : decode cX8_ear 115 = .ok (.iload 6, 2) := by decide +kernel
theorem dX8_ear_117 : decode cX8_ear 117 = .ok (.iload 6, 2) := by decide +kernel
theorem dX8_ear_119 : decode cX8_ear 119 = .ok (.iload 7, 2) := by decide +kernel
theorem dX8_ear_121 : decode cX8_ear 121 = .ok (.iadd, 1) := by decide +kernel
theorem dX8_ear_122 : decode cX8_ear 122 = .ok (.invokestatic 250, 3) := by decide +kernel
theorem dX8_ear_125 : decode cX8_ear 125 = .ok (.istore 8, 2) := by decide +kernel
theorem dX8_ear_127 : decode cX8_ear 127 = .ok (.iload 5, 2) := by decide +kernel
theorem dX8_ear_129 : decode cX8_ear 129 = .ok (.ifCond .ne 8, 3) := by decide +kernel
theorem dX8_ear_132 : decode cX8_ear 132 = .ok (.iload 6, 2) := by decide +kernel
theorem dX8_ear_134 : decode cX8_ear 134 = .ok (.goto 8, 3) := by decide +kernel
theorem dX8_ear_137 : decode cX8_ear 137 = .ok (.iload 6, 2) := by decide +kernel
theorem dX8_ear_139 : decode cX8_ear 139 = .ok (.iload 7, 2) := by decide +kernel
theorem dX8_ear_141 : decode cX8_ear 141 = .ok (.iadd, 1) := by decide +kernel
theorem dX8_ear_142 : decode cX8_ear 142 = .ok (.iload 8, 2) := by decide +kernel
theorem dX8_ear_144 : decode cX8_ear 144 = .ok (.idiv, 1) := by decide +kernel
theorem dX8_ear_145 : decode cX8_ear 145 = .ok (.ireturn, 1) := by decide +kernel
set_option maxRecDepth 20000 in
theorem ggX8_image_X8_outside : GoodIn wsX8_image wsX8_outside := goodIn_r _ [9] (by decide +kernel) (by decide +kernel)
set_option maxRecDepth 20000 in
theorem gX8_image_X8_outside : GoodIn wsX8_image (va_wsS RX8 76 yX8_outside wsX8_outside) := goodIn_app (goodIn_of _ (by decide +kernel)) ggX8_image_X8_outside
set_option maxRecDepth 20000 in
theorem ggX8_image_X5_takeFrom : GoodIn wsX8_image wsX5_takeFrom := goodIn_r _ [14, 15, 16, 17, 18, 19, 20, 21, 22, 23, 24, 25, 26, 38, 39, 40, 41, 42, 43, 44, 45] (by decide +kernel) (by decide +kernel)
set_option maxRecDepth 20000 in
theorem gX8_image_X5_takeFrom : GoodIn wsX8_image (wsV RX8 253 RX5 yX5_takeFrom wsX5_takeFrom) := goodIn_app (goodIn_of _ (by decide +kernel)) ggX8_image_X5_takeFrom
theorem dX8_image_0 : decode cX8_image 0 = .ok (.iload_n 1, 1) := by decide +kernel
theorem dX8_image_1 : decode cX8_image 1 = .ok (.iconst 0, 1) := by decide +kernel
theorem dX8_image_2 : decode cX8_image 2 = .ok (.iconst 1, 1) := by decide +kernel
theorem dX8_image_3 : decode cX8_image 3 = .ok (.invokestatic 76, 3) := by decide +kernel
theorem dX8_image_6 : decode cX8_image 6 = .ok (.ifCond .eq 6, 3) := by decide +kernel
theorem dX8_image_9 : decode cX8_image 9 = .ok (.ldc 80, 2) := by decide +kernel
theorem dX8_image_11 : decode cX8_image 11 = .ok (.ireturn, 1) := by decide +kernel
theorem dX8_image_12 : decode cX8_image 12 = .ok (.aload_n 0, 1) := by decide +kernel
theorem dX8_image_13 : decode cX8_image 13 = .ok (.getfield 57, 3) := by decide +kernel
theorem dX8_image_16 : decode cX8_image 16 = .ok (.getfield 185, 3) := by decide +kernel
theorem dX8_image_19 : decode cX8_image 19 = .ok (.ifCond .ne 6, 3) := by decide +kernel
theorem dX8_image_22 : decode cX8_image 22 = .ok (.ldc 168, 2) := by decide +kernel
theorem dX8_image_24 : decode cX8_image 24 = .ok (.ireturn, 1) := by decide +kernel
theorem dX8_image_25 : decode cX8_image 25 = .ok (.aload_n 0, 1) := by decide +kernel
theorem dX8_image_26 : decode cX8_image 26 = .ok (.getfield 17, 3) := by decide +kernel
theorem dX8_image_29 : decode cX8_image 29 = .ok (.iload_n 1, 1) := by decide +kernel
theorem dX8_image_30 : decode cX8_image 30 = .ok (.aaload, 1) := by decide +kernel
theorem dX8_image_31 : decode cX8_image 31 = .ok (.aload_n 0, 1) := by decide +kernel
theorem dX8_image_32 : decode cX8_image 32 = .ok (.getfield 57, 3) := by decide +kernel
theorem dX8_image_35 : decode cX8_image 35 = .ok (.invokevirtual 253, 3) := by decide +kernel
theorem dX8_image_38 : decode cX8_image 38 = .ok (.iconst 1, 1) := by decide +kernel
theorem dX8_image_39 : decode cX8_image 39 = .ok (.ireturn, 1) := by decide +kernel
set_option maxRecDepth 20000 in
theorem ggX8_restore_X8_outside : GoodIn wsX8_restore wsX8_outside := goodIn_r _ [10] (by decide +kernel) (by decide +kernel)
set_option maxRecDepth 20000 in
theorem gX8_restore_X8_outside : GoodIn wsX8_restore (va_wsS RX8 76 yX8_outside wsX8_outside) := goodIn_app (goodIn_of _ (by decide +kernel)) ggX8_restore_X8_outside
set_option maxRecDepth 20000 in
theorem ggX8_restore_X5_takeFrom : GoodIn wsX8_restore wsX5_takeFrom := goodIn_r _ [15, 16, 17, 18, 19, 20, 21, 22, 23, 24, 25, 26, 27, 46, 47, 48, 49, 50, 51, 52, 53] (by decide +kernel) (by decide +kernel)
set_option maxRecDepth 20000 in
theorem gX8_restore_X5_takeFrom : GoodIn wsX8_restore (wsV RX8 253 RX5 yX5_takeFrom wsX5_takeFrom) := goodIn_app (goodIn_of _ (by decide +kernel)) ggX8_restore_X5_takeFrom
set_option maxRecDepth 20000 in
theorem ggX8_restore_X0_forgetAll : GoodIn wsX8_restore wsX0_forgetAll := goodIn_r _ [32, 33, 34, 54, 55, 56] (by decide +kernel) (by decide +kernel)
set_option maxRecDepth 20000 in
theorem gX8_restore_X0_forgetAll : GoodIn wsX8_restore (wsV RX8 147 RX0 yX0_forgetAll wsX0_forgetAll) := goodIn_app (goodIn_of _ (by decide +kernel)) ggX8_restore_X0_forgetAll
theorem dX8_restore_0 : decode cX8_restore 0 = .ok (.iload_n 1, 1) := by decide +kernel
theorem dX8_restore_1 : decode cX8_restore 1 = .ok (.iconst 0, 1) := by decide +kernel
theorem dX8_restore_2 : decode cX8_restore 2 = .ok (.iconst 1, 1) := by decide +kernel
theorem dX8_restore_3 : decode cX8_restore 3 = .ok (.invokestatic 76, 3) := by decide +kernel
theorem dX8_restore_6 : decode cX8_restore 6 = .ok (.ifCond .eq 6, 3) := by decide +kernel
theorem dX8_restore_9 : decode cX8_restore 9 = .ok (.ldc 80, 2) := by decide +kernel
theorem dX8_restore_11 : decode cX8_restore 11 = .ok (.ireturn, 1) := by decide +kernel
theorem dX8_restore_12 : decode cX8_restore 12 = .ok (.aload_n 0, 1) := by decide +kernel
theorem dX8_restore_13 : decode cX8_restore 13 = .ok (.getfield 17, 3) := by decide +kernel
theorem dX8_restore_16 : decode cX8_restore 16 = .ok (.iload_n 1, 1) := by decide +kernel
theorem dX8_restore_17 : decode cX8_restore 17 = .ok (.aaload, 1) := by decide +kernel
theorem dX8_restore_18 : decode cX8_restore 18 = .ok (.getfield 185, 3) := by decide +kernel
theorem dX8_restore_21 : decode cX8_restore 21 = .ok (.ifCond .ne 6, 3) := by decide +kernel
theorem dX8_restore_24 : decode cX8_restore 24 = .ok (.ldc 168, 2) := by decide +kernel
theorem dX8_restore_26 : decode cX8_restore 26 = .ok (.ireturn, 1) := by decide +kernel
theorem dX8_restore_27 : decode cX8_restore 27 = .ok (.aload_n 0, 1) := by decide +kernel
theorem dX8_restore_28 : decode cX8_restore 28 = .ok (.getfield 57, 3) := by decide +kernel
theorem dX8_restore_31 : decode cX8_restore 31 = .ok (.aload_n 0, 1) := by decide +kernel
theorem dX8_restore_32 : decode cX8_restore 32 = .ok (.getfield 17, 3) := by decide +kernel
theorem dX8_restore_35 : decode cX8_restore 35 = .ok (.iload_n 1, 1) := by decide +kernel
theorem dX8_restore_36 : decode cX8_restore 36 = .ok (.aaload, 1) := by decide +kernel
theorem dX8_restore_37 : decode cX8_restore 37 = .ok (.invokevirtual 253, 3) := by decide +kernel
theorem dX8_restore_40 : decode cX8_restore 40 = .ok (.aload_n 0, 1) := by decide +kernel
theorem dX8_restore_41 : decode cX8_restore 41 = .ok (.getfield 38, 3) := by decide +kernel
theorem dX8_restore_44 : decode cX8_restore 44 = .ok (.invokevirtual 147, 3) := by decide +kernel
theorem dX8_restore_47 : decode cX8_restore 47 = .ok (.iconst 1, 1) := by decide +kernel
theorem dX8_restore_48 : decode cX8_restore 48 = .ok (.ireturn, 1) := by decide +kernel
set_option maxRecDepth 20000 in
theorem ggX8_kind_X8_noCoin : GoodIn wsX8_kind wsX8_noCoin := goodIn_r _ [8, 2, 9, 10, 11, 7, 12, 13, 14, 15, 16, 17, 18, 19, 20, 21, 22, 23, 24, 25, 26, 27, 28, 29, 30, 31] (by decide +kernel) (by decide +kernel)
set_option maxRecDepth 20000 in
theorem gX8_kind_X8_noCoin : GoodIn wsX8_kind (wsV RX8 153 RX8 yX8_noCoin wsX8_noCoin) := goodIn_app (goodIn_of _ (by decide +kernel)) ggX8_kind_X8_noCoin
theorem dX8_kind_0 : decode cX8_kind 0 = .ok (.aload_n 0, 1) := by decide +kernel
theorem dX8_kind_1 : decode cX8_kind 1 = .ok (.iload_n 1, 1) := by decide +kernel
theorem dX8_kind_2 : decode cX8_kind 2 = .ok (.invokevirtual 153, 3) := by decide +kernel
theorem dX8_kind_5 : decode cX8_kind 5 = .ok (.ifCond .eq 6, 3) := by decide +kernel
theorem dX8_kind_8 : decode cX8_kind 8 = .ok (.ldc 80, 2) := by decide +kernel
theorem dX8_kind_10 : decode cX8_kind 10 = .ok (.ireturn, 1) := by decide +kernel
theorem dX8_kind_11 : decode cX8_kind 11 = .ok (.aload_n 0, 1) := by decide +kernel
theorem dX8_kind_12 : decode cX8_kind 12 = .ok (.getfield 57, 3) := by decide +kernel
theorem dX8_kind_15 : decode cX8_kind 15 = .ok (.getfield 257, 3) := by decide +kernel
theorem dX8_kind_18 : decode cX8_kind 18 = .ok (.iload_n 1, 1) := by decide +kernel
theorem dX8_kind_19 : decode cX8_kind 19 = .ok (.iaload, 1) := by decide +kernel
theorem dX8_kind_20 : decode cX8_kind 20 = .ok (.ireturn, 1) := by decide +kernel
set_option maxRecDepth 20000 in
theorem ggX8_as_X8_noCoin : GoodIn wsX8_as wsX8_noCoin := goodIn_r _ [8, 2, 9, 10, 11, 7, 12, 31, 32, 33, 34, 35, 36, 37, 38, 39, 40, 41, 42, 43, 44, 45, 46, 47, 48, 49] (by decide +kernel) (by decide +kernel)
set_option maxRecDepth 20000 in
theorem gX8_as_X8_noCoin : GoodIn wsX8_as (wsV RX8 153 RX8 yX8_noCoin wsX8_noCoin) := goodIn_app (goodIn_of _ (by decide +kernel)) ggX8_as_X8_noCoin
set_option maxRecDepth 20000 in
theorem ggX8_as_X8_outside : GoodIn wsX8_as wsX8_outside := goodIn_r _ [12] (by decide +kernel) (by decide +kernel)
set_option maxRecDepth 20000 in
theorem gX8_as_X8_outside : GoodIn wsX8_as (va_wsS RX8 76 yX8_outside wsX8_outside) := goodIn_app (goodIn_of _ (by decide +kernel)) ggX8_as_X8_outside
set_option maxRecDepth 20000 in
theorem ggX8_as_X3_isOne : GoodIn wsX8_as wsX3_isOne := goodIn_r _ [16, 17, 18, 15, 19, 20, 11, 7, 12] (by decide +kernel) (by decide +kernel)
set_option maxRecDepth 20000 in
theorem gX8_as_X3_isOne : GoodIn wsX8_as (va_wsS RX8 262 yX3_isOne wsX3_isOne) := goodIn_app (goodIn_of _ (by decide +kernel)) ggX8_as_X3_isOne
set_option maxRecDepth 20000 in
theorem ggX8_as_X8_found : GoodIn wsX8_as wsX8_found := goodIn_r _ [24, 25, 26, 31, 32, 33, 34, 35, 36, 37, 38, 39, 40, 41] (by decide +kernel) (by decide +kernel)
set_option maxRecDepth 20000 in
theorem gX8_as_X8_found : GoodIn wsX8_as (wsV RX8 81 RX8 yX8_found wsX8_found) := goodIn_app (goodIn_of _ (by decide +kernel)) ggX8_as_X8_found
set_option maxRecDepth 20000 in
theorem ggX8_as_X8_answered : GoodIn wsX8_as wsX8_answered := goodIn_r _ [30, 25, 31, 32, 33, 34, 35, 36, 37, 38, 39, 40, 41] (by decide +kernel) (by decide +kernel)
set_option maxRecDepth 20000 in
theorem gX8_as_X8_answered : GoodIn wsX8_as (wsV RX8 89 RX8 yX8_answered wsX8_answered) := goodIn_app (goodIn_of _ (by decide +kernel)) ggX8_as_X8_answered
theorem dX8_as_0 : decode cX8_as 0 = .ok (.aload_n 0, 1) := by decide +kernel
theorem dX8_as_1 : decode cX8_as 1 = .ok (.iload_n 1, 1) := by decide +kernel
theorem dX8_as_2 : decode cX8_as 2 = .ok (.invokevirtual 153, 3) := by decide +kernel
theorem dX8_as_5 : decode cX8_as 5 = .ok (.ifCond .ne 12, 3) := by decide +kernel
theorem dX8_as_8 : decode cX8_as 8 = .ok (.iload_n 2, 1) := by decide +kernel
theorem dX8_as_9 : decode cX8_as 9 = .ok (.iconst 0, 1) := by decide +kernel
theorem dX8_as_10 : decode cX8_as 10 = .ok (.iconst 5, 1) := by decide +kernel
theorem dX8_as_11 : decode cX8_as 11 = .ok (.invokestatic 76, 3) := by decide +kernel
theorem dX8_as_14 : decode cX8_as 14 = .ok (.ifCond .eq 6, 3) := by decide +kernel
theorem dX8_as_17 : decode cX8_as 17 = .ok (.ldc 80, 2) := by decide +kernel
theorem dX8_as_19 : decode cX8_as 19 = .ok (.ireturn, 1) := by decide +kernel
theorem dX8_as_20 : decode cX8_as 20 = .ok (.aload_n 0, 1) := by decide +kernel
theorem dX8_as_21 : decode cX8_as 21 = .ok (.getfield 57, 3) := by decide +kernel
theorem dX8_as_24 : decode cX8_as 24 = .ok (.getfield 257, 3) := by decide +kernel
theorem dX8_as_27 : decode cX8_as 27 = .ok (.iload_n 1, 1) := by decide +kernel
theorem dX8_as_28 : decode cX8_as 28 = .ok (.iaload, 1) := by decide +kernel
theorem dX8_as_29 : decode cX8_as 29 = .ok (.iload_n 2, 1) := by decide +kernel
theorem dX8_as_30 : decode cX8_as 30 = .ok (.invokestatic 262, 3) := by decide +kernel
theorem dX8_as_33 : decode cX8_as 33 = .ok (.ifCond .ne 9, 3) := by decide +kernel
theorem dX8_as_36 : decode cX8_as 36 = .ok (.aload_n 0, 1) := by decide +kernel
theorem dX8_as_37 : decode cX8_as 37 = .ok (.iconst 3, 1) := by decide +kernel
theorem dX8_as_38 : decode cX8_as 38 = .ok (.invokevirtual 81, 3) := by decide +kernel
theorem dX8_as_41 : decode cX8_as 41 = .ok (.ireturn, 1) := by decide +kernel
theorem dX8_as_42 : decode cX8_as 42 = .ok (.aload_n 0, 1) := by decide +kernel
theorem dX8_as_43 : decode cX8_as 43 = .ok (.iload_n 1, 1) := by decide +kernel
theorem dX8_as_44 : decode cX8_as 44 = .ok (.invokevirtual 89, 3) := by decide +kernel
theorem dX8_as_47 : decode cX8_as 47 = .ok (.ireturn, 1) := by decide +kernel
set_option maxRecDepth 20000 in
theorem ggX8_ask_X8_noCoin : GoodIn wsX8_ask wsX8_noCoin := goodIn_r _ [8, 3, 9, 10, 11, 7, 12, 60, 61, 62, 63, 64, 65, 66, 67, 68, 69, 70, 71, 72, 73, 74, 75, 76, 77, 78] (by decide +kernel) (by decide +kernel)
set_option maxRecDepth 20000 in
theorem gX8_ask_X8_noCoin : GoodIn wsX8_ask (wsV RX8 153 RX8 yX8_noCoin wsX8_noCoin) := goodIn_app (goodIn_of _ (by decide +kernel)) ggX8_ask_X8_noCoin
set_option maxRecDepth 20000 in
theorem ggX8_ask_X8_outside : GoodIn wsX8_ask wsX8_outside := goodIn_r _ [12] (by decide +kernel) (by decide +kernel)
set_option maxRecDepth 20000 in
theorem gX8_ask_X8_outside : GoodIn wsX8_ask (va_wsS RX8 76 yX8_outside wsX8_outside) := goodIn_app (goodIn_of _ (by decide +kernel)) ggX8_ask_X8_outside
set_option maxRecDepth 20000 in
theorem ggX8_ask_X1_answer : GoodIn wsX8_ask wsX1_answer := goodIn_r _ [17, 18, 19, 20, 21, 22, 23, 24, 25, 26, 27, 28, 29, 30, 31, 32, 33, 34, 35, 36, 37, 38, 16, 39, 40, 41, 42, 43, 44, 45, 46, 47, 48, 49, 50, 11, 7, 12, 51, 52, 53, 54, 55, 56, 57, 58, 59, 79, 80, 81, 82, 83, 84, 71, 72, 73, 74, 75, 76, 77, 78] (by decide +kernel) (by decide +kernel)
set_option maxRecDepth 20000 in
theorem gX8_ask_X1_answer : GoodIn wsX8_ask (wsV RX8 265 RX1 yX1_answer wsX1_answer) := goodIn_app (goodIn_of _ (by decide +kernel)) ggX8_ask_X1_answer
theorem dX8_ask_0 : decode cX8_ask 0 = .ok (.aload_n 0, 1) := by decide +kernel
theorem dX8_ask_1 : decode cX8_ask 1 = .ok (.iload_n 1, 1) := by decide +kernel
theorem dX8_ask_2 : decode cX8_ask 2 = .ok (.invokevirtual 153, 3) := by decide +kernel
theorem dX8_ask_5 : decode cX8_ask 5 = .ok (.ifCond .ne 12, 3) := by decide +kernel
theorem dX8_ask_8 : decode cX8_ask 8 = .ok (.iload_n 2, 1) := by decide +kernel
theorem dX8_ask_9 : decode cX8_ask 9 = .ok (.iconst 0, 1) := by decide +kernel
theorem dX8_ask_10 : decode cX8_ask 10 = .ok (.iconst 1, 1) := by decide +kernel
theorem dX8_ask_11 : decode cX8_ask 11 = .ok (.invokestatic 76, 3) := by decide +kernel
theorem dX8_ask_14 : decode cX8_ask 14 = .ok (.ifCond .eq 6, 3) := by decide +kernel
theorem dX8_ask_17 : decode cX8_ask 17 = .ok (.ldc 80, 2) := by decide +kernel
theorem dX8_ask_19 : decode cX8_ask 19 = .ok (.ireturn, 1) := by decide +kernel
theorem dX8_ask_20 : decode cX8_ask 20 = .ok (.aload_n 0, 1) := by decide +kernel
theorem dX8_ask_21 : decode cX8_ask 21 = .ok (.getfield 52, 3) := by decide +kernel
theorem dX8_ask_24 : decode cX8_ask 24 = .ok (.aload_n 0, 1) := by decide +kernel
theorem dX8_ask_25 : decode cX8_ask 25 = .ok (.getfield 57, 3) := by decide +kernel
theorem dX8_ask_28 : decode cX8_ask 28 = .ok (.iload_n 1, 1) := by decide +kernel
theorem dX8_ask_29 : decode cX8_ask 29 = .ok (.iload_n 2, 1) := by decide +kernel
theorem dX8_ask_30 : decode cX8_ask 30 = .ok (.invokevirtual 265, 3) := by decide +kernel
theorem dX8_ask_33 : decode cX8_ask 33 = .ok (.ireturn, 1) := by decide +kernel
set_option maxRecDepth 20000 in
theorem ggX8_trace_X1_noted : GoodIn wsX8_trace wsX1_noted := goodIn_r _ [6, 7, 8, 9, 10, 11, 12, 24, 25, 26, 27, 28, 29] (by decide +kernel) (by decide +kernel)
set_option maxRecDepth 20000 in
theorem gX8_trace_X1_noted : GoodIn wsX8_trace (wsV RX8 269 RX1 yX1_noted wsX1_noted) := goodIn_app (goodIn_of _ (by decide +kernel)) ggX8_trace_X1_noted
theorem dX8_trace_0 : decode cX8_trace 0 = .ok (.aload_n 0, 1) := by decide +kernel
theorem dX8_trace_1 : decode cX8_trace 1 = .ok (.getfield 52, 3) := by decide +kernel
theorem dX8_trace_4 : decode cX8_trace 4 = .ok (.iload_n 1, 1) := by decide +kernel
theorem dX8_trace_5 : decode cX8_trace 5 = .ok (.invokevirtual 269, 3) := by decide +kernel
theorem dX8_trace_8 : decode cX8_trace 8 = .ok (.ireturn, 1) := by decide +kernel
set_option maxRecDepth 20000 in
theorem ggX8_count_X8_rowsThere : GoodIn wsX8_count wsX8_rowsThere := goodIn_r _ [13, 14, 15, 16, 17, 18, 19, 20, 36, 37, 38, 39, 40, 41, 42, 43, 44, 45, 46, 64, 65, 66] (by decide +kernel) (by decide +kernel)
set_option maxRecDepth 20000 in
theorem gX8_count_X8_rowsThere : GoodIn wsX8_count (wsV RX8 272 RX8 yX8_rowsThere wsX8_rowsThere) := goodIn_app (goodIn_of _ (by decide +kernel)) ggX8_count_X8_rowsThere
set_option maxRecDepth 20000 in
theorem ggX8_count_X5_today : GoodIn wsX8_count wsX5_today := goodIn_r _ [25, 26, 47, 48, 49, 50, 51, 52, 53, 54] (by decide +kernel) (by decide +kernel)
set_option maxRecDepth 20000 in
theorem gX8_count_X5_today : GoodIn wsX8_count (wsV RX8 189 RX5 yX5_today wsX5_today) := goodIn_app (goodIn_of _ (by decide +kernel)) ggX8_count_X5_today
set_option maxRecDepth 20000 in
theorem ggX8_count_X5_howMany : GoodIn wsX8_count wsX5_howMany := goodIn_r _ [30, 31, 32, 33, 34, 24, 35, 26, 47, 48, 49, 50, 51, 52, 53, 54] (by decide +kernel) (by decide +kernel)
set_option maxRecDepth 20000 in
theorem gX8_count_X5_howMany : GoodIn wsX8_count (wsV RX8 275 RX5 yX5_howMany wsX5_howMany) := goodIn_app (goodIn_of _ (by decide +kernel)) ggX8_count_X5_howMany
theorem dX8_count_0 : decode cX8_count 0 = .ok (.iload_n 1, 1) := by decide +kernel
theorem dX8_count_1 : decode cX8_count 1 = .ok (.tableswitch 112 0 7 #[47, 52, 60, 68, 76, 84, 94, 104], 47) := by decide +kernel
theorem dX8_count_48 : decode cX8_count 48 = .ok (.aload_n 0, 1) := by decide +kernel
theorem dX8_count_49 : decode cX8_count 49 = .ok (.invokevirtual 272, 3) := by decide +kernel
theorem dX8_count_52 : decode cX8_count 52 = .ok (.ireturn, 1) := by decide +kernel
theorem dX8_count_53 : decode cX8_count 53 = .ok (.aload_n 0, 1) := by decide +kernel
theorem dX8_count_54 : decode cX8_count 54 = .ok (.getfield 57, 3) := by decide +kernel
theorem dX8_count_57 : decode cX8_count 57 = .ok (.getfield 156, 3) := by decide +kernel
theorem dX8_count_60 : decode cX8_count 60 = .ok (.ireturn, 1) := by decide +kernel
theorem dX8_count_61 : decode cX8_count 61 = .ok (.aload_n 0, 1) := by decide +kernel
theorem dX8_count_62 : decode cX8_count 62 = .ok (.getfield 57, 3) := by decide +kernel
theorem dX8_count_65 : decode cX8_count 65 = .ok (.getfield 150, 3) := by decide +kernel
theorem dX8_count_68 : decode cX8_count 68 = .ok (.ireturn, 1) := by decide +kernel
theorem dX8_count_69 : decode cX8_count 69 = .ok (.aload_n 0, 1) := by decide +kernel
theorem dX8_count_70 : decode cX8_count 70 = .ok (.getfield 57, 3) := by decide +kernel
theorem dX8_count_73 : decode cX8_count 73 = .ok (.invokevirtual 189, 3) := by decide +kernel
theorem dX8_count_76 : decode cX8_count 76 = .ok (.ireturn, 1) := by decide +kernel
theorem dX8_count_77 : decode cX8_count 77 = .ok (.aload_n 0, 1) := by decide +kernel
theorem dX8_count_78 : decode cX8_count 78 = .ok (.getfield 38, 3) := by decide +kernel
theorem dX8_count_81 : decode cX8_count 81 = .ok (.getfield 200, 3) := by decide +kernel
theorem dX8_count_84 : decode cX8_count 84 = .ok (.ireturn, 1) := by decide +kernel
theorem dX8_count_85 : decode cX8_count 85 = .ok (.aload_n 0, 1) := by decide +kernel
theorem dX8_count_86 : decode cX8_count 86 = .ok (.getfield 57, 3) := by decide +kernel
theorem dX8_count_89 : decode cX8_count 89 = .ok (.iconst 4, 1) := by decide +kernel
theorem dX8_count_90 : decode cX8_count 90 = .ok (.iconst 1, 1) := by decide +kernel
theorem dX8_count_91 : decode cX8_count 91 = .ok (.invokevirtual 275, 3) := by decide +kernel
theorem dX8_count_94 : decode cX8_count 94 = .ok (.ireturn, 1) := by decide +kernel
theorem dX8_count_95 : decode cX8_count 95 = .ok (.aload_n 0, 1) := by decide +kernel
theorem dX8_count_96 : decode cX8_count 96 = .ok (.getfield 57, 3) := by decide +kernel
theorem dX8_count_99 : decode cX8_count 99 = .ok (.iconst 2, 1) := by decide +kernel
theorem dX8_count_100 : decode cX8_count 100 = .ok (.iconst 3, 1) := by decide +kernel
theorem dX8_count_101 : decode cX8_count 101 = .ok (.invokevirtual 275, 3) := by decide +kernel
theorem dX8_count_104 : decode cX8_count 104 = .ok (.ireturn, 1) := by decide +kernel
theorem dX8_count_105 : decode cX8_count 105 = .ok (.aload_n 0, 1) := by decide +kernel
theorem dX8_count_106 : decode cX8_count 106 = .ok (.getfield 32, 3) := by decide +kernel
theorem dX8_count_109 : decode cX8_count 109 = .ok (.getfield 125, 3) := by decide +kernel
theorem dX8_count_112 : decode cX8_count 112 = .ok (.ireturn, 1) := by decide +kernel
theorem dX8_count_113 : decode cX8_count 113 = .ok (.ldc 80, 2) := by decide +kernel
theorem dX8_count_115 : decode cX8_count 115 = .ok (.ireturn, 1) := by decide +kernel
theorem dX8_status_0 : decode cX8_status 0 = .ok (.aload_n 0, 1) := by decide +kernel
theorem dX8_status_1 : decode cX8_status 1 = .ok (.getfield 64, 3) := by decide +kernel
theorem dX8_status_4 : decode cX8_status 4 = .ok (.ireturn, 1) := by decide +kernel
set_option maxRecDepth 20000 in
theorem ggX8_sendKept_X0_keep : GoodIn wsX8_sendKept wsX0_keep := goodIn_r _ [8, 9, 10, 11, 12, 13, 14, 15, 16, 17, 18, 19, 65, 66, 67] (by decide +kernel) (by decide +kernel)
set_option maxRecDepth 20000 in
theorem gX8_sendKept_X0_keep : GoodIn wsX8_sendKept (wsV RX8 172 RX0 yX0_keep wsX0_keep) := goodIn_app (goodIn_of _ (by decide +kernel)) ggX8_sendKept_X0_keep
set_option maxRecDepth 20000 in
theorem ggX8_sendKept_X5_startHome : GoodIn wsX8_sendKept wsX5_startHome := goodIn_r _ [24, 25, 26, 27, 23, 28, 29, 30, 31, 32, 33, 34, 35, 36, 37, 38, 39, 40, 41, 42, 43, 44, 45, 57, 58, 59, 60, 61, 62, 63, 64] (by decide +kernel) (by decide +kernel)
set_option maxRecDepth 20000 in
theorem gX8_sendKept_X5_startHome : GoodIn wsX8_sendKept (wsV RX8 278 RX5 yX5_startHome wsX5_startHome) := goodIn_app (goodIn_of _ (by decide +kernel)) ggX8_sendKept_X5_startHome
theorem dX8_sendKept_0 : decode cX8_sendKept 0 = .ok (.aload_n 0, 1) := by decide +kernel
theorem dX8_sendKept_1 : decode cX8_sendKept 1 = .ok (.getfield 38, 3) := by decide +kernel
theorem dX8_sendKept_4 : decode cX8_sendKept 4 = .ok (.aload_n 0, 1) := by decide +kernel
theorem dX8_sendKept_5 : decode cX8_sendKept 5 = .ok (.getfield 57, 3) := by decide +kernel
theorem dX8_sendKept_8 : decode cX8_sendKept 8 = .ok (.getfield 169, 3) := by decide +kernel
theorem dX8_sendKept_11 : decode cX8_sendKept 11 = .ok (.invokevirtual 172, 3) := by decide +kernel
theorem dX8_sendKept_14 : decode cX8_sendKept 14 = .ok (.aload_n 0, 1) := by decide +kernel
theorem dX8_sendKept_15 : decode cX8_sendKept 15 = .ok (.getfield 57, 3) := by decide +kernel
theorem dX8_sendKept_18 : decode cX8_sendKept 18 = .ok (.iload_n 1, 1) := by decide +kernel
theorem dX8_sendKept_19 : decode cX8_sendKept 19 = .ok (.invokevirtual 278, 3) := by decide +kernel
theorem dX8_sendKept_22 : decode cX8_sendKept 22 = .ok (.ireturn, 1) := by decide +kernel
set_option maxRecDepth 20000 in
theorem ggX8_rowsThere_X6_missing : GoodIn wsX8_rowsThere wsX6_missing := goodIn_r _ [6, 7, 19, 20, 21] (by decide +kernel) (by decide +kernel)
set_option maxRecDepth 20000 in
theorem gX8_rowsThere_X6_missing : GoodIn wsX8_rowsThere (wsV RX8 92 RX6 yX6_missing wsX6_missing) := goodIn_app (goodIn_of _ (by decide +kernel)) ggX8_rowsThere_X6_missing
theorem dX8_rowsThere_0 : decode cX8_rowsThere 0 = .ok (.iconst 0, 1) := by decide +kernel
theorem dX8_rowsThere_1 : decode cX8_rowsThere 1 = .ok (.istore_n 1, 1) := by decide +kernel
theorem dX8_rowsThere_2 : decode cX8_rowsThere 2 = .ok (.iconst 0, 1) := by decide +kernel
theorem dX8_rowsThere_3 : decode cX8_rowsThere 3 = .ok (.istore_n 2, 1) := by decide +kernel
theorem dX8_rowsThere_4 : decode cX8_rowsThere 4 = .ok (.iload_n 2, 1) := by decide +kernel
theorem dX8_rowsThere_5 : decode cX8_rowsThere 5 = .ok (.bipush 8, 2) := by decide +kernel
theorem dX8_rowsThere_7 : decode cX8_rowsThere 7 = .ok (.if_icmp .ge 24, 3) := by decide +kernel
theorem dX8_rowsThere_10 : decode cX8_rowsThere 10 = .ok (.aload_n 0, 1) := by decide +kernel
theorem dX8_rowsThere_11 : decode cX8_rowsThere 11 = .ok (.getfield 11, 3) := by decide +kernel
theorem dX8_rowsThere_14 : decode cX8_rowsThere 14 = .ok (.iload_n 2, 1) := by decide +kernel
theorem dX8_rowsThere_15 : decode cX8_rowsThere 15 = .ok (.aaload, 1) := by decide +kernel
theorem dX8_rowsThere_16 : decode cX8_rowsThere 16 = .ok (.invokevirtual 92, 3) := by decide +kernel
theorem dX8_rowsThere_19 : decode cX8_rowsThere 19 = .ok (.ifCond .ne 6, 3) := by decide +kernel
theorem dX8_rowsThere_22 : decode cX8_rowsThere 22 = .ok (.iinc 1 1, 3) := by decide +kernel
theorem dX8_rowsThere_25 : decode cX8_rowsThere 25 = .ok (.iinc 2 1, 3) := by decide +kernel
theorem dX8_rowsThere_28 : decode cX8_rowsThere 28 = .ok (.goto (-24), 3) := by decide +kernel
theorem dX8_rowsThere_31 : decode cX8_rowsThere 31 = .ok (.iload_n 1, 1) := by decide +kernel
theorem dX8_rowsThere_32 : decode cX8_rowsThere 32 = .ok (.ireturn, 1) := by decide +kernel
set_option maxRecDepth 20000 in
theorem ggX8_noCoin_X8_outside : GoodIn wsX8_noCoin wsX8_outside := goodIn_r _ [6] (by decide +kernel) (by decide +kernel)
set_option maxRecDepth 20000 in
theorem gX8_noCoin_X8_outside : GoodIn wsX8_noCoin (va_wsS RX8 76 yX8_outside wsX8_outside) := goodIn_app (goodIn_of _ (by decide +kernel)) ggX8_noCoin_X8_outside
theorem dX8_noCoin_0 : decode cX8_noCoin 0 = .ok (.iload_n 1, 1) := by decide +kernel
theorem dX8_noCoin_1 : decode cX8_noCoin 1 = .ok (.iconst 0, 1) := by decide +kernel
theorem dX8_noCoin_2 : decode cX8_noCoin 2 = .ok (.aload_n 0, 1) := by decide +kernel
theorem dX8_noCoin_3 : decode cX8_noCoin 3 = .ok (.getfield 57, 3) := by decide +kernel
theorem dX8_noCoin_6 : decode cX8_noCoin 6 = .ok (.getfield 150, 3) := by decide +kernel
theorem dX8_noCoin_9 : decode cX8_noCoin 9 = .ok (.iconst 1, 1) := by decide +kernel
theorem dX8_noCoin_10 : decode cX8_noCoin 10 = .ok (.isub, 1) := by decide +kernel
theorem dX8_noCoin_11 : decode cX8_noCoin 11 = .ok (.invokestatic 76, 3) := by decide +kernel
theorem dX8_noCoin_14 : decode cX8_noCoin 14 = .ok (.ireturn, 1) := by decide +kernel
theorem dX8_found_0 : decode cX8_found 0 = .ok (.aload_n 0, 1) := by decide +kernel
theorem dX8_found_1 : decode cX8_found 1 = .ok (.iload_n 1, 1) := by decide +kernel
theorem dX8_found_2 : decode cX8_found 2 = .ok (.putfield 64, 3) := by decide +kernel
theorem dX8_found_5 : decode cX8_found 5 = .ok (.ldc_w 281, 3) := by decide +kernel
theorem dX8_found_8 : decode cX8_found 8 = .ok (.iload_n 1, 1) := by decide +kernel
theorem dX8_found_9 : decode cX8_found 9 = .ok (.isub, 1) := by decide +kernel
theorem dX8_found_10 : decode cX8_found 10 = .ok (.ireturn, 1) := by decide +kernel
theorem dX8_answered_0 : decode cX8_answered 0 = .ok (.aload_n 0, 1) := by decide +kernel
theorem dX8_answered_1 : decode cX8_answered 1 = .ok (.iconst 0, 1) := by decide +kernel
theorem dX8_answered_2 : decode cX8_answered 2 = .ok (.putfield 64, 3) := by decide +kernel
theorem dX8_answered_5 : decode cX8_answered 5 = .ok (.iload_n 1, 1) := by decide +kernel
theorem dX8_answered_6 : decode cX8_answered 6 = .ok (.ireturn, 1) := by decide +kernel
set_option maxRecDepth 20000 in
theorem ggX8_noRow_X8_outside : GoodIn wsX8_noRow wsX8_outside := goodIn_r _ [4] (by decide +kernel) (by decide +kernel)
set_option maxRecDepth 20000 in
theorem gX8_noRow_X8_outside : GoodIn wsX8_noRow (va_wsS RX8 76 yX8_outside wsX8_outside) := goodIn_app (goodIn_of _ (by decide +kernel)) ggX8_noRow_X8_outside
theorem dX8_noRow_0 : decode cX8_noRow 0 = .ok (.iload_n 0, 1) := by decide +kernel
theorem dX8_noRow_1 : decode cX8_noRow 1 = .ok (.iconst 0, 1) := by decide +kernel
theorem dX8_noRow_2 : decode cX8_noRow 2 = .ok (.bipush 7, 2) := by decide +kernel
theorem dX8_noRow_4 : decode cX8_noRow 4 = .ok (.invokestatic 76, 3) := by decide +kernel
theorem dX8_noRow_7 : decode cX8_noRow 7 = .ok (.ireturn, 1) := by decide +kernel
theorem dX8_outside_0 : decode cX8_outside 0 = .ok (.iload_n 0, 1) := by decide +kernel
theorem dX8_outside_1 : decode cX8_outside 1 = .ok (.iload_n 1, 1) := by decide +kernel
theorem dX8_outside_2 : decode cX8_outside 2 = .ok (.if_icmp .lt 8, 3) := by decide +kernel
theorem dX8_outside_5 : decode cX8_outside 5 = .ok (.iload_n 0, 1) := by decide +kernel
theorem dX8_outside_6 : decode cX8_outside 6 = .ok (.iload_n 2, 1) := by decide +kernel
theorem dX8_outside_7 : decode cX8_outside 7 = .ok (.if_icmp .le 7, 3) := by decide +kernel
theorem dX8_outside_10 : decode cX8_outside 10 = .ok (.iconst 1, 1) := by decide +kernel
theorem dX8_outside_11 : decode cX8_outside 11 = .ok (.goto 4, 3) := by decide +kernel
theorem dX8_outside_14 : decode cX8_outside 14 = .ok (.iconst 0, 1) := by decide +kernel
theorem dX8_outside_15 : decode cX8_outside 15 = .ok (.ireturn, 1) := by decide +kernel
theorem dX8_power_0 : decode cX8_power 0 = .ok (.iconst 1, 1) := by decide +kernel
theorem dX8_power_1 : decode cX8_power 1 = .ok (.istore_n 2, 1) := by decide +kernel
theorem dX8_power_2 : decode cX8_power 2 = .ok (.iconst 0, 1) := by decide +kernel
theorem dX8_power_3 : decode cX8_power 3 = .ok (.istore_n 3, 1) := by decide +kernel
theorem dX8_power_4 : decode cX8_power 4 = .ok (.iload_n 3, 1) := by decide +kernel
theorem dX8_power_5 : decode cX8_power 5 = .ok (.iload_n 1, 1) := by decide +kernel
theorem dX8_power_6 : decode cX8_power 6 = .ok (.if_icmp .ge 13, 3) := by decide +kernel
theorem dX8_power_9 : decode cX8_power 9 = .ok (.iload_n 2, 1) := by decide +kernel
theorem dX8_power_10 : decode cX8_power 10 = .ok (.iload_n 0, 1) := by decide +kernel
theorem dX8_power_11 : decode cX8_power 11 = .ok (.imul, 1) := by decide +kernel
theorem dX8_power_12 : decode cX8_power 12 = .ok (.istore_n 2, 1) := by decide +kernel
theorem dX8_power_13 : decode cX8_power 13 = .ok (.iinc 3 1, 3) := by decide +kernel
theorem dX8_power_16 : decode cX8_power 16 = .ok (.goto (-12), 3) := by decide +kernel
theorem dX8_power_19 : decode cX8_power 19 = .ok (.iload_n 2, 1) := by decide +kernel
theorem dX8_power_20 : decode cX8_power 20 = .ok (.ireturn, 1) := by decide +kernel
theorem dX8_commonDivisor_0 : decode cX8_commonDivisor 0 = .ok (.iload_n 0, 1) := by decide +kernel
theorem dX8_commonDivisor_1 : decode cX8_commonDivisor 1 = .ok (.istore_n 2, 1) := by decide +kernel
theorem dX8_commonDivisor_2 : decode cX8_commonDivisor 2 = .ok (.iload_n 1, 1) := by decide +kernel
theorem dX8_commonDivisor_3 : decode cX8_commonDivisor 3 = .ok (.istore_n 3, 1) := by decide +kernel
theorem dX8_commonDivisor_4 : decode cX8_commonDivisor 4 = .ok (.iconst 0, 1) := by decide +kernel
theorem dX8_commonDivisor_5 : decode cX8_commonDivisor 5 = .ok (.istore 4, 2) := by decide +kernel
theorem dX8_commonDivisor_7 : decode cX8_commonDivisor 7 = .ok (.iload 4, 2) := by decide +kernel
theorem dX8_commonDivisor_9 : decode cX8_commonDivisor 9 = .ok (.bipush 100, 2) := by decide +kernel
theorem dX8_commonDivisor_11 : decode cX8_commonDivisor 11 = .ok (.if_icmp .ge 23, 3) := by decide +kernel
theorem dX8_commonDivisor_14 : decode cX8_commonDivisor 14 = .ok (.iload_n 3, 1) := by decide +kernel
theorem dX8_commonDivisor_15 : decode cX8_commonDivisor 15 = .ok (.ifCond .eq 19, 3) := by decide +kernel
theorem dX8_commonDivisor_18 : decode cX8_commonDivisor 18 = .ok (.iload_n 2, 1) := by decide +kernel
theorem dX8_commonDivisor_19 : decode cX8_commonDivisor 19 = .ok (.iload_n 3, 1) := by decide +kernel
theorem dX8_commonDivisor_20 : decode cX8_commonDivisor 20 = .ok (.irem, 1) := by decide +kernel
theorem dX8_commonDivisor_21 : decode cX8_commonDivisor 21 = .ok (.istore 5, 2) := by decide +kernel
theorem dX8_commonDivisor_23 : decode cX8_commonDivisor 23 = .ok (.iload_n 3, 1) := by decide +kernel
theorem dX8_commonDivisor_24 : decode cX8_commonDivisor 24 = .ok (.istore_n 2, 1) := by decide +kernel
theorem dX8_commonDivisor_25 : decode cX8_commonDivisor 25 = .ok (.iload 5, 2) := by decide +kernel
theorem dX8_commonDivisor_27 : decode cX8_commonDivisor 27 = .ok (.istore_n 3, 1) := by decide +kernel
theorem dX8_commonDivisor_28 : decode cX8_commonDivisor 28 = .ok (.iinc 4 1, 3) := by decide +kernel
theorem dX8_commonDivisor_31 : decode cX8_commonDivisor 31 = .ok (.goto (-24), 3) := by decide +kernel
theorem dX8_commonDivisor_34 : decode cX8_commonDivisor 34 = .ok (.iload_n 2, 1) := by decide +kernel
theorem dX8_commonDivisor_35 : decode cX8_commonDivisor 35 = .ok (.iconst 1, 1) := by decide +kernel
theorem dX8_commonDivisor_36 : decode cX8_commonDivisor 36 = .ok (.invokestatic 282, 3) := by decide +kernel
theorem dX8_commonDivisor_39 : decode cX8_commonDivisor 39 = .ok (.ireturn, 1) := by decide +kernel
