theorem dX5_withHolder_0 : decode cX5_withHolder 0 = .ok (.aload_n 0, 1) := by decide +kernel
theorem dX5_withHolder_1 : decode cX5_withHolder 1 = .ok (.iload_n 1, 1) := by decide +kernel
theorem dX5_withHolder_2 : decode cX5_withHolder 2 = .ok (.iconst 2, 1) := by decide +kernel
theorem dX5_withHolder_3 : decode cX5_withHolder 3 = .ok (.invokevirtual 62, 3) := by decide +kernel
theorem dX5_withHolder_6 : decode cX5_withHolder 6 = .ok (.ifCond .ne 7, 3) := by decide +kernel
theorem dX5_withHolder_9 : decode cX5_withHolder 9 = .ok (.iconst 1, 1) := by decide +kernel
theorem dX5_withHolder_10 : decode cX5_withHolder 10 = .ok (.goto 4, 3) := by decide +kernel
theorem dX5_withHolder_13 : decode cX5_withHolder 13 = .ok (.iconst 0, 1) := by decide +kernel
theorem dX5_withHolder_14 : decode cX5_withHolder 14 = .ok (.ireturn, 1) := by decide +kernel
set_option maxRecDepth 20000 in
theorem ggX5_underWay_X5_about : GoodIn wsX5_underWay wsX5_about := goodIn_r _ [5, 6, 7, 8, 9, 10, 11, 12, 13, 14] (by decide +kernel) (by decide +kernel)
set_option maxRecDepth 20000 in
theorem gX5_underWay_X5_about : GoodIn wsX5_underWay (wsV RX5 62 RX5 yX5_about wsX5_about) := goodIn_app (goodIn_of _ (by decide +kernel)) ggX5_underWay_X5_about
theorem dX5_underWay_0 : decode cX5_underWay 0 = .ok (.aload_n 0, 1) := by decide +kernel
theorem dX5_underWay_1 : decode cX5_underWay 1 = .ok (.iload_n 1, 1) := by decide +kernel
theorem dX5_underWay_2 : decode cX5_underWay 2 = .ok (.iconst 2, 1) := by decide +kernel
theorem dX5_underWay_3 : decode cX5_underWay 3 = .ok (.invokevirtual 62, 3) := by decide +kernel
theorem dX5_underWay_6 : decode cX5_underWay 6 = .ok (.iconst 1, 1) := by decide +kernel
theorem dX5_underWay_7 : decode cX5_underWay 7 = .ok (.if_icmp .eq 13, 3) := by decide +kernel
theorem dX5_underWay_10 : decode cX5_underWay 10 = .ok (.aload_n 0, 1) := by decide +kernel
theorem dX5_underWay_11 : decode cX5_underWay 11 = .ok (.iload_n 1, 1) := by decide +kernel
theorem dX5_underWay_12 : decode cX5_underWay 12 = .ok (.iconst 2, 1) := by decide +kernel
theorem dX5_underWay_13 : decode cX5_underWay 13 = .ok (.invokevirtual 62, 3) := by decide +kernel
theorem dX5_underWay_16 : decode cX5_underWay 16 = .ok (.iconst 2, 1) := by decide +kernel
theorem dX5_underWay_17 : decode cX5_underWay 17 = .ok (.if_icmp .ne 7, 3) := by decide +kernel
theorem dX5_underWay_20 : decode cX5_underWay 20 = .ok (.iconst 1, 1) := by decide +kernel
theorem dX5_underWay_21 : decode cX5_underWay 21 = .ok (.goto 4, 3) := by decide +kernel
theorem dX5_underWay_24 : decode cX5_underWay 24 = .ok (.iconst 0, 1) := by decide +kernel
theorem dX5_underWay_25 : decode cX5_underWay 25 = .ok (.ireturn, 1) := by decide +kernel
theorem dX5_forged_0 : decode cX5_forged 0 = .ok (.aload_n 0, 1) := by decide +kernel
theorem dX5_forged_1 : decode cX5_forged 1 = .ok (.getfield 18, 3) := by decide +kernel
theorem dX5_forged_4 : decode cX5_forged 4 = .ok (.iload_n 1, 1) := by decide +kernel
theorem dX5_forged_5 : decode cX5_forged 5 = .ok (.iaload, 1) := by decide +kernel
theorem dX5_forged_6 : decode cX5_forged 6 = .ok (.iconst 5, 1) := by decide +kernel
theorem dX5_forged_7 : decode cX5_forged 7 = .ok (.if_icmp .ne 7, 3) := by decide +kernel
theorem dX5_forged_10 : decode cX5_forged 10 = .ok (.iconst 1, 1) := by decide +kernel
theorem dX5_forged_11 : decode cX5_forged 11 = .ok (.goto 4, 3) := by decide +kernel
theorem dX5_forged_14 : decode cX5_forged 14 = .ok (.iconst 0, 1) := by decide +kernel
theorem dX5_forged_15 : decode cX5_forged 15 = .ok (.ireturn, 1) := by decide +kernel
set_option maxRecDepth 20000 in
theorem ggX5_dumb_X5_about : GoodIn wsX5_dumb wsX5_about := goodIn_r _ [5, 6, 7, 8, 9, 10, 11, 12, 13, 14] (by decide +kernel) (by decide +kernel)
set_option maxRecDepth 20000 in
theorem gX5_dumb_X5_about : GoodIn wsX5_dumb (wsV RX5 62 RX5 yX5_about wsX5_about) := goodIn_app (goodIn_of _ (by decide +kernel)) ggX5_dumb_X5_about
theorem dX5_dumb_0 : decode cX5_dumb 0 = .ok (.aload_n 0, 1) := by decide +kernel
theorem dX5_dumb_1 : decode cX5_dumb 1 = .ok (.iload_n 1, 1) := by decide +kernel
theorem dX5_dumb_2 : decode cX5_dumb 2 = .ok (.iconst 4, 1) := by decide +kernel
theorem dX5_dumb_3 : decode cX5_dumb 3 = .ok (.invokevirtual 62, 3) := by decide +kernel
theorem dX5_dumb_6 : decode cX5_dumb 6 = .ok (.iconst 1, 1) := by decide +kernel
theorem dX5_dumb_7 : decode cX5_dumb 7 = .ok (.if_icmp .ne 7, 3) := by decide +kernel
theorem dX5_dumb_10 : decode cX5_dumb 10 = .ok (.iconst 1, 1) := by decide +kernel
theorem dX5_dumb_11 : decode cX5_dumb 11 = .ok (.goto 4, 3) := by decide +kernel
theorem dX5_dumb_14 : decode cX5_dumb 14 = .ok (.iconst 0, 1) := by decide +kernel
theorem dX5_dumb_15 : decode cX5_dumb 15 = .ok (.ireturn, 1) := by decide +kernel
set_option maxRecDepth 20000 in
theorem ggX5_howMany_X5_about : GoodIn wsX5_howMany wsX5_about := goodIn_r _ [6, 7, 8, 9, 10, 11, 12, 13, 14, 15] (by decide +kernel) (by decide +kernel)
set_option maxRecDepth 20000 in
theorem gX5_howMany_X5_about : GoodIn wsX5_howMany (wsV RX5 62 RX5 yX5_about wsX5_about) := goodIn_app (goodIn_of _ (by decide +kernel)) ggX5_howMany_X5_about
theorem dX5_howMany_0 : decode cX5_howMany 0 = .ok (.iconst 0, 1) := by decide +kernel
theorem dX5_howMany_1 : decode cX5_howMany 1 = .ok (.istore_n 3, 1) := by decide +kernel
theorem dX5_howMany_2 : decode cX5_howMany 2 = .ok (.iconst 0, 1) := by decide +kernel
theorem dX5_howMany_3 : decode cX5_howMany 3 = .ok (.istore 4, 2) := by decide +kernel
theorem dX5_howMany_5 : decode cX5_howMany 5 = .ok (.iload 4, 2) := by decide +kernel
theorem dX5_howMany_7 : decode cX5_howMany 7 = .ok (.aload_n 0, 1) := by decide +kernel
theorem dX5_howMany_8 : decode cX5_howMany 8 = .ok (.getfield 35, 3) := by decide +kernel
theorem dX5_howMany_11 : decode cX5_howMany 11 = .ok (.if_icmp .ge 23, 3) := by decide +kernel
theorem dX5_howMany_14 : decode cX5_howMany 14 = .ok (.aload_n 0, 1) := by decide +kernel
theorem dX5_howMany_15 : decode cX5_howMany 15 = .ok (.iload 4, 2) := by decide +kernel
theorem dX5_howMany_17 : decode cX5_howMany 17 = .ok (.iload_n 1, 1) := by decide +kernel
theorem dX5_howMany_18 : decode cX5_howMany 18 = .ok (.invokevirtual 62, 3) := by decide +kernel
theorem dX5_howMany_21 : decode cX5_howMany 21 = .ok (.iload_n 2, 1) := by decide +kernel
theorem dX5_howMany_22 : decode cX5_howMany 22 = .ok (.if_icmp .ne 6, 3) := by decide +kernel
theorem dX5_howMany_25 : decode cX5_howMany 25 = .ok (.iinc 3 1, 3) := by decide +kernel
theorem dX5_howMany_28 : decode cX5_howMany 28 = .ok (.iinc 4 1, 3) := by decide +kernel
theorem dX5_howMany_31 : decode cX5_howMany 31 = .ok (.goto (-26), 3) := by decide +kernel
theorem dX5_howMany_34 : decode cX5_howMany 34 = .ok (.iload_n 3, 1) := by decide +kernel
theorem dX5_howMany_35 : decode cX5_howMany 35 = .ok (.ireturn, 1) := by decide +kernel
set_option maxRecDepth 20000 in
theorem ggX5_canGoHome_X5_withHolder : GoodIn wsX5_canGoHome wsX5_withHolder := goodIn_r _ [6, 7, 8, 9, 5, 10, 11, 23, 24, 25, 26, 27, 28, 29, 30] (by decide +kernel) (by decide +kernel)
set_option maxRecDepth 20000 in
theorem gX5_canGoHome_X5_withHolder : GoodIn wsX5_canGoHome (wsV RX5 67 RX5 yX5_withHolder wsX5_withHolder) := goodIn_app (goodIn_of _ (by decide +kernel)) ggX5_canGoHome_X5_withHolder
set_option maxRecDepth 20000 in
theorem ggX5_canGoHome_X5_townOf : GoodIn wsX5_canGoHome wsX5_townOf := goodIn_r _ [15, 16, 7, 8, 9, 5, 10, 11, 23, 24, 25, 26, 27, 28, 29, 30] (by decide +kernel) (by decide +kernel)
set_option maxRecDepth 20000 in
theorem gX5_canGoHome_X5_townOf : GoodIn wsX5_canGoHome (wsV RX5 71 RX5 yX5_townOf wsX5_townOf) := goodIn_app (goodIn_of _ (by decide +kernel)) ggX5_canGoHome_X5_townOf
set_option maxRecDepth 20000 in
theorem ggX5_canGoHome_X5_distance : GoodIn wsX5_canGoHome wsX5_distance := goodIn_r _ [20, 21, 22, 1, 23, 24, 25, 26, 27, 28, 29, 30] (by decide +kernel) (by decide +kernel)
set_option maxRecDepth 20000 in
theorem gX5_canGoHome_X5_distance : GoodIn wsX5_canGoHome (wsV RX5 75 RX5 yX5_distance wsX5_distance) := goodIn_app (goodIn_of _ (by decide +kernel)) ggX5_canGoHome_X5_distance
theorem dX5_canGoHome_0 : decode cX5_canGoHome 0 = .ok (.aload_n 0, 1) := by decide +kernel
theorem dX5_canGoHome_1 : decode cX5_canGoHome 1 = .ok (.iload_n 1, 1) := by decide +kernel
theorem dX5_canGoHome_2 : decode cX5_canGoHome 2 = .ok (.invokevirtual 67, 3) := by decide +kernel
theorem dX5_canGoHome_5 : decode cX5_canGoHome 5 = .ok (.ifCond .eq 22, 3) := by decide +kernel
theorem dX5_canGoHome_8 : decode cX5_canGoHome 8 = .ok (.aload_n 0, 1) := by decide +kernel
theorem dX5_canGoHome_9 : decode cX5_canGoHome 9 = .ok (.aload_n 0, 1) := by decide +kernel
theorem dX5_canGoHome_10 : decode cX5_canGoHome 10 = .ok (.iload_n 1, 1) := by decide +kernel
theorem dX5_canGoHome_11 : decode cX5_canGoHome 11 = .ok (.invokevirtual 71, 3) := by decide +kernel
theorem dX5_canGoHome_14 : decode cX5_canGoHome 14 = .ok (.iconst 0, 1) := by decide +kernel
theorem dX5_canGoHome_15 : decode cX5_canGoHome 15 = .ok (.invokevirtual 75, 3) := by decide +kernel
theorem dX5_canGoHome_18 : decode cX5_canGoHome 18 = .ok (.ldc 61, 2) := by decide +kernel
theorem dX5_canGoHome_20 : decode cX5_canGoHome 20 = .ok (.if_icmp .eq 7, 3) := by decide +kernel
theorem dX5_canGoHome_23 : decode cX5_canGoHome 23 = .ok (.iconst 1, 1) := by decide +kernel
theorem dX5_canGoHome_24 : decode cX5_canGoHome 24 = .ok (.goto 4, 3) := by decide +kernel
theorem dX5_canGoHome_27 : decode cX5_canGoHome 27 = .ok (.iconst 0, 1) := by decide +kernel
theorem dX5_canGoHome_28 : decode cX5_canGoHome 28 = .ok (.ireturn, 1) := by decide +kernel
set_option maxRecDepth 20000 in
theorem ggX5_startHome_X5_townOf : GoodIn wsX5_startHome wsX5_townOf := goodIn_r _ [5, 6, 7, 8, 9, 4, 10, 11, 23, 24, 25, 26, 27, 28, 29, 30] (by decide +kernel) (by decide +kernel)
set_option maxRecDepth 20000 in
theorem gX5_startHome_X5_townOf : GoodIn wsX5_startHome (wsV RX5 71 RX5 yX5_townOf wsX5_townOf) := goodIn_app (goodIn_of _ (by decide +kernel)) ggX5_startHome_X5_townOf
set_option maxRecDepth 20000 in
theorem ggX5_startHome_X5_distance : GoodIn wsX5_startHome wsX5_distance := goodIn_r _ [15, 16, 17, 18, 23, 24, 25, 26, 27, 28, 29, 30] (by decide +kernel) (by decide +kernel)
set_option maxRecDepth 20000 in
theorem gX5_startHome_X5_distance : GoodIn wsX5_startHome (wsV RX5 75 RX5 yX5_distance wsX5_distance) := goodIn_app (goodIn_of _ (by decide +kernel)) ggX5_startHome_X5_distance
set_option maxRecDepth 20000 in
theorem ggX5_startHome_X5_put : GoodIn wsX5_startHome wsX5_put := goodIn_r _ [22, 11, 23, 24, 25, 26, 27, 28, 29, 30] (by decide +kernel) (by decide +kernel)
set_option maxRecDepth 20000 in
theorem gX5_startHome_X5_put : GoodIn wsX5_startHome (wsV RX5 57 RX5 yX5_put wsX5_put) := goodIn_app (goodIn_of _ (by decide +kernel)) ggX5_startHome_X5_put
theorem dX5_startHome_0 : decode cX5_startHome 0 = .ok (.aload_n 0, 1) := by decide +kernel
theorem dX5_startHome_1 : decode cX5_startHome 1 = .ok (.aload_n 0, 1) := by decide +kernel
theorem dX5_startHome_2 : decode cX5_startHome 2 = .ok (.iload_n 1, 1) := by decide +kernel
theorem dX5_startHome_3 : decode cX5_startHome 3 = .ok (.invokevirtual 71, 3) := by decide +kernel
theorem dX5_startHome_6 : decode cX5_startHome 6 = .ok (.iconst 0, 1) := by decide +kernel
theorem dX5_startHome_7 : decode cX5_startHome 7 = .ok (.invokevirtual 75, 3) := by decide +kernel
theorem dX5_startHome_10 : decode cX5_startHome 10 = .ok (.istore_n 2, 1) := by decide +kernel
theorem dX5_startHome_11 : decode cX5_startHome 11 = .ok (.aload_n 0, 1) := by decide +kernel
theorem dX5_startHome_12 : decode cX5_startHome 12 = .ok (.iload_n 1, 1) := by decide +kernel
theorem dX5_startHome_13 : decode cX5_startHome 13 = .ok (.iconst 2, 1) := by decide +kernel
theorem dX5_startHome_14 : decode cX5_startHome 14 = .ok (.iconst 1, 1) := by decide +kernel
theorem dX5_startHome_15 : decode cX5_startHome 15 = .ok (.invokevirtual 57, 3) := by decide +kernel
theorem dX5_startHome_18 : decode cX5_startHome 18 = .ok (.aload_n 0, 1) := by decide +kernel
theorem dX5_startHome_19 : decode cX5_startHome 19 = .ok (.iload_n 1, 1) := by decide +kernel
theorem dX5_startHome_20 : decode cX5_startHome 20 = .ok (.iconst 3, 1) := by decide +kernel
theorem dX5_startHome_21 : decode cX5_startHome 21 = .ok (.iload_n 2, 1) := by decide +kernel
theorem dX5_startHome_22 : decode cX5_startHome 22 = .ok (.invokevirtual 57, 3) := by decide +kernel
theorem dX5_startHome_25 : decode cX5_startHome 25 = .ok (.iload_n 2, 1) := by decide +kernel
theorem dX5_startHome_26 : decode cX5_startHome 26 = .ok (.ireturn, 1) := by decide +kernel
set_option maxRecDepth 20000 in
theorem ggX5_liveDay_X5_dumb : GoodIn wsX5_liveDay wsX5_dumb := goodIn_r _ [7, 8, 9, 10, 6, 11, 1, 46, 47, 48, 49, 50, 51, 52, 53] (by decide +kernel) (by decide +kernel)
set_option maxRecDepth 20000 in
theorem gX5_liveDay_X5_dumb : GoodIn wsX5_liveDay (wsV RX5 78 RX5 yX5_dumb wsX5_dumb) := goodIn_app (goodIn_of _ (by decide +kernel)) ggX5_liveDay_X5_dumb
set_option maxRecDepth 20000 in
theorem ggX5_liveDay_X5_about : GoodIn wsX5_liveDay wsX5_about := goodIn_r _ [11, 1, 46, 47, 48, 49, 50, 51, 52, 53] (by decide +kernel) (by decide +kernel)
set_option maxRecDepth 20000 in
theorem gX5_liveDay_X5_about : GoodIn wsX5_liveDay (wsV RX5 62 RX5 yX5_about wsX5_about) := goodIn_app (goodIn_of _ (by decide +kernel)) ggX5_liveDay_X5_about
set_option maxRecDepth 20000 in
theorem ggX5_liveDay_X5_put : GoodIn wsX5_liveDay wsX5_put := goodIn_r _ [15, 1, 46, 47, 48, 49, 50, 51, 52, 53] (by decide +kernel) (by decide +kernel)
set_option maxRecDepth 20000 in
theorem gX5_liveDay_X5_put : GoodIn wsX5_liveDay (wsV RX5 57 RX5 yX5_put wsX5_put) := goodIn_app (goodIn_of _ (by decide +kernel)) ggX5_liveDay_X5_put
set_option maxRecDepth 20000 in
theorem ggX5_liveDay_X5_underWay : GoodIn wsX5_liveDay wsX5_underWay := goodIn_r _ [19, 8, 9, 10, 6, 11, 1, 46, 47, 48, 49, 50, 51, 52, 53] (by decide +kernel) (by decide +kernel)
set_option maxRecDepth 20000 in
theorem gX5_liveDay_X5_underWay : GoodIn wsX5_liveDay (wsV RX5 81 RX5 yX5_underWay wsX5_underWay) := goodIn_app (goodIn_of _ (by decide +kernel)) ggX5_liveDay_X5_underWay
set_option maxRecDepth 20000 in
theorem ggX5_liveDay_X5_travel : GoodIn wsX5_liveDay wsX5_travel := goodIn_r _ [23, 8, 9, 10, 6, 11, 1, 12, 13, 14, 15, 3, 4, 5, 7, 24, 25, 26, 27, 28, 29, 30, 31, 32, 33, 34, 35, 36, 37, 38, 39, 40, 46, 47, 48, 49, 50, 51, 52, 53] (by decide +kernel) (by decide +kernel)
set_option maxRecDepth 20000 in
theorem gX5_liveDay_X5_travel : GoodIn wsX5_liveDay (wsV RX5 84 RX5 yX5_travel wsX5_travel) := goodIn_app (goodIn_of _ (by decide +kernel)) ggX5_liveDay_X5_travel
set_option maxRecDepth 20000 in
theorem ggX5_liveDay_X5_forged : GoodIn wsX5_liveDay wsX5_forged := goodIn_r _ [27, 28, 46, 47, 48, 49, 50, 51, 52, 53] (by decide +kernel) (by decide +kernel)
set_option maxRecDepth 20000 in
theorem gX5_liveDay_X5_forged : GoodIn wsX5_liveDay (wsV RX5 88 RX5 yX5_forged wsX5_forged) := goodIn_app (goodIn_of _ (by decide +kernel)) ggX5_liveDay_X5_forged
set_option maxRecDepth 20000 in
theorem ggX5_liveDay_X5_spanOf : GoodIn wsX5_liveDay wsX5_spanOf := goodIn_r _ [44, 28, 45, 46, 47, 48, 49, 50, 51, 52, 53] (by decide +kernel) (by decide +kernel)
set_option maxRecDepth 20000 in
theorem gX5_liveDay_X5_spanOf : GoodIn wsX5_liveDay (wsV RX5 91 RX5 yX5_spanOf wsX5_spanOf) := goodIn_app (goodIn_of _ (by decide +kernel)) ggX5_liveDay_X5_spanOf
theorem dX5_liveDay_0 : decode cX5_liveDay 0 = .ok (.aload_n 0, 1) := by decide +kernel
theorem dX5_liveDay_1 : decode cX5_liveDay 1 = .ok (.getfield 21, 3) := by decide +kernel
theorem dX5_liveDay_4 : decode cX5_liveDay 4 = .ok (.bipush 60, 2) := by decide +kernel
theorem dX5_liveDay_6 : decode cX5_liveDay 6 = .ok (.dup2, 1) := by decide +kernel
theorem dX5_liveDay_7 : decode cX5_liveDay 7 = .ok (.iaload, 1) := by decide +kernel
theorem dX5_liveDay_8 : decode cX5_liveDay 8 = .ok (.iconst 1, 1) := by decide +kernel
theorem dX5_liveDay_9 : decode cX5_liveDay 9 = .ok (.iadd, 1) := by decide +kernel
theorem dX5_liveDay_10 : decode cX5_liveDay 10 = .ok (.iastore, 1) := by decide +kernel
theorem dX5_liveDay_11 : decode cX5_liveDay 11 = .ok (.iconst 0, 1) := by decide +kernel
theorem dX5_liveDay_12 : decode cX5_liveDay 12 = .ok (.istore_n 1, 1) := by decide +kernel
theorem dX5_liveDay_13 : decode cX5_liveDay 13 = .ok (.iconst 0, 1) := by decide +kernel
theorem dX5_liveDay_14 : decode cX5_liveDay 14 = .ok (.istore_n 2, 1) := by decide +kernel
theorem dX5_liveDay_15 : decode cX5_liveDay 15 = .ok (.iload_n 2, 1) := by decide +kernel
theorem dX5_liveDay_16 : decode cX5_liveDay 16 = .ok (.aload_n 0, 1) := by decide +kernel
theorem dX5_liveDay_17 : decode cX5_liveDay 17 = .ok (.getfield 35, 3) := by decide +kernel
theorem dX5_liveDay_20 : decode cX5_liveDay 20 = .ok (.if_icmp .ge 97, 3) := by decide +kernel
theorem dX5_liveDay_23 : decode cX5_liveDay 23 = .ok (.aload_n 0, 1) := by decide +kernel
theorem dX5_liveDay_24 : decode cX5_liveDay 24 = .ok (.iload_n 2, 1) := by decide +kernel
theorem dX5_liveDay_25 : decode cX5_liveDay 25 = .ok (.invokevirtual 78, 3) := by decide +kernel
theorem dX5_liveDay_28 : decode cX5_liveDay 28 = .ok (.ifCond .ne 27, 3) := by decide +kernel
theorem dX5_liveDay_31 : decode cX5_liveDay 31 = .ok (.aload_n 0, 1) := by decide +kernel
theorem dX5_liveDay_32 : decode cX5_liveDay 32 = .ok (.iload_n 2, 1) := by decide +kernel
theorem dX5_liveDay_33 : decode cX5_liveDay 33 = .ok (.iconst 2, 1) := by decide +kernel
theorem dX5_liveDay_34 : decode cX5_liveDay 34 = .ok (.invokevirtual 62, 3) := by decide +kernel
theorem dX5_liveDay_37 : decode cX5_liveDay 37 = .ok (.iconst 3, 1) := by decide +kernel
theorem dX5_liveDay_38 : decode cX5_liveDay 38 = .ok (.if_icmp .eq 17, 3) := by decide +kernel
theorem dX5_liveDay_41 : decode cX5_liveDay 41 = .ok (.aload_n 0, 1) := by decide +kernel
theorem dX5_liveDay_42 : decode cX5_liveDay 42 = .ok (.iload_n 2, 1) := by decide +kernel
theorem dX5_liveDay_43 : decode cX5_liveDay 43 = .ok (.iconst 1, 1) := by decide +kernel
theorem dX5_liveDay_44 : decode cX5_liveDay 44 = .ok (.aload_n 0, 1) := by decide +kernel
theorem dX5_liveDay_45 : decode cX5_liveDay 45 = .ok (.iload_n 2, 1) := by decide +kernel
theorem dX5_liveDay_46 : decode cX5_liveDay 46 = .ok (.iconst 1, 1) := by decide +kernel
theorem dX5_liveDay_47 : decode cX5_liveDay 47 = .ok (.invokevirtual 62, 3) := by decide +kernel
theorem dX5_liveDay_50 : decode cX5_liveDay 50 = .ok (.iconst 1, 1) := by decide +kernel
theorem dX5_liveDay_51 : decode cX5_liveDay 51 = .ok (.iadd, 1) := by decide +kernel
theorem dX5_liveDay_52 : decode cX5_liveDay 52 = .ok (.invokevirtual 57, 3) := by decide +kernel
theorem dX5_liveDay_55 : decode cX5_liveDay 55 = .ok (.aload_n 0, 1) := by decide +kernel
theorem dX5_liveDay_56 : decode cX5_liveDay 56 = .ok (.iload_n 2, 1) := by decide +kernel
theorem dX5_liveDay_57 : decode cX5_liveDay 57 = .ok (.invokevirtual 81, 3) := by decide +kernel
theorem dX5_liveDay_60 : decode cX5_liveDay 60 = .ok (.ifCond .eq 8, 3) := by decide +kernel
theorem dX5_liveDay_63 : decode cX5_liveDay 63 = .ok (.aload_n 0, 1) := by decide +kernel
theorem dX5_liveDay_64 : decode cX5_liveDay 64 = .ok (.iload_n 2, 1) := by decide +kernel
theorem dX5_liveDay_65 : decode cX5_liveDay 65 = .ok (.invokevirtual 84, 3) := by decide +kernel
theorem dX5_liveDay_68 : decode cX5_liveDay 68 = .ok (.aload_n 0, 1) := by decide +kernel
theorem dX5_liveDay_69 : decode cX5_liveDay 69 = .ok (.iload_n 2, 1) := by decide +kernel
theorem dX5_liveDay_70 : decode cX5_liveDay 70 = .ok (.invokevirtual 78, 3) := by decide +kernel
theorem dX5_liveDay_73 : decode cX5_liveDay 73 = .ok (.ifCond .ne 38, 3) := by decide +kernel
theorem dX5_liveDay_76 : decode cX5_liveDay 76 = .ok (.aload_n 0, 1) := by decide +kernel
theorem dX5_liveDay_77 : decode cX5_liveDay 77 = .ok (.iload_n 2, 1) := by decide +kernel
theorem dX5_liveDay_78 : decode cX5_liveDay 78 = .ok (.invokevirtual 88, 3) := by decide +kernel
theorem dX5_liveDay_81 : decode cX5_liveDay 81 = .ok (.ifCond .ne 30, 3) := by decide +kernel
theorem dX5_liveDay_84 : decode cX5_liveDay 84 = .ok (.aload_n 0, 1) := by decide +kernel
theorem dX5_liveDay_85 : decode cX5_liveDay 85 = .ok (.iload_n 2, 1) := by decide +kernel
theorem dX5_liveDay_86 : decode cX5_liveDay 86 = .ok (.iconst 1, 1) := by decide +kernel
theorem dX5_liveDay_87 : decode cX5_liveDay 87 = .ok (.invokevirtual 62, 3) := by decide +kernel
theorem dX5_liveDay_90 : decode cX5_liveDay 90 = .ok (.aload_n 0, 1) := by decide +kernel
theorem dX5_liveDay_91 : decode cX5_liveDay 91 = .ok (.iload_n 2, 1) := by decide +kernel
theorem dX5_liveDay_92 : decode cX5_liveDay 92 = .ok (.invokevirtual 91, 3) := by decide +kernel
theorem dX5_liveDay_95 : decode cX5_liveDay 95 = .ok (.if_icmp .le 16, 3) := by decide +kernel
theorem dX5_liveDay_98 : decode cX5_liveDay 98 = .ok (.aload_n 0, 1) := by decide +kernel
theorem dX5_liveDay_99 : decode cX5_liveDay 99 = .ok (.iload_n 2, 1) := by decide +kernel
theorem dX5_liveDay_100 : decode cX5_liveDay 100 = .ok (.iconst 4, 1) := by decide +kernel
theorem dX5_liveDay_101 : decode cX5_liveDay 101 = .ok (.iconst 1, 1) := by decide +kernel
theorem dX5_liveDay_102 : decode cX5_liveDay 102 = .ok (.invokevirtual 57, 3) := by decide +kernel
theorem dX5_liveDay_105 : decode cX5_liveDay 105 = .ok (.iload_n 1, 1) := by decide +kernel
theorem dX5_liveDay_106 : decode cX5_liveDay 106 = .ok (.iconst 1, 1) := by decide +kernel
theorem dX5_liveDay_107 : decode cX5_liveDay 107 = .ok (.iload_n 2, 1) := by decide +kernel
theorem dX5_liveDay_108 : decode cX5_liveDay 108 = .ok (.ishl, 1) := by decide +kernel
theorem dX5_liveDay_109 : decode cX5_liveDay 109 = .ok (.ior, 1) := by decide +kernel
theorem dX5_liveDay_110 : decode cX5_liveDay 110 = .ok (.istore_n 1, 1) := by decide +kernel
theorem dX5_liveDay_111 : decode cX5_liveDay 111 = .ok (.iinc 2 1, 3) := by decide +kernel
theorem dX5_liveDay_114 : decode cX5_liveDay 114 = .ok (.goto (-99), 3) := by decide +kernel
theorem dX5_liveDay_117 : decode cX5_liveDay 117 = .ok (.iload_n 1, 1) := by decide +kernel
theorem dX5_liveDay_118 : decode cX5_liveDay 118 = .ok (.ireturn, 1) := by decide +kernel
set_option maxRecDepth 20000 in
theorem ggX5_travel_X5_about : GoodIn wsX5_travel wsX5_about := goodIn_r _ [5, 6, 32, 33, 34, 35, 36, 37, 38, 39] (by decide +kernel) (by decide +kernel)
set_option maxRecDepth 20000 in
theorem gX5_travel_X5_about : GoodIn wsX5_travel (wsV RX5 62 RX5 yX5_about wsX5_about) := goodIn_app (goodIn_of _ (by decide +kernel)) ggX5_travel_X5_about
set_option maxRecDepth 20000 in
theorem ggX5_travel_X5_put : GoodIn wsX5_travel wsX5_put := goodIn_r _ [10, 6, 32, 33, 34, 35, 36, 37, 38, 39] (by decide +kernel) (by decide +kernel)
set_option maxRecDepth 20000 in
theorem gX5_travel_X5_put : GoodIn wsX5_travel (wsV RX5 57 RX5 yX5_put wsX5_put) := goodIn_app (goodIn_of _ (by decide +kernel)) ggX5_travel_X5_put
set_option maxRecDepth 20000 in
theorem ggX5_travel_X5_dumb : GoodIn wsX5_travel wsX5_dumb := goodIn_r _ [14, 1, 2, 3, 4, 5, 6, 32, 33, 34, 35, 36, 37, 38, 39] (by decide +kernel) (by decide +kernel)
set_option maxRecDepth 20000 in
theorem gX5_travel_X5_dumb : GoodIn wsX5_travel (wsV RX5 78 RX5 yX5_dumb wsX5_dumb) := goodIn_app (goodIn_of _ (by decide +kernel)) ggX5_travel_X5_dumb
set_option maxRecDepth 20000 in
theorem ggX5_travel_X5_forged : GoodIn wsX5_travel wsX5_forged := goodIn_r _ [18, 19, 32, 33, 34, 35, 36, 37, 38, 39] (by decide +kernel) (by decide +kernel)
set_option maxRecDepth 20000 in
theorem gX5_travel_X5_forged : GoodIn wsX5_travel (wsV RX5 88 RX5 yX5_forged wsX5_forged) := goodIn_app (goodIn_of _ (by decide +kernel)) ggX5_travel_X5_forged
set_option maxRecDepth 20000 in
theorem ggX5_travel_X5_townOf : GoodIn wsX5_travel wsX5_townOf := goodIn_r _ [23, 24, 1, 2, 3, 4, 5, 6, 32, 33, 34, 35, 36, 37, 38, 39] (by decide +kernel) (by decide +kernel)
set_option maxRecDepth 20000 in
theorem gX5_travel_X5_townOf : GoodIn wsX5_travel (wsV RX5 71 RX5 yX5_townOf wsX5_townOf) := goodIn_app (goodIn_of _ (by decide +kernel)) ggX5_travel_X5_townOf
set_option maxRecDepth 20000 in
theorem ggX5_travel_X5_distance : GoodIn wsX5_travel wsX5_distance := goodIn_r _ [28, 29, 30, 31, 32, 33, 34, 35, 36, 37, 38, 39] (by decide +kernel) (by decide +kernel)
set_option maxRecDepth 20000 in
theorem gX5_travel_X5_distance : GoodIn wsX5_travel (wsV RX5 75 RX5 yX5_distance wsX5_distance) := goodIn_app (goodIn_of _ (by decide +kernel)) ggX5_travel_X5_distance
theorem dX5_travel_0 : decode cX5_travel 0 = .ok (.aload_n 0, 1) := by decide +kernel
theorem dX5_travel_1 : decode cX5_travel 1 = .ok (.iload_n 1, 1) := by decide +kernel
theorem dX5_travel_2 : decode cX5_travel 2 = .ok (.iconst 3, 1) := by decide +kernel
theorem dX5_travel_3 : decode cX5_travel 3 = .ok (.aload_n 0, 1) := by decide +kernel
theorem dX5_travel_4 : decode cX5_travel 4 = .ok (.iload_n 1, 1) := by decide +kernel
theorem dX5_travel_5 : decode cX5_travel 5 = .ok (.iconst 3, 1) := by decide +kernel
theorem dX5_travel_6 : decode cX5_travel 6 = .ok (.invokevirtual 62, 3) := by decide +kernel
theorem dX5_travel_9 : decode cX5_travel 9 = .ok (.iconst 1, 1) := by decide +kernel
theorem dX5_travel_10 : decode cX5_travel 10 = .ok (.isub, 1) := by decide +kernel
theorem dX5_travel_11 : decode cX5_travel 11 = .ok (.invokevirtual 57, 3) := by decide +kernel
theorem dX5_travel_14 : decode cX5_travel 14 = .ok (.aload_n 0, 1) := by decide +kernel
theorem dX5_travel_15 : decode cX5_travel 15 = .ok (.iload_n 1, 1) := by decide +kernel
theorem dX5_travel_16 : decode cX5_travel 16 = .ok (.iconst 3, 1) := by decide +kernel
theorem dX5_travel_17 : decode cX5_travel 17 = .ok (.invokevirtual 62, 3) := by decide +kernel
theorem dX5_travel_20 : decode cX5_travel 20 = .ok (.ifCond .le 4, 3) := by decide +kernel
theorem dX5_travel_23 : decode cX5_travel 23 = .ok (.return_, 1) := by decide +kernel
theorem dX5_travel_24 : decode cX5_travel 24 = .ok (.aload_n 0, 1) := by decide +kernel
theorem dX5_travel_25 : decode cX5_travel 25 = .ok (.iload_n 1, 1) := by decide +kernel
theorem dX5_travel_26 : decode cX5_travel 26 = .ok (.iconst 2, 1) := by decide +kernel
theorem dX5_travel_27 : decode cX5_travel 27 = .ok (.invokevirtual 62, 3) := by decide +kernel
theorem dX5_travel_30 : decode cX5_travel 30 = .ok (.iconst 2, 1) := by decide +kernel
theorem dX5_travel_31 : decode cX5_travel 31 = .ok (.if_icmp .ne 13, 3) := by decide +kernel
theorem dX5_travel_34 : decode cX5_travel 34 = .ok (.aload_n 0, 1) := by decide +kernel
theorem dX5_travel_35 : decode cX5_travel 35 = .ok (.iload_n 1, 1) := by decide +kernel
theorem dX5_travel_36 : decode cX5_travel 36 = .ok (.iconst 2, 1) := by decide +kernel
theorem dX5_travel_37 : decode cX5_travel 37 = .ok (.iconst 0, 1) := by decide +kernel
theorem dX5_travel_38 : decode cX5_travel 38 = .ok (.invokevirtual 57, 3) := by decide +kernel
theorem dX5_travel_41 : decode cX5_travel 41 = .ok (.goto 59, 3) := by decide +kernel
theorem dX5_travel_44 : decode cX5_travel 44 = .ok (.aload_n 0, 1) := by decide +kernel
theorem dX5_travel_45 : decode cX5_travel 45 = .ok (.iload_n 1, 1) := by decide +kernel
theorem dX5_travel_46 : decode cX5_travel 46 = .ok (.invokevirtual 78, 3) := by decide +kernel
theorem dX5_travel_49 : decode cX5_travel 49 = .ok (.ifCond .ne 11, 3) := by decide +kernel
theorem dX5_travel_52 : decode cX5_travel 52 = .ok (.aload_n 0, 1) := by decide +kernel
theorem dX5_travel_53 : decode cX5_travel 53 = .ok (.iload_n 1, 1) := by decide +kernel
theorem dX5_travel_54 : decode cX5_travel 54 = .ok (.invokevirtual 88, 3) := by decide +kernel
theorem dX5_travel_57 : decode cX5_travel 57 = .ok (.ifCond .eq 13, 3) := by decide +kernel
theorem dX5_travel_60 : decode cX5_travel 60 = .ok (.aload_n 0, 1) := by decide +kernel
theorem dX5_travel_61 : decode cX5_travel 61 = .ok (.iload_n 1, 1) := by decide +kernel
theorem dX5_travel_62 : decode cX5_travel 62 = .ok (.iconst 2, 1) := by decide +kernel
theorem dX5_travel_63 : decode cX5_travel 63 = .ok (.iconst 3, 1) := by decide +kernel
theorem dX5_travel_64 : decode cX5_travel 64 = .ok (.invokevirtual 57, 3) := by decide +kernel
theorem dX5_travel_67 : decode cX5_travel 67 = .ok (.goto 33, 3) := by decide +kernel
theorem dX5_travel_70 : decode cX5_travel 70 = .ok (.aload_n 0, 1) := by decide +kernel
theorem dX5_travel_71 : decode cX5_travel 71 = .ok (.iload_n 1, 1) := by decide +kernel
theorem dX5_travel_72 : decode cX5_travel 72 = .ok (.iconst 1, 1) := by decide +kernel
theorem dX5_travel_73 : decode cX5_travel 73 = .ok (.iconst 0, 1) := by decide +kernel
theorem dX5_travel_74 : decode cX5_travel 74 = .ok (.invokevirtual 57, 3) := by decide +kernel
theorem dX5_travel_77 : decode cX5_travel 77 = .ok (.aload_n 0, 1) := by decide +kernel
theorem dX5_travel_78 : decode cX5_travel 78 = .ok (.iload_n 1, 1) := by decide +kernel
theorem dX5_travel_79 : decode cX5_travel 79 = .ok (.iconst 2, 1) := by decide +kernel
theorem dX5_travel_80 : decode cX5_travel 80 = .ok (.iconst 2, 1) := by decide +kernel
theorem dX5_travel_81 : decode cX5_travel 81 = .ok (.invokevirtual 57, 3) := by decide +kernel
theorem dX5_travel_84 : decode cX5_travel 84 = .ok (.aload_n 0, 1) := by decide +kernel
theorem dX5_travel_85 : decode cX5_travel 85 = .ok (.iload_n 1, 1) := by decide +kernel
theorem dX5_travel_86 : decode cX5_travel 86 = .ok (.iconst 3, 1) := by decide +kernel
theorem dX5_travel_87 : decode cX5_travel 87 = .ok (.aload_n 0, 1) := by decide +kernel
theorem dX5_travel_88 : decode cX5_travel 88 = .ok (.iconst 0, 1) := by decide +kernel
theorem dX5_travel_89 : decode cX5_travel 89 = .ok (.aload_n 0, 1) := by decide +kernel
theorem dX5_travel_90 : decode cX5_travel 90 = .ok (.iload_n 1, 1) := by decide +kernel
theorem dX5_travel_91 : decode cX5_travel 91 = .ok (.invokevirtual 71, 3) := by decide +kernel
theorem dX5_travel_94 : decode cX5_travel 94 = .ok (.invokevirtual 75, 3) := by decide +kernel
theorem dX5_travel_97 : decode cX5_travel 97 = .ok (.invokevirtual 57, 3) := by decide +kernel
theorem dX5_travel_100 : decode cX5_travel 100 = .ok (.return_, 1) := by decide +kernel
set_option maxRecDepth 20000 in
theorem ggX5_holdUp_X5_underWay : GoodIn wsX5_holdUp wsX5_underWay := goodIn_r _ [9, 10, 11, 12, 8, 13, 14, 19, 20, 21, 22, 23, 24, 25, 26] (by decide +kernel) (by decide +kernel)
set_option maxRecDepth 20000 in
theorem gX5_holdUp_X5_underWay : GoodIn wsX5_holdUp (wsV RX5 81 RX5 yX5_underWay wsX5_underWay) := goodIn_app (goodIn_of _ (by decide +kernel)) ggX5_holdUp_X5_underWay
set_option maxRecDepth 20000 in
theorem ggX5_holdUp_X5_about : GoodIn wsX5_holdUp wsX5_about := goodIn_r _ [13, 14, 19, 20, 21, 22, 23, 24, 25, 26] (by decide +kernel) (by decide +kernel)
set_option maxRecDepth 20000 in
theorem gX5_holdUp_X5_about : GoodIn wsX5_holdUp (wsV RX5 62 RX5 yX5_about wsX5_about) := goodIn_app (goodIn_of _ (by decide +kernel)) ggX5_holdUp_X5_about
set_option maxRecDepth 20000 in
theorem ggX5_holdUp_X5_put : GoodIn wsX5_holdUp wsX5_put := goodIn_r _ [18, 14, 19, 20, 21, 22, 23, 24, 25, 26] (by decide +kernel) (by decide +kernel)
set_option maxRecDepth 20000 in
theorem gX5_holdUp_X5_put : GoodIn wsX5_holdUp (wsV RX5 57 RX5 yX5_put wsX5_put) := goodIn_app (goodIn_of _ (by decide +kernel)) ggX5_holdUp_X5_put
theorem dX5_holdUp_0 : decode cX5_holdUp 0 = .ok (.iload_n 1, 1) := by decide +kernel
theorem dX5_holdUp_1 : decode cX5_holdUp 1 = .ok (.i2l, 1) := by decide +kernel
theorem dX5_holdUp_2 : decode cX5_holdUp 2 = .ok (.lstore_n 2, 1) := by decide +kernel
theorem dX5_holdUp_3 : decode cX5_holdUp 3 = .ok (.iconst 0, 1) := by decide +kernel
theorem dX5_holdUp_4 : decode cX5_holdUp 4 = .ok (.istore 4, 2) := by decide +kernel
theorem dX5_holdUp_6 : decode cX5_holdUp 6 = .ok (.iconst 0, 1) := by decide +kernel
theorem dX5_holdUp_7 : decode cX5_holdUp 7 = .ok (.istore 5, 2) := by decide +kernel
theorem dX5_holdUp_9 : decode cX5_holdUp 9 = .ok (.iload 5, 2) := by decide +kernel
theorem dX5_holdUp_11 : decode cX5_holdUp 11 = .ok (.aload_n 0, 1) := by decide +kernel
theorem dX5_holdUp_12 : decode cX5_holdUp 12 = .ok (.getfield 35, 3) := by decide +kernel
theorem dX5_holdUp_15 : decode cX5_holdUp 15 = .ok (.if_icmp .ge 68, 3) := by decide +kernel
theorem dX5_holdUp_18 : decode cX5_holdUp 18 = .ok (.aload_n 0, 1) := by decide +kernel
theorem dX5_holdUp_19 : decode cX5_holdUp 19 = .ok (.iload 5, 2) := by decide +kernel
theorem dX5_holdUp_21 : decode cX5_holdUp 21 = .ok (.invokevirtual 81, 3) := by decide +kernel
theorem dX5_holdUp_24 : decode cX5_holdUp 24 = .ok (.ifCond .eq 53, 3) := by decide +kernel
theorem dX5_holdUp_27 : decode cX5_holdUp 27 = .ok (.lload_n 2, 1) := by decide +kernel
theorem dX5_holdUp_28 : decode cX5_holdUp 28 = .ok (.ldc2_w 94, 3) := by decide +kernel
theorem dX5_holdUp_31 : decode cX5_holdUp 31 = .ok (.lmul, 1) := by decide +kernel
theorem dX5_holdUp_32 : decode cX5_holdUp 32 = .ok (.ldc2_w 96, 3) := by decide +kernel
theorem dX5_holdUp_35 : decode cX5_holdUp 35 = .ok (.lrem, 1) := by decide +kernel
theorem dX5_holdUp_36 : decode cX5_holdUp 36 = .ok (.lstore_n 2, 1) := by decide +kernel
theorem dX5_holdUp_37 : decode cX5_holdUp 37 = .ok (.lload_n 2, 1) := by decide +kernel
theorem dX5_holdUp_38 : decode cX5_holdUp 38 = .ok (.ldc2_w 98, 3) := by decide +kernel
theorem dX5_holdUp_41 : decode cX5_holdUp 41 = .ok (.lrem, 1) := by decide +kernel
theorem dX5_holdUp_42 : decode cX5_holdUp 42 = .ok (.l2i, 1) := by decide +kernel
theorem dX5_holdUp_43 : decode cX5_holdUp 43 = .ok (.istore 6, 2) := by decide +kernel
theorem dX5_holdUp_45 : decode cX5_holdUp 45 = .ok (.aload_n 0, 1) := by decide +kernel
theorem dX5_holdUp_46 : decode cX5_holdUp 46 = .ok (.iload 5, 2) := by decide +kernel
theorem dX5_holdUp_48 : decode cX5_holdUp 48 = .ok (.iconst 3, 1) := by decide +kernel
theorem dX5_holdUp_49 : decode cX5_holdUp 49 = .ok (.aload_n 0, 1) := by decide +kernel
theorem dX5_holdUp_50 : decode cX5_holdUp 50 = .ok (.iload 5, 2) := by decide +kernel
theorem dX5_holdUp_52 : decode cX5_holdUp 52 = .ok (.iconst 3, 1) := by decide +kernel
theorem dX5_holdUp_53 : decode cX5_holdUp 53 = .ok (.invokevirtual 62, 3) := by decide +kernel
theorem dX5_holdUp_56 : decode cX5_holdUp 56 = .ok (.iload 6, 2) := by decide +kernel
theorem dX5_holdUp_58 : decode cX5_holdUp 58 = .ok (.iadd, 1) := by decide +kernel
theorem dX5_holdUp_59 : decode cX5_holdUp 59 = .ok (.invokevirtual 57, 3) := by decide +kernel
theorem dX5_holdUp_62 : decode cX5_holdUp 62 = .ok (.iload 4, 2) := by decide +kernel
theorem dX5_holdUp_64 : decode cX5_holdUp 64 = .ok (.iload 6, 2) := by decide +kernel
theorem dX5_holdUp_66 : decode cX5_holdUp 66 = .ok (.ifCond .le 7, 3) := by decide +kernel
theorem dX5_holdUp_69 : decode cX5_holdUp 69 = .ok (.iconst 1, 1) := by decide +kernel
theorem dX5_holdUp_70 : decode cX5_holdUp 70 = .ok (.goto 4, 3) := by decide +kernel
theorem dX5_holdUp_73 : decode cX5_holdUp 73 = .ok (.iconst 0, 1) := by decide +kernel
theorem dX5_holdUp_74 : decode cX5_holdUp 74 = .ok (.iadd, 1) := by decide +kernel
theorem dX5_holdUp_75 : decode cX5_holdUp 75 = .ok (.istore 4, 2) := by decide +kernel
theorem dX5_holdUp_77 : decode cX5_holdUp 77 = .ok (.iinc 5 1, 3) := by decide +kernel
theorem dX5_holdUp_80 : decode cX5_holdUp 80 = .ok (.goto (-71), 3) := by decide +kernel
theorem dX5_holdUp_83 : decode cX5_holdUp 83 = .ok (.iload 4, 2) := by decide +kernel
theorem dX5_holdUp_85 : decode cX5_holdUp 85 = .ok (.ireturn, 1) := by decide +kernel
theorem dX5_spanOf_0 : decode cX5_spanOf 0 = .ok (.aload_n 0, 1) := by decide +kernel
theorem dX5_spanOf_1 : decode cX5_spanOf 1 = .ok (.getfield 18, 3) := by decide +kernel
theorem dX5_spanOf_4 : decode cX5_spanOf 4 = .ok (.iload_n 1, 1) := by decide +kernel
theorem dX5_spanOf_5 : decode cX5_spanOf 5 = .ok (.iaload, 1) := by decide +kernel
theorem dX5_spanOf_6 : decode cX5_spanOf 6 = .ok (.iconst 4, 1) := by decide +kernel
theorem dX5_spanOf_7 : decode cX5_spanOf 7 = .ok (.if_icmp .ne 10, 3) := by decide +kernel
theorem dX5_spanOf_10 : decode cX5_spanOf 10 = .ok (.aload_n 0, 1) := by decide +kernel
theorem dX5_spanOf_11 : decode cX5_spanOf 11 = .ok (.getfield 28, 3) := by decide +kernel
theorem dX5_spanOf_14 : decode cX5_spanOf 14 = .ok (.iconst 2, 1) := by decide +kernel
theorem dX5_spanOf_15 : decode cX5_spanOf 15 = .ok (.idiv, 1) := by decide +kernel
theorem dX5_spanOf_16 : decode cX5_spanOf 16 = .ok (.ireturn, 1) := by decide +kernel
theorem dX5_spanOf_17 : decode cX5_spanOf 17 = .ok (.aload_n 0, 1) := by decide +kernel
theorem dX5_spanOf_18 : decode cX5_spanOf 18 = .ok (.getfield 18, 3) := by decide +kernel
theorem dX5_spanOf_21 : decode cX5_spanOf 21 = .ok (.iload_n 1, 1) := by decide +kernel
theorem dX5_spanOf_22 : decode cX5_spanOf 22 = .ok (.iaload, 1) := by decide +kernel
theorem dX5_spanOf_23 : decode cX5_spanOf 23 = .ok (.iconst 2, 1) := by decide +kernel
theorem dX5_spanOf_24 : decode cX5_spanOf 24 = .ok (.if_icmp .ne 17, 3) := by decide +kernel
theorem dX5_spanOf_27 : decode cX5_spanOf 27 = .ok (.aload_n 0, 1) := by decide +kernel
theorem dX5_spanOf_28 : decode cX5_spanOf 28 = .ok (.getfield 28, 3) := by decide +kernel
theorem dX5_spanOf_31 : decode cX5_spanOf 31 = .ok (.aload_n 0, 1) := by decide +kernel
theorem dX5_spanOf_32 : decode cX5_spanOf 32 = .ok (.getfield 28, 3) := by decide +kernel
theorem dX5_spanOf_35 : decode cX5_spanOf 35 = .ok (.iconst 2, 1) := by decide +kernel
theorem dX5_spanOf_36 : decode cX5_spanOf 36 = .ok (.idiv, 1) := by decide +kernel
theorem dX5_spanOf_37 : decode cX5_spanOf 37 = .ok (.iadd, 1) := by decide +kernel
theorem dX5_spanOf_38 : decode cX5_spanOf 38 = .ok (.goto 7, 3) := by decide +kernel
theorem dX5_spanOf_41 : decode cX5_spanOf 41 = .ok (.aload_n 0, 1) := by decide +kernel
theorem dX5_spanOf_42 : decode cX5_spanOf 42 = .ok (.getfield 28, 3) := by decide +kernel
theorem dX5_spanOf_45 : decode cX5_spanOf 45 = .ok (.ireturn, 1) := by decide +kernel
set_option maxRecDepth 20000 in
theorem ggX5_slackOf_X5_slackWithMint : GoodIn wsX5_slackOf wsX5_slackWithMint := goodIn_r _ [5, 6, 7, 8, 9, 10, 11, 12, 13, 14, 15, 4, 16, 17, 18, 19, 20, 21, 22, 23, 24, 25, 26, 27, 28, 29, 30, 31, 32, 33, 34, 35, 36, 37, 38, 39, 40, 41, 42, 43, 44, 45, 46, 47, 48] (by decide +kernel) (by decide +kernel)
set_option maxRecDepth 20000 in
theorem gX5_slackOf_X5_slackWithMint : GoodIn wsX5_slackOf (wsV RX5 100 RX5 yX5_slackWithMint wsX5_slackWithMint) := goodIn_app (goodIn_of _ (by decide +kernel)) ggX5_slackOf_X5_slackWithMint
theorem dX5_slackOf_0 : decode cX5_slackOf 0 = .ok (.aload_n 0, 1) := by decide +kernel
theorem dX5_slackOf_1 : decode cX5_slackOf 1 = .ok (.iload_n 1, 1) := by decide +kernel
theorem dX5_slackOf_2 : decode cX5_slackOf 2 = .ok (.iconst 0, 1) := by decide +kernel
theorem dX5_slackOf_3 : decode cX5_slackOf 3 = .ok (.invokevirtual 100, 3) := by decide +kernel
theorem dX5_slackOf_6 : decode cX5_slackOf 6 = .ok (.ireturn, 1) := by decide +kernel
set_option maxRecDepth 20000 in
theorem ggX5_slackWithMint_X5_dumb : GoodIn wsX5_slackWithMint wsX5_dumb := goodIn_r _ [12, 13, 14, 15, 11, 16, 17, 37, 38, 39, 40, 41, 42, 43, 44] (by decide +kernel) (by decide +kernel)
set_option maxRecDepth 20000 in
theorem gX5_slackWithMint_X5_dumb : GoodIn wsX5_slackWithMint (wsV RX5 78 RX5 yX5_dumb wsX5_dumb) := goodIn_app (goodIn_of _ (by decide +kernel)) ggX5_slackWithMint_X5_dumb
set_option maxRecDepth 20000 in
theorem ggX5_slackWithMint_X5_forged : GoodIn wsX5_slackWithMint wsX5_forged := goodIn_r _ [21, 22, 37, 38, 39, 40, 41, 42, 43, 44] (by decide +kernel) (by decide +kernel)
set_option maxRecDepth 20000 in
theorem gX5_slackWithMint_X5_forged : GoodIn wsX5_slackWithMint (wsV RX5 88 RX5 yX5_forged wsX5_forged) := goodIn_app (goodIn_of _ (by decide +kernel)) ggX5_slackWithMint_X5_forged
set_option maxRecDepth 20000 in
theorem ggX5_slackWithMint_X5_about : GoodIn wsX5_slackWithMint wsX5_about := goodIn_r _ [16, 17, 37, 38, 39, 40, 41, 42, 43, 44] (by decide +kernel) (by decide +kernel)
set_option maxRecDepth 20000 in
theorem gX5_slackWithMint_X5_about : GoodIn wsX5_slackWithMint (wsV RX5 62 RX5 yX5_about wsX5_about) := goodIn_app (goodIn_of _ (by decide +kernel)) ggX5_slackWithMint_X5_about
set_option maxRecDepth 20000 in
theorem ggX5_slackWithMint_X5_townOf : GoodIn wsX5_slackWithMint wsX5_townOf := goodIn_r _ [26, 27, 13, 14, 15, 11, 16, 17, 37, 38, 39, 40, 41, 42, 43, 44] (by decide +kernel) (by decide +kernel)
set_option maxRecDepth 20000 in
theorem gX5_slackWithMint_X5_townOf : GoodIn wsX5_slackWithMint (wsV RX5 71 RX5 yX5_townOf wsX5_townOf) := goodIn_app (goodIn_of _ (by decide +kernel)) ggX5_slackWithMint_X5_townOf
set_option maxRecDepth 20000 in
theorem ggX5_slackWithMint_X5_withHolder : GoodIn wsX5_slackWithMint wsX5_withHolder := goodIn_r _ [31, 13, 14, 15, 11, 16, 17, 37, 38, 39, 40, 41, 42, 43, 44] (by decide +kernel) (by decide +kernel)
set_option maxRecDepth 20000 in
theorem gX5_slackWithMint_X5_withHolder : GoodIn wsX5_slackWithMint (wsV RX5 67 RX5 yX5_withHolder wsX5_withHolder) := goodIn_app (goodIn_of _ (by decide +kernel)) ggX5_slackWithMint_X5_withHolder
set_option maxRecDepth 20000 in
theorem ggX5_slackWithMint_X5_spanOf : GoodIn wsX5_slackWithMint wsX5_spanOf := goodIn_r _ [35, 22, 36, 37, 38, 39, 40, 41, 42, 43, 44] (by decide +kernel) (by decide +kernel)
set_option maxRecDepth 20000 in
theorem gX5_slackWithMint_X5_spanOf : GoodIn wsX5_slackWithMint (wsV RX5 91 RX5 yX5_spanOf wsX5_spanOf) := goodIn_app (goodIn_of _ (by decide +kernel)) ggX5_slackWithMint_X5_spanOf
theorem dX5_slackWithMint_0 : decode cX5_slackWithMint 0 = .ok (.aload_n 0, 1) := by decide +kernel
theorem dX5_slackWithMint_1 : decode cX5_slackWithMint 1 = .ok (.iload_n 1, 1) := by decide +kernel
theorem dX5_slackWithMint_2 : decode cX5_slackWithMint 2 = .ok (.invokevirtual 78, 3) := by decide +kernel
theorem dX5_slackWithMint_5 : decode cX5_slackWithMint 5 = .ok (.ifCond .ne 11, 3) := by decide +kernel
theorem dX5_slackWithMint_8 : decode cX5_slackWithMint 8 = .ok (.aload_n 0, 1) := by decide +kernel
theorem dX5_slackWithMint_9 : decode cX5_slackWithMint 9 = .ok (.iload_n 1, 1) := by decide +kernel
theorem dX5_slackWithMint_10 : decode cX5_slackWithMint 10 = .ok (.invokevirtual 88, 3) := by decide +kernel
theorem dX5_slackWithMint_13 : decode cX5_slackWithMint 13 = .ok (.ifCond .eq 6, 3) := by decide +kernel
theorem dX5_slackWithMint_16 : decode cX5_slackWithMint 16 = .ok (.ldc 61, 2) := by decide +kernel
theorem dX5_slackWithMint_18 : decode cX5_slackWithMint 18 = .ok (.ireturn, 1) := by decide +kernel
theorem dX5_slackWithMint_19 : decode cX5_slackWithMint 19 = .ok (.aload_n 0, 1) := by decide +kernel
theorem dX5_slackWithMint_20 : decode cX5_slackWithMint 20 = .ok (.iload_n 1, 1) := by decide +kernel
theorem dX5_slackWithMint_21 : decode cX5_slackWithMint 21 = .ok (.iconst 3, 1) := by decide +kernel
theorem dX5_slackWithMint_22 : decode cX5_slackWithMint 22 = .ok (.invokevirtual 62, 3) := by decide +kernel
theorem dX5_slackWithMint_25 : decode cX5_slackWithMint 25 = .ok (.istore_n 3, 1) := by decide +kernel
theorem dX5_slackWithMint_26 : decode cX5_slackWithMint 26 = .ok (.aload_n 0, 1) := by decide +kernel
theorem dX5_slackWithMint_27 : decode cX5_slackWithMint 27 = .ok (.getfield 11, 3) := by decide +kernel
theorem dX5_slackWithMint_30 : decode cX5_slackWithMint 30 = .ok (.aload_n 0, 1) := by decide +kernel
theorem dX5_slackWithMint_31 : decode cX5_slackWithMint 31 = .ok (.iload_n 1, 1) := by decide +kernel
theorem dX5_slackWithMint_32 : decode cX5_slackWithMint 32 = .ok (.invokevirtual 71, 3) := by decide +kernel
theorem dX5_slackWithMint_35 : decode cX5_slackWithMint 35 = .ok (.bipush 8, 2) := by decide +kernel
theorem dX5_slackWithMint_37 : decode cX5_slackWithMint 37 = .ok (.imul, 1) := by decide +kernel
theorem dX5_slackWithMint_38 : decode cX5_slackWithMint 38 = .ok (.iconst 0, 1) := by decide +kernel
theorem dX5_slackWithMint_39 : decode cX5_slackWithMint 39 = .ok (.iadd, 1) := by decide +kernel
theorem dX5_slackWithMint_40 : decode cX5_slackWithMint 40 = .ok (.iaload, 1) := by decide +kernel
theorem dX5_slackWithMint_41 : decode cX5_slackWithMint 41 = .ok (.istore 4, 2) := by decide +kernel
theorem dX5_slackWithMint_43 : decode cX5_slackWithMint 43 = .ok (.aload_n 0, 1) := by decide +kernel
theorem dX5_slackWithMint_44 : decode cX5_slackWithMint 44 = .ok (.iload_n 1, 1) := by decide +kernel
theorem dX5_slackWithMint_45 : decode cX5_slackWithMint 45 = .ok (.invokevirtual 67, 3) := by decide +kernel
theorem dX5_slackWithMint_48 : decode cX5_slackWithMint 48 = .ok (.ifCond .eq 27, 3) := by decide +kernel
theorem dX5_slackWithMint_51 : decode cX5_slackWithMint 51 = .ok (.iload 4, 2) := by decide +kernel
theorem dX5_slackWithMint_53 : decode cX5_slackWithMint 53 = .ok (.aload_n 0, 1) := by decide +kernel
theorem dX5_slackWithMint_54 : decode cX5_slackWithMint 54 = .ok (.getfield 11, 3) := by decide +kernel
theorem dX5_slackWithMint_57 : decode cX5_slackWithMint 57 = .ok (.aload_n 0, 1) := by decide +kernel
theorem dX5_slackWithMint_58 : decode cX5_slackWithMint 58 = .ok (.iload_n 1, 1) := by decide +kernel
theorem dX5_slackWithMint_59 : decode cX5_slackWithMint 59 = .ok (.invokevirtual 71, 3) := by decide +kernel
theorem dX5_slackWithMint_62 : decode cX5_slackWithMint 62 = .ok (.bipush 8, 2) := by decide +kernel
theorem dX5_slackWithMint_64 : decode cX5_slackWithMint 64 = .ok (.imul, 1) := by decide +kernel
theorem dX5_slackWithMint_65 : decode cX5_slackWithMint 65 = .ok (.iload_n 2, 1) := by decide +kernel
theorem dX5_slackWithMint_66 : decode cX5_slackWithMint 66 = .ok (.iadd, 1) := by decide +kernel
theorem dX5_slackWithMint_67 : decode cX5_slackWithMint 67 = .ok (.iaload, 1) := by decide +kernel
theorem dX5_slackWithMint_68 : decode cX5_slackWithMint 68 = .ok (.invokestatic 51, 3) := by decide +kernel
theorem dX5_slackWithMint_71 : decode cX5_slackWithMint 71 = .ok (.istore_n 3, 1) := by decide +kernel
theorem dX5_slackWithMint_72 : decode cX5_slackWithMint 72 = .ok (.goto 18, 3) := by decide +kernel
theorem dX5_slackWithMint_75 : decode cX5_slackWithMint 75 = .ok (.aload_n 0, 1) := by decide +kernel
theorem dX5_slackWithMint_76 : decode cX5_slackWithMint 76 = .ok (.iload_n 1, 1) := by decide +kernel
theorem dX5_slackWithMint_77 : decode cX5_slackWithMint 77 = .ok (.iconst 2, 1) := by decide +kernel
theorem dX5_slackWithMint_78 : decode cX5_slackWithMint 78 = .ok (.invokevirtual 62, 3) := by decide +kernel
theorem dX5_slackWithMint_81 : decode cX5_slackWithMint 81 = .ok (.iconst 2, 1) := by decide +kernel
theorem dX5_slackWithMint_82 : decode cX5_slackWithMint 82 = .ok (.if_icmp .ne 8, 3) := by decide +kernel
theorem dX5_slackWithMint_85 : decode cX5_slackWithMint 85 = .ok (.iload_n 3, 1) := by decide +kernel
theorem dX5_slackWithMint_86 : decode cX5_slackWithMint 86 = .ok (.iload 4, 2) := by decide +kernel
theorem dX5_slackWithMint_88 : decode cX5_slackWithMint 88 = .ok (.iadd, 1) := by decide +kernel
theorem dX5_slackWithMint_89 : decode cX5_slackWithMint 89 = .ok (.istore_n 3, 1) := by decide +kernel
theorem dX5_slackWithMint_90 : decode cX5_slackWithMint 90 = .ok (.iload_n 3, 1) := by decide +kernel
theorem dX5_slackWithMint_91 : decode cX5_slackWithMint 91 = .ok (.ldc 38, 2) := by decide +kernel
theorem dX5_slackWithMint_93 : decode cX5_slackWithMint 93 = .ok (.if_icmp .lt 8, 3) := by decide +kernel
theorem dX5_slackWithMint_96 : decode cX5_slackWithMint 96 = .ok (.ldc 61, 2) := by decide +kernel
theorem dX5_slackWithMint_98 : decode cX5_slackWithMint 98 = .ok (.goto 17, 3) := by decide +kernel
theorem dX5_slackWithMint_101 : decode cX5_slackWithMint 101 = .ok (.aload_n 0, 1) := by decide +kernel
theorem dX5_slackWithMint_102 : decode cX5_slackWithMint 102 = .ok (.iload_n 1, 1) := by decide +kernel
theorem dX5_slackWithMint_103 : decode cX5_slackWithMint 103 = .ok (.invokevirtual 91, 3) := by decide +kernel
theorem dX5_slackWithMint_106 : decode cX5_slackWithMint 106 = .ok (.aload_n 0, 1) := by decide +kernel
theorem dX5_slackWithMint_107 : decode cX5_slackWithMint 107 = .ok (.iload_n 1, 1) := by decide +kernel
theorem dX5_slackWithMint_108 : decode cX5_slackWithMint 108 = .ok (.iconst 1, 1) := by decide +kernel
theorem dX5_slackWithMint_109 : decode cX5_slackWithMint 109 = .ok (.invokevirtual 62, 3) := by decide +kernel
theorem dX5_slackWithMint_112 : decode cX5_slackWithMint 112 = .ok (.isub, 1) := by decide +kernel
theorem dX5_slackWithMint_113 : decode cX5_slackWithMint 113 = .ok (.iload_n 3, 1) := by decide +kernel
theorem dX5_slackWithMint_114 : decode cX5_slackWithMint 114 = .ok (.isub, 1) := by decide +kernel
theorem dX5_slackWithMint_115 : decode cX5_slackWithMint 115 = .ok (.ireturn, 1) := by decide +kernel
theorem dX5_isLate_0 : decode cX5_isLate 0 = .ok (.iload_n 0, 1) := by decide +kernel
theorem dX5_isLate_1 : decode cX5_isLate 1 = .ok (.ldc 61, 2) := by decide +kernel
theorem dX5_isLate_3 : decode cX5_isLate 3 = .ok (.if_icmp .eq 11, 3) := by decide +kernel
theorem dX5_isLate_6 : decode cX5_isLate 6 = .ok (.iload_n 0, 1) := by decide +kernel
theorem dX5_isLate_7 : decode cX5_isLate 7 = .ok (.ifCond .ge 7, 3) := by decide +kernel
theorem dX5_isLate_10 : decode cX5_isLate 10 = .ok (.iconst 1, 1) := by decide +kernel
theorem dX5_isLate_11 : decode cX5_isLate 11 = .ok (.goto 4, 3) := by decide +kernel
theorem dX5_isLate_14 : decode cX5_isLate 14 = .ok (.iconst 0, 1) := by decide +kernel
theorem dX5_isLate_15 : decode cX5_isLate 15 = .ok (.ireturn, 1) := by decide +kernel
set_option maxRecDepth 20000 in
theorem ggX5_worthOf_X5_slackOf : GoodIn wsX5_worthOf wsX5_slackOf := goodIn_r _ [5, 6, 7, 8, 4, 9, 10, 11, 12, 13, 14, 15, 16, 17, 18, 19, 20, 21, 22, 23, 24, 25, 26, 27, 28, 29, 30, 31, 32, 33, 34, 35, 36, 37, 38, 39, 40, 41, 42, 43, 44, 45, 46, 47, 48, 49, 50, 51, 52] (by decide +kernel) (by decide +kernel)
set_option maxRecDepth 20000 in
theorem gX5_worthOf_X5_slackOf : GoodIn wsX5_worthOf (wsV RX5 103 RX5 yX5_slackOf wsX5_slackOf) := goodIn_app (goodIn_of _ (by decide +kernel)) ggX5_worthOf_X5_slackOf
set_option maxRecDepth 20000 in
theorem ggX5_worthOf_X5_spanOf : GoodIn wsX5_worthOf wsX5_spanOf := goodIn_r _ [43, 30, 44, 45, 46, 47, 48, 49, 50, 51, 52] (by decide +kernel) (by decide +kernel)
set_option maxRecDepth 20000 in
theorem gX5_worthOf_X5_spanOf : GoodIn wsX5_worthOf (wsV RX5 91 RX5 yX5_spanOf wsX5_spanOf) := goodIn_app (goodIn_of _ (by decide +kernel)) ggX5_worthOf_X5_spanOf
theorem dX5_worthOf_0 : decode cX5_worthOf 0 = .ok (.aload_n 0, 1) := by decide +kernel
theorem dX5_worthOf_1 : decode cX5_worthOf 1 = .ok (.iload_n 1, 1) := by decide +kernel
theorem dX5_worthOf_2 : decode cX5_worthOf 2 = .ok (.invokevirtual 103, 3) := by decide +kernel
theorem dX5_worthOf_5 : decode cX5_worthOf 5 = .ok (.istore_n 2, 1) := by decide +kernel
theorem dX5_worthOf_6 : decode cX5_worthOf 6 = .ok (.aload_n 0, 1) := by decide +kernel
theorem dX5_worthOf_7 : decode cX5_worthOf 7 = .ok (.iload_n 1, 1) := by decide +kernel
theorem dX5_worthOf_8 : decode cX5_worthOf 8 = .ok (.invokevirtual 91, 3) := by decide +kernel
theorem dX5_worthOf_11 : decode cX5_worthOf 11 = .ok (.istore_n 3, 1) := by decide +kernel
theorem dX5_worthOf_12 : decode cX5_worthOf 12 = .ok (.iload_n 2, 1) := by decide +kernel
theorem dX5_worthOf_13 : decode cX5_worthOf 13 = .ok (.ifCond .le 7, 3) := by decide +kernel
theorem dX5_worthOf_16 : decode cX5_worthOf 16 = .ok (.iload_n 3, 1) := by decide +kernel
theorem dX5_worthOf_17 : decode cX5_worthOf 17 = .ok (.ifCond .gt 7, 3) := by decide +kernel
theorem dX5_worthOf_20 : decode cX5_worthOf 20 = .ok (.iconst 0, 1) := by decide +kernel
theorem dX5_worthOf_21 : decode cX5_worthOf 21 = .ok (.goto 9, 3) := by decide +kernel
theorem dX5_worthOf_24 : decode cX5_worthOf 24 = .ok (.bipush 100, 2) := by decide +kernel
theorem dX5_worthOf_26 : decode cX5_worthOf 26 = .ok (.iload_n 2, 1) := by decide +kernel
theorem dX5_worthOf_27 : decode cX5_worthOf 27 = .ok (.imul, 1) := by decide +kernel
theorem dX5_worthOf_28 : decode cX5_worthOf 28 = .ok (.iload_n 3, 1) := by decide +kernel
theorem dX5_worthOf_29 : decode cX5_worthOf 29 = .ok (.idiv, 1) := by decide +kernel
theorem dX5_worthOf_30 : decode cX5_worthOf 30 = .ok (.ireturn, 1) := by decide +kernel
set_option maxRecDepth 20000 in
theorem ggX5_lateCoins_X5_slackOf : GoodIn wsX5_lateCoins wsX5_slackOf := goodIn_r _ [6, 7, 8, 9, 5, 10, 11, 12, 13, 14, 15, 16, 17, 18, 19, 20, 21, 22, 23, 24, 25, 26, 27, 28, 29, 30, 31, 32, 33, 34, 35, 36, 37, 38, 39, 40, 41, 42, 43, 44, 45, 49, 50, 51, 52, 53, 54, 55, 56] (by decide +kernel) (by decide +kernel)
set_option maxRecDepth 20000 in
theorem gX5_lateCoins_X5_slackOf : GoodIn wsX5_lateCoins (wsV RX5 103 RX5 yX5_slackOf wsX5_slackOf) := goodIn_app (goodIn_of _ (by decide +kernel)) ggX5_lateCoins_X5_slackOf
set_option maxRecDepth 20000 in
theorem ggX5_lateCoins_X5_isLate : GoodIn wsX5_lateCoins wsX5_isLate := goodIn_r _ [48, 11] (by decide +kernel) (by decide +kernel)
set_option maxRecDepth 20000 in
theorem gX5_lateCoins_X5_isLate : GoodIn wsX5_lateCoins (va_wsS RX5 106 yX5_isLate wsX5_isLate) := goodIn_app (goodIn_of _ (by decide +kernel)) ggX5_lateCoins_X5_isLate
theorem dX5_lateCoins_0 : decode cX5_lateCoins 0 = .ok (.iconst 0, 1) := by decide +kernel
theorem dX5_lateCoins_1 : decode cX5_lateCoins 1 = .ok (.istore_n 1, 1) := by decide +kernel
theorem dX5_lateCoins_2 : decode cX5_lateCoins 2 = .ok (.iconst 0, 1) := by decide +kernel
theorem dX5_lateCoins_3 : decode cX5_lateCoins 3 = .ok (.istore_n 2, 1) := by decide +kernel
theorem dX5_lateCoins_4 : decode cX5_lateCoins 4 = .ok (.iload_n 2, 1) := by decide +kernel
theorem dX5_lateCoins_5 : decode cX5_lateCoins 5 = .ok (.aload_n 0, 1) := by decide +kernel
theorem dX5_lateCoins_6 : decode cX5_lateCoins 6 = .ok (.getfield 35, 3) := by decide +kernel
theorem dX5_lateCoins_9 : decode cX5_lateCoins 9 = .ok (.if_icmp .ge 26, 3) := by decide +kernel
theorem dX5_lateCoins_12 : decode cX5_lateCoins 12 = .ok (.aload_n 0, 1) := by decide +kernel
theorem dX5_lateCoins_13 : decode cX5_lateCoins 13 = .ok (.iload_n 2, 1) := by decide +kernel
theorem dX5_lateCoins_14 : decode cX5_lateCoins 14 = .ok (.invokevirtual 103, 3) := by decide +kernel
theorem dX5_lateCoins_17 : decode cX5_lateCoins 17 = .ok (.invokestatic 106, 3) := by decide +kernel
theorem dX5_lateCoins_20 : decode cX5_lateCoins 20 = .ok (.ifCond .eq 9, 3) := by decide +kernel
theorem dX5_lateCoins_23 : decode cX5_lateCoins 23 = .ok (.iload_n 1, 1) := by decide +kernel
theorem dX5_lateCoins_24 : decode cX5_lateCoins 24 = .ok (.iconst 1, 1) := by decide +kernel
theorem dX5_lateCoins_25 : decode cX5_lateCoins 25 = .ok (.iload_n 2, 1) := by decide +kernel
theorem dX5_lateCoins_26 : decode cX5_lateCoins 26 = .ok (.ishl, 1) := by decide +kernel
theorem dX5_lateCoins_27 : decode cX5_lateCoins 27 = .ok (.ior, 1) := by decide +kernel
theorem dX5_lateCoins_28 : decode cX5_lateCoins 28 = .ok (.istore_n 1, 1) := by decide +kernel
theorem dX5_lateCoins_29 : decode cX5_lateCoins 29 = .ok (.iinc 2 1, 3) := by decide +kernel
theorem dX5_lateCoins_32 : decode cX5_lateCoins 32 = .ok (.goto (-28), 3) := by decide +kernel
theorem dX5_lateCoins_35 : decode cX5_lateCoins 35 = .ok (.iload_n 1, 1) := by decide +kernel
theorem dX5_lateCoins_36 : decode cX5_lateCoins 36 = .ok (.ireturn, 1) := by decide +kernel
set_option maxRecDepth 20000 in
theorem ggX5_slackAtHolder_X5_withHolder : GoodIn wsX5_slackAtHolder wsX5_withHolder := goodIn_r _ [6, 7, 8, 9, 5, 10, 11, 41, 42, 43, 44, 45, 46, 47, 48] (by decide +kernel) (by decide +kernel)
set_option maxRecDepth 20000 in
theorem gX5_slackAtHolder_X5_withHolder : GoodIn wsX5_slackAtHolder (wsV RX5 67 RX5 yX5_withHolder wsX5_withHolder) := goodIn_app (goodIn_of _ (by decide +kernel)) ggX5_slackAtHolder_X5_withHolder
set_option maxRecDepth 20000 in
theorem ggX5_slackAtHolder_X5_slackWithMint : GoodIn wsX5_slackAtHolder wsX5_slackWithMint := goodIn_r _ [15, 1, 16, 17, 18, 19, 20, 21, 22, 23, 24, 5, 25, 7, 8, 9, 10, 11, 26, 27, 28, 29, 30, 31, 32, 33, 34, 35, 2, 3, 4, 6, 36, 37, 38, 39, 40, 41, 42, 43, 44, 45, 46, 47, 48] (by decide +kernel) (by decide +kernel)
set_option maxRecDepth 20000 in
theorem gX5_slackAtHolder_X5_slackWithMint : GoodIn wsX5_slackAtHolder (wsV RX5 100 RX5 yX5_slackWithMint wsX5_slackWithMint) := goodIn_app (goodIn_of _ (by decide +kernel)) ggX5_slackAtHolder_X5_slackWithMint
theorem dX5_slackAtHolder_0 : decode cX5_slackAtHolder 0 = .ok (.aload_n 0, 1) := by decide +kernel
theorem dX5_slackAtHolder_1 : decode cX5_slackAtHolder 1 = .ok (.iload_n 1, 1) := by decide +kernel
theorem dX5_slackAtHolder_2 : decode cX5_slackAtHolder 2 = .ok (.invokevirtual 67, 3) := by decide +kernel
theorem dX5_slackAtHolder_5 : decode cX5_slackAtHolder 5 = .ok (.ifCond .eq 12, 3) := by decide +kernel
theorem dX5_slackAtHolder_8 : decode cX5_slackAtHolder 8 = .ok (.aload_n 0, 1) := by decide +kernel
theorem dX5_slackAtHolder_9 : decode cX5_slackAtHolder 9 = .ok (.iload_n 1, 1) := by decide +kernel
theorem dX5_slackAtHolder_10 : decode cX5_slackAtHolder 10 = .ok (.iconst 0, 1) := by decide +kernel
theorem dX5_slackAtHolder_11 : decode cX5_slackAtHolder 11 = .ok (.invokevirtual 100, 3) := by decide +kernel
theorem dX5_slackAtHolder_14 : decode cX5_slackAtHolder 14 = .ok (.goto 5, 3) := by decide +kernel
theorem dX5_slackAtHolder_17 : decode cX5_slackAtHolder 17 = .ok (.ldc 61, 2) := by decide +kernel
theorem dX5_slackAtHolder_19 : decode cX5_slackAtHolder 19 = .ok (.ireturn, 1) := by decide +kernel
set_option maxRecDepth 20000 in
theorem ggX5_coinsToGo_X5_slackAtHolder : GoodIn wsX5_coinsToGo wsX5_slackAtHolder := goodIn_r _ [6, 7, 8, 9, 10, 5, 11, 12, 13, 14, 15, 16, 17, 18, 19, 20, 21, 22, 23, 24, 25, 26, 27, 28, 29, 30, 31, 32, 33, 34, 35, 36, 37, 38, 39, 40, 41, 42, 43, 44, 45, 46, 47, 48, 49, 50, 51, 52, 53] (by decide +kernel) (by decide +kernel)
set_option maxRecDepth 20000 in
theorem gX5_coinsToGo_X5_slackAtHolder : GoodIn wsX5_coinsToGo (wsV RX5 109 RX5 yX5_slackAtHolder wsX5_slackAtHolder) := goodIn_app (goodIn_of _ (by decide +kernel)) ggX5_coinsToGo_X5_slackAtHolder
theorem dX5_coinsToGo_0 : decode cX5_coinsToGo 0 = .ok (.iconst 0, 1) := by decide +kernel
theorem dX5_coinsToGo_1 : decode cX5_coinsToGo 1 = .ok (.istore_n 2, 1) := by decide +kernel
theorem dX5_coinsToGo_2 : decode cX5_coinsToGo 2 = .ok (.iconst 0, 1) := by decide +kernel
theorem dX5_coinsToGo_3 : decode cX5_coinsToGo 3 = .ok (.istore_n 3, 1) := by decide +kernel
theorem dX5_coinsToGo_4 : decode cX5_coinsToGo 4 = .ok (.iload_n 3, 1) := by decide +kernel
theorem dX5_coinsToGo_5 : decode cX5_coinsToGo 5 = .ok (.aload_n 0, 1) := by decide +kernel
theorem dX5_coinsToGo_6 : decode cX5_coinsToGo 6 = .ok (.getfield 35, 3) := by decide +kernel
theorem dX5_coinsToGo_9 : decode cX5_coinsToGo 9 = .ok (.if_icmp .ge 33, 3) := by decide +kernel
theorem dX5_coinsToGo_12 : decode cX5_coinsToGo 12 = .ok (.aload_n 0, 1) := by decide +kernel
theorem dX5_coinsToGo_13 : decode cX5_coinsToGo 13 = .ok (.iload_n 3, 1) := by decide +kernel
theorem dX5_coinsToGo_14 : decode cX5_coinsToGo 14 = .ok (.invokevirtual 109, 3) := by decide +kernel
theorem dX5_coinsToGo_17 : decode cX5_coinsToGo 17 = .ok (.istore 4, 2) := by decide +kernel
theorem dX5_coinsToGo_19 : decode cX5_coinsToGo 19 = .ok (.iload 4, 2) := by decide +kernel
theorem dX5_coinsToGo_21 : decode cX5_coinsToGo 21 = .ok (.ifCond .lt 15, 3) := by decide +kernel
theorem dX5_coinsToGo_24 : decode cX5_coinsToGo 24 = .ok (.iload 4, 2) := by decide +kernel
theorem dX5_coinsToGo_26 : decode cX5_coinsToGo 26 = .ok (.iload_n 1, 1) := by decide +kernel
theorem dX5_coinsToGo_27 : decode cX5_coinsToGo 27 = .ok (.if_icmp .ge 9, 3) := by decide +kernel
theorem dX5_coinsToGo_30 : decode cX5_coinsToGo 30 = .ok (.iload_n 2, 1) := by decide +kernel
theorem dX5_coinsToGo_31 : decode cX5_coinsToGo 31 = .ok (.iconst 1, 1) := by decide +kernel
theorem dX5_coinsToGo_32 : decode cX5_coinsToGo 32 = .ok (.iload_n 3, 1) := by decide +kernel
theorem dX5_coinsToGo_33 : decode cX5_coinsToGo 33 = .ok (.ishl, 1) := by decide +kernel
theorem dX5_coinsToGo_34 : decode cX5_coinsToGo 34 = .ok (.ior, 1) := by decide +kernel
theorem dX5_coinsToGo_35 : decode cX5_coinsToGo 35 = .ok (.istore_n 2, 1) := by decide +kernel
theorem dX5_coinsToGo_36 : decode cX5_coinsToGo 36 = .ok (.iinc 3 1, 3) := by decide +kernel
theorem dX5_coinsToGo_39 : decode cX5_coinsToGo 39 = .ok (.goto (-35), 3) := by decide +kernel
theorem dX5_coinsToGo_42 : decode cX5_coinsToGo 42 = .ok (.iload_n 2, 1) := by decide +kernel
theorem dX5_coinsToGo_43 : decode cX5_coinsToGo 43 = .ok (.ireturn, 1) := by decide +kernel
set_option maxRecDepth 20000 in
theorem ggX5_coinsForMessengers_X5_mostPressing : GoodIn wsX5_coinsForMessengers wsX5_mostPressing := goodIn_r _ [5, 6, 7, 8, 9, 10, 4, 11, 12, 13, 14, 15, 16, 17, 18, 19, 20, 21, 22, 23, 24, 25, 26, 27, 28, 29, 30, 31, 32, 33, 34, 35, 36, 37, 38, 39, 40, 41, 42, 43, 44, 45, 46, 47, 48, 49, 50, 51, 52, 53, 54, 55, 56, 57] (by decide +kernel) (by decide +kernel)
set_option maxRecDepth 20000 in
theorem gX5_coinsForMessengers_X5_mostPressing : GoodIn wsX5_coinsForMessengers (wsV RX5 112 RX5 yX5_mostPressing wsX5_mostPressing) := goodIn_app (goodIn_of _ (by decide +kernel)) ggX5_coinsForMessengers_X5_mostPressing
theorem dX5_coinsForMessengers_0 : decode cX5_coinsForMessengers 0 = .ok (.iconst 0, 1) := by decide +kernel
theorem dX5_coinsForMessengers_1 : decode cX5_coinsForMessengers 1 = .ok (.istore_n 2, 1) := by decide +kernel
theorem dX5_coinsForMessengers_2 : decode cX5_coinsForMessengers 2 = .ok (.iconst 0, 1) := by decide +kernel
theorem dX5_coinsForMessengers_3 : decode cX5_coinsForMessengers 3 = .ok (.istore_n 3, 1) := by decide +kernel
theorem dX5_coinsForMessengers_4 : decode cX5_coinsForMessengers 4 = .ok (.iload_n 3, 1) := by decide +kernel
theorem dX5_coinsForMessengers_5 : decode cX5_coinsForMessengers 5 = .ok (.iload_n 1, 1) := by decide +kernel
theorem dX5_coinsForMessengers_6 : decode cX5_coinsForMessengers 6 = .ok (.if_icmp .ge 17, 3) := by decide +kernel
theorem dX5_coinsForMessengers_9 : decode cX5_coinsForMessengers 9 = .ok (.iload_n 2, 1) := by decide +kernel
theorem dX5_coinsForMessengers_10 : decode cX5_coinsForMessengers 10 = .ok (.aload_n 0, 1) := by decide +kernel
theorem dX5_coinsForMessengers_11 : decode cX5_coinsForMessengers 11 = .ok (.iload_n 2, 1) := by decide +kernel
theorem dX5_coinsForMessengers_12 : decode cX5_coinsForMessengers 12 = .ok (.invokevirtual 112, 3) := by decide +kernel
theorem dX5_coinsForMessengers_15 : decode cX5_coinsForMessengers 15 = .ok (.ior, 1) := by decide +kernel
theorem dX5_coinsForMessengers_16 : decode cX5_coinsForMessengers 16 = .ok (.istore_n 2, 1) := by decide +kernel
theorem dX5_coinsForMessengers_17 : decode cX5_coinsForMessengers 17 = .ok (.iinc 3 1, 3) := by decide +kernel
theorem dX5_coinsForMessengers_20 : decode cX5_coinsForMessengers 20 = .ok (.goto (-16), 3) := by decide +kernel
theorem dX5_coinsForMessengers_23 : decode cX5_coinsForMessengers 23 = .ok (.iload_n 2, 1) := by decide +kernel
theorem dX5_coinsForMessengers_24 : decode cX5_coinsForMessengers 24 = .ok (.ireturn, 1) := by decide +kernel
set_option maxRecDepth 20000 in
theorem ggX5_mostPressing_X5_slackAtHolder : GoodIn wsX5_mostPressing wsX5_slackAtHolder := goodIn_r _ [7, 8, 9, 10, 11, 6, 12, 13, 14, 15, 16, 17, 18, 19, 20, 21, 22, 23, 24, 25, 26, 1, 27, 28, 29, 30, 31, 32, 33, 34, 35, 36, 37, 38, 39, 40, 41, 42, 43, 44, 45, 46, 47, 48, 49, 50, 51, 52, 53] (by decide +kernel) (by decide +kernel)
set_option maxRecDepth 20000 in
theorem gX5_mostPressing_X5_slackAtHolder : GoodIn wsX5_mostPressing (wsV RX5 109 RX5 yX5_slackAtHolder wsX5_slackAtHolder) := goodIn_app (goodIn_of _ (by decide +kernel)) ggX5_mostPressing_X5_slackAtHolder
theorem dX5_mostPressing_0 : decode cX5_mostPressing 0 = .ok (.iconst 0, 1) := by decide +kernel
theorem dX5_mostPressing_1 : decode cX5_mostPressing 1 = .ok (.istore_n 2, 1) := by decide +kernel
theorem dX5_mostPressing_2 : decode cX5_mostPressing 2 = .ok (.ldc 38, 2) := by decide +kernel
theorem dX5_mostPressing_4 : decode cX5_mostPressing 4 = .ok (.istore_n 3, 1) := by decide +kernel
theorem dX5_mostPressing_5 : decode cX5_mostPressing 5 = .ok (.iconst 0, 1) := by decide +kernel
theorem dX5_mostPressing_6 : decode cX5_mostPressing 6 = .ok (.istore 4, 2) := by decide +kernel
theorem dX5_mostPressing_8 : decode cX5_mostPressing 8 = .ok (.iload 4, 2) := by decide +kernel
theorem dX5_mostPressing_10 : decode cX5_mostPressing 10 = .ok (.aload_n 0, 1) := by decide +kernel
theorem dX5_mostPressing_11 : decode cX5_mostPressing 11 = .ok (.getfield 35, 3) := by decide +kernel
theorem dX5_mostPressing_14 : decode cX5_mostPressing 14 = .ok (.if_icmp .ge 45, 3) := by decide +kernel
theorem dX5_mostPressing_17 : decode cX5_mostPressing 17 = .ok (.aload_n 0, 1) := by decide +kernel
theorem dX5_mostPressing_18 : decode cX5_mostPressing 18 = .ok (.iload 4, 2) := by decide +kernel
theorem dX5_mostPressing_20 : decode cX5_mostPressing 20 = .ok (.invokevirtual 109, 3) := by decide +kernel
theorem dX5_mostPressing_23 : decode cX5_mostPressing 23 = .ok (.istore 5, 2) := by decide +kernel
theorem dX5_mostPressing_25 : decode cX5_mostPressing 25 = .ok (.iload_n 1, 1) := by decide +kernel
theorem dX5_mostPressing_26 : decode cX5_mostPressing 26 = .ok (.iload 4, 2) := by decide +kernel
theorem dX5_mostPressing_28 : decode cX5_mostPressing 28 = .ok (.ishr, 1) := by decide +kernel
theorem dX5_mostPressing_29 : decode cX5_mostPressing 29 = .ok (.iconst 1, 1) := by decide +kernel
theorem dX5_mostPressing_30 : decode cX5_mostPressing 30 = .ok (.iand, 1) := by decide +kernel
theorem dX5_mostPressing_31 : decode cX5_mostPressing 31 = .ok (.ifCond .ne 22, 3) := by decide +kernel
theorem dX5_mostPressing_34 : decode cX5_mostPressing 34 = .ok (.iload 5, 2) := by decide +kernel
theorem dX5_mostPressing_36 : decode cX5_mostPressing 36 = .ok (.ifCond .lt 17, 3) := by decide +kernel
theorem dX5_mostPressing_39 : decode cX5_mostPressing 39 = .ok (.iload 5, 2) := by decide +kernel
theorem dX5_mostPressing_41 : decode cX5_mostPressing 41 = .ok (.iload_n 3, 1) := by decide +kernel
theorem dX5_mostPressing_42 : decode cX5_mostPressing 42 = .ok (.if_icmp .ge 11, 3) := by decide +kernel
theorem dX5_mostPressing_45 : decode cX5_mostPressing 45 = .ok (.iload 5, 2) := by decide +kernel
theorem dX5_mostPressing_47 : decode cX5_mostPressing 47 = .ok (.istore_n 3, 1) := by decide +kernel
theorem dX5_mostPressing_48 : decode cX5_mostPressing 48 = .ok (.iconst 1, 1) := by decide +kernel
theorem dX5_mostPressing_49 : decode cX5_mostPressing 49 = .ok (.iload 4, 2) := by decide +kernel
theorem dX5_mostPressing_51 : decode cX5_mostPressing 51 = .ok (.ishl, 1) := by decide +kernel
theorem dX5_mostPressing_52 : decode cX5_mostPressing 52 = .ok (.istore_n 2, 1) := by decide +kernel
theorem dX5_mostPressing_53 : decode cX5_mostPressing 53 = .ok (.iinc 4 1, 3) := by decide +kernel
theorem dX5_mostPressing_56 : decode cX5_mostPressing 56 = .ok (.goto (-48), 3) := by decide +kernel
theorem dX5_mostPressing_59 : decode cX5_mostPressing 59 = .ok (.iload_n 2, 1) := by decide +kernel
theorem dX5_mostPressing_60 : decode cX5_mostPressing 60 = .ok (.ireturn, 1) := by decide +kernel
set_option maxRecDepth 20000 in
theorem ggX5_savedByTour_X5_withHolder : GoodIn wsX5_savedByTour wsX5_withHolder := goodIn_r _ [6, 7, 8, 9, 5, 10, 11, 26, 27, 28, 29, 30, 31, 32, 33] (by decide +kernel) (by decide +kernel)
set_option maxRecDepth 20000 in
theorem gX5_savedByTour_X5_withHolder : GoodIn wsX5_savedByTour (wsV RX5 67 RX5 yX5_withHolder wsX5_withHolder) := goodIn_app (goodIn_of _ (by decide +kernel)) ggX5_savedByTour_X5_withHolder
set_option maxRecDepth 20000 in
theorem ggX5_savedByTour_X5_about : GoodIn wsX5_savedByTour wsX5_about := goodIn_r _ [10, 11, 26, 27, 28, 29, 30, 31, 32, 33] (by decide +kernel) (by decide +kernel)
set_option maxRecDepth 20000 in
theorem gX5_savedByTour_X5_about : GoodIn wsX5_savedByTour (wsV RX5 62 RX5 yX5_about wsX5_about) := goodIn_app (goodIn_of _ (by decide +kernel)) ggX5_savedByTour_X5_about
set_option maxRecDepth 20000 in
theorem ggX5_savedByTour_X5_forged : GoodIn wsX5_savedByTour wsX5_forged := goodIn_r _ [15, 16, 26, 27, 28, 29, 30, 31, 32, 33] (by decide +kernel) (by decide +kernel)
set_option maxRecDepth 20000 in
theorem gX5_savedByTour_X5_forged : GoodIn wsX5_savedByTour (wsV RX5 88 RX5 yX5_forged wsX5_forged) := goodIn_app (goodIn_of _ (by decide +kernel)) ggX5_savedByTour_X5_forged
set_option maxRecDepth 20000 in
theorem ggX5_savedByTour_X5_dumb : GoodIn wsX5_savedByTour wsX5_dumb := goodIn_r _ [20, 7, 8, 9, 5, 10, 11, 26, 27, 28, 29, 30, 31, 32, 33] (by decide +kernel) (by decide +kernel)
set_option maxRecDepth 20000 in
theorem gX5_savedByTour_X5_dumb : GoodIn wsX5_savedByTour (wsV RX5 78 RX5 yX5_dumb wsX5_dumb) := goodIn_app (goodIn_of _ (by decide +kernel)) ggX5_savedByTour_X5_dumb
set_option maxRecDepth 20000 in
theorem ggX5_savedByTour_X5_spanOf : GoodIn wsX5_savedByTour wsX5_spanOf := goodIn_r _ [24, 16, 25, 26, 27, 28, 29, 30, 31, 32, 33] (by decide +kernel) (by decide +kernel)
set_option maxRecDepth 20000 in
theorem gX5_savedByTour_X5_spanOf : GoodIn wsX5_savedByTour (wsV RX5 91 RX5 yX5_spanOf wsX5_spanOf) := goodIn_app (goodIn_of _ (by decide +kernel)) ggX5_savedByTour_X5_spanOf
