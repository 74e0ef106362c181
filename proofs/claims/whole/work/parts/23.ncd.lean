theorem dX5_savedByTour_0 : decode cX5_savedByTour 0 = .ok (.iconst 0, 1) := by decide +kernel
theorem dX5_savedByTour_1 : decode cX5_savedByTour 1 = .ok (.istore_n 3, 1) := by decide +kernel
theorem dX5_savedByTour_2 : decode cX5_savedByTour 2 = .ok (.iconst 0, 1) := by decide +kernel
theorem dX5_savedByTour_3 : decode cX5_savedByTour 3 = .ok (.istore 4, 2) := by decide +kernel
theorem dX5_savedByTour_5 : decode cX5_savedByTour 5 = .ok (.iload 4, 2) := by decide +kernel
theorem dX5_savedByTour_7 : decode cX5_savedByTour 7 = .ok (.aload_n 0, 1) := by decide +kernel
theorem dX5_savedByTour_8 : decode cX5_savedByTour 8 = .ok (.getfield 35, 3) := by decide +kernel
theorem dX5_savedByTour_11 : decode cX5_savedByTour 11 = .ok (.if_icmp .ge 84, 3) := by decide +kernel
theorem dX5_savedByTour_14 : decode cX5_savedByTour 14 = .ok (.aload_n 0, 1) := by decide +kernel
theorem dX5_savedByTour_15 : decode cX5_savedByTour 15 = .ok (.iload 4, 2) := by decide +kernel
theorem dX5_savedByTour_17 : decode cX5_savedByTour 17 = .ok (.invokevirtual 67, 3) := by decide +kernel
theorem dX5_savedByTour_20 : decode cX5_savedByTour 20 = .ok (.ifCond .eq 22, 3) := by decide +kernel
theorem dX5_savedByTour_23 : decode cX5_savedByTour 23 = .ok (.iload_n 1, 1) := by decide +kernel
theorem dX5_savedByTour_24 : decode cX5_savedByTour 24 = .ok (.aload_n 0, 1) := by decide +kernel
theorem dX5_savedByTour_25 : decode cX5_savedByTour 25 = .ok (.iload 4, 2) := by decide +kernel
theorem dX5_savedByTour_27 : decode cX5_savedByTour 27 = .ok (.iconst 0, 1) := by decide +kernel
theorem dX5_savedByTour_28 : decode cX5_savedByTour 28 = .ok (.invokevirtual 62, 3) := by decide +kernel
theorem dX5_savedByTour_31 : decode cX5_savedByTour 31 = .ok (.ishr, 1) := by decide +kernel
theorem dX5_savedByTour_32 : decode cX5_savedByTour 32 = .ok (.iconst 1, 1) := by decide +kernel
theorem dX5_savedByTour_33 : decode cX5_savedByTour 33 = .ok (.iand, 1) := by decide +kernel
theorem dX5_savedByTour_34 : decode cX5_savedByTour 34 = .ok (.iconst 1, 1) := by decide +kernel
theorem dX5_savedByTour_35 : decode cX5_savedByTour 35 = .ok (.if_icmp .ne 7, 3) := by decide +kernel
theorem dX5_savedByTour_38 : decode cX5_savedByTour 38 = .ok (.iconst 1, 1) := by decide +kernel
theorem dX5_savedByTour_39 : decode cX5_savedByTour 39 = .ok (.goto 4, 3) := by decide +kernel
theorem dX5_savedByTour_42 : decode cX5_savedByTour 42 = .ok (.iconst 0, 1) := by decide +kernel
theorem dX5_savedByTour_43 : decode cX5_savedByTour 43 = .ok (.istore 5, 2) := by decide +kernel
theorem dX5_savedByTour_45 : decode cX5_savedByTour 45 = .ok (.iload 5, 2) := by decide +kernel
theorem dX5_savedByTour_47 : decode cX5_savedByTour 47 = .ok (.ifCond .eq 42, 3) := by decide +kernel
theorem dX5_savedByTour_50 : decode cX5_savedByTour 50 = .ok (.aload_n 0, 1) := by decide +kernel
theorem dX5_savedByTour_51 : decode cX5_savedByTour 51 = .ok (.iload 4, 2) := by decide +kernel
theorem dX5_savedByTour_53 : decode cX5_savedByTour 53 = .ok (.invokevirtual 88, 3) := by decide +kernel
theorem dX5_savedByTour_56 : decode cX5_savedByTour 56 = .ok (.ifCond .ne 33, 3) := by decide +kernel
theorem dX5_savedByTour_59 : decode cX5_savedByTour 59 = .ok (.aload_n 0, 1) := by decide +kernel
theorem dX5_savedByTour_60 : decode cX5_savedByTour 60 = .ok (.iload 4, 2) := by decide +kernel
theorem dX5_savedByTour_62 : decode cX5_savedByTour 62 = .ok (.invokevirtual 78, 3) := by decide +kernel
theorem dX5_savedByTour_65 : decode cX5_savedByTour 65 = .ok (.ifCond .ne 24, 3) := by decide +kernel
theorem dX5_savedByTour_68 : decode cX5_savedByTour 68 = .ok (.aload_n 0, 1) := by decide +kernel
theorem dX5_savedByTour_69 : decode cX5_savedByTour 69 = .ok (.iload 4, 2) := by decide +kernel
theorem dX5_savedByTour_71 : decode cX5_savedByTour 71 = .ok (.invokevirtual 91, 3) := by decide +kernel
theorem dX5_savedByTour_74 : decode cX5_savedByTour 74 = .ok (.aload_n 0, 1) := by decide +kernel
theorem dX5_savedByTour_75 : decode cX5_savedByTour 75 = .ok (.iload 4, 2) := by decide +kernel
theorem dX5_savedByTour_77 : decode cX5_savedByTour 77 = .ok (.iconst 1, 1) := by decide +kernel
theorem dX5_savedByTour_78 : decode cX5_savedByTour 78 = .ok (.invokevirtual 62, 3) := by decide +kernel
theorem dX5_savedByTour_81 : decode cX5_savedByTour 81 = .ok (.iload_n 2, 1) := by decide +kernel
theorem dX5_savedByTour_82 : decode cX5_savedByTour 82 = .ok (.iadd, 1) := by decide +kernel
theorem dX5_savedByTour_83 : decode cX5_savedByTour 83 = .ok (.if_icmp .lt 6, 3) := by decide +kernel
theorem dX5_savedByTour_86 : decode cX5_savedByTour 86 = .ok (.iinc 3 1, 3) := by decide +kernel
theorem dX5_savedByTour_89 : decode cX5_savedByTour 89 = .ok (.iinc 4 1, 3) := by decide +kernel
theorem dX5_savedByTour_92 : decode cX5_savedByTour 92 = .ok (.goto (-87), 3) := by decide +kernel
theorem dX5_savedByTour_95 : decode cX5_savedByTour 95 = .ok (.iload_n 3, 1) := by decide +kernel
theorem dX5_savedByTour_96 : decode cX5_savedByTour 96 = .ok (.ireturn, 1) := by decide +kernel
set_option maxRecDepth 20000 in
theorem ggX5_bestSecondMint_X5_lateWithMint : GoodIn wsX5_bestSecondMint wsX5_lateWithMint := goodIn_r _ [5, 6, 7, 8, 9, 4, 10, 11, 12, 13, 14, 15, 16, 17, 18, 19, 20, 21, 22, 23, 24, 25, 26, 27, 28, 29, 30, 31, 32, 33, 34, 35, 36, 37, 38, 39, 40, 41, 42, 43, 44, 45, 46, 47, 48, 49, 50, 51, 52, 53, 54, 55, 56] (by decide +kernel) (by decide +kernel)
set_option maxRecDepth 20000 in
theorem gX5_bestSecondMint_X5_lateWithMint : GoodIn wsX5_bestSecondMint (wsV RX5 115 RX5 yX5_lateWithMint wsX5_lateWithMint) := goodIn_app (goodIn_of _ (by decide +kernel)) ggX5_bestSecondMint_X5_lateWithMint
theorem dX5_bestSecondMint_0 : decode cX5_bestSecondMint 0 = .ok (.iconst 1, 1) := by decide +kernel
theorem dX5_bestSecondMint_1 : decode cX5_bestSecondMint 1 = .ok (.istore_n 1, 1) := by decide +kernel
theorem dX5_bestSecondMint_2 : decode cX5_bestSecondMint 2 = .ok (.iconst 2, 1) := by decide +kernel
theorem dX5_bestSecondMint_3 : decode cX5_bestSecondMint 3 = .ok (.istore_n 2, 1) := by decide +kernel
theorem dX5_bestSecondMint_4 : decode cX5_bestSecondMint 4 = .ok (.iload_n 2, 1) := by decide +kernel
theorem dX5_bestSecondMint_5 : decode cX5_bestSecondMint 5 = .ok (.bipush 8, 2) := by decide +kernel
theorem dX5_bestSecondMint_7 : decode cX5_bestSecondMint 7 = .ok (.if_icmp .ge 24, 3) := by decide +kernel
theorem dX5_bestSecondMint_10 : decode cX5_bestSecondMint 10 = .ok (.aload_n 0, 1) := by decide +kernel
theorem dX5_bestSecondMint_11 : decode cX5_bestSecondMint 11 = .ok (.iload_n 2, 1) := by decide +kernel
theorem dX5_bestSecondMint_12 : decode cX5_bestSecondMint 12 = .ok (.invokevirtual 115, 3) := by decide +kernel
theorem dX5_bestSecondMint_15 : decode cX5_bestSecondMint 15 = .ok (.aload_n 0, 1) := by decide +kernel
theorem dX5_bestSecondMint_16 : decode cX5_bestSecondMint 16 = .ok (.iload_n 1, 1) := by decide +kernel
theorem dX5_bestSecondMint_17 : decode cX5_bestSecondMint 17 = .ok (.invokevirtual 115, 3) := by decide +kernel
theorem dX5_bestSecondMint_20 : decode cX5_bestSecondMint 20 = .ok (.if_icmp .ge 5, 3) := by decide +kernel
theorem dX5_bestSecondMint_23 : decode cX5_bestSecondMint 23 = .ok (.iload_n 2, 1) := by decide +kernel
theorem dX5_bestSecondMint_24 : decode cX5_bestSecondMint 24 = .ok (.istore_n 1, 1) := by decide +kernel
theorem dX5_bestSecondMint_25 : decode cX5_bestSecondMint 25 = .ok (.iinc 2 1, 3) := by decide +kernel
theorem dX5_bestSecondMint_28 : decode cX5_bestSecondMint 28 = .ok (.goto (-24), 3) := by decide +kernel
theorem dX5_bestSecondMint_31 : decode cX5_bestSecondMint 31 = .ok (.iload_n 1, 1) := by decide +kernel
theorem dX5_bestSecondMint_32 : decode cX5_bestSecondMint 32 = .ok (.ireturn, 1) := by decide +kernel
set_option maxRecDepth 20000 in
theorem ggX5_lateWithMint_X5_slackWithMint : GoodIn wsX5_lateWithMint wsX5_slackWithMint := goodIn_r _ [6, 7, 8, 9, 10, 11, 12, 13, 14, 15, 16, 5, 17, 18, 19, 20, 21, 22, 23, 24, 25, 26, 27, 28, 29, 30, 31, 32, 33, 34, 35, 36, 37, 38, 39, 40, 41, 45, 46, 47, 48, 49, 50, 51, 52] (by decide +kernel) (by decide +kernel)
set_option maxRecDepth 20000 in
theorem gX5_lateWithMint_X5_slackWithMint : GoodIn wsX5_lateWithMint (wsV RX5 100 RX5 yX5_slackWithMint wsX5_slackWithMint) := goodIn_app (goodIn_of _ (by decide +kernel)) ggX5_lateWithMint_X5_slackWithMint
set_option maxRecDepth 20000 in
theorem ggX5_lateWithMint_X5_isLate : GoodIn wsX5_lateWithMint wsX5_isLate := goodIn_r _ [44, 7] (by decide +kernel) (by decide +kernel)
set_option maxRecDepth 20000 in
theorem gX5_lateWithMint_X5_isLate : GoodIn wsX5_lateWithMint (va_wsS RX5 106 yX5_isLate wsX5_isLate) := goodIn_app (goodIn_of _ (by decide +kernel)) ggX5_lateWithMint_X5_isLate
theorem dX5_lateWithMint_0 : decode cX5_lateWithMint 0 = .ok (.iconst 0, 1) := by decide +kernel
theorem dX5_lateWithMint_1 : decode cX5_lateWithMint 1 = .ok (.istore_n 2, 1) := by decide +kernel
theorem dX5_lateWithMint_2 : decode cX5_lateWithMint 2 = .ok (.iconst 0, 1) := by decide +kernel
theorem dX5_lateWithMint_3 : decode cX5_lateWithMint 3 = .ok (.istore_n 3, 1) := by decide +kernel
theorem dX5_lateWithMint_4 : decode cX5_lateWithMint 4 = .ok (.iload_n 3, 1) := by decide +kernel
theorem dX5_lateWithMint_5 : decode cX5_lateWithMint 5 = .ok (.aload_n 0, 1) := by decide +kernel
theorem dX5_lateWithMint_6 : decode cX5_lateWithMint 6 = .ok (.getfield 35, 3) := by decide +kernel
theorem dX5_lateWithMint_9 : decode cX5_lateWithMint 9 = .ok (.if_icmp .ge 24, 3) := by decide +kernel
theorem dX5_lateWithMint_12 : decode cX5_lateWithMint 12 = .ok (.aload_n 0, 1) := by decide +kernel
theorem dX5_lateWithMint_13 : decode cX5_lateWithMint 13 = .ok (.iload_n 3, 1) := by decide +kernel
theorem dX5_lateWithMint_14 : decode cX5_lateWithMint 14 = .ok (.iload_n 1, 1) := by decide +kernel
theorem dX5_lateWithMint_15 : decode cX5_lateWithMint 15 = .ok (.invokevirtual 100, 3) := by decide +kernel
theorem dX5_lateWithMint_18 : decode cX5_lateWithMint 18 = .ok (.invokestatic 106, 3) := by decide +kernel
theorem dX5_lateWithMint_21 : decode cX5_lateWithMint 21 = .ok (.ifCond .eq 6, 3) := by decide +kernel
theorem dX5_lateWithMint_24 : decode cX5_lateWithMint 24 = .ok (.iinc 2 1, 3) := by decide +kernel
theorem dX5_lateWithMint_27 : decode cX5_lateWithMint 27 = .ok (.iinc 3 1, 3) := by decide +kernel
theorem dX5_lateWithMint_30 : decode cX5_lateWithMint 30 = .ok (.goto (-26), 3) := by decide +kernel
theorem dX5_lateWithMint_33 : decode cX5_lateWithMint 33 = .ok (.iload_n 2, 1) := by decide +kernel
theorem dX5_lateWithMint_34 : decode cX5_lateWithMint 34 = .ok (.ireturn, 1) := by decide +kernel
set_option maxRecDepth 20000 in
theorem ggX5_soundingIn_X5_withHolder : GoodIn wsX5_soundingIn wsX5_withHolder := goodIn_r _ [6, 7, 8, 9, 5, 10, 11, 35, 36, 37, 38, 39, 40, 41, 42] (by decide +kernel) (by decide +kernel)
set_option maxRecDepth 20000 in
theorem gX5_soundingIn_X5_withHolder : GoodIn wsX5_soundingIn (wsV RX5 67 RX5 yX5_withHolder wsX5_withHolder) := goodIn_app (goodIn_of _ (by decide +kernel)) ggX5_soundingIn_X5_withHolder
set_option maxRecDepth 20000 in
theorem ggX5_soundingIn_X5_townOf : GoodIn wsX5_soundingIn wsX5_townOf := goodIn_r _ [15, 16, 7, 8, 9, 5, 10, 11, 35, 36, 37, 38, 39, 40, 41, 42] (by decide +kernel) (by decide +kernel)
set_option maxRecDepth 20000 in
theorem gX5_soundingIn_X5_townOf : GoodIn wsX5_soundingIn (wsV RX5 71 RX5 yX5_townOf wsX5_townOf) := goodIn_app (goodIn_of _ (by decide +kernel)) ggX5_soundingIn_X5_townOf
set_option maxRecDepth 20000 in
theorem ggX5_soundingIn_X5_soundsAfter : GoodIn wsX5_soundingIn wsX5_soundsAfter := goodIn_r _ [20, 21, 22, 23, 5, 24, 7, 8, 9, 10, 11, 25, 26, 27, 28, 29, 30, 31, 32, 33, 34, 35, 36, 37, 38, 39, 40, 41, 42] (by decide +kernel) (by decide +kernel)
set_option maxRecDepth 20000 in
theorem gX5_soundingIn_X5_soundsAfter : GoodIn wsX5_soundingIn (wsV RX5 118 RX5 yX5_soundsAfter wsX5_soundsAfter) := goodIn_app (goodIn_of _ (by decide +kernel)) ggX5_soundingIn_X5_soundsAfter
theorem dX5_soundingIn_0 : decode cX5_soundingIn 0 = .ok (.iconst 0, 1) := by decide +kernel
theorem dX5_soundingIn_1 : decode cX5_soundingIn 1 = .ok (.istore_n 3, 1) := by decide +kernel
theorem dX5_soundingIn_2 : decode cX5_soundingIn 2 = .ok (.iconst 0, 1) := by decide +kernel
theorem dX5_soundingIn_3 : decode cX5_soundingIn 3 = .ok (.istore 4, 2) := by decide +kernel
theorem dX5_soundingIn_5 : decode cX5_soundingIn 5 = .ok (.iload 4, 2) := by decide +kernel
theorem dX5_soundingIn_7 : decode cX5_soundingIn 7 = .ok (.aload_n 0, 1) := by decide +kernel
theorem dX5_soundingIn_8 : decode cX5_soundingIn 8 = .ok (.getfield 35, 3) := by decide +kernel
theorem dX5_soundingIn_11 : decode cX5_soundingIn 11 = .ok (.if_icmp .ge 41, 3) := by decide +kernel
theorem dX5_soundingIn_14 : decode cX5_soundingIn 14 = .ok (.aload_n 0, 1) := by decide +kernel
theorem dX5_soundingIn_15 : decode cX5_soundingIn 15 = .ok (.iload 4, 2) := by decide +kernel
theorem dX5_soundingIn_17 : decode cX5_soundingIn 17 = .ok (.invokevirtual 67, 3) := by decide +kernel
theorem dX5_soundingIn_20 : decode cX5_soundingIn 20 = .ok (.ifCond .eq 26, 3) := by decide +kernel
theorem dX5_soundingIn_23 : decode cX5_soundingIn 23 = .ok (.aload_n 0, 1) := by decide +kernel
theorem dX5_soundingIn_24 : decode cX5_soundingIn 24 = .ok (.iload 4, 2) := by decide +kernel
theorem dX5_soundingIn_26 : decode cX5_soundingIn 26 = .ok (.invokevirtual 71, 3) := by decide +kernel
theorem dX5_soundingIn_29 : decode cX5_soundingIn 29 = .ok (.iload_n 1, 1) := by decide +kernel
theorem dX5_soundingIn_30 : decode cX5_soundingIn 30 = .ok (.if_icmp .ne 16, 3) := by decide +kernel
theorem dX5_soundingIn_33 : decode cX5_soundingIn 33 = .ok (.aload_n 0, 1) := by decide +kernel
theorem dX5_soundingIn_34 : decode cX5_soundingIn 34 = .ok (.iload 4, 2) := by decide +kernel
theorem dX5_soundingIn_36 : decode cX5_soundingIn 36 = .ok (.iload_n 2, 1) := by decide +kernel
theorem dX5_soundingIn_37 : decode cX5_soundingIn 37 = .ok (.invokevirtual 118, 3) := by decide +kernel
theorem dX5_soundingIn_40 : decode cX5_soundingIn 40 = .ok (.ifCond .eq 6, 3) := by decide +kernel
theorem dX5_soundingIn_43 : decode cX5_soundingIn 43 = .ok (.iinc 3 1, 3) := by decide +kernel
theorem dX5_soundingIn_46 : decode cX5_soundingIn 46 = .ok (.iinc 4 1, 3) := by decide +kernel
theorem dX5_soundingIn_49 : decode cX5_soundingIn 49 = .ok (.goto (-44), 3) := by decide +kernel
theorem dX5_soundingIn_52 : decode cX5_soundingIn 52 = .ok (.iload_n 3, 1) := by decide +kernel
theorem dX5_soundingIn_53 : decode cX5_soundingIn 53 = .ok (.ireturn, 1) := by decide +kernel
set_option maxRecDepth 20000 in
theorem ggX5_soundsAfter_X5_dumb : GoodIn wsX5_soundsAfter wsX5_dumb := goodIn_r _ [5, 6, 7, 8, 4, 9, 10, 21, 22, 23, 24, 25, 26, 27, 28] (by decide +kernel) (by decide +kernel)
set_option maxRecDepth 20000 in
theorem gX5_soundsAfter_X5_dumb : GoodIn wsX5_soundsAfter (wsV RX5 78 RX5 yX5_dumb wsX5_dumb) := goodIn_app (goodIn_of _ (by decide +kernel)) ggX5_soundsAfter_X5_dumb
set_option maxRecDepth 20000 in
theorem ggX5_soundsAfter_X5_forged : GoodIn wsX5_soundsAfter wsX5_forged := goodIn_r _ [14, 15, 21, 22, 23, 24, 25, 26, 27, 28] (by decide +kernel) (by decide +kernel)
set_option maxRecDepth 20000 in
theorem gX5_soundsAfter_X5_forged : GoodIn wsX5_soundsAfter (wsV RX5 88 RX5 yX5_forged wsX5_forged) := goodIn_app (goodIn_of _ (by decide +kernel)) ggX5_soundsAfter_X5_forged
set_option maxRecDepth 20000 in
theorem ggX5_soundsAfter_X5_about : GoodIn wsX5_soundsAfter wsX5_about := goodIn_r _ [9, 10, 21, 22, 23, 24, 25, 26, 27, 28] (by decide +kernel) (by decide +kernel)
set_option maxRecDepth 20000 in
theorem gX5_soundsAfter_X5_about : GoodIn wsX5_soundsAfter (wsV RX5 62 RX5 yX5_about wsX5_about) := goodIn_app (goodIn_of _ (by decide +kernel)) ggX5_soundsAfter_X5_about
set_option maxRecDepth 20000 in
theorem ggX5_soundsAfter_X5_spanOf : GoodIn wsX5_soundsAfter wsX5_spanOf := goodIn_r _ [19, 15, 20, 21, 22, 23, 24, 25, 26, 27, 28] (by decide +kernel) (by decide +kernel)
set_option maxRecDepth 20000 in
theorem gX5_soundsAfter_X5_spanOf : GoodIn wsX5_soundsAfter (wsV RX5 91 RX5 yX5_spanOf wsX5_spanOf) := goodIn_app (goodIn_of _ (by decide +kernel)) ggX5_soundsAfter_X5_spanOf
theorem dX5_soundsAfter_0 : decode cX5_soundsAfter 0 = .ok (.aload_n 0, 1) := by decide +kernel
theorem dX5_soundsAfter_1 : decode cX5_soundsAfter 1 = .ok (.iload_n 1, 1) := by decide +kernel
theorem dX5_soundsAfter_2 : decode cX5_soundsAfter 2 = .ok (.invokevirtual 78, 3) := by decide +kernel
theorem dX5_soundsAfter_5 : decode cX5_soundsAfter 5 = .ok (.ifCond .eq 5, 3) := by decide +kernel
theorem dX5_soundsAfter_8 : decode cX5_soundsAfter 8 = .ok (.iconst 0, 1) := by decide +kernel
theorem dX5_soundsAfter_9 : decode cX5_soundsAfter 9 = .ok (.ireturn, 1) := by decide +kernel
theorem dX5_soundsAfter_10 : decode cX5_soundsAfter 10 = .ok (.aload_n 0, 1) := by decide +kernel
theorem dX5_soundsAfter_11 : decode cX5_soundsAfter 11 = .ok (.iload_n 1, 1) := by decide +kernel
theorem dX5_soundsAfter_12 : decode cX5_soundsAfter 12 = .ok (.invokevirtual 88, 3) := by decide +kernel
theorem dX5_soundsAfter_15 : decode cX5_soundsAfter 15 = .ok (.ifCond .ne 23, 3) := by decide +kernel
theorem dX5_soundsAfter_18 : decode cX5_soundsAfter 18 = .ok (.iload_n 2, 1) := by decide +kernel
theorem dX5_soundsAfter_19 : decode cX5_soundsAfter 19 = .ok (.ifCond .eq 19, 3) := by decide +kernel
theorem dX5_soundsAfter_22 : decode cX5_soundsAfter 22 = .ok (.aload_n 0, 1) := by decide +kernel
theorem dX5_soundsAfter_23 : decode cX5_soundsAfter 23 = .ok (.iload_n 1, 1) := by decide +kernel
theorem dX5_soundsAfter_24 : decode cX5_soundsAfter 24 = .ok (.iconst 1, 1) := by decide +kernel
theorem dX5_soundsAfter_25 : decode cX5_soundsAfter 25 = .ok (.invokevirtual 62, 3) := by decide +kernel
theorem dX5_soundsAfter_28 : decode cX5_soundsAfter 28 = .ok (.iload_n 2, 1) := by decide +kernel
theorem dX5_soundsAfter_29 : decode cX5_soundsAfter 29 = .ok (.iadd, 1) := by decide +kernel
theorem dX5_soundsAfter_30 : decode cX5_soundsAfter 30 = .ok (.aload_n 0, 1) := by decide +kernel
theorem dX5_soundsAfter_31 : decode cX5_soundsAfter 31 = .ok (.iload_n 1, 1) := by decide +kernel
theorem dX5_soundsAfter_32 : decode cX5_soundsAfter 32 = .ok (.invokevirtual 91, 3) := by decide +kernel
theorem dX5_soundsAfter_35 : decode cX5_soundsAfter 35 = .ok (.if_icmp .gt 7, 3) := by decide +kernel
theorem dX5_soundsAfter_38 : decode cX5_soundsAfter 38 = .ok (.iconst 1, 1) := by decide +kernel
theorem dX5_soundsAfter_39 : decode cX5_soundsAfter 39 = .ok (.goto 4, 3) := by decide +kernel
theorem dX5_soundsAfter_42 : decode cX5_soundsAfter 42 = .ok (.iconst 0, 1) := by decide +kernel
theorem dX5_soundsAfter_43 : decode cX5_soundsAfter 43 = .ok (.ireturn, 1) := by decide +kernel
theorem dX6_init_0 : decode cX6_init 0 = .ok (.aload_n 0, 1) := by decide +kernel
theorem dX6_init_1 : decode cX6_init 1 = .ok (.invokespecial 1, 3) := by decide +kernel
theorem dX6_init_4 : decode cX6_init 4 = .ok (.aload_n 0, 1) := by decide +kernel
theorem dX6_init_5 : decode cX6_init 5 = .ok (.bipush 40, 2) := by decide +kernel
theorem dX6_init_7 : decode cX6_init 7 = .ok (.newarray .int, 2) := by decide +kernel
theorem dX6_init_9 : decode cX6_init 9 = .ok (.putfield 9, 3) := by decide +kernel
theorem dX6_init_12 : decode cX6_init 12 = .ok (.aload_n 0, 1) := by decide +kernel
theorem dX6_init_13 : decode cX6_init 13 = .ok (.iconst (-1), 1) := by decide +kernel
theorem dX6_init_14 : decode cX6_init 14 = .ok (.putfield 13, 3) := by decide +kernel
theorem dX6_init_17 : decode cX6_init 17 = .ok (.aload_n 0, 1) := by decide +kernel
theorem dX6_init_18 : decode cX6_init 18 = .ok (.iconst 0, 1) := by decide +kernel
theorem dX6_init_19 : decode cX6_init 19 = .ok (.putfield 17, 3) := by decide +kernel
theorem dX6_init_22 : decode cX6_init 22 = .ok (.return_, 1) := by decide +kernel
theorem dX6_missing_0 : decode cX6_missing 0 = .ok (.aload_n 0, 1) := by decide +kernel
theorem dX6_missing_1 : decode cX6_missing 1 = .ok (.getfield 13, 3) := by decide +kernel
theorem dX6_missing_4 : decode cX6_missing 4 = .ok (.iconst (-1), 1) := by decide +kernel
theorem dX6_missing_5 : decode cX6_missing 5 = .ok (.if_icmp .ne 7, 3) := by decide +kernel
theorem dX6_missing_8 : decode cX6_missing 8 = .ok (.iconst 1, 1) := by decide +kernel
theorem dX6_missing_9 : decode cX6_missing 9 = .ok (.goto 4, 3) := by decide +kernel
theorem dX6_missing_12 : decode cX6_missing 12 = .ok (.iconst 0, 1) := by decide +kernel
theorem dX6_missing_13 : decode cX6_missing 13 = .ok (.ireturn, 1) := by decide +kernel
set_option maxRecDepth 20000 in
theorem ggX6_lay_J7_fill_53178 : GoodIn wsX6_lay wsJ7_fill_53178 := goodIn_r _ [7] (by decide +kernel) (by decide +kernel)
set_option maxRecDepth 20000 in
theorem gX6_lay_J7_fill_53178 : GoodIn wsX6_lay (va_wsS RX6 20 yJ7_fill_53178 wsJ7_fill_53178) := goodIn_app (goodIn_of _ (by decide +kernel)) ggX6_lay_J7_fill_53178
theorem dX6_lay_0 : decode cX6_lay 0 = .ok (.aload_n 0, 1) := by decide +kernel
theorem dX6_lay_1 : decode cX6_lay 1 = .ok (.getfield 9, 3) := by decide +kernel
theorem dX6_lay_4 : decode cX6_lay 4 = .ok (.iconst 0, 1) := by decide +kernel
theorem dX6_lay_5 : decode cX6_lay 5 = .ok (.invokestatic 20, 3) := by decide +kernel
theorem dX6_lay_8 : decode cX6_lay 8 = .ok (.aload_n 0, 1) := by decide +kernel
theorem dX6_lay_9 : decode cX6_lay 9 = .ok (.iload_n 1, 1) := by decide +kernel
theorem dX6_lay_10 : decode cX6_lay 10 = .ok (.putfield 13, 3) := by decide +kernel
theorem dX6_lay_13 : decode cX6_lay 13 = .ok (.aload_n 0, 1) := by decide +kernel
theorem dX6_lay_14 : decode cX6_lay 14 = .ok (.iload_n 2, 1) := by decide +kernel
theorem dX6_lay_15 : decode cX6_lay 15 = .ok (.putfield 17, 3) := by decide +kernel
theorem dX6_lay_18 : decode cX6_lay 18 = .ok (.return_, 1) := by decide +kernel
theorem dX6_takeAway_0 : decode cX6_takeAway 0 = .ok (.aload_n 0, 1) := by decide +kernel
theorem dX6_takeAway_1 : decode cX6_takeAway 1 = .ok (.iconst (-1), 1) := by decide +kernel
theorem dX6_takeAway_2 : decode cX6_takeAway 2 = .ok (.putfield 13, 3) := by decide +kernel
theorem dX6_takeAway_5 : decode cX6_takeAway 5 = .ok (.aload_n 0, 1) := by decide +kernel
theorem dX6_takeAway_6 : decode cX6_takeAway 6 = .ok (.iconst 0, 1) := by decide +kernel
theorem dX6_takeAway_7 : decode cX6_takeAway 7 = .ok (.putfield 17, 3) := by decide +kernel
theorem dX6_takeAway_10 : decode cX6_takeAway 10 = .ok (.return_, 1) := by decide +kernel
theorem dX6_holds_0 : decode cX6_holds 0 = .ok (.iload_n 1, 1) := by decide +kernel
theorem dX6_holds_1 : decode cX6_holds 1 = .ok (.ifCond .lt 25, 3) := by decide +kernel
theorem dX6_holds_4 : decode cX6_holds 4 = .ok (.iload_n 2, 1) := by decide +kernel
theorem dX6_holds_5 : decode cX6_holds 5 = .ok (.ifCond .lt 21, 3) := by decide +kernel
theorem dX6_holds_8 : decode cX6_holds 8 = .ok (.iload_n 1, 1) := by decide +kernel
theorem dX6_holds_9 : decode cX6_holds 9 = .ok (.i2l, 1) := by decide +kernel
theorem dX6_holds_10 : decode cX6_holds 10 = .ok (.iload_n 2, 1) := by decide +kernel
theorem dX6_holds_11 : decode cX6_holds 11 = .ok (.i2l, 1) := by decide +kernel
theorem dX6_holds_12 : decode cX6_holds 12 = .ok (.ladd, 1) := by decide +kernel
theorem dX6_holds_13 : decode cX6_holds 13 = .ok (.aload_n 0, 1) := by decide +kernel
theorem dX6_holds_14 : decode cX6_holds 14 = .ok (.getfield 17, 3) := by decide +kernel
theorem dX6_holds_17 : decode cX6_holds 17 = .ok (.i2l, 1) := by decide +kernel
theorem dX6_holds_18 : decode cX6_holds 18 = .ok (.lcmp, 1) := by decide +kernel
theorem dX6_holds_19 : decode cX6_holds 19 = .ok (.ifCond .gt 7, 3) := by decide +kernel
theorem dX6_holds_22 : decode cX6_holds 22 = .ok (.iconst 1, 1) := by decide +kernel
theorem dX6_holds_23 : decode cX6_holds 23 = .ok (.goto 4, 3) := by decide +kernel
theorem dX6_holds_26 : decode cX6_holds 26 = .ok (.iconst 0, 1) := by decide +kernel
theorem dX6_holds_27 : decode cX6_holds 27 = .ok (.ireturn, 1) := by decide +kernel
theorem dX6_put_0 : decode cX6_put 0 = .ok (.iload_n 2, 1) := by decide +kernel
theorem dX6_put_1 : decode cX6_put 1 = .ok (.istore_n 3, 1) := by decide +kernel
theorem dX6_put_2 : decode cX6_put 2 = .ok (.aload_n 0, 1) := by decide +kernel
theorem dX6_put_3 : decode cX6_put 3 = .ok (.getfield 13, 3) := by decide +kernel
theorem dX6_put_6 : decode cX6_put 6 = .ok (.ifCond .ne 9, 3) := by decide +kernel
theorem dX6_put_9 : decode cX6_put 9 = .ok (.iload_n 2, 1) := by decide +kernel
theorem dX6_put_10 : decode cX6_put 10 = .ok (.i2b, 1) := by decide +kernel
theorem dX6_put_11 : decode cX6_put 11 = .ok (.istore_n 3, 1) := by decide +kernel
theorem dX6_put_12 : decode cX6_put 12 = .ok (.goto 14, 3) := by decide +kernel
theorem dX6_put_15 : decode cX6_put 15 = .ok (.aload_n 0, 1) := by decide +kernel
theorem dX6_put_16 : decode cX6_put 16 = .ok (.getfield 13, 3) := by decide +kernel
theorem dX6_put_19 : decode cX6_put 19 = .ok (.iconst 1, 1) := by decide +kernel
theorem dX6_put_20 : decode cX6_put 20 = .ok (.if_icmp .ne 6, 3) := by decide +kernel
theorem dX6_put_23 : decode cX6_put 23 = .ok (.iload_n 2, 1) := by decide +kernel
theorem dX6_put_24 : decode cX6_put 24 = .ok (.i2s, 1) := by decide +kernel
theorem dX6_put_25 : decode cX6_put 25 = .ok (.istore_n 3, 1) := by decide +kernel
theorem dX6_put_26 : decode cX6_put 26 = .ok (.aload_n 0, 1) := by decide +kernel
theorem dX6_put_27 : decode cX6_put 27 = .ok (.getfield 9, 3) := by decide +kernel
theorem dX6_put_30 : decode cX6_put 30 = .ok (.iload_n 1, 1) := by decide +kernel
theorem dX6_put_31 : decode cX6_put 31 = .ok (.iload_n 3, 1) := by decide +kernel
theorem dX6_put_32 : decode cX6_put 32 = .ok (.iastore, 1) := by decide +kernel
theorem dX6_put_33 : decode cX6_put 33 = .ok (.iload_n 3, 1) := by decide +kernel
theorem dX6_put_34 : decode cX6_put 34 = .ok (.ireturn, 1) := by decide +kernel
theorem dX7_init_0 : decode cX7_init 0 = .ok (.aload_n 0, 1) := by decide +kernel
theorem dX7_init_1 : decode cX7_init 1 = .ok (.invokespecial 1, 3) := by decide +kernel
theorem dX7_init_4 : decode cX7_init 4 = .ok (.aload_n 0, 1) := by decide +kernel
theorem dX7_init_5 : decode cX7_init 5 = .ok (.sipush 500, 3) := by decide +kernel
theorem dX7_init_8 : decode cX7_init 8 = .ok (.newarray .byte, 2) := by decide +kernel
theorem dX7_init_10 : decode cX7_init 10 = .ok (.putfield 9, 3) := by decide +kernel
theorem dX7_init_13 : decode cX7_init 13 = .ok (.aload_n 0, 1) := by decide +kernel
theorem dX7_init_14 : decode cX7_init 14 = .ok (.iconst 0, 1) := by decide +kernel
theorem dX7_init_15 : decode cX7_init 15 = .ok (.putfield 13, 3) := by decide +kernel
theorem dX7_init_18 : decode cX7_init 18 = .ok (.aload_n 0, 1) := by decide +kernel
theorem dX7_init_19 : decode cX7_init 19 = .ok (.iconst 0, 1) := by decide +kernel
theorem dX7_init_20 : decode cX7_init 20 = .ok (.putfield 17, 3) := by decide +kernel
theorem dX7_init_23 : decode cX7_init 23 = .ok (.aload_n 0, 1) := by decide +kernel
theorem dX7_init_24 : decode cX7_init 24 = .ok (.iconst 0, 1) := by decide +kernel
theorem dX7_init_25 : decode cX7_init 25 = .ok (.putfield 20, 3) := by decide +kernel
theorem dX7_init_28 : decode cX7_init 28 = .ok (.aload_n 0, 1) := by decide +kernel
theorem dX7_init_29 : decode cX7_init 29 = .ok (.iconst 0, 1) := by decide +kernel
theorem dX7_init_30 : decode cX7_init 30 = .ok (.putfield 23, 3) := by decide +kernel
theorem dX7_init_33 : decode cX7_init 33 = .ok (.aload_n 0, 1) := by decide +kernel
theorem dX7_init_34 : decode cX7_init 34 = .ok (.iconst 0, 1) := by decide +kernel
theorem dX7_init_35 : decode cX7_init 35 = .ok (.putfield 26, 3) := by decide +kernel
theorem dX7_init_38 : decode cX7_init 38 = .ok (.return_, 1) := by decide +kernel
theorem dX7_append_0 : decode cX7_append 0 = .ok (.iload_n 3, 1) := by decide +kernel
theorem dX7_append_1 : decode cX7_append 1 = .ok (.iconst 1, 1) := by decide +kernel
theorem dX7_append_2 : decode cX7_append 2 = .ok (.isub, 1) := by decide +kernel
theorem dX7_append_3 : decode cX7_append 3 = .ok (.istore 4, 2) := by decide +kernel
theorem dX7_append_5 : decode cX7_append 5 = .ok (.iload 4, 2) := by decide +kernel
theorem dX7_append_7 : decode cX7_append 7 = .ok (.ifCond .lt 37, 3) := by decide +kernel
theorem dX7_append_10 : decode cX7_append 10 = .ok (.aload_n 0, 1) := by decide +kernel
theorem dX7_append_11 : decode cX7_append 11 = .ok (.getfield 9, 3) := by decide +kernel
theorem dX7_append_14 : decode cX7_append 14 = .ok (.aload_n 0, 1) := by decide +kernel
theorem dX7_append_15 : decode cX7_append 15 = .ok (.getfield 13, 3) := by decide +kernel
theorem dX7_append_18 : decode cX7_append 18 = .ok (.lload_n 1, 1) := by decide +kernel
theorem dX7_append_19 : decode cX7_append 19 = .ok (.bipush 8, 2) := by decide +kernel
theorem dX7_append_21 : decode cX7_append 21 = .ok (.iload 4, 2) := by decide +kernel
theorem dX7_append_23 : decode cX7_append 23 = .ok (.imul, 1) := by decide +kernel
theorem dX7_append_24 : decode cX7_append 24 = .ok (.lushr, 1) := by decide +kernel
theorem dX7_append_25 : decode cX7_append 25 = .ok (.l2i, 1) := by decide +kernel
theorem dX7_append_26 : decode cX7_append 26 = .ok (.i2b, 1) := by decide +kernel
theorem dX7_append_27 : decode cX7_append 27 = .ok (.bastore, 1) := by decide +kernel
theorem dX7_append_28 : decode cX7_append 28 = .ok (.aload_n 0, 1) := by decide +kernel
theorem dX7_append_29 : decode cX7_append 29 = .ok (.dup, 1) := by decide +kernel
theorem dX7_append_30 : decode cX7_append 30 = .ok (.getfield 13, 3) := by decide +kernel
theorem dX7_append_33 : decode cX7_append 33 = .ok (.iconst 1, 1) := by decide +kernel
theorem dX7_append_34 : decode cX7_append 34 = .ok (.iadd, 1) := by decide +kernel
theorem dX7_append_35 : decode cX7_append 35 = .ok (.putfield 13, 3) := by decide +kernel
theorem dX7_append_38 : decode cX7_append 38 = .ok (.iinc 4 (-1), 3) := by decide +kernel
theorem dX7_append_41 : decode cX7_append 41 = .ok (.goto (-36), 3) := by decide +kernel
theorem dX7_append_44 : decode cX7_append 44 = .ok (.return_, 1) := by decide +kernel
theorem dX7_empty_0 : decode cX7_empty 0 = .ok (.aload_n 0, 1) := by decide +kernel
theorem dX7_empty_1 : decode cX7_empty 1 = .ok (.iconst 0, 1) := by decide +kernel
theorem dX7_empty_2 : decode cX7_empty 2 = .ok (.putfield 13, 3) := by decide +kernel
theorem dX7_empty_5 : decode cX7_empty 5 = .ok (.return_, 1) := by decide +kernel
set_option maxRecDepth 20000 in
theorem ggX7_rewind_X7_step : GoodIn wsX7_rewind wsX7_step := goodIn_r _ [6, 1, 7, 8, 9, 10, 11, 12, 5, 13, 14, 15, 16, 17, 18, 19, 20, 21, 22, 23, 24, 25] (by decide +kernel) (by decide +kernel)
set_option maxRecDepth 20000 in
theorem gX7_rewind_X7_step : GoodIn wsX7_rewind (wsV RX7 29 RX7 yX7_step wsX7_step) := goodIn_app (goodIn_of _ (by decide +kernel)) ggX7_rewind_X7_step
theorem dX7_rewind_0 : decode cX7_rewind 0 = .ok (.aload_n 0, 1) := by decide +kernel
theorem dX7_rewind_1 : decode cX7_rewind 1 = .ok (.iconst 0, 1) := by decide +kernel
theorem dX7_rewind_2 : decode cX7_rewind 2 = .ok (.putfield 26, 3) := by decide +kernel
theorem dX7_rewind_5 : decode cX7_rewind 5 = .ok (.aload_n 0, 1) := by decide +kernel
theorem dX7_rewind_6 : decode cX7_rewind 6 = .ok (.invokevirtual 29, 3) := by decide +kernel
theorem dX7_rewind_9 : decode cX7_rewind 9 = .ok (.return_, 1) := by decide +kernel
set_option maxRecDepth 20000 in
theorem ggX7_step_X7_sortOfByte : GoodIn wsX7_step wsX7_sortOfByte := goodIn_r _ [9, 10, 16, 17, 18, 19, 20, 21] (by decide +kernel) (by decide +kernel)
set_option maxRecDepth 20000 in
theorem gX7_step_X7_sortOfByte : GoodIn wsX7_step (wsV RX7 32 RX7 yX7_sortOfByte wsX7_sortOfByte) := goodIn_app (goodIn_of _ (by decide +kernel)) ggX7_step_X7_sortOfByte
set_option maxRecDepth 20000 in
theorem ggX7_step_X7_weighFigures : GoodIn wsX7_step wsX7_weighFigures := goodIn_r _ [14, 1, 2, 4, 15, 10, 16, 17, 18, 19, 20, 21] (by decide +kernel) (by decide +kernel)
set_option maxRecDepth 20000 in
theorem gX7_step_X7_weighFigures : GoodIn wsX7_step (wsV RX7 36 RX7 yX7_weighFigures wsX7_weighFigures) := goodIn_app (goodIn_of _ (by decide +kernel)) ggX7_step_X7_weighFigures
theorem dX7_step_0 : decode cX7_step 0 = .ok (.aload_n 0, 1) := by decide +kernel
theorem dX7_step_1 : decode cX7_step 1 = .ok (.aload_n 0, 1) := by decide +kernel
theorem dX7_step_2 : decode cX7_step 2 = .ok (.getfield 26, 3) := by decide +kernel
theorem dX7_step_5 : decode cX7_step 5 = .ok (.putfield 20, 3) := by decide +kernel
theorem dX7_step_8 : decode cX7_step 8 = .ok (.aload_n 0, 1) := by decide +kernel
theorem dX7_step_9 : decode cX7_step 9 = .ok (.getfield 20, 3) := by decide +kernel
theorem dX7_step_12 : decode cX7_step 12 = .ok (.aload_n 0, 1) := by decide +kernel
theorem dX7_step_13 : decode cX7_step 13 = .ok (.getfield 13, 3) := by decide +kernel
theorem dX7_step_16 : decode cX7_step 16 = .ok (.if_icmp .ge 28, 3) := by decide +kernel
theorem dX7_step_19 : decode cX7_step 19 = .ok (.aload_n 0, 1) := by decide +kernel
theorem dX7_step_20 : decode cX7_step 20 = .ok (.aload_n 0, 1) := by decide +kernel
theorem dX7_step_21 : decode cX7_step 21 = .ok (.getfield 20, 3) := by decide +kernel
theorem dX7_step_24 : decode cX7_step 24 = .ok (.invokevirtual 32, 3) := by decide +kernel
theorem dX7_step_27 : decode cX7_step 27 = .ok (.iconst 5, 1) := by decide +kernel
theorem dX7_step_28 : decode cX7_step 28 = .ok (.if_icmp .ne 16, 3) := by decide +kernel
theorem dX7_step_31 : decode cX7_step 31 = .ok (.aload_n 0, 1) := by decide +kernel
theorem dX7_step_32 : decode cX7_step 32 = .ok (.dup, 1) := by decide +kernel
theorem dX7_step_33 : decode cX7_step 33 = .ok (.getfield 20, 3) := by decide +kernel
theorem dX7_step_36 : decode cX7_step 36 = .ok (.iconst 1, 1) := by decide +kernel
theorem dX7_step_37 : decode cX7_step 37 = .ok (.iadd, 1) := by decide +kernel
theorem dX7_step_38 : decode cX7_step 38 = .ok (.putfield 20, 3) := by decide +kernel
theorem dX7_step_41 : decode cX7_step 41 = .ok (.goto (-33), 3) := by decide +kernel
theorem dX7_step_44 : decode cX7_step 44 = .ok (.aload_n 0, 1) := by decide +kernel
theorem dX7_step_45 : decode cX7_step 45 = .ok (.aload_n 0, 1) := by decide +kernel
theorem dX7_step_46 : decode cX7_step 46 = .ok (.getfield 20, 3) := by decide +kernel
theorem dX7_step_49 : decode cX7_step 49 = .ok (.putfield 26, 3) := by decide +kernel
theorem dX7_step_52 : decode cX7_step 52 = .ok (.aload_n 0, 1) := by decide +kernel
theorem dX7_step_53 : decode cX7_step 53 = .ok (.aload_n 0, 1) := by decide +kernel
theorem dX7_step_54 : decode cX7_step 54 = .ok (.getfield 20, 3) := by decide +kernel
theorem dX7_step_57 : decode cX7_step 57 = .ok (.aload_n 0, 1) := by decide +kernel
theorem dX7_step_58 : decode cX7_step 58 = .ok (.getfield 13, 3) := by decide +kernel
theorem dX7_step_61 : decode cX7_step 61 = .ok (.if_icmp .ge 14, 3) := by decide +kernel
theorem dX7_step_64 : decode cX7_step 64 = .ok (.aload_n 0, 1) := by decide +kernel
theorem dX7_step_65 : decode cX7_step 65 = .ok (.aload_n 0, 1) := by decide +kernel
theorem dX7_step_66 : decode cX7_step 66 = .ok (.getfield 20, 3) := by decide +kernel
theorem dX7_step_69 : decode cX7_step 69 = .ok (.invokevirtual 32, 3) := by decide +kernel
theorem dX7_step_72 : decode cX7_step 72 = .ok (.goto 4, 3) := by decide +kernel
theorem dX7_step_75 : decode cX7_step 75 = .ok (.iconst 0, 1) := by decide +kernel
theorem dX7_step_76 : decode cX7_step 76 = .ok (.putfield 17, 3) := by decide +kernel
theorem dX7_step_79 : decode cX7_step 79 = .ok (.aload_n 0, 1) := by decide +kernel
theorem dX7_step_80 : decode cX7_step 80 = .ok (.getfield 17, 3) := by decide +kernel
theorem dX7_step_83 : decode cX7_step 83 = .ok (.iconst 1, 1) := by decide +kernel
theorem dX7_step_84 : decode cX7_step 84 = .ok (.if_icmp .eq 11, 3) := by decide +kernel
theorem dX7_step_87 : decode cX7_step 87 = .ok (.aload_n 0, 1) := by decide +kernel
theorem dX7_step_88 : decode cX7_step 88 = .ok (.getfield 17, 3) := by decide +kernel
theorem dX7_step_91 : decode cX7_step 91 = .ok (.iconst 2, 1) := by decide +kernel
theorem dX7_step_92 : decode cX7_step 92 = .ok (.if_icmp .ne 42, 3) := by decide +kernel
theorem dX7_step_95 : decode cX7_step 95 = .ok (.aload_n 0, 1) := by decide +kernel
theorem dX7_step_96 : decode cX7_step 96 = .ok (.getfield 26, 3) := by decide +kernel
theorem dX7_step_99 : decode cX7_step 99 = .ok (.aload_n 0, 1) := by decide +kernel
theorem dX7_step_100 : decode cX7_step 100 = .ok (.getfield 13, 3) := by decide +kernel
theorem dX7_step_103 : decode cX7_step 103 = .ok (.if_icmp .ge 48, 3) := by decide +kernel
theorem dX7_step_106 : decode cX7_step 106 = .ok (.aload_n 0, 1) := by decide +kernel
theorem dX7_step_107 : decode cX7_step 107 = .ok (.aload_n 0, 1) := by decide +kernel
theorem dX7_step_108 : decode cX7_step 108 = .ok (.getfield 26, 3) := by decide +kernel
theorem dX7_step_111 : decode cX7_step 111 = .ok (.invokevirtual 32, 3) := by decide +kernel
theorem dX7_step_114 : decode cX7_step 114 = .ok (.aload_n 0, 1) := by decide +kernel
theorem dX7_step_115 : decode cX7_step 115 = .ok (.getfield 17, 3) := by decide +kernel
theorem dX7_step_118 : decode cX7_step 118 = .ok (.if_icmp .ne 33, 3) := by decide +kernel
theorem dX7_step_121 : decode cX7_step 121 = .ok (.aload_n 0, 1) := by decide +kernel
theorem dX7_step_122 : decode cX7_step 122 = .ok (.dup, 1) := by decide +kernel
theorem dX7_step_123 : decode cX7_step 123 = .ok (.getfield 26, 3) := by decide +kernel
theorem dX7_step_126 : decode cX7_step 126 = .ok (.iconst 1, 1) := by decide +kernel
theorem dX7_step_127 : decode cX7_step 127 = .ok (.iadd, 1) := by decide +kernel
theorem dX7_step_128 : decode cX7_step 128 = .ok (.putfield 26, 3) := by decide +kernel
theorem dX7_step_131 : decode cX7_step 131 = .ok (.goto (-36), 3) := by decide +kernel
theorem dX7_step_134 : decode cX7_step 134 = .ok (.aload_n 0, 1) := by decide +kernel
theorem dX7_step_135 : decode cX7_step 135 = .ok (.getfield 17, 3) := by decide +kernel
theorem dX7_step_138 : decode cX7_step 138 = .ok (.ifCond .eq 13, 3) := by decide +kernel
theorem dX7_step_141 : decode cX7_step 141 = .ok (.aload_n 0, 1) := by decide +kernel
theorem dX7_step_142 : decode cX7_step 142 = .ok (.dup, 1) := by decide +kernel
theorem dX7_step_143 : decode cX7_step 143 = .ok (.getfield 26, 3) := by decide +kernel
theorem dX7_step_146 : decode cX7_step 146 = .ok (.iconst 1, 1) := by decide +kernel
theorem dX7_step_147 : decode cX7_step 147 = .ok (.iadd, 1) := by decide +kernel
theorem dX7_step_148 : decode cX7_step 148 = .ok (.putfield 26, 3) := by decide +kernel
theorem dX7_step_151 : decode cX7_step 151 = .ok (.aload_n 0, 1) := by decide +kernel
theorem dX7_step_152 : decode cX7_step 152 = .ok (.getfield 17, 3) := by decide +kernel
theorem dX7_step_155 : decode cX7_step 155 = .ok (.iconst 2, 1) := by decide +kernel
theorem dX7_step_156 : decode cX7_step 156 = .ok (.if_icmp .ne 7, 3) := by decide +kernel
theorem dX7_step_159 : decode cX7_step 159 = .ok (.aload_n 0, 1) := by decide +kernel
theorem dX7_step_160 : decode cX7_step 160 = .ok (.invokevirtual 36, 3) := by decide +kernel
theorem dX7_step_163 : decode cX7_step 163 = .ok (.return_, 1) := by decide +kernel
set_option maxRecDepth 20000 in
theorem ggX7_isWord_J0_length_8abf5 : GoodIn wsX7_isWord wsJ0_length_8abf5 := goodIn_r _ [9, 10, 11, 12, 13, 8, 14, 15, 16] (by decide +kernel) (by decide +kernel)
set_option maxRecDepth 20000 in
theorem gX7_isWord_J0_length_8abf5 : GoodIn wsX7_isWord (wsV RX7 39 RJ0 yJ0_length_8abf5 wsJ0_length_8abf5) := goodIn_app (goodIn_of _ (by decide +kernel)) ggX7_isWord_J0_length_8abf5
set_option maxRecDepth 20000 in
theorem ggX7_isWord_J0_charAt_5068e : GoodIn wsX7_isWord wsJ0_charAt_5068e := goodIn_r _ [20, 10, 21, 22, 23, 8, 24, 15, 16, 25, 26, 27, 28, 29, 30, 31, 32, 33, 34, 35, 36, 37, 38, 39, 40, 41, 42, 43, 44, 45, 46, 47, 48, 49, 50, 51, 52, 53] (by decide +kernel) (by decide +kernel)
set_option maxRecDepth 20000 in
theorem gX7_isWord_J0_charAt_5068e : GoodIn wsX7_isWord (wsV RX7 44 RJ0 yJ0_charAt_5068e wsJ0_charAt_5068e) := goodIn_app (goodIn_of _ (by decide +kernel)) ggX7_isWord_J0_charAt_5068e
theorem dX7_isWord_0 : decode cX7_isWord 0 = .ok (.aload_n 0, 1) := by decide +kernel
theorem dX7_isWord_1 : decode cX7_isWord 1 = .ok (.getfield 17, 3) := by decide +kernel
theorem dX7_isWord_4 : decode cX7_isWord 4 = .ok (.iconst 1, 1) := by decide +kernel
theorem dX7_isWord_5 : decode cX7_isWord 5 = .ok (.if_icmp .ne 19, 3) := by decide +kernel
theorem dX7_isWord_8 : decode cX7_isWord 8 = .ok (.aload_n 0, 1) := by decide +kernel
theorem dX7_isWord_9 : decode cX7_isWord 9 = .ok (.getfield 26, 3) := by decide +kernel
theorem dX7_isWord_12 : decode cX7_isWord 12 = .ok (.aload_n 0, 1) := by decide +kernel
theorem dX7_isWord_13 : decode cX7_isWord 13 = .ok (.getfield 20, 3) := by decide +kernel
theorem dX7_isWord_16 : decode cX7_isWord 16 = .ok (.isub, 1) := by decide +kernel
theorem dX7_isWord_17 : decode cX7_isWord 17 = .ok (.aload_n 1, 1) := by decide +kernel
theorem dX7_isWord_18 : decode cX7_isWord 18 = .ok (.invokevirtual 39, 3) := by decide +kernel
theorem dX7_isWord_21 : decode cX7_isWord 21 = .ok (.if_icmp .eq 5, 3) := by decide +kernel
theorem dX7_isWord_24 : decode cX7_isWord 24 = .ok (.iconst 0, 1) := by decide +kernel
theorem dX7_isWord_25 : decode cX7_isWord 25 = .ok (.ireturn, 1) := by decide +kernel
theorem dX7_isWord_26 : decode cX7_isWord 26 = .ok (.iconst 0, 1) := by decide +kernel
theorem dX7_isWord_27 : decode cX7_isWord 27 = .ok (.istore_n 2, 1) := by decide +kernel
theorem dX7_isWord_28 : decode cX7_isWord 28 = .ok (.iload_n 2, 1) := by decide +kernel
theorem dX7_isWord_29 : decode cX7_isWord 29 = .ok (.aload_n 1, 1) := by decide +kernel
theorem dX7_isWord_30 : decode cX7_isWord 30 = .ok (.invokevirtual 39, 3) := by decide +kernel
theorem dX7_isWord_33 : decode cX7_isWord 33 = .ok (.if_icmp .ge 30, 3) := by decide +kernel
theorem dX7_isWord_36 : decode cX7_isWord 36 = .ok (.aload_n 0, 1) := by decide +kernel
theorem dX7_isWord_37 : decode cX7_isWord 37 = .ok (.getfield 9, 3) := by decide +kernel
theorem dX7_isWord_40 : decode cX7_isWord 40 = .ok (.aload_n 0, 1) := by decide +kernel
theorem dX7_isWord_41 : decode cX7_isWord 41 = .ok (.getfield 20, 3) := by decide +kernel
theorem dX7_isWord_44 : decode cX7_isWord 44 = .ok (.iload_n 2, 1) := by decide +kernel
theorem dX7_isWord_45 : decode cX7_isWord 45 = .ok (.iadd, 1) := by decide +kernel
theorem dX7_isWord_46 : decode cX7_isWord 46 = .ok (.baload, 1) := by decide +kernel
theorem dX7_isWord_47 : decode cX7_isWord 47 = .ok (.aload_n 1, 1) := by decide +kernel
theorem dX7_isWord_48 : decode cX7_isWord 48 = .ok (.iload_n 2, 1) := by decide +kernel
theorem dX7_isWord_49 : decode cX7_isWord 49 = .ok (.invokevirtual 44, 3) := by decide +kernel
theorem dX7_isWord_52 : decode cX7_isWord 52 = .ok (.if_icmp .eq 5, 3) := by decide +kernel
theorem dX7_isWord_55 : decode cX7_isWord 55 = .ok (.iconst 0, 1) := by decide +kernel
theorem dX7_isWord_56 : decode cX7_isWord 56 = .ok (.ireturn, 1) := by decide +kernel
theorem dX7_isWord_57 : decode cX7_isWord 57 = .ok (.iinc 2 1, 3) := by decide +kernel
theorem dX7_isWord_60 : decode cX7_isWord 60 = .ok (.goto (-32), 3) := by decide +kernel
theorem dX7_isWord_63 : decode cX7_isWord 63 = .ok (.iconst 1, 1) := by decide +kernel
theorem dX7_isWord_64 : decode cX7_isWord 64 = .ok (.ireturn, 1) := by decide +kernel
theorem dX7_weighFigures_0 : decode cX7_weighFigures 0 = .ok (.aload_n 0, 1) := by decide +kernel
theorem dX7_weighFigures_1 : decode cX7_weighFigures 1 = .ok (.getfield 26, 3) := by decide +kernel
theorem dX7_weighFigures_4 : decode cX7_weighFigures 4 = .ok (.aload_n 0, 1) := by decide +kernel
theorem dX7_weighFigures_5 : decode cX7_weighFigures 5 = .ok (.getfield 20, 3) := by decide +kernel
theorem dX7_weighFigures_8 : decode cX7_weighFigures 8 = .ok (.isub, 1) := by decide +kernel
theorem dX7_weighFigures_9 : decode cX7_weighFigures 9 = .ok (.iconst 3, 1) := by decide +kernel
theorem dX7_weighFigures_10 : decode cX7_weighFigures 10 = .ok (.if_icmp .le 9, 3) := by decide +kernel
theorem dX7_weighFigures_13 : decode cX7_weighFigures 13 = .ok (.aload_n 0, 1) := by decide +kernel
theorem dX7_weighFigures_14 : decode cX7_weighFigures 14 = .ok (.iconst 4, 1) := by decide +kernel
theorem dX7_weighFigures_15 : decode cX7_weighFigures 15 = .ok (.putfield 17, 3) := by decide +kernel
theorem dX7_weighFigures_18 : decode cX7_weighFigures 18 = .ok (.return_, 1) := by decide +kernel
theorem dX7_weighFigures_19 : decode cX7_weighFigures 19 = .ok (.aload_n 0, 1) := by decide +kernel
theorem dX7_weighFigures_20 : decode cX7_weighFigures 20 = .ok (.iconst 0, 1) := by decide +kernel
theorem dX7_weighFigures_21 : decode cX7_weighFigures 21 = .ok (.putfield 23, 3) := by decide +kernel
theorem dX7_weighFigures_24 : decode cX7_weighFigures 24 = .ok (.aload_n 0, 1) := by decide +kernel
theorem dX7_weighFigures_25 : decode cX7_weighFigures 25 = .ok (.getfield 20, 3) := by decide +kernel
theorem dX7_weighFigures_28 : decode cX7_weighFigures 28 = .ok (.istore_n 1, 1) := by decide +kernel
theorem dX7_weighFigures_29 : decode cX7_weighFigures 29 = .ok (.iload_n 1, 1) := by decide +kernel
theorem dX7_weighFigures_30 : decode cX7_weighFigures 30 = .ok (.aload_n 0, 1) := by decide +kernel
theorem dX7_weighFigures_31 : decode cX7_weighFigures 31 = .ok (.getfield 26, 3) := by decide +kernel
theorem dX7_weighFigures_34 : decode cX7_weighFigures 34 = .ok (.if_icmp .ge 30, 3) := by decide +kernel
theorem dX7_weighFigures_37 : decode cX7_weighFigures 37 = .ok (.aload_n 0, 1) := by decide +kernel
theorem dX7_weighFigures_38 : decode cX7_weighFigures 38 = .ok (.aload_n 0, 1) := by decide +kernel
theorem dX7_weighFigures_39 : decode cX7_weighFigures 39 = .ok (.getfield 23, 3) := by decide +kernel
theorem dX7_weighFigures_42 : decode cX7_weighFigures 42 = .ok (.bipush 10, 2) := by decide +kernel
theorem dX7_weighFigures_44 : decode cX7_weighFigures 44 = .ok (.imul, 1) := by decide +kernel
theorem dX7_weighFigures_45 : decode cX7_weighFigures 45 = .ok (.aload_n 0, 1) := by decide +kernel
theorem dX7_weighFigures_46 : decode cX7_weighFigures 46 = .ok (.getfield 9, 3) := by decide +kernel
theorem dX7_weighFigures_49 : decode cX7_weighFigures 49 = .ok (.iload_n 1, 1) := by decide +kernel
theorem dX7_weighFigures_50 : decode cX7_weighFigures 50 = .ok (.baload, 1) := by decide +kernel
theorem dX7_weighFigures_51 : decode cX7_weighFigures 51 = .ok (.bipush 48, 2) := by decide +kernel
theorem dX7_weighFigures_53 : decode cX7_weighFigures 53 = .ok (.isub, 1) := by decide +kernel
theorem dX7_weighFigures_54 : decode cX7_weighFigures 54 = .ok (.iadd, 1) := by decide +kernel
theorem dX7_weighFigures_55 : decode cX7_weighFigures 55 = .ok (.putfield 23, 3) := by decide +kernel
theorem dX7_weighFigures_58 : decode cX7_weighFigures 58 = .ok (.iinc 1 1, 3) := by decide +kernel
theorem dX7_weighFigures_61 : decode cX7_weighFigures 61 = .ok (.goto (-32), 3) := by decide +kernel
theorem dX7_weighFigures_64 : decode cX7_weighFigures 64 = .ok (.return_, 1) := by decide +kernel
theorem dX7_sortOfByte_0 : decode cX7_sortOfByte 0 = .ok (.aload_n 0, 1) := by decide +kernel
theorem dX7_sortOfByte_1 : decode cX7_sortOfByte 1 = .ok (.getfield 9, 3) := by decide +kernel
theorem dX7_sortOfByte_4 : decode cX7_sortOfByte 4 = .ok (.iload_n 1, 1) := by decide +kernel
theorem dX7_sortOfByte_5 : decode cX7_sortOfByte 5 = .ok (.baload, 1) := by decide +kernel
theorem dX7_sortOfByte_6 : decode cX7_sortOfByte 6 = .ok (.istore_n 2, 1) := by decide +kernel
theorem dX7_sortOfByte_7 : decode cX7_sortOfByte 7 = .ok (.iload_n 2, 1) := by decide +kernel
theorem dX7_sortOfByte_8 : decode cX7_sortOfByte 8 = .ok (.bipush 97, 2) := by decide +kernel
theorem dX7_sortOfByte_10 : decode cX7_sortOfByte 10 = .ok (.if_icmp .lt 11, 3) := by decide +kernel
theorem dX7_sortOfByte_13 : decode cX7_sortOfByte 13 = .ok (.iload_n 2, 1) := by decide +kernel
theorem dX7_sortOfByte_14 : decode cX7_sortOfByte 14 = .ok (.bipush 122, 2) := by decide +kernel
theorem dX7_sortOfByte_16 : decode cX7_sortOfByte 16 = .ok (.if_icmp .gt 5, 3) := by decide +kernel
theorem dX7_sortOfByte_19 : decode cX7_sortOfByte 19 = .ok (.iconst 1, 1) := by decide +kernel
theorem dX7_sortOfByte_20 : decode cX7_sortOfByte 20 = .ok (.ireturn, 1) := by decide +kernel
theorem dX7_sortOfByte_21 : decode cX7_sortOfByte 21 = .ok (.iload_n 2, 1) := by decide +kernel
theorem dX7_sortOfByte_22 : decode cX7_sortOfByte 22 = .ok (.bipush 48, 2) := by decide +kernel
theorem dX7_sortOfByte_24 : decode cX7_sortOfByte 24 = .ok (.if_icmp .lt 11, 3) := by decide +kernel
theorem dX7_sortOfByte_27 : decode cX7_sortOfByte 27 = .ok (.iload_n 2, 1) := by decide +kernel
theorem dX7_sortOfByte_28 : decode cX7_sortOfByte 28 = .ok (.bipush 57, 2) := by decide +kernel
theorem dX7_sortOfByte_30 : decode cX7_sortOfByte 30 = .ok (.if_icmp .gt 5, 3) := by decide +kernel
theorem dX7_sortOfByte_33 : decode cX7_sortOfByte 33 = .ok (.iconst 2, 1) := by decide +kernel
theorem dX7_sortOfByte_34 : decode cX7_sortOfByte 34 = .ok (.ireturn, 1) := by decide +kernel
theorem dX7_sortOfByte_35 : decode cX7_sortOfByte 35 = .ok (.iload_n 2, 1) := by decide +kernel
theorem dX7_sortOfByte_36 : decode cX7_sortOfByte 36 = .ok (.bipush 32, 2) := by decide +kernel
theorem dX7_sortOfByte_38 : decode cX7_sortOfByte 38 = .ok (.if_icmp .eq 9, 3) := by decide +kernel
theorem dX7_sortOfByte_41 : decode cX7_sortOfByte 41 = .ok (.iload_n 2, 1) := by decide +kernel
theorem dX7_sortOfByte_42 : decode cX7_sortOfByte 42 = .ok (.bipush 10, 2) := by decide +kernel
theorem dX7_sortOfByte_44 : decode cX7_sortOfByte 44 = .ok (.if_icmp .ne 5, 3) := by decide +kernel
theorem dX7_sortOfByte_47 : decode cX7_sortOfByte 47 = .ok (.iconst 5, 1) := by decide +kernel
theorem dX7_sortOfByte_48 : decode cX7_sortOfByte 48 = .ok (.ireturn, 1) := by decide +kernel
theorem dX7_sortOfByte_49 : decode cX7_sortOfByte 49 = .ok (.iload_n 2, 1) := by decide +kernel
theorem dX7_sortOfByte_50 : decode cX7_sortOfByte 50 = .ok (.bipush 59, 2) := by decide +kernel
theorem dX7_sortOfByte_52 : decode cX7_sortOfByte 52 = .ok (.if_icmp .ne 7, 3) := by decide +kernel
theorem dX7_sortOfByte_55 : decode cX7_sortOfByte 55 = .ok (.iconst 3, 1) := by decide +kernel
theorem dX7_sortOfByte_56 : decode cX7_sortOfByte 56 = .ok (.goto 4, 3) := by decide +kernel
theorem dX7_sortOfByte_59 : decode cX7_sortOfByte 59 = .ok (.iconst 4, 1) := by decide +kernel
theorem dX7_sortOfByte_60 : decode cX7_sortOfByte 60 = .ok (.ireturn, 1) := by decide +kernel
set_option maxRecDepth 20000 in
theorem ggX8_init_X4_init : GoodIn wsX8_init wsX4_init := goodIn_r _ [35, 36, 2, 3, 37, 38, 39, 40, 41, 42, 43, 44, 45, 46, 47, 48, 49, 50, 51, 52, 53, 135, 136, 137, 138, 139, 140, 107, 108, 109, 110] (by decide +kernel) (by decide +kernel)
set_option maxRecDepth 20000 in
theorem gX8_init_X4_init_n23 : GoodIn wsX8_init (wsX4_init) := ggX8_init_X4_init
set_option maxRecDepth 20000 in
theorem ggX8_init_X0_init : GoodIn wsX8_init wsX0_init := goodIn_r _ [55, 56, 2, 3, 57, 58, 59, 60, 61, 111, 112, 113] (by decide +kernel) (by decide +kernel)
set_option maxRecDepth 20000 in
theorem gX8_init_X0_init_n37 : GoodIn wsX8_init (wsX0_init) := ggX8_init_X0_init
set_option maxRecDepth 20000 in
theorem ggX8_init_X2_init : GoodIn wsX8_init wsX2_init := goodIn_r _ [63, 64, 2, 3, 58, 65, 66, 67, 68, 69, 114, 115, 116, 117] (by decide +kernel) (by decide +kernel)
set_option maxRecDepth 20000 in
theorem gX8_init_X2_init_n44 : GoodIn wsX8_init (wsX2_init) := ggX8_init_X2_init
set_option maxRecDepth 20000 in
theorem ggX8_init_X1_init : GoodIn wsX8_init wsX1_init := goodIn_r _ [71, 72, 2, 3, 58, 73, 74, 75, 76, 77, 78, 118, 119, 120, 121, 122, 123] (by decide +kernel) (by decide +kernel)
set_option maxRecDepth 20000 in
theorem gX8_init_X1_init_n51 : GoodIn wsX8_init (wsX1_init) := ggX8_init_X1_init
set_option maxRecDepth 20000 in
theorem ggX8_init_X5_init : GoodIn wsX8_init wsX5_init := goodIn_r _ [80, 81, 2, 3, 58, 82, 83, 84, 85, 86, 87, 88, 89, 124, 125, 126, 127, 128, 129, 130, 131] (by decide +kernel) (by decide +kernel)
set_option maxRecDepth 20000 in
theorem gX8_init_X5_init_n56 : GoodIn wsX8_init (wsX5_init) := ggX8_init_X5_init
set_option maxRecDepth 20000 in
theorem ggX8_init_X6_init : GoodIn wsX8_init wsX6_init := goodIn_r _ [91, 92, 2, 3, 58, 93, 94, 95, 132, 133, 134] (by decide +kernel) (by decide +kernel)
set_option maxRecDepth 20000 in
theorem gX8_init_X6_init_n71 : GoodIn wsX8_init (wsX6_init) := ggX8_init_X6_init
theorem dX8_init_0 : decode cX8_init 0 = .ok (.aload_n 0, 1) := by decide +kernel
theorem dX8_init_1 : decode cX8_init 1 = .ok (.invokespecial 1, 3) := by decide +kernel
theorem dX8_init_4 : decode cX8_init 4 = .ok (.aload_n 0, 1) := by decide +kernel
theorem dX8_init_5 : decode cX8_init 5 = .ok (.bipush 8, 2) := by decide +kernel
theorem dX8_init_7 : decode cX8_init 7 = .ok (.anewarray 9, 3) := by decide +kernel
theorem dX8_init_10 : decode cX8_init 10 = .ok (.putfield 11, 3) := by decide +kernel
theorem dX8_init_13 : decode cX8_init 13 = .ok (.aload_n 0, 1) := by decide +kernel
theorem dX8_init_14 : decode cX8_init 14 = .ok (.iconst 2, 1) := by decide +kernel
theorem dX8_init_15 : decode cX8_init 15 = .ok (.anewarray 15, 3) := by decide +kernel
theorem dX8_init_18 : decode cX8_init 18 = .ok (.putfield 17, 3) := by decide +kernel
theorem dX8_init_21 : decode cX8_init 21 = .ok (.aload_n 0, 1) := by decide +kernel
theorem dX8_init_22 : decode cX8_init 22 = .ok (.new 21, 3) := by decide +kernel
theorem dX8_init_25 : decode cX8_init 25 = .ok (.dup, 1) := by decide +kernel
theorem dX8_init_26 : decode cX8_init 26 = .ok (.invokespecial 23, 3) := by decide +kernel
theorem dX8_init_29 : decode cX8_init 29 = .ok (.putfield 24, 3) := by decide +kernel
theorem dX8_init_32 : decode cX8_init 32 = .ok (.aload_n 0, 1) := by decide +kernel
theorem dX8_init_33 : decode cX8_init 33 = .ok (.aload_n 0, 1) := by decide +kernel
theorem dX8_init_34 : decode cX8_init 34 = .ok (.getfield 24, 3) := by decide +kernel
theorem dX8_init_37 : decode cX8_init 37 = .ok (.getfield 28, 3) := by decide +kernel
theorem dX8_init_40 : decode cX8_init 40 = .ok (.putfield 32, 3) := by decide +kernel
theorem dX8_init_43 : decode cX8_init 43 = .ok (.aload_n 0, 1) := by decide +kernel
theorem dX8_init_44 : decode cX8_init 44 = .ok (.new 35, 3) := by decide +kernel
theorem dX8_init_47 : decode cX8_init 47 = .ok (.dup, 1) := by decide +kernel
theorem dX8_init_48 : decode cX8_init 48 = .ok (.invokespecial 37, 3) := by decide +kernel
theorem dX8_init_51 : decode cX8_init 51 = .ok (.putfield 38, 3) := by decide +kernel
theorem dX8_init_54 : decode cX8_init 54 = .ok (.aload_n 0, 1) := by decide +kernel
theorem dX8_init_55 : decode cX8_init 55 = .ok (.new 42, 3) := by decide +kernel
theorem dX8_init_58 : decode cX8_init 58 = .ok (.dup, 1) := by decide +kernel
theorem dX8_init_59 : decode cX8_init 59 = .ok (.invokespecial 44, 3) := by decide +kernel
theorem dX8_init_62 : decode cX8_init 62 = .ok (.putfield 45, 3) := by decide +kernel
theorem dX8_init_65 : decode cX8_init 65 = .ok (.aload_n 0, 1) := by decide +kernel
theorem dX8_init_66 : decode cX8_init 66 = .ok (.new 49, 3) := by decide +kernel
theorem dX8_init_69 : decode cX8_init 69 = .ok (.dup, 1) := by decide +kernel
theorem dX8_init_70 : decode cX8_init 70 = .ok (.invokespecial 51, 3) := by decide +kernel
theorem dX8_init_73 : decode cX8_init 73 = .ok (.putfield 52, 3) := by decide +kernel
theorem dX8_init_76 : decode cX8_init 76 = .ok (.aload_n 0, 1) := by decide +kernel
theorem dX8_init_77 : decode cX8_init 77 = .ok (.new 15, 3) := by decide +kernel
theorem dX8_init_80 : decode cX8_init 80 = .ok (.dup, 1) := by decide +kernel
theorem dX8_init_81 : decode cX8_init 81 = .ok (.invokespecial 56, 3) := by decide +kernel
theorem dX8_init_84 : decode cX8_init 84 = .ok (.putfield 57, 3) := by decide +kernel
theorem dX8_init_87 : decode cX8_init 87 = .ok (.aload_n 0, 1) := by decide +kernel
theorem dX8_init_88 : decode cX8_init 88 = .ok (.new 15, 3) := by decide +kernel
theorem dX8_init_91 : decode cX8_init 91 = .ok (.dup, 1) := by decide +kernel
theorem dX8_init_92 : decode cX8_init 92 = .ok (.invokespecial 56, 3) := by decide +kernel
theorem dX8_init_95 : decode cX8_init 95 = .ok (.putfield 61, 3) := by decide +kernel
theorem dX8_init_98 : decode cX8_init 98 = .ok (.aload_n 0, 1) := by decide +kernel
theorem dX8_init_99 : decode cX8_init 99 = .ok (.iconst 0, 1) := by decide +kernel
theorem dX8_init_100 : decode cX8_init 100 = .ok (.putfield 64, 3) := by decide +kernel
theorem dX8_init_103 : decode cX8_init 103 = .ok (.aload_n 0, 1) := by decide +kernel
theorem dX8_init_104 : decode cX8_init 104 = .ok (.iconst 0, 1) := by decide +kernel
theorem dX8_init_105 : decode cX8_init 105 = .ok (.putfield 68, 3) := by decide +kernel
theorem dX8_init_108 : decode cX8_init 108 = .ok (.iconst 0, 1) := by decide +kernel
theorem dX8_init_109 : decode cX8_init 109 = .ok (.istore_n 1, 1) := by decide +kernel
theorem dX8_init_110 : decode cX8_init 110 = .ok (.iload_n 1, 1) := by decide +kernel
theorem dX8_init_111 : decode cX8_init 111 = .ok (.bipush 8, 2) := by decide +kernel
theorem dX8_init_113 : decode cX8_init 113 = .ok (.if_icmp .ge 22, 3) := by decide +kernel
theorem dX8_init_116 : decode cX8_init 116 = .ok (.aload_n 0, 1) := by decide +kernel
theorem dX8_init_117 : decode cX8_init 117 = .ok (.getfield 11, 3) := by decide +kernel
theorem dX8_init_120 : decode cX8_init 120 = .ok (.iload_n 1, 1) := by decide +kernel
theorem dX8_init_121 : decode cX8_init 121 = .ok (.new 9, 3) := by decide +kernel
theorem dX8_init_124 : decode cX8_init 124 = .ok (.dup, 1) := by decide +kernel
theorem dX8_init_125 : decode cX8_init 125 = .ok (.invokespecial 71, 3) := by decide +kernel
theorem dX8_init_128 : decode cX8_init 128 = .ok (.aastore, 1) := by decide +kernel
theorem dX8_init_129 : decode cX8_init 129 = .ok (.iinc 1 1, 3) := by decide +kernel
theorem dX8_init_132 : decode cX8_init 132 = .ok (.goto (-22), 3) := by decide +kernel
theorem dX8_init_135 : decode cX8_init 135 = .ok (.iconst 0, 1) := by decide +kernel
theorem dX8_init_136 : decode cX8_init 136 = .ok (.istore_n 1, 1) := by decide +kernel
theorem dX8_init_137 : decode cX8_init 137 = .ok (.iload_n 1, 1) := by decide +kernel
theorem dX8_init_138 : decode cX8_init 138 = .ok (.iconst 2, 1) := by decide +kernel
theorem dX8_init_139 : decode cX8_init 139 = .ok (.if_icmp .ge 22, 3) := by decide +kernel
theorem dX8_init_142 : decode cX8_init 142 = .ok (.aload_n 0, 1) := by decide +kernel
theorem dX8_init_143 : decode cX8_init 143 = .ok (.getfield 17, 3) := by decide +kernel
theorem dX8_init_146 : decode cX8_init 146 = .ok (.iload_n 1, 1) := by decide +kernel
theorem dX8_init_147 : decode cX8_init 147 = .ok (.new 15, 3) := by decide +kernel
theorem dX8_init_150 : decode cX8_init 150 = .ok (.dup, 1) := by decide +kernel
theorem dX8_init_151 : decode cX8_init 151 = .ok (.invokespecial 56, 3) := by decide +kernel
theorem dX8_init_154 : decode cX8_init 154 = .ok (.aastore, 1) := by decide +kernel
theorem dX8_init_155 : decode cX8_init 155 = .ok (.iinc 1 1, 3) := by decide +kernel
theorem dX8_init_158 : decode cX8_init 158 = .ok (.goto (-21), 3) := by decide +kernel
theorem dX8_init_161 : decode cX8_init 161 = .ok (.return_, 1) := by decide +kernel
set_option maxRecDepth 20000 in
theorem ggX8_row_X8_noRow : GoodIn wsX8_row wsX8_noRow := goodIn_r _ [6, 7, 8, 5, 9] (by decide +kernel) (by decide +kernel)
set_option maxRecDepth 20000 in
theorem gX8_row_X8_noRow : GoodIn wsX8_row (va_wsS RX8 72 yX8_noRow wsX8_noRow) := goodIn_app (goodIn_of _ (by decide +kernel)) ggX8_row_X8_noRow
set_option maxRecDepth 20000 in
theorem ggX8_row_X8_outside : GoodIn wsX8_row wsX8_outside := goodIn_r _ [9] (by decide +kernel) (by decide +kernel)
set_option maxRecDepth 20000 in
theorem gX8_row_X8_outside : GoodIn wsX8_row (va_wsS RX8 76 yX8_outside wsX8_outside) := goodIn_app (goodIn_of _ (by decide +kernel)) ggX8_row_X8_outside
set_option maxRecDepth 20000 in
theorem ggX8_row_X8_found : GoodIn wsX8_row wsX8_found := goodIn_r _ [13, 14, 15, 32, 33, 34, 35, 36, 37, 38, 39, 40, 41, 42] (by decide +kernel) (by decide +kernel)
set_option maxRecDepth 20000 in
theorem gX8_row_X8_found : GoodIn wsX8_row (wsV RX8 81 RX8 yX8_found wsX8_found) := goodIn_app (goodIn_of _ (by decide +kernel)) ggX8_row_X8_found
set_option maxRecDepth 20000 in
theorem ggX8_row_X6_lay : GoodIn wsX8_row wsX6_lay := goodIn_r _ [20, 21, 22, 23, 24, 25, 26, 27, 43, 44, 45] (by decide +kernel) (by decide +kernel)
set_option maxRecDepth 20000 in
theorem gX8_row_X6_lay : GoodIn wsX8_row (wsV RX8 85 RX6 yX6_lay wsX6_lay) := goodIn_app (goodIn_of _ (by decide +kernel)) ggX8_row_X6_lay
set_option maxRecDepth 20000 in
theorem ggX8_row_X8_answered : GoodIn wsX8_row wsX8_answered := goodIn_r _ [31, 14, 32, 33, 34, 35, 36, 37, 38, 39, 40, 41, 42] (by decide +kernel) (by decide +kernel)
set_option maxRecDepth 20000 in
theorem gX8_row_X8_answered : GoodIn wsX8_row (wsV RX8 89 RX8 yX8_answered wsX8_answered) := goodIn_app (goodIn_of _ (by decide +kernel)) ggX8_row_X8_answered
