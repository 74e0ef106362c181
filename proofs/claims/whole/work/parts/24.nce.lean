theorem dX8_row_0 : decode cX8_row 0 = .ok (.iload_n 1, 1) := by decide +kernel
theorem dX8_row_1 : decode cX8_row 1 = .ok (.invokestatic 72, 3) := by decide +kernel
theorem dX8_row_4 : decode cX8_row 4 = .ok (.ifCond .ne 18, 3) := by decide +kernel
theorem dX8_row_7 : decode cX8_row 7 = .ok (.iload_n 2, 1) := by decide +kernel
theorem dX8_row_8 : decode cX8_row 8 = .ok (.iconst 0, 1) := by decide +kernel
theorem dX8_row_9 : decode cX8_row 9 = .ok (.iconst 2, 1) := by decide +kernel
theorem dX8_row_10 : decode cX8_row 10 = .ok (.invokestatic 76, 3) := by decide +kernel
theorem dX8_row_13 : decode cX8_row 13 = .ok (.ifCond .ne 9, 3) := by decide +kernel
theorem dX8_row_16 : decode cX8_row 16 = .ok (.iload_n 3, 1) := by decide +kernel
theorem dX8_row_17 : decode cX8_row 17 = .ok (.bipush 40, 2) := by decide +kernel
theorem dX8_row_19 : decode cX8_row 19 = .ok (.if_icmp .le 6, 3) := by decide +kernel
theorem dX8_row_22 : decode cX8_row 22 = .ok (.ldc 80, 2) := by decide +kernel
theorem dX8_row_24 : decode cX8_row 24 = .ok (.ireturn, 1) := by decide +kernel
theorem dX8_row_25 : decode cX8_row 25 = .ok (.iload_n 3, 1) := by decide +kernel
theorem dX8_row_26 : decode cX8_row 26 = .ok (.ifCond .ge 9, 3) := by decide +kernel
theorem dX8_row_29 : decode cX8_row 29 = .ok (.aload_n 0, 1) := by decide +kernel
theorem dX8_row_30 : decode cX8_row 30 = .ok (.iconst 4, 1) := by decide +kernel
theorem dX8_row_31 : decode cX8_row 31 = .ok (.invokevirtual 81, 3) := by decide +kernel
theorem dX8_row_34 : decode cX8_row 34 = .ok (.ireturn, 1) := by decide +kernel
theorem dX8_row_35 : decode cX8_row 35 = .ok (.aload_n 0, 1) := by decide +kernel
theorem dX8_row_36 : decode cX8_row 36 = .ok (.getfield 11, 3) := by decide +kernel
theorem dX8_row_39 : decode cX8_row 39 = .ok (.iload_n 1, 1) := by decide +kernel
theorem dX8_row_40 : decode cX8_row 40 = .ok (.aaload, 1) := by decide +kernel
theorem dX8_row_41 : decode cX8_row 41 = .ok (.iload_n 2, 1) := by decide +kernel
theorem dX8_row_42 : decode cX8_row 42 = .ok (.iload_n 3, 1) := by decide +kernel
theorem dX8_row_43 : decode cX8_row 43 = .ok (.invokevirtual 85, 3) := by decide +kernel
theorem dX8_row_46 : decode cX8_row 46 = .ok (.aload_n 0, 1) := by decide +kernel
theorem dX8_row_47 : decode cX8_row 47 = .ok (.iload_n 3, 1) := by decide +kernel
theorem dX8_row_48 : decode cX8_row 48 = .ok (.invokevirtual 89, 3) := by decide +kernel
theorem dX8_row_51 : decode cX8_row 51 = .ok (.ireturn, 1) := by decide +kernel
set_option maxRecDepth 20000 in
theorem ggX8_set_X8_noRow : GoodIn wsX8_set wsX8_noRow := goodIn_r _ [6, 7, 8, 5, 9] (by decide +kernel) (by decide +kernel)
set_option maxRecDepth 20000 in
theorem gX8_set_X8_noRow : GoodIn wsX8_set (va_wsS RX8 72 yX8_noRow wsX8_noRow) := goodIn_app (goodIn_of _ (by decide +kernel)) ggX8_set_X8_noRow
set_option maxRecDepth 20000 in
theorem ggX8_set_X6_missing : GoodIn wsX8_set wsX6_missing := goodIn_r _ [14, 15, 47, 48, 49] (by decide +kernel) (by decide +kernel)
set_option maxRecDepth 20000 in
theorem gX8_set_X6_missing : GoodIn wsX8_set (wsV RX8 92 RX6 yX6_missing wsX6_missing) := goodIn_app (goodIn_of _ (by decide +kernel)) ggX8_set_X6_missing
set_option maxRecDepth 20000 in
theorem ggX8_set_X8_found : GoodIn wsX8_set wsX8_found := goodIn_r _ [19, 20, 21, 36, 37, 38, 39, 40, 41, 42, 43, 44, 45, 46] (by decide +kernel) (by decide +kernel)
set_option maxRecDepth 20000 in
theorem gX8_set_X8_found : GoodIn wsX8_set (wsV RX8 81 RX8 yX8_found wsX8_found) := goodIn_app (goodIn_of _ (by decide +kernel)) ggX8_set_X8_found
set_option maxRecDepth 20000 in
theorem ggX8_set_X6_holds : GoodIn wsX8_set wsX6_holds := goodIn_r _ [25, 26, 47, 48, 49] (by decide +kernel) (by decide +kernel)
set_option maxRecDepth 20000 in
theorem gX8_set_X6_holds : GoodIn wsX8_set (wsV RX8 96 RX6 yX6_holds wsX6_holds) := goodIn_app (goodIn_of _ (by decide +kernel)) ggX8_set_X6_holds
set_option maxRecDepth 20000 in
theorem ggX8_set_X6_put : GoodIn wsX8_set wsX6_put := goodIn_r _ [30, 15, 31, 47, 48, 49] (by decide +kernel) (by decide +kernel)
set_option maxRecDepth 20000 in
theorem gX8_set_X6_put : GoodIn wsX8_set (wsV RX8 100 RX6 yX6_put wsX6_put) := goodIn_app (goodIn_of _ (by decide +kernel)) ggX8_set_X6_put
set_option maxRecDepth 20000 in
theorem ggX8_set_X8_answered : GoodIn wsX8_set wsX8_answered := goodIn_r _ [35, 20, 36, 37, 38, 39, 40, 41, 42, 43, 44, 45, 46] (by decide +kernel) (by decide +kernel)
set_option maxRecDepth 20000 in
theorem gX8_set_X8_answered : GoodIn wsX8_set (wsV RX8 89 RX8 yX8_answered wsX8_answered) := goodIn_app (goodIn_of _ (by decide +kernel)) ggX8_set_X8_answered
theorem dX8_set_0 : decode cX8_set 0 = .ok (.iload_n 1, 1) := by decide +kernel
theorem dX8_set_1 : decode cX8_set 1 = .ok (.invokestatic 72, 3) := by decide +kernel
theorem dX8_set_4 : decode cX8_set 4 = .ok (.ifCond .eq 6, 3) := by decide +kernel
theorem dX8_set_7 : decode cX8_set 7 = .ok (.ldc 80, 2) := by decide +kernel
theorem dX8_set_9 : decode cX8_set 9 = .ok (.ireturn, 1) := by decide +kernel
theorem dX8_set_10 : decode cX8_set 10 = .ok (.aload_n 0, 1) := by decide +kernel
theorem dX8_set_11 : decode cX8_set 11 = .ok (.getfield 11, 3) := by decide +kernel
theorem dX8_set_14 : decode cX8_set 14 = .ok (.iload_n 1, 1) := by decide +kernel
theorem dX8_set_15 : decode cX8_set 15 = .ok (.aaload, 1) := by decide +kernel
theorem dX8_set_16 : decode cX8_set 16 = .ok (.astore 4, 2) := by decide +kernel
theorem dX8_set_18 : decode cX8_set 18 = .ok (.aload 4, 2) := by decide +kernel
theorem dX8_set_20 : decode cX8_set 20 = .ok (.invokevirtual 92, 3) := by decide +kernel
theorem dX8_set_23 : decode cX8_set 23 = .ok (.ifCond .eq 9, 3) := by decide +kernel
theorem dX8_set_26 : decode cX8_set 26 = .ok (.aload_n 0, 1) := by decide +kernel
theorem dX8_set_27 : decode cX8_set 27 = .ok (.iconst 1, 1) := by decide +kernel
theorem dX8_set_28 : decode cX8_set 28 = .ok (.invokevirtual 81, 3) := by decide +kernel
theorem dX8_set_31 : decode cX8_set 31 = .ok (.ireturn, 1) := by decide +kernel
theorem dX8_set_32 : decode cX8_set 32 = .ok (.aload 4, 2) := by decide +kernel
theorem dX8_set_34 : decode cX8_set 34 = .ok (.iload_n 2, 1) := by decide +kernel
theorem dX8_set_35 : decode cX8_set 35 = .ok (.iconst 1, 1) := by decide +kernel
theorem dX8_set_36 : decode cX8_set 36 = .ok (.invokevirtual 96, 3) := by decide +kernel
theorem dX8_set_39 : decode cX8_set 39 = .ok (.ifCond .ne 9, 3) := by decide +kernel
theorem dX8_set_42 : decode cX8_set 42 = .ok (.aload_n 0, 1) := by decide +kernel
theorem dX8_set_43 : decode cX8_set 43 = .ok (.iconst 2, 1) := by decide +kernel
theorem dX8_set_44 : decode cX8_set 44 = .ok (.invokevirtual 81, 3) := by decide +kernel
theorem dX8_set_47 : decode cX8_set 47 = .ok (.ireturn, 1) := by decide +kernel
theorem dX8_set_48 : decode cX8_set 48 = .ok (.aload_n 0, 1) := by decide +kernel
theorem dX8_set_49 : decode cX8_set 49 = .ok (.aload 4, 2) := by decide +kernel
theorem dX8_set_51 : decode cX8_set 51 = .ok (.iload_n 2, 1) := by decide +kernel
theorem dX8_set_52 : decode cX8_set 52 = .ok (.iload_n 3, 1) := by decide +kernel
theorem dX8_set_53 : decode cX8_set 53 = .ok (.invokevirtual 100, 3) := by decide +kernel
theorem dX8_set_56 : decode cX8_set 56 = .ok (.invokevirtual 89, 3) := by decide +kernel
theorem dX8_set_59 : decode cX8_set 59 = .ok (.ireturn, 1) := by decide +kernel
set_option maxRecDepth 20000 in
theorem ggX8_copy_X8_noRow : GoodIn wsX8_copy wsX8_noRow := goodIn_r _ [12, 13, 14, 11, 15] (by decide +kernel) (by decide +kernel)
set_option maxRecDepth 20000 in
theorem gX8_copy_X8_noRow : GoodIn wsX8_copy (va_wsS RX8 72 yX8_noRow wsX8_noRow) := goodIn_app (goodIn_of _ (by decide +kernel)) ggX8_copy_X8_noRow
set_option maxRecDepth 20000 in
theorem ggX8_copy_X6_missing : GoodIn wsX8_copy wsX6_missing := goodIn_r _ [20, 21, 48, 49, 50] (by decide +kernel) (by decide +kernel)
set_option maxRecDepth 20000 in
theorem gX8_copy_X6_missing : GoodIn wsX8_copy (wsV RX8 92 RX6 yX6_missing wsX6_missing) := goodIn_app (goodIn_of _ (by decide +kernel)) ggX8_copy_X6_missing
set_option maxRecDepth 20000 in
theorem ggX8_copy_X8_found : GoodIn wsX8_copy wsX8_found := goodIn_r _ [25, 26, 27, 37, 38, 39, 40, 41, 42, 43, 44, 45, 46, 47] (by decide +kernel) (by decide +kernel)
set_option maxRecDepth 20000 in
theorem gX8_copy_X8_found : GoodIn wsX8_copy (wsV RX8 81 RX8 yX8_found wsX8_found) := goodIn_app (goodIn_of _ (by decide +kernel)) ggX8_copy_X8_found
set_option maxRecDepth 20000 in
theorem ggX8_copy_X6_holds : GoodIn wsX8_copy wsX6_holds := goodIn_r _ [31, 32, 48, 49, 50] (by decide +kernel) (by decide +kernel)
set_option maxRecDepth 20000 in
theorem gX8_copy_X6_holds : GoodIn wsX8_copy (wsV RX8 96 RX6 yX6_holds wsX6_holds) := goodIn_app (goodIn_of _ (by decide +kernel)) ggX8_copy_X6_holds
set_option maxRecDepth 20000 in
theorem ggX8_copy_X8_answered : GoodIn wsX8_copy wsX8_answered := goodIn_r _ [36, 26, 37, 38, 39, 40, 41, 42, 43, 44, 45, 46, 47] (by decide +kernel) (by decide +kernel)
set_option maxRecDepth 20000 in
theorem gX8_copy_X8_answered : GoodIn wsX8_copy (wsV RX8 89 RX8 yX8_answered wsX8_answered) := goodIn_app (goodIn_of _ (by decide +kernel)) ggX8_copy_X8_answered
theorem dX8_copy_0 : decode cX8_copy 0 = .ok (.iload_n 1, 1) := by decide +kernel
theorem dX8_copy_1 : decode cX8_copy 1 = .ok (.invokestatic 72, 3) := by decide +kernel
theorem dX8_copy_4 : decode cX8_copy 4 = .ok (.ifCond .ne 10, 3) := by decide +kernel
theorem dX8_copy_7 : decode cX8_copy 7 = .ok (.iload_n 3, 1) := by decide +kernel
theorem dX8_copy_8 : decode cX8_copy 8 = .ok (.invokestatic 72, 3) := by decide +kernel
theorem dX8_copy_11 : decode cX8_copy 11 = .ok (.ifCond .eq 6, 3) := by decide +kernel
theorem dX8_copy_14 : decode cX8_copy 14 = .ok (.ldc 80, 2) := by decide +kernel
theorem dX8_copy_16 : decode cX8_copy 16 = .ok (.ireturn, 1) := by decide +kernel
theorem dX8_copy_17 : decode cX8_copy 17 = .ok (.aload_n 0, 1) := by decide +kernel
theorem dX8_copy_18 : decode cX8_copy 18 = .ok (.getfield 11, 3) := by decide +kernel
theorem dX8_copy_21 : decode cX8_copy 21 = .ok (.iload_n 1, 1) := by decide +kernel
theorem dX8_copy_22 : decode cX8_copy 22 = .ok (.aaload, 1) := by decide +kernel
theorem dX8_copy_23 : decode cX8_copy 23 = .ok (.astore 6, 2) := by decide +kernel
theorem dX8_copy_25 : decode cX8_copy 25 = .ok (.aload_n 0, 1) := by decide +kernel
theorem dX8_copy_26 : decode cX8_copy 26 = .ok (.getfield 11, 3) := by decide +kernel
theorem dX8_copy_29 : decode cX8_copy 29 = .ok (.iload_n 3, 1) := by decide +kernel
theorem dX8_copy_30 : decode cX8_copy 30 = .ok (.aaload, 1) := by decide +kernel
theorem dX8_copy_31 : decode cX8_copy 31 = .ok (.astore 7, 2) := by decide +kernel
theorem dX8_copy_33 : decode cX8_copy 33 = .ok (.aload 6, 2) := by decide +kernel
theorem dX8_copy_35 : decode cX8_copy 35 = .ok (.invokevirtual 92, 3) := by decide +kernel
theorem dX8_copy_38 : decode cX8_copy 38 = .ok (.ifCond .ne 11, 3) := by decide +kernel
theorem dX8_copy_41 : decode cX8_copy 41 = .ok (.aload 7, 2) := by decide +kernel
theorem dX8_copy_43 : decode cX8_copy 43 = .ok (.invokevirtual 92, 3) := by decide +kernel
theorem dX8_copy_46 : decode cX8_copy 46 = .ok (.ifCond .eq 9, 3) := by decide +kernel
theorem dX8_copy_49 : decode cX8_copy 49 = .ok (.aload_n 0, 1) := by decide +kernel
theorem dX8_copy_50 : decode cX8_copy 50 = .ok (.iconst 1, 1) := by decide +kernel
theorem dX8_copy_51 : decode cX8_copy 51 = .ok (.invokevirtual 81, 3) := by decide +kernel
theorem dX8_copy_54 : decode cX8_copy 54 = .ok (.ireturn, 1) := by decide +kernel
theorem dX8_copy_55 : decode cX8_copy 55 = .ok (.aload 6, 2) := by decide +kernel
theorem dX8_copy_57 : decode cX8_copy 57 = .ok (.getfield 104, 3) := by decide +kernel
theorem dX8_copy_60 : decode cX8_copy 60 = .ok (.aload 7, 2) := by decide +kernel
theorem dX8_copy_62 : decode cX8_copy 62 = .ok (.getfield 104, 3) := by decide +kernel
theorem dX8_copy_65 : decode cX8_copy 65 = .ok (.if_icmp .eq 9, 3) := by decide +kernel
theorem dX8_copy_68 : decode cX8_copy 68 = .ok (.aload_n 0, 1) := by decide +kernel
theorem dX8_copy_69 : decode cX8_copy 69 = .ok (.iconst 5, 1) := by decide +kernel
theorem dX8_copy_70 : decode cX8_copy 70 = .ok (.invokevirtual 81, 3) := by decide +kernel
theorem dX8_copy_73 : decode cX8_copy 73 = .ok (.ireturn, 1) := by decide +kernel
theorem dX8_copy_74 : decode cX8_copy 74 = .ok (.aload 6, 2) := by decide +kernel
theorem dX8_copy_76 : decode cX8_copy 76 = .ok (.iload_n 2, 1) := by decide +kernel
theorem dX8_copy_77 : decode cX8_copy 77 = .ok (.iload 5, 2) := by decide +kernel
theorem dX8_copy_79 : decode cX8_copy 79 = .ok (.invokevirtual 96, 3) := by decide +kernel
theorem dX8_copy_82 : decode cX8_copy 82 = .ok (.ifCond .eq 15, 3) := by decide +kernel
theorem dX8_copy_85 : decode cX8_copy 85 = .ok (.aload 7, 2) := by decide +kernel
theorem dX8_copy_87 : decode cX8_copy 87 = .ok (.iload 4, 2) := by decide +kernel
theorem dX8_copy_89 : decode cX8_copy 89 = .ok (.iload 5, 2) := by decide +kernel
theorem dX8_copy_91 : decode cX8_copy 91 = .ok (.invokevirtual 96, 3) := by decide +kernel
theorem dX8_copy_94 : decode cX8_copy 94 = .ok (.ifCond .ne 9, 3) := by decide +kernel
theorem dX8_copy_97 : decode cX8_copy 97 = .ok (.aload_n 0, 1) := by decide +kernel
theorem dX8_copy_98 : decode cX8_copy 98 = .ok (.iconst 2, 1) := by decide +kernel
theorem dX8_copy_99 : decode cX8_copy 99 = .ok (.invokevirtual 81, 3) := by decide +kernel
theorem dX8_copy_102 : decode cX8_copy 102 = .ok (.ireturn, 1) := by decide +kernel
theorem dX8_copy_103 : decode cX8_copy 103 = .ok (.aload 6, 2) := by decide +kernel
theorem dX8_copy_105 : decode cX8_copy 105 = .ok (.getfield 107, 3) := by decide +kernel
theorem dX8_copy_108 : decode cX8_copy 108 = .ok (.iload_n 2, 1) := by decide +kernel
theorem dX8_copy_109 : decode cX8_copy 109 = .ok (.aload 7, 2) := by decide +kernel
theorem dX8_copy_111 : decode cX8_copy 111 = .ok (.getfield 107, 3) := by decide +kernel
theorem dX8_copy_114 : decode cX8_copy 114 = .ok (.iload 4, 2) := by decide +kernel
theorem dX8_copy_116 : decode cX8_copy 116 = .ok (.iload 5, 2) := by decide +kernel
theorem dX8_copy_118 : decode cX8_copy 118 = .ok (.invokestatic 111, 3) := by decide +kernel
theorem dX8_copy_121 : decode cX8_copy 121 = .ok (.aload_n 0, 1) := by decide +kernel
theorem dX8_copy_122 : decode cX8_copy 122 = .ok (.iload 5, 2) := by decide +kernel
theorem dX8_copy_124 : decode cX8_copy 124 = .ok (.invokevirtual 89, 3) := by decide +kernel
theorem dX8_copy_127 : decode cX8_copy 127 = .ok (.ireturn, 1) := by decide +kernel
set_option maxRecDepth 20000 in
theorem ggX8_drop_X8_noRow : GoodIn wsX8_drop wsX8_noRow := goodIn_r _ [7, 8, 9, 6, 10] (by decide +kernel) (by decide +kernel)
set_option maxRecDepth 20000 in
theorem gX8_drop_X8_noRow : GoodIn wsX8_drop (va_wsS RX8 72 yX8_noRow wsX8_noRow) := goodIn_app (goodIn_of _ (by decide +kernel)) ggX8_drop_X8_noRow
set_option maxRecDepth 20000 in
theorem ggX8_drop_X6_missing : GoodIn wsX8_drop wsX6_missing := goodIn_r _ [15, 16, 43, 44, 45] (by decide +kernel) (by decide +kernel)
set_option maxRecDepth 20000 in
theorem gX8_drop_X6_missing : GoodIn wsX8_drop (wsV RX8 92 RX6 yX6_missing wsX6_missing) := goodIn_app (goodIn_of _ (by decide +kernel)) ggX8_drop_X6_missing
set_option maxRecDepth 20000 in
theorem ggX8_drop_X8_found : GoodIn wsX8_drop wsX8_found := goodIn_r _ [20, 21, 22, 32, 33, 34, 35, 36, 37, 38, 39, 40, 41, 42] (by decide +kernel) (by decide +kernel)
set_option maxRecDepth 20000 in
theorem gX8_drop_X8_found : GoodIn wsX8_drop (wsV RX8 81 RX8 yX8_found wsX8_found) := goodIn_app (goodIn_of _ (by decide +kernel)) ggX8_drop_X8_found
set_option maxRecDepth 20000 in
theorem ggX8_drop_X6_takeAway : GoodIn wsX8_drop wsX6_takeAway := goodIn_r _ [26, 16, 27, 43, 44, 45] (by decide +kernel) (by decide +kernel)
set_option maxRecDepth 20000 in
theorem gX8_drop_X6_takeAway : GoodIn wsX8_drop (wsV RX8 120 RX6 yX6_takeAway wsX6_takeAway) := goodIn_app (goodIn_of _ (by decide +kernel)) ggX8_drop_X6_takeAway
set_option maxRecDepth 20000 in
theorem ggX8_drop_X8_answered : GoodIn wsX8_drop wsX8_answered := goodIn_r _ [31, 21, 32, 33, 34, 35, 36, 37, 38, 39, 40, 41, 42] (by decide +kernel) (by decide +kernel)
set_option maxRecDepth 20000 in
theorem gX8_drop_X8_answered : GoodIn wsX8_drop (wsV RX8 89 RX8 yX8_answered wsX8_answered) := goodIn_app (goodIn_of _ (by decide +kernel)) ggX8_drop_X8_answered
theorem dX8_drop_0 : decode cX8_drop 0 = .ok (.iload_n 1, 1) := by decide +kernel
theorem dX8_drop_1 : decode cX8_drop 1 = .ok (.invokestatic 72, 3) := by decide +kernel
theorem dX8_drop_4 : decode cX8_drop 4 = .ok (.ifCond .eq 6, 3) := by decide +kernel
theorem dX8_drop_7 : decode cX8_drop 7 = .ok (.ldc 80, 2) := by decide +kernel
theorem dX8_drop_9 : decode cX8_drop 9 = .ok (.ireturn, 1) := by decide +kernel
theorem dX8_drop_10 : decode cX8_drop 10 = .ok (.aload_n 0, 1) := by decide +kernel
theorem dX8_drop_11 : decode cX8_drop 11 = .ok (.getfield 11, 3) := by decide +kernel
theorem dX8_drop_14 : decode cX8_drop 14 = .ok (.iload_n 1, 1) := by decide +kernel
theorem dX8_drop_15 : decode cX8_drop 15 = .ok (.aaload, 1) := by decide +kernel
theorem dX8_drop_16 : decode cX8_drop 16 = .ok (.astore_n 2, 1) := by decide +kernel
theorem dX8_drop_17 : decode cX8_drop 17 = .ok (.aload_n 2, 1) := by decide +kernel
theorem dX8_drop_18 : decode cX8_drop 18 = .ok (.invokevirtual 92, 3) := by decide +kernel
theorem dX8_drop_21 : decode cX8_drop 21 = .ok (.ifCond .eq 9, 3) := by decide +kernel
theorem dX8_drop_24 : decode cX8_drop 24 = .ok (.aload_n 0, 1) := by decide +kernel
theorem dX8_drop_25 : decode cX8_drop 25 = .ok (.iconst 1, 1) := by decide +kernel
theorem dX8_drop_26 : decode cX8_drop 26 = .ok (.invokevirtual 81, 3) := by decide +kernel
theorem dX8_drop_29 : decode cX8_drop 29 = .ok (.ireturn, 1) := by decide +kernel
theorem dX8_drop_30 : decode cX8_drop 30 = .ok (.aload_n 2, 1) := by decide +kernel
theorem dX8_drop_31 : decode cX8_drop 31 = .ok (.getfield 117, 3) := by decide +kernel
theorem dX8_drop_34 : decode cX8_drop 34 = .ok (.istore_n 3, 1) := by decide +kernel
theorem dX8_drop_35 : decode cX8_drop 35 = .ok (.aload_n 2, 1) := by decide +kernel
theorem dX8_drop_36 : decode cX8_drop 36 = .ok (.invokevirtual 120, 3) := by decide +kernel
theorem dX8_drop_39 : decode cX8_drop 39 = .ok (.aload_n 0, 1) := by decide +kernel
theorem dX8_drop_40 : decode cX8_drop 40 = .ok (.iload_n 3, 1) := by decide +kernel
theorem dX8_drop_41 : decode cX8_drop 41 = .ok (.invokevirtual 89, 3) := by decide +kernel
theorem dX8_drop_44 : decode cX8_drop 44 = .ok (.ireturn, 1) := by decide +kernel
set_option maxRecDepth 20000 in
theorem ggX8_feed_X8_outside : GoodIn wsX8_feed wsX8_outside := goodIn_r _ [8] (by decide +kernel) (by decide +kernel)
set_option maxRecDepth 20000 in
theorem gX8_feed_X8_outside : GoodIn wsX8_feed (va_wsS RX8 76 yX8_outside wsX8_outside) := goodIn_app (goodIn_of _ (by decide +kernel)) ggX8_feed_X8_outside
set_option maxRecDepth 20000 in
theorem ggX8_feed_X7_append : GoodIn wsX8_feed wsX7_append := goodIn_r _ [13, 14, 15, 27, 28, 29, 30, 31, 32] (by decide +kernel) (by decide +kernel)
set_option maxRecDepth 20000 in
theorem gX8_feed_X7_append : GoodIn wsX8_feed (wsV RX8 129 RX7 yX7_append wsX7_append) := goodIn_app (goodIn_of _ (by decide +kernel)) ggX8_feed_X7_append
theorem dX8_feed_0 : decode cX8_feed 0 = .ok (.iload_n 3, 1) := by decide +kernel
theorem dX8_feed_1 : decode cX8_feed 1 = .ok (.iconst 1, 1) := by decide +kernel
theorem dX8_feed_2 : decode cX8_feed 2 = .ok (.bipush 8, 2) := by decide +kernel
theorem dX8_feed_4 : decode cX8_feed 4 = .ok (.invokestatic 76, 3) := by decide +kernel
theorem dX8_feed_7 : decode cX8_feed 7 = .ok (.ifCond .eq 6, 3) := by decide +kernel
theorem dX8_feed_10 : decode cX8_feed 10 = .ok (.ldc 80, 2) := by decide +kernel
theorem dX8_feed_12 : decode cX8_feed 12 = .ok (.ireturn, 1) := by decide +kernel
theorem dX8_feed_13 : decode cX8_feed 13 = .ok (.aload_n 0, 1) := by decide +kernel
theorem dX8_feed_14 : decode cX8_feed 14 = .ok (.getfield 32, 3) := by decide +kernel
theorem dX8_feed_17 : decode cX8_feed 17 = .ok (.getfield 125, 3) := by decide +kernel
theorem dX8_feed_20 : decode cX8_feed 20 = .ok (.iload_n 3, 1) := by decide +kernel
theorem dX8_feed_21 : decode cX8_feed 21 = .ok (.iadd, 1) := by decide +kernel
theorem dX8_feed_22 : decode cX8_feed 22 = .ok (.sipush 500, 3) := by decide +kernel
theorem dX8_feed_25 : decode cX8_feed 25 = .ok (.if_icmp .le 6, 3) := by decide +kernel
theorem dX8_feed_28 : decode cX8_feed 28 = .ok (.ldc 128, 2) := by decide +kernel
theorem dX8_feed_30 : decode cX8_feed 30 = .ok (.ireturn, 1) := by decide +kernel
theorem dX8_feed_31 : decode cX8_feed 31 = .ok (.aload_n 0, 1) := by decide +kernel
theorem dX8_feed_32 : decode cX8_feed 32 = .ok (.getfield 32, 3) := by decide +kernel
theorem dX8_feed_35 : decode cX8_feed 35 = .ok (.lload_n 1, 1) := by decide +kernel
theorem dX8_feed_36 : decode cX8_feed 36 = .ok (.iload_n 3, 1) := by decide +kernel
theorem dX8_feed_37 : decode cX8_feed 37 = .ok (.invokevirtual 129, 3) := by decide +kernel
theorem dX8_feed_40 : decode cX8_feed 40 = .ok (.aload_n 0, 1) := by decide +kernel
theorem dX8_feed_41 : decode cX8_feed 41 = .ok (.getfield 32, 3) := by decide +kernel
theorem dX8_feed_44 : decode cX8_feed 44 = .ok (.getfield 125, 3) := by decide +kernel
theorem dX8_feed_47 : decode cX8_feed 47 = .ok (.ireturn, 1) := by decide +kernel
set_option maxRecDepth 20000 in
theorem ggX8_realm_X4_read : GoodIn wsX8_realm wsX4_read := goodIn_r _ [15, 16, 17, 18, 19, 20, 21, 22, 23, 24, 25, 26, 27, 28, 29, 30, 31, 32, 33, 34, 35, 36, 37, 38, 39, 40, 41, 42, 43, 44, 45, 46, 47, 48, 49, 50, 51, 52, 53, 54, 55, 56, 57, 58, 59, 60, 14, 61, 62, 63, 64, 65, 66, 67, 68, 69, 70, 71, 72, 73, 74, 75, 76, 77, 78, 79, 80, 81, 82, 83, 84, 85, 86, 87, 88, 89, 90, 91, 92, 93, 94, 95, 96, 97, 98, 99, 100, 101, 102, 103, 104, 105, 106, 107, 108, 109, 110, 111, 112, 113, 114, 115, 116, 117, 118, 119, 120, 121, 122, 123, 124, 125, 126, 127, 128, 129, 130, 131, 132, 133, 134, 135, 136, 137, 138, 139, 140, 141, 142, 143, 144, 145, 146, 147, 148, 149, 150, 151, 152, 153, 154, 155, 156, 157, 158, 159, 160, 161, 162, 163, 164, 165, 166, 167, 168, 169, 170, 171, 172, 173, 174, 175, 176, 177, 178, 179, 180, 181, 182, 183, 184, 185, 186, 187, 210, 211, 212, 213, 222, 223, 224, 225, 226, 227, 214, 215, 216, 217, 218, 219, 220, 221] (by decide +kernel) (by decide +kernel)
set_option maxRecDepth 20000 in
theorem gX8_realm_X4_read : GoodIn wsX8_realm (wsV RX8 133 RX4 yX4_read wsX4_read) := goodIn_app (goodIn_of _ (by decide +kernel)) ggX8_realm_X4_read
set_option maxRecDepth 20000 in
theorem ggX8_realm_X7_empty : GoodIn wsX8_realm wsX7_empty := goodIn_r _ [191, 46, 222, 223, 224, 225, 226, 227] (by decide +kernel) (by decide +kernel)
set_option maxRecDepth 20000 in
theorem gX8_realm_X7_empty : GoodIn wsX8_realm (wsV RX8 137 RX7 yX7_empty wsX7_empty) := goodIn_app (goodIn_of _ (by decide +kernel)) ggX8_realm_X7_empty
set_option maxRecDepth 20000 in
theorem ggX8_realm_X0_forgetAll : GoodIn wsX8_realm wsX0_forgetAll := goodIn_r _ [196, 197, 198, 228, 229, 230] (by decide +kernel) (by decide +kernel)
set_option maxRecDepth 20000 in
theorem gX8_realm_X0_forgetAll : GoodIn wsX8_realm (wsV RX8 147 RX0 yX0_forgetAll wsX0_forgetAll) := goodIn_app (goodIn_of _ (by decide +kernel)) ggX8_realm_X0_forgetAll
theorem dX8_realm_0 : decode cX8_realm 0 = .ok (.aload_n 0, 1) := by decide +kernel
theorem dX8_realm_1 : decode cX8_realm 1 = .ok (.getfield 24, 3) := by decide +kernel
theorem dX8_realm_4 : decode cX8_realm 4 = .ok (.aload_n 0, 1) := by decide +kernel
theorem dX8_realm_5 : decode cX8_realm 5 = .ok (.getfield 61, 3) := by decide +kernel
theorem dX8_realm_8 : decode cX8_realm 8 = .ok (.invokevirtual 133, 3) := by decide +kernel
theorem dX8_realm_11 : decode cX8_realm 11 = .ok (.istore_n 1, 1) := by decide +kernel
theorem dX8_realm_12 : decode cX8_realm 12 = .ok (.aload_n 0, 1) := by decide +kernel
theorem dX8_realm_13 : decode cX8_realm 13 = .ok (.getfield 32, 3) := by decide +kernel
theorem dX8_realm_16 : decode cX8_realm 16 = .ok (.invokevirtual 137, 3) := by decide +kernel
theorem dX8_realm_19 : decode cX8_realm 19 = .ok (.iload_n 1, 1) := by decide +kernel
theorem dX8_realm_20 : decode cX8_realm 20 = .ok (.ifCond .ne 25, 3) := by decide +kernel
theorem dX8_realm_23 : decode cX8_realm 23 = .ok (.aload_n 0, 1) := by decide +kernel
theorem dX8_realm_24 : decode cX8_realm 24 = .ok (.aload_n 0, 1) := by decide +kernel
theorem dX8_realm_25 : decode cX8_realm 25 = .ok (.getfield 24, 3) := by decide +kernel
theorem dX8_realm_28 : decode cX8_realm 28 = .ok (.getfield 140, 3) := by decide +kernel
theorem dX8_realm_31 : decode cX8_realm 31 = .ok (.putfield 68, 3) := by decide +kernel
theorem dX8_realm_34 : decode cX8_realm 34 = .ok (.ldc 143, 2) := by decide +kernel
theorem dX8_realm_36 : decode cX8_realm 36 = .ok (.aload_n 0, 1) := by decide +kernel
theorem dX8_realm_37 : decode cX8_realm 37 = .ok (.getfield 24, 3) := by decide +kernel
theorem dX8_realm_40 : decode cX8_realm 40 = .ok (.getfield 144, 3) := by decide +kernel
theorem dX8_realm_43 : decode cX8_realm 43 = .ok (.isub, 1) := by decide +kernel
theorem dX8_realm_44 : decode cX8_realm 44 = .ok (.ireturn, 1) := by decide +kernel
theorem dX8_realm_45 : decode cX8_realm 45 = .ok (.aload_n 0, 1) := by decide +kernel
theorem dX8_realm_46 : decode cX8_realm 46 = .ok (.getfield 57, 3) := by decide +kernel
theorem dX8_realm_49 : decode cX8_realm 49 = .ok (.astore_n 2, 1) := by decide +kernel
theorem dX8_realm_50 : decode cX8_realm 50 = .ok (.aload_n 0, 1) := by decide +kernel
theorem dX8_realm_51 : decode cX8_realm 51 = .ok (.aload_n 0, 1) := by decide +kernel
theorem dX8_realm_52 : decode cX8_realm 52 = .ok (.getfield 61, 3) := by decide +kernel
theorem dX8_realm_55 : decode cX8_realm 55 = .ok (.putfield 57, 3) := by decide +kernel
theorem dX8_realm_58 : decode cX8_realm 58 = .ok (.aload_n 0, 1) := by decide +kernel
theorem dX8_realm_59 : decode cX8_realm 59 = .ok (.aload_n 2, 1) := by decide +kernel
theorem dX8_realm_60 : decode cX8_realm 60 = .ok (.putfield 61, 3) := by decide +kernel
theorem dX8_realm_63 : decode cX8_realm 63 = .ok (.aload_n 0, 1) := by decide +kernel
theorem dX8_realm_64 : decode cX8_realm 64 = .ok (.getfield 38, 3) := by decide +kernel
theorem dX8_realm_67 : decode cX8_realm 67 = .ok (.invokevirtual 147, 3) := by decide +kernel
theorem dX8_realm_70 : decode cX8_realm 70 = .ok (.aload_n 0, 1) := by decide +kernel
theorem dX8_realm_71 : decode cX8_realm 71 = .ok (.getfield 57, 3) := by decide +kernel
theorem dX8_realm_74 : decode cX8_realm 74 = .ok (.getfield 150, 3) := by decide +kernel
theorem dX8_realm_77 : decode cX8_realm 77 = .ok (.ireturn, 1) := by decide +kernel
theorem dX8_fault_0 : decode cX8_fault 0 = .ok (.aload_n 0, 1) := by decide +kernel
theorem dX8_fault_1 : decode cX8_fault 1 = .ok (.getfield 68, 3) := by decide +kernel
theorem dX8_fault_4 : decode cX8_fault 4 = .ok (.ireturn, 1) := by decide +kernel
set_option maxRecDepth 20000 in
theorem ggX8_pass_X8_noCoin : GoodIn wsX8_pass wsX8_noCoin := goodIn_r _ [12, 1, 13, 14, 15, 11, 16, 48, 49, 50, 51, 52, 53, 54, 55, 56, 57, 58, 59, 60, 61, 62, 63, 64, 65, 66] (by decide +kernel) (by decide +kernel)
set_option maxRecDepth 20000 in
theorem gX8_pass_X8_noCoin : GoodIn wsX8_pass (wsV RX8 153 RX8 yX8_noCoin wsX8_noCoin) := goodIn_app (goodIn_of _ (by decide +kernel)) ggX8_pass_X8_noCoin
set_option maxRecDepth 20000 in
theorem ggX8_pass_X8_outside : GoodIn wsX8_pass wsX8_outside := goodIn_r _ [16] (by decide +kernel) (by decide +kernel)
set_option maxRecDepth 20000 in
theorem gX8_pass_X8_outside : GoodIn wsX8_pass (va_wsS RX8 76 yX8_outside wsX8_outside) := goodIn_app (goodIn_of _ (by decide +kernel)) ggX8_pass_X8_outside
set_option maxRecDepth 20000 in
theorem ggX8_pass_X5_about : GoodIn wsX8_pass wsX5_about := goodIn_r _ [21, 22, 59, 60, 61, 62, 63, 64, 65, 66] (by decide +kernel) (by decide +kernel)
set_option maxRecDepth 20000 in
theorem gX8_pass_X5_about : GoodIn wsX8_pass (wsV RX8 159 RX5 yX5_about wsX5_about) := goodIn_app (goodIn_of _ (by decide +kernel)) ggX8_pass_X5_about
set_option maxRecDepth 20000 in
theorem ggX8_pass_X5_withHolder : GoodIn wsX8_pass wsX5_withHolder := goodIn_r _ [26, 27, 18, 19, 20, 21, 22, 59, 60, 61, 62, 63, 64, 65, 66] (by decide +kernel) (by decide +kernel)
set_option maxRecDepth 20000 in
theorem gX8_pass_X5_withHolder : GoodIn wsX8_pass (wsV RX8 162 RX5 yX5_withHolder wsX5_withHolder) := goodIn_app (goodIn_of _ (by decide +kernel)) ggX8_pass_X5_withHolder
set_option maxRecDepth 20000 in
theorem ggX8_pass_X0_keep : GoodIn wsX8_pass wsX0_keep := goodIn_r _ [32, 33, 34, 35, 36, 37, 38, 39, 40, 41, 42, 43, 67, 68, 69] (by decide +kernel) (by decide +kernel)
set_option maxRecDepth 20000 in
theorem gX8_pass_X0_keep : GoodIn wsX8_pass (wsV RX8 172 RX0 yX0_keep wsX0_keep) := goodIn_app (goodIn_of _ (by decide +kernel)) ggX8_pass_X0_keep
set_option maxRecDepth 20000 in
theorem ggX8_pass_X5_put : GoodIn wsX8_pass wsX5_put := goodIn_r _ [47, 22, 59, 60, 61, 62, 63, 64, 65, 66] (by decide +kernel) (by decide +kernel)
set_option maxRecDepth 20000 in
theorem gX8_pass_X5_put : GoodIn wsX8_pass (wsV RX8 176 RX5 yX5_put wsX5_put) := goodIn_app (goodIn_of _ (by decide +kernel)) ggX8_pass_X5_put
theorem dX8_pass_0 : decode cX8_pass 0 = .ok (.aload_n 0, 1) := by decide +kernel
theorem dX8_pass_1 : decode cX8_pass 1 = .ok (.iload_n 1, 1) := by decide +kernel
theorem dX8_pass_2 : decode cX8_pass 2 = .ok (.invokevirtual 153, 3) := by decide +kernel
theorem dX8_pass_5 : decode cX8_pass 5 = .ok (.ifCond .ne 20, 3) := by decide +kernel
theorem dX8_pass_8 : decode cX8_pass 8 = .ok (.iload_n 2, 1) := by decide +kernel
theorem dX8_pass_9 : decode cX8_pass 9 = .ok (.iconst 0, 1) := by decide +kernel
theorem dX8_pass_10 : decode cX8_pass 10 = .ok (.aload_n 0, 1) := by decide +kernel
theorem dX8_pass_11 : decode cX8_pass 11 = .ok (.getfield 57, 3) := by decide +kernel
theorem dX8_pass_14 : decode cX8_pass 14 = .ok (.getfield 156, 3) := by decide +kernel
theorem dX8_pass_17 : decode cX8_pass 17 = .ok (.iconst 1, 1) := by decide +kernel
theorem dX8_pass_18 : decode cX8_pass 18 = .ok (.isub, 1) := by decide +kernel
theorem dX8_pass_19 : decode cX8_pass 19 = .ok (.invokestatic 76, 3) := by decide +kernel
theorem dX8_pass_22 : decode cX8_pass 22 = .ok (.ifCond .eq 6, 3) := by decide +kernel
theorem dX8_pass_25 : decode cX8_pass 25 = .ok (.ldc 80, 2) := by decide +kernel
theorem dX8_pass_27 : decode cX8_pass 27 = .ok (.ireturn, 1) := by decide +kernel
theorem dX8_pass_28 : decode cX8_pass 28 = .ok (.aload_n 0, 1) := by decide +kernel
theorem dX8_pass_29 : decode cX8_pass 29 = .ok (.getfield 57, 3) := by decide +kernel
theorem dX8_pass_32 : decode cX8_pass 32 = .ok (.iload_n 1, 1) := by decide +kernel
theorem dX8_pass_33 : decode cX8_pass 33 = .ok (.iconst 0, 1) := by decide +kernel
theorem dX8_pass_34 : decode cX8_pass 34 = .ok (.invokevirtual 159, 3) := by decide +kernel
theorem dX8_pass_37 : decode cX8_pass 37 = .ok (.istore_n 3, 1) := by decide +kernel
theorem dX8_pass_38 : decode cX8_pass 38 = .ok (.iload_n 2, 1) := by decide +kernel
theorem dX8_pass_39 : decode cX8_pass 39 = .ok (.iload_n 3, 1) := by decide +kernel
theorem dX8_pass_40 : decode cX8_pass 40 = .ok (.if_icmp .ne 6, 3) := by decide +kernel
theorem dX8_pass_43 : decode cX8_pass 43 = .ok (.ldc 80, 2) := by decide +kernel
theorem dX8_pass_45 : decode cX8_pass 45 = .ok (.ireturn, 1) := by decide +kernel
theorem dX8_pass_46 : decode cX8_pass 46 = .ok (.aload_n 0, 1) := by decide +kernel
theorem dX8_pass_47 : decode cX8_pass 47 = .ok (.getfield 57, 3) := by decide +kernel
theorem dX8_pass_50 : decode cX8_pass 50 = .ok (.iload_n 1, 1) := by decide +kernel
theorem dX8_pass_51 : decode cX8_pass 51 = .ok (.invokevirtual 162, 3) := by decide +kernel
theorem dX8_pass_54 : decode cX8_pass 54 = .ok (.ifCond .eq 24, 3) := by decide +kernel
theorem dX8_pass_57 : decode cX8_pass 57 = .ok (.aload_n 0, 1) := by decide +kernel
theorem dX8_pass_58 : decode cX8_pass 58 = .ok (.getfield 57, 3) := by decide +kernel
theorem dX8_pass_61 : decode cX8_pass 61 = .ok (.getfield 165, 3) := by decide +kernel
theorem dX8_pass_64 : decode cX8_pass 64 = .ok (.iload_n 2, 1) := by decide +kernel
theorem dX8_pass_65 : decode cX8_pass 65 = .ok (.iaload, 1) := by decide +kernel
theorem dX8_pass_66 : decode cX8_pass 66 = .ok (.aload_n 0, 1) := by decide +kernel
theorem dX8_pass_67 : decode cX8_pass 67 = .ok (.getfield 57, 3) := by decide +kernel
theorem dX8_pass_70 : decode cX8_pass 70 = .ok (.getfield 165, 3) := by decide +kernel
theorem dX8_pass_73 : decode cX8_pass 73 = .ok (.iload_n 3, 1) := by decide +kernel
theorem dX8_pass_74 : decode cX8_pass 74 = .ok (.iaload, 1) := by decide +kernel
theorem dX8_pass_75 : decode cX8_pass 75 = .ok (.if_icmp .eq 6, 3) := by decide +kernel
theorem dX8_pass_78 : decode cX8_pass 78 = .ok (.ldc 168, 2) := by decide +kernel
theorem dX8_pass_80 : decode cX8_pass 80 = .ok (.ireturn, 1) := by decide +kernel
theorem dX8_pass_81 : decode cX8_pass 81 = .ok (.aload_n 0, 1) := by decide +kernel
theorem dX8_pass_82 : decode cX8_pass 82 = .ok (.getfield 38, 3) := by decide +kernel
theorem dX8_pass_85 : decode cX8_pass 85 = .ok (.aload_n 0, 1) := by decide +kernel
theorem dX8_pass_86 : decode cX8_pass 86 = .ok (.getfield 57, 3) := by decide +kernel
theorem dX8_pass_89 : decode cX8_pass 89 = .ok (.getfield 169, 3) := by decide +kernel
theorem dX8_pass_92 : decode cX8_pass 92 = .ok (.invokevirtual 172, 3) := by decide +kernel
theorem dX8_pass_95 : decode cX8_pass 95 = .ok (.aload_n 0, 1) := by decide +kernel
theorem dX8_pass_96 : decode cX8_pass 96 = .ok (.getfield 57, 3) := by decide +kernel
theorem dX8_pass_99 : decode cX8_pass 99 = .ok (.iload_n 1, 1) := by decide +kernel
theorem dX8_pass_100 : decode cX8_pass 100 = .ok (.iconst 0, 1) := by decide +kernel
theorem dX8_pass_101 : decode cX8_pass 101 = .ok (.iload_n 2, 1) := by decide +kernel
theorem dX8_pass_102 : decode cX8_pass 102 = .ok (.invokevirtual 176, 3) := by decide +kernel
theorem dX8_pass_105 : decode cX8_pass 105 = .ok (.iload_n 3, 1) := by decide +kernel
theorem dX8_pass_106 : decode cX8_pass 106 = .ok (.ireturn, 1) := by decide +kernel
set_option maxRecDepth 20000 in
theorem ggX8_send_X8_noCoin : GoodIn wsX8_send wsX8_noCoin := goodIn_r _ [8, 2, 9, 10, 11, 7, 12, 69, 70, 71, 72, 73, 74, 75, 76, 77, 78, 79, 80, 81, 82, 83, 84, 85, 86, 87] (by decide +kernel) (by decide +kernel)
set_option maxRecDepth 20000 in
theorem gX8_send_X8_noCoin : GoodIn wsX8_send (wsV RX8 153 RX8 yX8_noCoin wsX8_noCoin) := goodIn_app (goodIn_of _ (by decide +kernel)) ggX8_send_X8_noCoin
set_option maxRecDepth 20000 in
theorem ggX8_send_X5_canGoHome : GoodIn wsX8_send wsX5_canGoHome := goodIn_r _ [17, 18, 19, 20, 21, 16, 22, 23, 24, 25, 26, 27, 28, 29, 30, 31, 32, 33, 34, 35, 36, 37, 38, 80, 81, 82, 83, 84, 85, 86, 87] (by decide +kernel) (by decide +kernel)
set_option maxRecDepth 20000 in
theorem gX8_send_X5_canGoHome : GoodIn wsX8_send (wsV RX8 179 RX5 yX5_canGoHome wsX5_canGoHome) := goodIn_app (goodIn_of _ (by decide +kernel)) ggX8_send_X5_canGoHome
set_option maxRecDepth 20000 in
theorem ggX8_send_X8_sendKept : GoodIn wsX8_send wsX8_sendKept := goodIn_r _ [42, 43, 2, 44, 45, 46, 47, 48, 49, 50, 51, 52, 53, 54, 55, 56, 57, 58, 59, 60, 61, 62, 63, 16, 64, 28, 29, 30, 31, 32, 23, 24, 25, 26, 27, 33, 34, 35, 36, 37, 38, 18, 65, 66, 67, 68, 69, 70, 71, 72, 73, 74, 75, 76, 77, 78, 79, 80, 81, 82, 83, 84, 85, 86, 87, 88, 89, 90] (by decide +kernel) (by decide +kernel)
set_option maxRecDepth 20000 in
theorem gX8_send_X8_sendKept : GoodIn wsX8_send (wsV RX8 182 RX8 yX8_sendKept wsX8_sendKept) := goodIn_app (goodIn_of _ (by decide +kernel)) ggX8_send_X8_sendKept
theorem dX8_send_0 : decode cX8_send 0 = .ok (.aload_n 0, 1) := by decide +kernel
theorem dX8_send_1 : decode cX8_send 1 = .ok (.iload_n 1, 1) := by decide +kernel
theorem dX8_send_2 : decode cX8_send 2 = .ok (.invokevirtual 153, 3) := by decide +kernel
theorem dX8_send_5 : decode cX8_send 5 = .ok (.ifCond .eq 6, 3) := by decide +kernel
theorem dX8_send_8 : decode cX8_send 8 = .ok (.ldc 80, 2) := by decide +kernel
theorem dX8_send_10 : decode cX8_send 10 = .ok (.ireturn, 1) := by decide +kernel
theorem dX8_send_11 : decode cX8_send 11 = .ok (.aload_n 0, 1) := by decide +kernel
theorem dX8_send_12 : decode cX8_send 12 = .ok (.getfield 57, 3) := by decide +kernel
theorem dX8_send_15 : decode cX8_send 15 = .ok (.iload_n 1, 1) := by decide +kernel
theorem dX8_send_16 : decode cX8_send 16 = .ok (.invokevirtual 179, 3) := by decide +kernel
theorem dX8_send_19 : decode cX8_send 19 = .ok (.ifCond .ne 6, 3) := by decide +kernel
theorem dX8_send_22 : decode cX8_send 22 = .ok (.ldc 168, 2) := by decide +kernel
theorem dX8_send_24 : decode cX8_send 24 = .ok (.ireturn, 1) := by decide +kernel
theorem dX8_send_25 : decode cX8_send 25 = .ok (.aload_n 0, 1) := by decide +kernel
theorem dX8_send_26 : decode cX8_send 26 = .ok (.iload_n 1, 1) := by decide +kernel
theorem dX8_send_27 : decode cX8_send 27 = .ok (.invokevirtual 182, 3) := by decide +kernel
theorem dX8_send_30 : decode cX8_send 30 = .ok (.ireturn, 1) := by decide +kernel
set_option maxRecDepth 20000 in
theorem ggX8_sendAll_X8_noRow : GoodIn wsX8_sendAll wsX8_noRow := goodIn_r _ [10, 11, 12, 9, 13] (by decide +kernel) (by decide +kernel)
set_option maxRecDepth 20000 in
theorem gX8_sendAll_X8_noRow : GoodIn wsX8_sendAll (va_wsS RX8 72 yX8_noRow wsX8_noRow) := goodIn_app (goodIn_of _ (by decide +kernel)) ggX8_sendAll_X8_noRow
set_option maxRecDepth 20000 in
theorem ggX8_sendAll_X8_outside : GoodIn wsX8_sendAll wsX8_outside := goodIn_r _ [13] (by decide +kernel) (by decide +kernel)
set_option maxRecDepth 20000 in
theorem gX8_sendAll_X8_outside : GoodIn wsX8_sendAll (va_wsS RX8 76 yX8_outside wsX8_outside) := goodIn_app (goodIn_of _ (by decide +kernel)) ggX8_sendAll_X8_outside
set_option maxRecDepth 20000 in
theorem ggX8_sendAll_X6_missing : GoodIn wsX8_sendAll wsX6_missing := goodIn_r _ [18, 19, 115, 116, 117] (by decide +kernel) (by decide +kernel)
set_option maxRecDepth 20000 in
theorem gX8_sendAll_X6_missing : GoodIn wsX8_sendAll (wsV RX8 92 RX6 yX6_missing wsX6_missing) := goodIn_app (goodIn_of _ (by decide +kernel)) ggX8_sendAll_X6_missing
set_option maxRecDepth 20000 in
theorem ggX8_sendAll_X8_found : GoodIn wsX8_sendAll wsX8_found := goodIn_r _ [23, 24, 25, 96, 97, 98, 99, 100, 101, 102, 103, 104, 105, 106] (by decide +kernel) (by decide +kernel)
set_option maxRecDepth 20000 in
theorem gX8_sendAll_X8_found : GoodIn wsX8_sendAll (wsV RX8 81 RX8 yX8_found wsX8_found) := goodIn_app (goodIn_of _ (by decide +kernel)) ggX8_sendAll_X8_found
set_option maxRecDepth 20000 in
theorem ggX8_sendAll_X6_holds : GoodIn wsX8_sendAll wsX6_holds := goodIn_r _ [29, 30, 115, 116, 117] (by decide +kernel) (by decide +kernel)
set_option maxRecDepth 20000 in
theorem gX8_sendAll_X6_holds : GoodIn wsX8_sendAll (wsV RX8 96 RX6 yX6_holds wsX6_holds) := goodIn_app (goodIn_of _ (by decide +kernel)) ggX8_sendAll_X6_holds
set_option maxRecDepth 20000 in
theorem ggX8_sendAll_X8_noCoin : GoodIn wsX8_sendAll wsX8_noCoin := goodIn_r _ [34, 1, 35, 11, 12, 9, 13, 96, 97, 98, 99, 100, 101, 102, 103, 104, 105, 106, 107, 108, 109, 110, 111, 112, 113, 114] (by decide +kernel) (by decide +kernel)
set_option maxRecDepth 20000 in
theorem gX8_sendAll_X8_noCoin : GoodIn wsX8_sendAll (wsV RX8 153 RX8 yX8_noCoin wsX8_noCoin) := goodIn_app (goodIn_of _ (by decide +kernel)) ggX8_sendAll_X8_noCoin
set_option maxRecDepth 20000 in
theorem ggX8_sendAll_X5_canGoHome : GoodIn wsX8_sendAll wsX5_canGoHome := goodIn_r _ [40, 41, 42, 43, 44, 39, 45, 46, 47, 48, 49, 50, 51, 52, 53, 54, 55, 56, 57, 58, 59, 60, 61, 107, 108, 109, 110, 111, 112, 113, 114] (by decide +kernel) (by decide +kernel)
set_option maxRecDepth 20000 in
theorem gX8_sendAll_X5_canGoHome : GoodIn wsX8_sendAll (wsV RX8 179 RX5 yX5_canGoHome wsX5_canGoHome) := goodIn_app (goodIn_of _ (by decide +kernel)) ggX8_sendAll_X5_canGoHome
set_option maxRecDepth 20000 in
theorem ggX8_sendAll_X8_sendKept : GoodIn wsX8_sendAll wsX8_sendKept := goodIn_r _ [65, 66, 1, 67, 68, 69, 70, 71, 72, 73, 74, 75, 76, 77, 78, 79, 80, 81, 82, 83, 84, 85, 86, 39, 87, 51, 52, 53, 54, 55, 46, 47, 48, 49, 50, 56, 57, 58, 59, 60, 61, 41, 88, 89, 90, 91, 96, 97, 98, 99, 100, 101, 102, 103, 104, 105, 106, 107, 108, 109, 110, 111, 112, 113, 114, 118, 119, 120] (by decide +kernel) (by decide +kernel)
set_option maxRecDepth 20000 in
theorem gX8_sendAll_X8_sendKept : GoodIn wsX8_sendAll (wsV RX8 182 RX8 yX8_sendKept wsX8_sendKept) := goodIn_app (goodIn_of _ (by decide +kernel)) ggX8_sendAll_X8_sendKept
set_option maxRecDepth 20000 in
theorem ggX8_sendAll_X8_answered : GoodIn wsX8_sendAll wsX8_answered := goodIn_r _ [95, 24, 96, 97, 98, 99, 100, 101, 102, 103, 104, 105, 106] (by decide +kernel) (by decide +kernel)
set_option maxRecDepth 20000 in
theorem gX8_sendAll_X8_answered : GoodIn wsX8_sendAll (wsV RX8 89 RX8 yX8_answered wsX8_answered) := goodIn_app (goodIn_of _ (by decide +kernel)) ggX8_sendAll_X8_answered
theorem dX8_sendAll_0 : decode cX8_sendAll 0 = .ok (.aload_n 0, 1) := by decide +kernel
theorem dX8_sendAll_1 : decode cX8_sendAll 1 = .ok (.getfield 57, 3) := by decide +kernel
theorem dX8_sendAll_4 : decode cX8_sendAll 4 = .ok (.getfield 185, 3) := by decide +kernel
theorem dX8_sendAll_7 : decode cX8_sendAll 7 = .ok (.ifCond .ne 6, 3) := by decide +kernel
theorem dX8_sendAll_10 : decode cX8_sendAll 10 = .ok (.ldc 168, 2) := by decide +kernel
theorem dX8_sendAll_12 : decode cX8_sendAll 12 = .ok (.ireturn, 1) := by decide +kernel
theorem dX8_sendAll_13 : decode cX8_sendAll 13 = .ok (.iload_n 1, 1) := by decide +kernel
theorem dX8_sendAll_14 : decode cX8_sendAll 14 = .ok (.invokestatic 72, 3) := by decide +kernel
theorem dX8_sendAll_17 : decode cX8_sendAll 17 = .ok (.ifCond .ne 13, 3) := by decide +kernel
theorem dX8_sendAll_20 : decode cX8_sendAll 20 = .ok (.iload_n 3, 1) := by decide +kernel
theorem dX8_sendAll_21 : decode cX8_sendAll 21 = .ok (.iconst 1, 1) := by decide +kernel
theorem dX8_sendAll_22 : decode cX8_sendAll 22 = .ok (.bipush 12, 2) := by decide +kernel
theorem dX8_sendAll_24 : decode cX8_sendAll 24 = .ok (.invokestatic 76, 3) := by decide +kernel
theorem dX8_sendAll_27 : decode cX8_sendAll 27 = .ok (.ifCond .eq 6, 3) := by decide +kernel
theorem dX8_sendAll_30 : decode cX8_sendAll 30 = .ok (.ldc 80, 2) := by decide +kernel
theorem dX8_sendAll_32 : decode cX8_sendAll 32 = .ok (.ireturn, 1) := by decide +kernel
theorem dX8_sendAll_33 : decode cX8_sendAll 33 = .ok (.aload_n 0, 1) := by decide +kernel
theorem dX8_sendAll_34 : decode cX8_sendAll 34 = .ok (.getfield 11, 3) := by decide +kernel
theorem dX8_sendAll_37 : decode cX8_sendAll 37 = .ok (.iload_n 1, 1) := by decide +kernel
theorem dX8_sendAll_38 : decode cX8_sendAll 38 = .ok (.aaload, 1) := by decide +kernel
theorem dX8_sendAll_39 : decode cX8_sendAll 39 = .ok (.astore 4, 2) := by decide +kernel
theorem dX8_sendAll_41 : decode cX8_sendAll 41 = .ok (.aload 4, 2) := by decide +kernel
theorem dX8_sendAll_43 : decode cX8_sendAll 43 = .ok (.invokevirtual 92, 3) := by decide +kernel
theorem dX8_sendAll_46 : decode cX8_sendAll 46 = .ok (.ifCond .eq 9, 3) := by decide +kernel
theorem dX8_sendAll_49 : decode cX8_sendAll 49 = .ok (.aload_n 0, 1) := by decide +kernel
theorem dX8_sendAll_50 : decode cX8_sendAll 50 = .ok (.iconst 1, 1) := by decide +kernel
theorem dX8_sendAll_51 : decode cX8_sendAll 51 = .ok (.invokevirtual 81, 3) := by decide +kernel
theorem dX8_sendAll_54 : decode cX8_sendAll 54 = .ok (.ireturn, 1) := by decide +kernel
theorem dX8_sendAll_55 : decode cX8_sendAll 55 = .ok (.aload 4, 2) := by decide +kernel
theorem dX8_sendAll_57 : decode cX8_sendAll 57 = .ok (.iload_n 2, 1) := by decide +kernel
theorem dX8_sendAll_58 : decode cX8_sendAll 58 = .ok (.iload_n 3, 1) := by decide +kernel
theorem dX8_sendAll_59 : decode cX8_sendAll 59 = .ok (.invokevirtual 96, 3) := by decide +kernel
theorem dX8_sendAll_62 : decode cX8_sendAll 62 = .ok (.ifCond .ne 9, 3) := by decide +kernel
theorem dX8_sendAll_65 : decode cX8_sendAll 65 = .ok (.aload_n 0, 1) := by decide +kernel
theorem dX8_sendAll_66 : decode cX8_sendAll 66 = .ok (.iconst 2, 1) := by decide +kernel
theorem dX8_sendAll_67 : decode cX8_sendAll 67 = .ok (.invokevirtual 81, 3) := by decide +kernel
theorem dX8_sendAll_70 : decode cX8_sendAll 70 = .ok (.ireturn, 1) := by decide +kernel
theorem dX8_sendAll_71 : decode cX8_sendAll 71 = .ok (.iload_n 2, 1) := by decide +kernel
theorem dX8_sendAll_72 : decode cX8_sendAll 72 = .ok (.istore 5, 2) := by decide +kernel
theorem dX8_sendAll_74 : decode cX8_sendAll 74 = .ok (.iload 5, 2) := by decide +kernel
theorem dX8_sendAll_76 : decode cX8_sendAll 76 = .ok (.iload_n 2, 1) := by decide +kernel
theorem dX8_sendAll_77 : decode cX8_sendAll 77 = .ok (.iload_n 3, 1) := by decide +kernel
theorem dX8_sendAll_78 : decode cX8_sendAll 78 = .ok (.iadd, 1) := by decide +kernel
theorem dX8_sendAll_79 : decode cX8_sendAll 79 = .ok (.if_icmp .ge 27, 3) := by decide +kernel
theorem dX8_sendAll_82 : decode cX8_sendAll 82 = .ok (.aload_n 0, 1) := by decide +kernel
theorem dX8_sendAll_83 : decode cX8_sendAll 83 = .ok (.aload 4, 2) := by decide +kernel
theorem dX8_sendAll_85 : decode cX8_sendAll 85 = .ok (.getfield 107, 3) := by decide +kernel
theorem dX8_sendAll_88 : decode cX8_sendAll 88 = .ok (.iload 5, 2) := by decide +kernel
theorem dX8_sendAll_90 : decode cX8_sendAll 90 = .ok (.iaload, 1) := by decide +kernel
theorem dX8_sendAll_91 : decode cX8_sendAll 91 = .ok (.invokevirtual 153, 3) := by decide +kernel
theorem dX8_sendAll_94 : decode cX8_sendAll 94 = .ok (.ifCond .eq 6, 3) := by decide +kernel
theorem dX8_sendAll_97 : decode cX8_sendAll 97 = .ok (.ldc 80, 2) := by decide +kernel
theorem dX8_sendAll_99 : decode cX8_sendAll 99 = .ok (.ireturn, 1) := by decide +kernel
theorem dX8_sendAll_100 : decode cX8_sendAll 100 = .ok (.iinc 5 1, 3) := by decide +kernel
theorem dX8_sendAll_103 : decode cX8_sendAll 103 = .ok (.goto (-29), 3) := by decide +kernel
theorem dX8_sendAll_106 : decode cX8_sendAll 106 = .ok (.iconst 0, 1) := by decide +kernel
theorem dX8_sendAll_107 : decode cX8_sendAll 107 = .ok (.istore 5, 2) := by decide +kernel
theorem dX8_sendAll_109 : decode cX8_sendAll 109 = .ok (.iload_n 2, 1) := by decide +kernel
theorem dX8_sendAll_110 : decode cX8_sendAll 110 = .ok (.istore 6, 2) := by decide +kernel
theorem dX8_sendAll_112 : decode cX8_sendAll 112 = .ok (.iload 6, 2) := by decide +kernel
theorem dX8_sendAll_114 : decode cX8_sendAll 114 = .ok (.iload_n 2, 1) := by decide +kernel
theorem dX8_sendAll_115 : decode cX8_sendAll 115 = .ok (.iload_n 3, 1) := by decide +kernel
theorem dX8_sendAll_116 : decode cX8_sendAll 116 = .ok (.iadd, 1) := by decide +kernel
theorem dX8_sendAll_117 : decode cX8_sendAll 117 = .ok (.if_icmp .ge 43, 3) := by decide +kernel
theorem dX8_sendAll_120 : decode cX8_sendAll 120 = .ok (.aload_n 0, 1) := by decide +kernel
theorem dX8_sendAll_121 : decode cX8_sendAll 121 = .ok (.getfield 57, 3) := by decide +kernel
theorem dX8_sendAll_124 : decode cX8_sendAll 124 = .ok (.aload 4, 2) := by decide +kernel
theorem dX8_sendAll_126 : decode cX8_sendAll 126 = .ok (.getfield 107, 3) := by decide +kernel
theorem dX8_sendAll_129 : decode cX8_sendAll 129 = .ok (.iload 6, 2) := by decide +kernel
theorem dX8_sendAll_131 : decode cX8_sendAll 131 = .ok (.iaload, 1) := by decide +kernel
theorem dX8_sendAll_132 : decode cX8_sendAll 132 = .ok (.invokevirtual 179, 3) := by decide +kernel
theorem dX8_sendAll_135 : decode cX8_sendAll 135 = .ok (.ifCond .eq 19, 3) := by decide +kernel
theorem dX8_sendAll_138 : decode cX8_sendAll 138 = .ok (.aload_n 0, 1) := by decide +kernel
theorem dX8_sendAll_139 : decode cX8_sendAll 139 = .ok (.aload 4, 2) := by decide +kernel
theorem dX8_sendAll_141 : decode cX8_sendAll 141 = .ok (.getfield 107, 3) := by decide +kernel
theorem dX8_sendAll_144 : decode cX8_sendAll 144 = .ok (.iload 6, 2) := by decide +kernel
theorem dX8_sendAll_146 : decode cX8_sendAll 146 = .ok (.iaload, 1) := by decide +kernel
theorem dX8_sendAll_147 : decode cX8_sendAll 147 = .ok (.invokevirtual 182, 3) := by decide +kernel
theorem dX8_sendAll_150 : decode cX8_sendAll 150 = .ok (.pop, 1) := by decide +kernel
theorem dX8_sendAll_151 : decode cX8_sendAll 151 = .ok (.iinc 5 1, 3) := by decide +kernel
theorem dX8_sendAll_154 : decode cX8_sendAll 154 = .ok (.iinc 6 1, 3) := by decide +kernel
theorem dX8_sendAll_157 : decode cX8_sendAll 157 = .ok (.goto (-45), 3) := by decide +kernel
theorem dX8_sendAll_160 : decode cX8_sendAll 160 = .ok (.aload_n 0, 1) := by decide +kernel
theorem dX8_sendAll_161 : decode cX8_sendAll 161 = .ok (.iload 5, 2) := by decide +kernel
theorem dX8_sendAll_163 : decode cX8_sendAll 163 = .ok (.invokevirtual 89, 3) := by decide +kernel
theorem dX8_sendAll_166 : decode cX8_sendAll 166 = .ok (.ireturn, 1) := by decide +kernel
set_option maxRecDepth 20000 in
theorem ggX8_days_X8_outside : GoodIn wsX8_days wsX8_outside := goodIn_r _ [11] (by decide +kernel) (by decide +kernel)
set_option maxRecDepth 20000 in
theorem gX8_days_X8_outside : GoodIn wsX8_days (va_wsS RX8 76 yX8_outside wsX8_outside) := goodIn_app (goodIn_of _ (by decide +kernel)) ggX8_days_X8_outside
set_option maxRecDepth 20000 in
theorem ggX8_days_X5_today : GoodIn wsX8_days wsX5_today := goodIn_r _ [16, 17, 92, 93, 94, 95, 96, 97, 98, 99] (by decide +kernel) (by decide +kernel)
set_option maxRecDepth 20000 in
theorem gX8_days_X5_today : GoodIn wsX8_days (wsV RX8 189 RX5 yX5_today wsX5_today) := goodIn_app (goodIn_of _ (by decide +kernel)) ggX8_days_X5_today
set_option maxRecDepth 20000 in
theorem ggX8_days_X0_keep : GoodIn wsX8_days wsX0_keep := goodIn_r _ [22, 23, 24, 25, 26, 27, 28, 29, 30, 31, 32, 33, 100, 101, 102] (by decide +kernel) (by decide +kernel)
set_option maxRecDepth 20000 in
theorem gX8_days_X0_keep : GoodIn wsX8_days (wsV RX8 172 RX0 yX0_keep wsX0_keep) := goodIn_app (goodIn_of _ (by decide +kernel)) ggX8_days_X0_keep
set_option maxRecDepth 20000 in
theorem ggX8_days_X5_liveDay : GoodIn wsX8_days wsX5_liveDay := goodIn_r _ [37, 17, 38, 39, 40, 41, 15, 42, 43, 44, 45, 46, 47, 48, 49, 50, 51, 52, 53, 54, 55, 56, 57, 58, 59, 60, 61, 62, 63, 64, 65, 66, 67, 68, 69, 70, 71, 72, 73, 74, 75, 76, 77, 78, 79, 80, 92, 93, 94, 95, 96, 97, 98, 99] (by decide +kernel) (by decide +kernel)
set_option maxRecDepth 20000 in
theorem gX8_days_X5_liveDay : GoodIn wsX8_days (wsV RX8 193 RX5 yX5_liveDay wsX5_liveDay) := goodIn_app (goodIn_of _ (by decide +kernel)) ggX8_days_X5_liveDay
theorem dX8_days_0 : decode cX8_days 0 = .ok (.aload_n 0, 1) := by decide +kernel
theorem dX8_days_1 : decode cX8_days 1 = .ok (.getfield 57, 3) := by decide +kernel
theorem dX8_days_4 : decode cX8_days 4 = .ok (.getfield 185, 3) := by decide +kernel
theorem dX8_days_7 : decode cX8_days 7 = .ok (.ifCond .ne 6, 3) := by decide +kernel
theorem dX8_days_10 : decode cX8_days 10 = .ok (.ldc 168, 2) := by decide +kernel
theorem dX8_days_12 : decode cX8_days 12 = .ok (.ireturn, 1) := by decide +kernel
theorem dX8_days_13 : decode cX8_days 13 = .ok (.iload_n 1, 1) := by decide +kernel
theorem dX8_days_14 : decode cX8_days 14 = .ok (.iconst 1, 1) := by decide +kernel
theorem dX8_days_15 : decode cX8_days 15 = .ok (.bipush 99, 2) := by decide +kernel
theorem dX8_days_17 : decode cX8_days 17 = .ok (.invokestatic 76, 3) := by decide +kernel
theorem dX8_days_20 : decode cX8_days 20 = .ok (.ifCond .eq 6, 3) := by decide +kernel
theorem dX8_days_23 : decode cX8_days 23 = .ok (.ldc 80, 2) := by decide +kernel
theorem dX8_days_25 : decode cX8_days 25 = .ok (.ireturn, 1) := by decide +kernel
theorem dX8_days_26 : decode cX8_days 26 = .ok (.aload_n 0, 1) := by decide +kernel
theorem dX8_days_27 : decode cX8_days 27 = .ok (.getfield 57, 3) := by decide +kernel
theorem dX8_days_30 : decode cX8_days 30 = .ok (.invokevirtual 189, 3) := by decide +kernel
theorem dX8_days_33 : decode cX8_days 33 = .ok (.iload_n 1, 1) := by decide +kernel
theorem dX8_days_34 : decode cX8_days 34 = .ok (.iadd, 1) := by decide +kernel
theorem dX8_days_35 : decode cX8_days 35 = .ok (.sipush 9999, 3) := by decide +kernel
theorem dX8_days_38 : decode cX8_days 38 = .ok (.if_icmp .le 6, 3) := by decide +kernel
theorem dX8_days_41 : decode cX8_days 41 = .ok (.ldc 128, 2) := by decide +kernel
theorem dX8_days_43 : decode cX8_days 43 = .ok (.ireturn, 1) := by decide +kernel
theorem dX8_days_44 : decode cX8_days 44 = .ok (.aload_n 0, 1) := by decide +kernel
theorem dX8_days_45 : decode cX8_days 45 = .ok (.getfield 38, 3) := by decide +kernel
theorem dX8_days_48 : decode cX8_days 48 = .ok (.aload_n 0, 1) := by decide +kernel
theorem dX8_days_49 : decode cX8_days 49 = .ok (.getfield 57, 3) := by decide +kernel
theorem dX8_days_52 : decode cX8_days 52 = .ok (.getfield 169, 3) := by decide +kernel
theorem dX8_days_55 : decode cX8_days 55 = .ok (.invokevirtual 172, 3) := by decide +kernel
theorem dX8_days_58 : decode cX8_days 58 = .ok (.iconst 0, 1) := by decide +kernel
theorem dX8_days_59 : decode cX8_days 59 = .ok (.istore_n 2, 1) := by decide +kernel
theorem dX8_days_60 : decode cX8_days 60 = .ok (.iconst 0, 1) := by decide +kernel
theorem dX8_days_61 : decode cX8_days 61 = .ok (.istore_n 3, 1) := by decide +kernel
theorem dX8_days_62 : decode cX8_days 62 = .ok (.iload_n 3, 1) := by decide +kernel
theorem dX8_days_63 : decode cX8_days 63 = .ok (.iload_n 1, 1) := by decide +kernel
theorem dX8_days_64 : decode cX8_days 64 = .ok (.if_icmp .ge 19, 3) := by decide +kernel
theorem dX8_days_67 : decode cX8_days 67 = .ok (.iload_n 2, 1) := by decide +kernel
theorem dX8_days_68 : decode cX8_days 68 = .ok (.aload_n 0, 1) := by decide +kernel
theorem dX8_days_69 : decode cX8_days 69 = .ok (.getfield 57, 3) := by decide +kernel
theorem dX8_days_72 : decode cX8_days 72 = .ok (.invokevirtual 193, 3) := by decide +kernel
theorem dX8_days_75 : decode cX8_days 75 = .ok (.ior, 1) := by decide +kernel
theorem dX8_days_76 : decode cX8_days 76 = .ok (.istore_n 2, 1) := by decide +kernel
theorem dX8_days_77 : decode cX8_days 77 = .ok (.iinc 3 1, 3) := by decide +kernel
theorem dX8_days_80 : decode cX8_days 80 = .ok (.goto (-18), 3) := by decide +kernel
theorem dX8_days_83 : decode cX8_days 83 = .ok (.iload_n 2, 1) := by decide +kernel
theorem dX8_days_84 : decode cX8_days 84 = .ok (.ireturn, 1) := by decide +kernel
set_option maxRecDepth 20000 in
theorem ggX8_flood_X8_outside : GoodIn wsX8_flood wsX8_outside := goodIn_r _ [11] (by decide +kernel) (by decide +kernel)
set_option maxRecDepth 20000 in
theorem gX8_flood_X8_outside : GoodIn wsX8_flood (va_wsS RX8 76 yX8_outside wsX8_outside) := goodIn_app (goodIn_of _ (by decide +kernel)) ggX8_flood_X8_outside
set_option maxRecDepth 20000 in
theorem ggX8_flood_X0_keep : GoodIn wsX8_flood wsX0_keep := goodIn_r _ [16, 17, 18, 19, 20, 21, 22, 23, 24, 25, 26, 27, 69, 70, 71] (by decide +kernel) (by decide +kernel)
set_option maxRecDepth 20000 in
theorem gX8_flood_X0_keep : GoodIn wsX8_flood (wsV RX8 172 RX0 yX0_keep wsX0_keep) := goodIn_app (goodIn_of _ (by decide +kernel)) ggX8_flood_X0_keep
set_option maxRecDepth 20000 in
theorem ggX8_flood_X5_holdUp : GoodIn wsX8_flood wsX5_holdUp := goodIn_r _ [32, 33, 34, 35, 36, 37, 38, 39, 31, 40, 41, 42, 43, 44, 45, 46, 47, 48, 49, 61, 62, 63, 64, 65, 66, 67, 68] (by decide +kernel) (by decide +kernel)
set_option maxRecDepth 20000 in
theorem gX8_flood_X5_holdUp : GoodIn wsX8_flood (wsV RX8 197 RX5 yX5_holdUp wsX5_holdUp) := goodIn_app (goodIn_of _ (by decide +kernel)) ggX8_flood_X5_holdUp
theorem dX8_flood_0 : decode cX8_flood 0 = .ok (.aload_n 0, 1) := by decide +kernel
theorem dX8_flood_1 : decode cX8_flood 1 = .ok (.getfield 57, 3) := by decide +kernel
theorem dX8_flood_4 : decode cX8_flood 4 = .ok (.getfield 185, 3) := by decide +kernel
theorem dX8_flood_7 : decode cX8_flood 7 = .ok (.ifCond .ne 6, 3) := by decide +kernel
theorem dX8_flood_10 : decode cX8_flood 10 = .ok (.ldc 168, 2) := by decide +kernel
theorem dX8_flood_12 : decode cX8_flood 12 = .ok (.ireturn, 1) := by decide +kernel
theorem dX8_flood_13 : decode cX8_flood 13 = .ok (.iload_n 1, 1) := by decide +kernel
theorem dX8_flood_14 : decode cX8_flood 14 = .ok (.iconst 1, 1) := by decide +kernel
theorem dX8_flood_15 : decode cX8_flood 15 = .ok (.ldc 196, 2) := by decide +kernel
theorem dX8_flood_17 : decode cX8_flood 17 = .ok (.invokestatic 76, 3) := by decide +kernel
theorem dX8_flood_20 : decode cX8_flood 20 = .ok (.ifCond .eq 6, 3) := by decide +kernel
theorem dX8_flood_23 : decode cX8_flood 23 = .ok (.ldc 80, 2) := by decide +kernel
theorem dX8_flood_25 : decode cX8_flood 25 = .ok (.ireturn, 1) := by decide +kernel
theorem dX8_flood_26 : decode cX8_flood 26 = .ok (.aload_n 0, 1) := by decide +kernel
theorem dX8_flood_27 : decode cX8_flood 27 = .ok (.getfield 38, 3) := by decide +kernel
theorem dX8_flood_30 : decode cX8_flood 30 = .ok (.aload_n 0, 1) := by decide +kernel
theorem dX8_flood_31 : decode cX8_flood 31 = .ok (.getfield 57, 3) := by decide +kernel
theorem dX8_flood_34 : decode cX8_flood 34 = .ok (.getfield 169, 3) := by decide +kernel
theorem dX8_flood_37 : decode cX8_flood 37 = .ok (.invokevirtual 172, 3) := by decide +kernel
theorem dX8_flood_40 : decode cX8_flood 40 = .ok (.aload_n 0, 1) := by decide +kernel
theorem dX8_flood_41 : decode cX8_flood 41 = .ok (.getfield 57, 3) := by decide +kernel
theorem dX8_flood_44 : decode cX8_flood 44 = .ok (.iload_n 1, 1) := by decide +kernel
theorem dX8_flood_45 : decode cX8_flood 45 = .ok (.invokevirtual 197, 3) := by decide +kernel
theorem dX8_flood_48 : decode cX8_flood 48 = .ok (.ireturn, 1) := by decide +kernel
set_option maxRecDepth 20000 in
theorem ggX8_undo_X0_takeBack : GoodIn wsX8_undo wsX0_takeBack := goodIn_r _ [10, 11, 12, 13, 14, 15, 16, 17, 29, 30, 31] (by decide +kernel) (by decide +kernel)
set_option maxRecDepth 20000 in
theorem gX8_undo_X0_takeBack : GoodIn wsX8_undo (wsV RX8 203 RX0 yX0_takeBack wsX0_takeBack) := goodIn_app (goodIn_of _ (by decide +kernel)) ggX8_undo_X0_takeBack
theorem dX8_undo_0 : decode cX8_undo 0 = .ok (.aload_n 0, 1) := by decide +kernel
theorem dX8_undo_1 : decode cX8_undo 1 = .ok (.getfield 38, 3) := by decide +kernel
theorem dX8_undo_4 : decode cX8_undo 4 = .ok (.getfield 200, 3) := by decide +kernel
theorem dX8_undo_7 : decode cX8_undo 7 = .ok (.ifCond .ne 6, 3) := by decide +kernel
theorem dX8_undo_10 : decode cX8_undo 10 = .ok (.ldc 168, 2) := by decide +kernel
theorem dX8_undo_12 : decode cX8_undo 12 = .ok (.ireturn, 1) := by decide +kernel
theorem dX8_undo_13 : decode cX8_undo 13 = .ok (.aload_n 0, 1) := by decide +kernel
theorem dX8_undo_14 : decode cX8_undo 14 = .ok (.getfield 38, 3) := by decide +kernel
theorem dX8_undo_17 : decode cX8_undo 17 = .ok (.aload_n 0, 1) := by decide +kernel
theorem dX8_undo_18 : decode cX8_undo 18 = .ok (.getfield 57, 3) := by decide +kernel
theorem dX8_undo_21 : decode cX8_undo 21 = .ok (.getfield 169, 3) := by decide +kernel
theorem dX8_undo_24 : decode cX8_undo 24 = .ok (.invokevirtual 203, 3) := by decide +kernel
theorem dX8_undo_27 : decode cX8_undo 27 = .ok (.aload_n 0, 1) := by decide +kernel
theorem dX8_undo_28 : decode cX8_undo 28 = .ok (.getfield 38, 3) := by decide +kernel
theorem dX8_undo_31 : decode cX8_undo 31 = .ok (.getfield 200, 3) := by decide +kernel
theorem dX8_undo_34 : decode cX8_undo 34 = .ok (.ireturn, 1) := by decide +kernel
set_option maxRecDepth 20000 in
theorem ggX8_coin_X8_noCoin : GoodIn wsX8_coin wsX8_noCoin := goodIn_r _ [7, 2, 8, 9, 10, 6, 11, 63, 64, 65, 66, 67, 68, 69, 70, 71, 72, 73, 74, 75, 76, 77, 78, 79, 80, 81] (by decide +kernel) (by decide +kernel)
set_option maxRecDepth 20000 in
theorem gX8_coin_X8_noCoin : GoodIn wsX8_coin (wsV RX8 153 RX8 yX8_noCoin wsX8_noCoin) := goodIn_app (goodIn_of _ (by decide +kernel)) ggX8_coin_X8_noCoin
set_option maxRecDepth 20000 in
theorem ggX8_coin_X8_outside : GoodIn wsX8_coin wsX8_outside := goodIn_r _ [11] (by decide +kernel) (by decide +kernel)
set_option maxRecDepth 20000 in
theorem gX8_coin_X8_outside : GoodIn wsX8_coin (va_wsS RX8 76 yX8_outside wsX8_outside) := goodIn_app (goodIn_of _ (by decide +kernel)) ggX8_coin_X8_outside
set_option maxRecDepth 20000 in
theorem ggX8_coin_X5_spanOf : GoodIn wsX8_coin wsX5_spanOf := goodIn_r _ [16, 17, 18, 74, 75, 76, 77, 78, 79, 80, 81] (by decide +kernel) (by decide +kernel)
set_option maxRecDepth 20000 in
theorem gX8_coin_X5_spanOf : GoodIn wsX8_coin (wsV RX8 206 RX5 yX5_spanOf wsX5_spanOf) := goodIn_app (goodIn_of _ (by decide +kernel)) ggX8_coin_X5_spanOf
set_option maxRecDepth 20000 in
theorem ggX8_coin_X5_slackOf : GoodIn wsX8_coin wsX5_slackOf := goodIn_r _ [22, 23, 24, 25, 15, 26, 27, 28, 29, 30, 31, 32, 33, 34, 35, 36, 37, 38, 39, 40, 41, 42, 43, 44, 45, 46, 17, 47, 48, 49, 50, 51, 52, 53, 54, 55, 56, 13, 14, 16, 18, 74, 75, 76, 77, 78, 79, 80, 81] (by decide +kernel) (by decide +kernel)
set_option maxRecDepth 20000 in
theorem gX8_coin_X5_slackOf : GoodIn wsX8_coin (wsV RX8 209 RX5 yX5_slackOf wsX5_slackOf) := goodIn_app (goodIn_of _ (by decide +kernel)) ggX8_coin_X5_slackOf
set_option maxRecDepth 20000 in
theorem ggX8_coin_X5_worthOf : GoodIn wsX8_coin wsX5_worthOf := goodIn_r _ [60, 61, 20, 21, 15, 22, 23, 24, 25, 26, 27, 28, 29, 30, 31, 32, 33, 34, 35, 36, 37, 38, 39, 40, 41, 42, 43, 44, 45, 46, 17, 47, 48, 49, 50, 51, 52, 53, 54, 55, 56, 13, 14, 16, 18, 74, 75, 76, 77, 78, 79, 80, 81] (by decide +kernel) (by decide +kernel)
set_option maxRecDepth 20000 in
theorem gX8_coin_X5_worthOf : GoodIn wsX8_coin (wsV RX8 212 RX5 yX5_worthOf wsX5_worthOf) := goodIn_app (goodIn_of _ (by decide +kernel)) ggX8_coin_X5_worthOf
set_option maxRecDepth 20000 in
theorem ggX8_coin_X5_about : GoodIn wsX8_coin wsX5_about := goodIn_r _ [41, 42, 74, 75, 76, 77, 78, 79, 80, 81] (by decide +kernel) (by decide +kernel)
set_option maxRecDepth 20000 in
theorem gX8_coin_X5_about : GoodIn wsX8_coin (wsV RX8 159 RX5 yX5_about wsX5_about) := goodIn_app (goodIn_of _ (by decide +kernel)) ggX8_coin_X5_about
theorem dX8_coin_0 : decode cX8_coin 0 = .ok (.aload_n 0, 1) := by decide +kernel
theorem dX8_coin_1 : decode cX8_coin 1 = .ok (.iload_n 1, 1) := by decide +kernel
theorem dX8_coin_2 : decode cX8_coin 2 = .ok (.invokevirtual 153, 3) := by decide +kernel
theorem dX8_coin_5 : decode cX8_coin 5 = .ok (.ifCond .ne 13, 3) := by decide +kernel
theorem dX8_coin_8 : decode cX8_coin 8 = .ok (.iload_n 2, 1) := by decide +kernel
theorem dX8_coin_9 : decode cX8_coin 9 = .ok (.iconst 0, 1) := by decide +kernel
theorem dX8_coin_10 : decode cX8_coin 10 = .ok (.bipush 7, 2) := by decide +kernel
theorem dX8_coin_12 : decode cX8_coin 12 = .ok (.invokestatic 76, 3) := by decide +kernel
theorem dX8_coin_15 : decode cX8_coin 15 = .ok (.ifCond .eq 6, 3) := by decide +kernel
theorem dX8_coin_18 : decode cX8_coin 18 = .ok (.ldc 80, 2) := by decide +kernel
theorem dX8_coin_20 : decode cX8_coin 20 = .ok (.ireturn, 1) := by decide +kernel
theorem dX8_coin_21 : decode cX8_coin 21 = .ok (.iload_n 2, 1) := by decide +kernel
theorem dX8_coin_22 : decode cX8_coin 22 = .ok (.tableswitch 53 5 7 #[26, 35, 44], 26) := by decide +kernel
theorem dX8_coin_48 : decode cX8_coin 48 = .ok (.aload_n 0, 1) := by decide +kernel
theorem dX8_coin_49 : decode cX8_coin 49 = .ok (.getfield 57, 3) := by decide +kernel
theorem dX8_coin_52 : decode cX8_coin 52 = .ok (.iload_n 1, 1) := by decide +kernel
theorem dX8_coin_53 : decode cX8_coin 53 = .ok (.invokevirtual 206, 3) := by decide +kernel
theorem dX8_coin_56 : decode cX8_coin 56 = .ok (.ireturn, 1) := by decide +kernel
theorem dX8_coin_57 : decode cX8_coin 57 = .ok (.aload_n 0, 1) := by decide +kernel
theorem dX8_coin_58 : decode cX8_coin 58 = .ok (.getfield 57, 3) := by decide +kernel
theorem dX8_coin_61 : decode cX8_coin 61 = .ok (.iload_n 1, 1) := by decide +kernel
theorem dX8_coin_62 : decode cX8_coin 62 = .ok (.invokevirtual 209, 3) := by decide +kernel
theorem dX8_coin_65 : decode cX8_coin 65 = .ok (.ireturn, 1) := by decide +kernel
theorem dX8_coin_66 : decode cX8_coin 66 = .ok (.aload_n 0, 1) := by decide +kernel
theorem dX8_coin_67 : decode cX8_coin 67 = .ok (.getfield 57, 3) := by decide +kernel
theorem dX8_coin_70 : decode cX8_coin 70 = .ok (.iload_n 1, 1) := by decide +kernel
theorem dX8_coin_71 : decode cX8_coin 71 = .ok (.invokevirtual 212, 3) := by decide +kernel
theorem dX8_coin_74 : decode cX8_coin 74 = .ok (.ireturn, 1) := by decide +kernel
theorem dX8_coin_75 : decode cX8_coin 75 = .ok (.aload_n 0, 1) := by decide +kernel
theorem dX8_coin_76 : decode cX8_coin 76 = .ok (.getfield 57, 3) := by decide +kernel
theorem dX8_coin_79 : decode cX8_coin 79 = .ok (.iload_n 1, 1) := by decide +kernel
theorem dX8_coin_80 : decode cX8_coin 80 = .ok (.iload_n 2, 1) := by decide +kernel
theorem dX8_coin_81 : decode cX8_coin 81 = .ok (.invokevirtual 159, 3) := by decide +kernel
theorem dX8_coin_84 : decode cX8_coin 84 = .ok (.ireturn, 1) := by decide +kernel
set_option maxRecDepth 20000 in
theorem ggX8_far_X8_outside : GoodIn wsX8_far wsX8_outside := goodIn_r _ [8] (by decide +kernel) (by decide +kernel)
set_option maxRecDepth 20000 in
theorem gX8_far_X8_outside : GoodIn wsX8_far (va_wsS RX8 76 yX8_outside wsX8_outside) := goodIn_app (goodIn_of _ (by decide +kernel)) ggX8_far_X8_outside
set_option maxRecDepth 20000 in
theorem ggX8_far_X5_distance : GoodIn wsX8_far wsX5_distance := goodIn_r _ [13, 14, 15, 16, 28, 29, 30, 31, 32, 33, 34, 35] (by decide +kernel) (by decide +kernel)
set_option maxRecDepth 20000 in
theorem gX8_far_X5_distance : GoodIn wsX8_far (wsV RX8 215 RX5 yX5_distance wsX5_distance) := goodIn_app (goodIn_of _ (by decide +kernel)) ggX8_far_X5_distance
