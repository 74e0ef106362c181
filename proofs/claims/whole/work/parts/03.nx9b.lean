theorem dX9_must_0 : decode cX9_must 0 = .ok (.iload_n 1, 1) := by decide +kernel
theorem dX9_must_1 : decode cX9_must 1 = .ok (.ifCond .ne 8, 3) := by decide +kernel
theorem dX9_must_4 : decode cX9_must 4 = .ok (.aload_n 0, 1) := by decide +kernel
theorem dX9_must_5 : decode cX9_must 5 = .ok (.iconst 1, 1) := by decide +kernel
theorem dX9_must_6 : decode cX9_must 6 = .ok (.invokevirtual 114, 3) := by decide +kernel
theorem dX9_must_9 : decode cX9_must 9 = .ok (.aload_n 0, 1) := by decide +kernel
theorem dX9_must_10 : decode cX9_must 10 = .ok (.getfield 105, 3) := by decide +kernel
theorem dX9_must_13 : decode cX9_must 13 = .ok (.ifCond .ne 7, 3) := by decide +kernel
theorem dX9_must_16 : decode cX9_must 16 = .ok (.aload_n 0, 1) := by decide +kernel
theorem dX9_must_17 : decode cX9_must 17 = .ok (.invokevirtual 108, 3) := by decide +kernel
theorem dX9_must_20 : decode cX9_must 20 = .ok (.return_, 1) := by decide +kernel
theorem dX9_name_0 : decode cX9_name 0 = .ok (.lconst 0, 1) := by decide +kernel
theorem dX9_name_1 : decode cX9_name 1 = .ok (.lstore_n 1, 1) := by decide +kernel
theorem dX9_name_2 : decode cX9_name 2 = .ok (.aload_n 0, 1) := by decide +kernel
theorem dX9_name_3 : decode cX9_name 3 = .ok (.getfield 90, 3) := by decide +kernel
theorem dX9_name_6 : decode cX9_name 6 = .ok (.istore_n 3, 1) := by decide +kernel
theorem dX9_name_7 : decode cX9_name 7 = .ok (.iload_n 3, 1) := by decide +kernel
theorem dX9_name_8 : decode cX9_name 8 = .ok (.aload_n 0, 1) := by decide +kernel
theorem dX9_name_9 : decode cX9_name 9 = .ok (.getfield 102, 3) := by decide +kernel
theorem dX9_name_12 : decode cX9_name 12 = .ok (.if_icmp .ge 44, 3) := by decide +kernel
theorem dX9_name_15 : decode cX9_name 15 = .ok (.aload_n 0, 1) := by decide +kernel
theorem dX9_name_16 : decode cX9_name 16 = .ok (.getfield 93, 3) := by decide +kernel
theorem dX9_name_19 : decode cX9_name 19 = .ok (.iconst 2, 1) := by decide +kernel
theorem dX9_name_20 : decode cX9_name 20 = .ok (.if_icmp .ne 36, 3) := by decide +kernel
theorem dX9_name_23 : decode cX9_name 23 = .ok (.aload_n 0, 1) := by decide +kernel
theorem dX9_name_24 : decode cX9_name 24 = .ok (.getfield 102, 3) := by decide +kernel
theorem dX9_name_27 : decode cX9_name 27 = .ok (.aload_n 0, 1) := by decide +kernel
theorem dX9_name_28 : decode cX9_name 28 = .ok (.getfield 90, 3) := by decide +kernel
theorem dX9_name_31 : decode cX9_name 31 = .ok (.isub, 1) := by decide +kernel
theorem dX9_name_32 : decode cX9_name 32 = .ok (.bipush 8, 2) := by decide +kernel
theorem dX9_name_34 : decode cX9_name 34 = .ok (.if_icmp .ge 22, 3) := by decide +kernel
theorem dX9_name_37 : decode cX9_name 37 = .ok (.lload_n 1, 1) := by decide +kernel
theorem dX9_name_38 : decode cX9_name 38 = .ok (.bipush 8, 2) := by decide +kernel
theorem dX9_name_40 : decode cX9_name 40 = .ok (.lshl, 1) := by decide +kernel
theorem dX9_name_41 : decode cX9_name 41 = .ok (.aload_n 0, 1) := by decide +kernel
theorem dX9_name_42 : decode cX9_name 42 = .ok (.getfield 28, 3) := by decide +kernel
theorem dX9_name_45 : decode cX9_name 45 = .ok (.iload_n 3, 1) := by decide +kernel
theorem dX9_name_46 : decode cX9_name 46 = .ok (.iaload, 1) := by decide +kernel
theorem dX9_name_47 : decode cX9_name 47 = .ok (.i2l, 1) := by decide +kernel
theorem dX9_name_48 : decode cX9_name 48 = .ok (.lor, 1) := by decide +kernel
theorem dX9_name_49 : decode cX9_name 49 = .ok (.lstore_n 1, 1) := by decide +kernel
theorem dX9_name_50 : decode cX9_name 50 = .ok (.iinc 3 1, 3) := by decide +kernel
theorem dX9_name_53 : decode cX9_name 53 = .ok (.goto (-46), 3) := by decide +kernel
theorem dX9_name_56 : decode cX9_name 56 = .ok (.aload_n 0, 1) := by decide +kernel
theorem dX9_name_57 : decode cX9_name 57 = .ok (.getfield 105, 3) := by decide +kernel
theorem dX9_name_60 : decode cX9_name 60 = .ok (.ifCond .ne 7, 3) := by decide +kernel
theorem dX9_name_63 : decode cX9_name 63 = .ok (.lload_n 1, 1) := by decide +kernel
theorem dX9_name_64 : decode cX9_name 64 = .ok (.goto 4, 3) := by decide +kernel
theorem dX9_name_67 : decode cX9_name 67 = .ok (.lconst 0, 1) := by decide +kernel
theorem dX9_name_68 : decode cX9_name 68 = .ok (.lreturn, 1) := by decide +kernel
theorem dX9_figures_0 : decode cX9_figures 0 = .ok (.iconst 0, 1) := by decide +kernel
theorem dX9_figures_1 : decode cX9_figures 1 = .ok (.istore_n 1, 1) := by decide +kernel
theorem dX9_figures_2 : decode cX9_figures 2 = .ok (.aload_n 0, 1) := by decide +kernel
theorem dX9_figures_3 : decode cX9_figures 3 = .ok (.getfield 90, 3) := by decide +kernel
theorem dX9_figures_6 : decode cX9_figures 6 = .ok (.istore_n 2, 1) := by decide +kernel
theorem dX9_figures_7 : decode cX9_figures 7 = .ok (.iload_n 2, 1) := by decide +kernel
theorem dX9_figures_8 : decode cX9_figures 8 = .ok (.aload_n 0, 1) := by decide +kernel
theorem dX9_figures_9 : decode cX9_figures 9 = .ok (.getfield 102, 3) := by decide +kernel
theorem dX9_figures_12 : decode cX9_figures 12 = .ok (.if_icmp .ge 32, 3) := by decide +kernel
theorem dX9_figures_15 : decode cX9_figures 15 = .ok (.aload_n 0, 1) := by decide +kernel
theorem dX9_figures_16 : decode cX9_figures 16 = .ok (.getfield 93, 3) := by decide +kernel
theorem dX9_figures_19 : decode cX9_figures 19 = .ok (.iconst 3, 1) := by decide +kernel
theorem dX9_figures_20 : decode cX9_figures 20 = .ok (.if_icmp .ne 24, 3) := by decide +kernel
theorem dX9_figures_23 : decode cX9_figures 23 = .ok (.bipush 10, 2) := by decide +kernel
theorem dX9_figures_25 : decode cX9_figures 25 = .ok (.iload_n 1, 1) := by decide +kernel
theorem dX9_figures_26 : decode cX9_figures 26 = .ok (.imul, 1) := by decide +kernel
theorem dX9_figures_27 : decode cX9_figures 27 = .ok (.aload_n 0, 1) := by decide +kernel
theorem dX9_figures_28 : decode cX9_figures 28 = .ok (.getfield 28, 3) := by decide +kernel
theorem dX9_figures_31 : decode cX9_figures 31 = .ok (.iload_n 2, 1) := by decide +kernel
theorem dX9_figures_32 : decode cX9_figures 32 = .ok (.iaload, 1) := by decide +kernel
theorem dX9_figures_33 : decode cX9_figures 33 = .ok (.iadd, 1) := by decide +kernel
theorem dX9_figures_34 : decode cX9_figures 34 = .ok (.bipush 48, 2) := by decide +kernel
theorem dX9_figures_36 : decode cX9_figures 36 = .ok (.isub, 1) := by decide +kernel
theorem dX9_figures_37 : decode cX9_figures 37 = .ok (.istore_n 1, 1) := by decide +kernel
theorem dX9_figures_38 : decode cX9_figures 38 = .ok (.iinc 2 1, 3) := by decide +kernel
theorem dX9_figures_41 : decode cX9_figures 41 = .ok (.goto (-34), 3) := by decide +kernel
theorem dX9_figures_44 : decode cX9_figures 44 = .ok (.iload_n 1, 1) := by decide +kernel
theorem dX9_figures_45 : decode cX9_figures 45 = .ok (.ireturn, 1) := by decide +kernel
set_option maxRecDepth 20000 in
theorem ggX9_number_X9_figures : GoodIn wsX9_number wsX9_figures := goodIn_r _ [7, 8, 9, 2, 10, 40, 41, 42, 43, 44, 45, 46, 47, 48, 49, 50, 51, 52, 53, 54, 55, 56, 57, 58, 59, 60, 61, 62, 63, 64, 65] (by decide +kernel) (by decide +kernel)
set_option maxRecDepth 20000 in
theorem gX9_number_X9_figures : GoodIn wsX9_number (wsV RX9 118 RX9 yX9_figures wsX9_figures) := goodIn_app (goodIn_of _ (by decide +kernel)) ggX9_number_X9_figures
set_option maxRecDepth 20000 in
theorem ggX9_number_X9_in : GoodIn wsX9_number wsX9_in := goodIn_r _ [13] (by decide +kernel) (by decide +kernel)
set_option maxRecDepth 20000 in
theorem gX9_number_X9_in : GoodIn wsX9_number (va_wsS RX9 57 yX9_in wsX9_in) := goodIn_app (goodIn_of _ (by decide +kernel)) ggX9_number_X9_in
set_option maxRecDepth 20000 in
theorem ggX9_number_X9_bad : GoodIn wsX9_number wsX9_bad := goodIn_r _ [17, 1, 8, 18, 40, 41, 42, 43, 44, 45, 46, 47, 48, 49, 50, 51, 52, 53, 54, 55, 56, 57, 58, 59, 60, 61, 62, 63, 64, 65] (by decide +kernel) (by decide +kernel)
set_option maxRecDepth 20000 in
theorem gX9_number_X9_bad : GoodIn wsX9_number (wsV RX9 114 RX9 yX9_bad wsX9_bad) := goodIn_app (goodIn_of _ (by decide +kernel)) ggX9_number_X9_bad
set_option maxRecDepth 20000 in
theorem ggX9_number_X9_must : GoodIn wsX9_number wsX9_must := goodIn_r _ [22, 1, 14, 15, 16, 6, 17, 8, 18, 23, 24, 25, 26, 27, 28, 2, 9, 29, 30, 31, 32, 33, 10, 34, 35, 36, 37, 38, 39, 40, 41, 42, 43, 44, 45, 46, 47, 48, 49, 50, 51, 52, 53, 54, 55, 56, 57, 58, 59, 60, 61, 62, 63, 64, 65] (by decide +kernel) (by decide +kernel)
set_option maxRecDepth 20000 in
theorem gX9_number_X9_must : GoodIn wsX9_number (wsV RX9 122 RX9 yX9_must wsX9_must) := goodIn_app (goodIn_of _ (by decide +kernel)) ggX9_number_X9_must
theorem dX9_number_0 : decode cX9_number 0 = .ok (.aload_n 0, 1) := by decide +kernel
theorem dX9_number_1 : decode cX9_number 1 = .ok (.getfield 105, 3) := by decide +kernel
theorem dX9_number_4 : decode cX9_number 4 = .ok (.ifCond .le 5, 3) := by decide +kernel
theorem dX9_number_7 : decode cX9_number 7 = .ok (.iconst 0, 1) := by decide +kernel
theorem dX9_number_8 : decode cX9_number 8 = .ok (.ireturn, 1) := by decide +kernel
theorem dX9_number_9 : decode cX9_number 9 = .ok (.aload_n 0, 1) := by decide +kernel
theorem dX9_number_10 : decode cX9_number 10 = .ok (.invokevirtual 118, 3) := by decide +kernel
theorem dX9_number_13 : decode cX9_number 13 = .ok (.istore_n 3, 1) := by decide +kernel
theorem dX9_number_14 : decode cX9_number 14 = .ok (.aload_n 0, 1) := by decide +kernel
theorem dX9_number_15 : decode cX9_number 15 = .ok (.getfield 93, 3) := by decide +kernel
theorem dX9_number_18 : decode cX9_number 18 = .ok (.iconst 3, 1) := by decide +kernel
theorem dX9_number_19 : decode cX9_number 19 = .ok (.if_icmp .ne 20, 3) := by decide +kernel
theorem dX9_number_22 : decode cX9_number 22 = .ok (.iload_n 3, 1) := by decide +kernel
theorem dX9_number_23 : decode cX9_number 23 = .ok (.i2l, 1) := by decide +kernel
theorem dX9_number_24 : decode cX9_number 24 = .ok (.iload_n 1, 1) := by decide +kernel
theorem dX9_number_25 : decode cX9_number 25 = .ok (.i2l, 1) := by decide +kernel
theorem dX9_number_26 : decode cX9_number 26 = .ok (.iload_n 2, 1) := by decide +kernel
theorem dX9_number_27 : decode cX9_number 27 = .ok (.i2l, 1) := by decide +kernel
theorem dX9_number_28 : decode cX9_number 28 = .ok (.invokestatic 57, 3) := by decide +kernel
theorem dX9_number_31 : decode cX9_number 31 = .ok (.ifCond .ne 8, 3) := by decide +kernel
theorem dX9_number_34 : decode cX9_number 34 = .ok (.aload_n 0, 1) := by decide +kernel
theorem dX9_number_35 : decode cX9_number 35 = .ok (.iconst 2, 1) := by decide +kernel
theorem dX9_number_36 : decode cX9_number 36 = .ok (.invokevirtual 114, 3) := by decide +kernel
theorem dX9_number_39 : decode cX9_number 39 = .ok (.aload_n 0, 1) := by decide +kernel
theorem dX9_number_40 : decode cX9_number 40 = .ok (.aload_n 0, 1) := by decide +kernel
theorem dX9_number_41 : decode cX9_number 41 = .ok (.getfield 93, 3) := by decide +kernel
theorem dX9_number_44 : decode cX9_number 44 = .ok (.iconst 3, 1) := by decide +kernel
theorem dX9_number_45 : decode cX9_number 45 = .ok (.if_icmp .ne 7, 3) := by decide +kernel
theorem dX9_number_48 : decode cX9_number 48 = .ok (.iconst 1, 1) := by decide +kernel
theorem dX9_number_49 : decode cX9_number 49 = .ok (.goto 4, 3) := by decide +kernel
theorem dX9_number_52 : decode cX9_number 52 = .ok (.iconst 0, 1) := by decide +kernel
theorem dX9_number_53 : decode cX9_number 53 = .ok (.invokevirtual 122, 3) := by decide +kernel
theorem dX9_number_56 : decode cX9_number 56 = .ok (.iload_n 3, 1) := by decide +kernel
theorem dX9_number_57 : decode cX9_number 57 = .ok (.ireturn, 1) := by decide +kernel
theorem dX9_kindBy_0 : decode cX9_kindBy 0 = .ok (.lload_n 0, 1) := by decide +kernel
theorem dX9_kindBy_1 : decode cX9_kindBy 1 = .ok (.ldc2_w 126, 3) := by decide +kernel
theorem dX9_kindBy_4 : decode cX9_kindBy 4 = .ok (.lcmp, 1) := by decide +kernel
theorem dX9_kindBy_5 : decode cX9_kindBy 5 = .ok (.ifCond .ne 7, 3) := by decide +kernel
theorem dX9_kindBy_8 : decode cX9_kindBy 8 = .ok (.iconst 2, 1) := by decide +kernel
theorem dX9_kindBy_9 : decode cX9_kindBy 9 = .ok (.goto 53, 3) := by decide +kernel
theorem dX9_kindBy_12 : decode cX9_kindBy 12 = .ok (.lload_n 0, 1) := by decide +kernel
theorem dX9_kindBy_13 : decode cX9_kindBy 13 = .ok (.ldc2_w 128, 3) := by decide +kernel
theorem dX9_kindBy_16 : decode cX9_kindBy 16 = .ok (.lcmp, 1) := by decide +kernel
theorem dX9_kindBy_17 : decode cX9_kindBy 17 = .ok (.ifCond .ne 7, 3) := by decide +kernel
theorem dX9_kindBy_20 : decode cX9_kindBy 20 = .ok (.iconst 1, 1) := by decide +kernel
theorem dX9_kindBy_21 : decode cX9_kindBy 21 = .ok (.goto 41, 3) := by decide +kernel
theorem dX9_kindBy_24 : decode cX9_kindBy 24 = .ok (.lload_n 0, 1) := by decide +kernel
theorem dX9_kindBy_25 : decode cX9_kindBy 25 = .ok (.ldc2_w 130, 3) := by decide +kernel
theorem dX9_kindBy_28 : decode cX9_kindBy 28 = .ok (.lcmp, 1) := by decide +kernel
theorem dX9_kindBy_29 : decode cX9_kindBy 29 = .ok (.ifCond .ne 7, 3) := by decide +kernel
theorem dX9_kindBy_32 : decode cX9_kindBy 32 = .ok (.iconst 3, 1) := by decide +kernel
theorem dX9_kindBy_33 : decode cX9_kindBy 33 = .ok (.goto 29, 3) := by decide +kernel
theorem dX9_kindBy_36 : decode cX9_kindBy 36 = .ok (.lload_n 0, 1) := by decide +kernel
theorem dX9_kindBy_37 : decode cX9_kindBy 37 = .ok (.ldc2_w 132, 3) := by decide +kernel
theorem dX9_kindBy_40 : decode cX9_kindBy 40 = .ok (.lcmp, 1) := by decide +kernel
theorem dX9_kindBy_41 : decode cX9_kindBy 41 = .ok (.ifCond .ne 7, 3) := by decide +kernel
theorem dX9_kindBy_44 : decode cX9_kindBy 44 = .ok (.iconst 5, 1) := by decide +kernel
theorem dX9_kindBy_45 : decode cX9_kindBy 45 = .ok (.goto 17, 3) := by decide +kernel
theorem dX9_kindBy_48 : decode cX9_kindBy 48 = .ok (.lload_n 0, 1) := by decide +kernel
theorem dX9_kindBy_49 : decode cX9_kindBy 49 = .ok (.ldc2_w 134, 3) := by decide +kernel
theorem dX9_kindBy_52 : decode cX9_kindBy 52 = .ok (.lcmp, 1) := by decide +kernel
theorem dX9_kindBy_53 : decode cX9_kindBy 53 = .ok (.ifCond .ne 7, 3) := by decide +kernel
theorem dX9_kindBy_56 : decode cX9_kindBy 56 = .ok (.iconst 4, 1) := by decide +kernel
theorem dX9_kindBy_57 : decode cX9_kindBy 57 = .ok (.goto 5, 3) := by decide +kernel
theorem dX9_kindBy_60 : decode cX9_kindBy 60 = .ok (.ldc 83, 2) := by decide +kernel
theorem dX9_kindBy_62 : decode cX9_kindBy 62 = .ok (.ireturn, 1) := by decide +kernel
set_option maxRecDepth 20000 in
theorem ggX9_mustEnd_X9_must : GoodIn wsX9_mustEnd wsX9_must := goodIn_r _ [7, 1, 8, 9, 10, 6, 11, 12, 13, 14, 15, 16, 17, 18, 19, 2, 20, 21, 22, 23, 24, 25, 26, 27, 28, 29, 30, 31, 32, 33, 34, 35, 36, 37, 38, 39, 40, 41, 42, 43, 44, 45, 46, 47, 48, 49, 50, 51, 52, 53, 54, 55, 56, 57, 58] (by decide +kernel) (by decide +kernel)
set_option maxRecDepth 20000 in
theorem gX9_mustEnd_X9_must : GoodIn wsX9_mustEnd (wsV RX9 122 RX9 yX9_must wsX9_must) := goodIn_app (goodIn_of _ (by decide +kernel)) ggX9_mustEnd_X9_must
theorem dX9_mustEnd_0 : decode cX9_mustEnd 0 = .ok (.aload_n 0, 1) := by decide +kernel
theorem dX9_mustEnd_1 : decode cX9_mustEnd 1 = .ok (.getfield 105, 3) := by decide +kernel
theorem dX9_mustEnd_4 : decode cX9_mustEnd 4 = .ok (.ifCond .ne 20, 3) := by decide +kernel
theorem dX9_mustEnd_7 : decode cX9_mustEnd 7 = .ok (.aload_n 0, 1) := by decide +kernel
theorem dX9_mustEnd_8 : decode cX9_mustEnd 8 = .ok (.aload_n 0, 1) := by decide +kernel
theorem dX9_mustEnd_9 : decode cX9_mustEnd 9 = .ok (.getfield 93, 3) := by decide +kernel
theorem dX9_mustEnd_12 : decode cX9_mustEnd 12 = .ok (.iconst 4, 1) := by decide +kernel
theorem dX9_mustEnd_13 : decode cX9_mustEnd 13 = .ok (.if_icmp .ne 7, 3) := by decide +kernel
theorem dX9_mustEnd_16 : decode cX9_mustEnd 16 = .ok (.iconst 1, 1) := by decide +kernel
theorem dX9_mustEnd_17 : decode cX9_mustEnd 17 = .ok (.goto 4, 3) := by decide +kernel
theorem dX9_mustEnd_20 : decode cX9_mustEnd 20 = .ok (.iconst 0, 1) := by decide +kernel
theorem dX9_mustEnd_21 : decode cX9_mustEnd 21 = .ok (.invokevirtual 122, 3) := by decide +kernel
theorem dX9_mustEnd_24 : decode cX9_mustEnd 24 = .ok (.return_, 1) := by decide +kernel
set_option maxRecDepth 20000 in
theorem ggX9_begins_X9_bad : GoodIn wsX9_begins wsX9_bad := goodIn_r _ [6, 7, 8, 9, 34, 35, 36, 37, 38, 39, 40, 41, 42, 43, 44, 45, 46, 47, 48, 49, 50, 51, 52, 53, 54, 55, 56, 57, 58, 59] (by decide +kernel) (by decide +kernel)
set_option maxRecDepth 20000 in
theorem gX9_begins_X9_bad : GoodIn wsX9_begins (wsV RX9 114 RX9 yX9_bad wsX9_bad) := goodIn_app (goodIn_of _ (by decide +kernel)) ggX9_begins_X9_bad
set_option maxRecDepth 20000 in
theorem ggX9_begins_X9_must : GoodIn wsX9_begins wsX9_must := goodIn_r _ [13, 7, 2, 3, 4, 5, 6, 8, 9, 14, 15, 16, 17, 18, 19, 20, 21, 22, 23, 24, 25, 26, 27, 28, 29, 30, 31, 32, 33, 34, 35, 36, 37, 38, 39, 40, 41, 42, 43, 44, 45, 46, 47, 48, 49, 50, 51, 52, 53, 54, 55, 56, 57, 58, 59] (by decide +kernel) (by decide +kernel)
set_option maxRecDepth 20000 in
theorem gX9_begins_X9_must : GoodIn wsX9_begins (wsV RX9 122 RX9 yX9_must wsX9_must) := goodIn_app (goodIn_of _ (by decide +kernel)) ggX9_begins_X9_must
theorem dX9_begins_0 : decode cX9_begins 0 = .ok (.aload_n 0, 1) := by decide +kernel
theorem dX9_begins_1 : decode cX9_begins 1 = .ok (.getfield 22, 3) := by decide +kernel
theorem dX9_begins_4 : decode cX9_begins 4 = .ok (.iload_n 1, 1) := by decide +kernel
theorem dX9_begins_5 : decode cX9_begins 5 = .ok (.iaload, 1) := by decide +kernel
theorem dX9_begins_6 : decode cX9_begins 6 = .ok (.iload_n 2, 1) := by decide +kernel
theorem dX9_begins_7 : decode cX9_begins 7 = .ok (.if_icmp .ne 8, 3) := by decide +kernel
theorem dX9_begins_10 : decode cX9_begins 10 = .ok (.aload_n 0, 1) := by decide +kernel
theorem dX9_begins_11 : decode cX9_begins 11 = .ok (.iconst 3, 1) := by decide +kernel
theorem dX9_begins_12 : decode cX9_begins 12 = .ok (.invokevirtual 114, 3) := by decide +kernel
theorem dX9_begins_15 : decode cX9_begins 15 = .ok (.aload_n 0, 1) := by decide +kernel
theorem dX9_begins_16 : decode cX9_begins 16 = .ok (.iconst 1, 1) := by decide +kernel
theorem dX9_begins_17 : decode cX9_begins 17 = .ok (.invokevirtual 122, 3) := by decide +kernel
theorem dX9_begins_20 : decode cX9_begins 20 = .ok (.return_, 1) := by decide +kernel
set_option maxRecDepth 20000 in
theorem ggX9_readRoad_X9_begins : GoodIn wsX9_readRoad wsX9_begins := goodIn_r _ [8, 3, 9, 10, 11, 7, 12, 1, 13, 14, 15, 16, 17, 18, 19, 20, 21, 22, 23, 24, 2, 25, 26, 27, 28, 29, 30, 31, 32, 33, 34, 35, 36, 37, 53, 54, 55, 56, 57, 58, 59, 60, 61, 62, 63, 64, 65, 66, 67, 68, 69, 70, 71, 72, 73, 74, 75, 76, 77, 78] (by decide +kernel) (by decide +kernel)
set_option maxRecDepth 20000 in
theorem gX9_readRoad_X9_begins : GoodIn wsX9_readRoad (wsV RX9 136 RX9 yX9_begins wsX9_begins) := goodIn_app (goodIn_of _ (by decide +kernel)) ggX9_readRoad_X9_begins
set_option maxRecDepth 20000 in
theorem ggX9_readRoad_X9_number : GoodIn wsX9_readRoad wsX9_number := goodIn_r _ [41, 1, 2, 42, 43, 44, 7, 45, 13, 25, 31, 46, 47, 48, 9, 10, 11, 12, 14, 15, 16, 17, 18, 19, 20, 21, 22, 23, 24, 26, 27, 28, 29, 30, 32, 33, 34, 35, 36, 37, 53, 54, 55, 56, 57, 58, 59, 60, 61, 62, 63, 64, 65, 66, 67, 68, 69, 70, 71, 72, 73, 74, 75, 76, 77, 78] (by decide +kernel) (by decide +kernel)
set_option maxRecDepth 20000 in
theorem gX9_readRoad_X9_number : GoodIn wsX9_readRoad (wsV RX9 140 RX9 yX9_number wsX9_number) := goodIn_app (goodIn_of _ (by decide +kernel)) ggX9_readRoad_X9_number
set_option maxRecDepth 20000 in
theorem ggX9_readRoad_X9_figures : GoodIn wsX9_readRoad wsX9_figures := goodIn_r _ [45, 13, 25, 2, 31, 53, 54, 55, 56, 57, 58, 59, 60, 61, 62, 63, 64, 65, 66, 67, 68, 69, 70, 71, 72, 73, 74, 75, 76, 77, 78] (by decide +kernel) (by decide +kernel)
set_option maxRecDepth 20000 in
theorem gX9_readRoad_X9_figures : GoodIn wsX9_readRoad (wsV RX9 118 RX9 yX9_figures wsX9_figures) := goodIn_app (goodIn_of _ (by decide +kernel)) ggX9_readRoad_X9_figures
set_option maxRecDepth 20000 in
theorem ggX9_readRoad_X9_bad : GoodIn wsX9_readRoad wsX9_bad := goodIn_r _ [12, 1, 13, 14, 53, 54, 55, 56, 57, 58, 59, 60, 61, 62, 63, 64, 65, 66, 67, 68, 69, 70, 71, 72, 73, 74, 75, 76, 77, 78] (by decide +kernel) (by decide +kernel)
set_option maxRecDepth 20000 in
theorem gX9_readRoad_X9_bad : GoodIn wsX9_readRoad (wsV RX9 114 RX9 yX9_bad wsX9_bad) := goodIn_app (goodIn_of _ (by decide +kernel)) ggX9_readRoad_X9_bad
set_option maxRecDepth 20000 in
theorem ggX9_readRoad_X9_mustEnd : GoodIn wsX9_readRoad wsX9_mustEnd := goodIn_r _ [52, 1, 2, 15, 16, 17, 7, 18, 9, 10, 11, 12, 13, 14, 19, 20, 21, 22, 23, 24, 25, 26, 27, 28, 29, 30, 31, 32, 33, 34, 35, 36, 37, 53, 54, 55, 56, 57, 58, 59, 60, 61, 62, 63, 64, 65, 66, 67, 68, 69, 70, 71, 72, 73, 74, 75, 76, 77, 78] (by decide +kernel) (by decide +kernel)
set_option maxRecDepth 20000 in
theorem gX9_readRoad_X9_mustEnd : GoodIn wsX9_readRoad (wsV RX9 144 RX9 yX9_mustEnd wsX9_mustEnd) := goodIn_app (goodIn_of _ (by decide +kernel)) ggX9_readRoad_X9_mustEnd
theorem dX9_readRoad_0 : decode cX9_readRoad 0 = .ok (.aload_n 0, 1) := by decide +kernel
theorem dX9_readRoad_1 : decode cX9_readRoad 1 = .ok (.iconst 1, 1) := by decide +kernel
theorem dX9_readRoad_2 : decode cX9_readRoad 2 = .ok (.bipush 14, 2) := by decide +kernel
theorem dX9_readRoad_4 : decode cX9_readRoad 4 = .ok (.invokevirtual 136, 3) := by decide +kernel
theorem dX9_readRoad_7 : decode cX9_readRoad 7 = .ok (.aload_n 0, 1) := by decide +kernel
theorem dX9_readRoad_8 : decode cX9_readRoad 8 = .ok (.iconst 0, 1) := by decide +kernel
theorem dX9_readRoad_9 : decode cX9_readRoad 9 = .ok (.bipush 7, 2) := by decide +kernel
theorem dX9_readRoad_11 : decode cX9_readRoad 11 = .ok (.invokevirtual 140, 3) := by decide +kernel
theorem dX9_readRoad_14 : decode cX9_readRoad 14 = .ok (.istore_n 1, 1) := by decide +kernel
theorem dX9_readRoad_15 : decode cX9_readRoad 15 = .ok (.aload_n 0, 1) := by decide +kernel
theorem dX9_readRoad_16 : decode cX9_readRoad 16 = .ok (.getfield 105, 3) := by decide +kernel
theorem dX9_readRoad_19 : decode cX9_readRoad 19 = .ok (.ifCond .ne 24, 3) := by decide +kernel
theorem dX9_readRoad_22 : decode cX9_readRoad 22 = .ok (.aload_n 0, 1) := by decide +kernel
theorem dX9_readRoad_23 : decode cX9_readRoad 23 = .ok (.getfield 93, 3) := by decide +kernel
theorem dX9_readRoad_26 : decode cX9_readRoad 26 = .ok (.iconst 3, 1) := by decide +kernel
theorem dX9_readRoad_27 : decode cX9_readRoad 27 = .ok (.if_icmp .ne 16, 3) := by decide +kernel
theorem dX9_readRoad_30 : decode cX9_readRoad 30 = .ok (.aload_n 0, 1) := by decide +kernel
theorem dX9_readRoad_31 : decode cX9_readRoad 31 = .ok (.invokevirtual 118, 3) := by decide +kernel
theorem dX9_readRoad_34 : decode cX9_readRoad 34 = .ok (.iload_n 1, 1) := by decide +kernel
theorem dX9_readRoad_35 : decode cX9_readRoad 35 = .ok (.if_icmp .ne 8, 3) := by decide +kernel
theorem dX9_readRoad_38 : decode cX9_readRoad 38 = .ok (.aload_n 0, 1) := by decide +kernel
theorem dX9_readRoad_39 : decode cX9_readRoad 39 = .ok (.iconst 2, 1) := by decide +kernel
theorem dX9_readRoad_40 : decode cX9_readRoad 40 = .ok (.invokevirtual 114, 3) := by decide +kernel
theorem dX9_readRoad_43 : decode cX9_readRoad 43 = .ok (.aload_n 0, 1) := by decide +kernel
theorem dX9_readRoad_44 : decode cX9_readRoad 44 = .ok (.iconst 0, 1) := by decide +kernel
theorem dX9_readRoad_45 : decode cX9_readRoad 45 = .ok (.bipush 7, 2) := by decide +kernel
theorem dX9_readRoad_47 : decode cX9_readRoad 47 = .ok (.invokevirtual 140, 3) := by decide +kernel
theorem dX9_readRoad_50 : decode cX9_readRoad 50 = .ok (.istore_n 2, 1) := by decide +kernel
theorem dX9_readRoad_51 : decode cX9_readRoad 51 = .ok (.aload_n 0, 1) := by decide +kernel
theorem dX9_readRoad_52 : decode cX9_readRoad 52 = .ok (.iconst 1, 1) := by decide +kernel
theorem dX9_readRoad_53 : decode cX9_readRoad 53 = .ok (.bipush 90, 2) := by decide +kernel
theorem dX9_readRoad_55 : decode cX9_readRoad 55 = .ok (.invokevirtual 140, 3) := by decide +kernel
theorem dX9_readRoad_58 : decode cX9_readRoad 58 = .ok (.istore_n 3, 1) := by decide +kernel
theorem dX9_readRoad_59 : decode cX9_readRoad 59 = .ok (.aload_n 0, 1) := by decide +kernel
theorem dX9_readRoad_60 : decode cX9_readRoad 60 = .ok (.invokevirtual 144, 3) := by decide +kernel
theorem dX9_readRoad_63 : decode cX9_readRoad 63 = .ok (.aload_n 0, 1) := by decide +kernel
theorem dX9_readRoad_64 : decode cX9_readRoad 64 = .ok (.getfield 105, 3) := by decide +kernel
theorem dX9_readRoad_67 : decode cX9_readRoad 67 = .ok (.ifCond .ne 79, 3) := by decide +kernel
theorem dX9_readRoad_70 : decode cX9_readRoad 70 = .ok (.aload_n 0, 1) := by decide +kernel
theorem dX9_readRoad_71 : decode cX9_readRoad 71 = .ok (.getfield 22, 3) := by decide +kernel
theorem dX9_readRoad_74 : decode cX9_readRoad 74 = .ok (.iconst 5, 1) := by decide +kernel
theorem dX9_readRoad_75 : decode cX9_readRoad 75 = .ok (.bipush 8, 2) := by decide +kernel
theorem dX9_readRoad_77 : decode cX9_readRoad 77 = .ok (.iload_n 1, 1) := by decide +kernel
theorem dX9_readRoad_78 : decode cX9_readRoad 78 = .ok (.imul, 1) := by decide +kernel
theorem dX9_readRoad_79 : decode cX9_readRoad 79 = .ok (.iadd, 1) := by decide +kernel
theorem dX9_readRoad_80 : decode cX9_readRoad 80 = .ok (.iload_n 2, 1) := by decide +kernel
theorem dX9_readRoad_81 : decode cX9_readRoad 81 = .ok (.iadd, 1) := by decide +kernel
theorem dX9_readRoad_82 : decode cX9_readRoad 82 = .ok (.iaload, 1) := by decide +kernel
theorem dX9_readRoad_83 : decode cX9_readRoad 83 = .ok (.iload_n 3, 1) := by decide +kernel
theorem dX9_readRoad_84 : decode cX9_readRoad 84 = .ok (.if_icmp .ge 19, 3) := by decide +kernel
theorem dX9_readRoad_87 : decode cX9_readRoad 87 = .ok (.aload_n 0, 1) := by decide +kernel
theorem dX9_readRoad_88 : decode cX9_readRoad 88 = .ok (.getfield 22, 3) := by decide +kernel
theorem dX9_readRoad_91 : decode cX9_readRoad 91 = .ok (.iconst 5, 1) := by decide +kernel
theorem dX9_readRoad_92 : decode cX9_readRoad 92 = .ok (.bipush 8, 2) := by decide +kernel
theorem dX9_readRoad_94 : decode cX9_readRoad 94 = .ok (.iload_n 1, 1) := by decide +kernel
theorem dX9_readRoad_95 : decode cX9_readRoad 95 = .ok (.imul, 1) := by decide +kernel
theorem dX9_readRoad_96 : decode cX9_readRoad 96 = .ok (.iadd, 1) := by decide +kernel
theorem dX9_readRoad_97 : decode cX9_readRoad 97 = .ok (.iload_n 2, 1) := by decide +kernel
theorem dX9_readRoad_98 : decode cX9_readRoad 98 = .ok (.iadd, 1) := by decide +kernel
theorem dX9_readRoad_99 : decode cX9_readRoad 99 = .ok (.iaload, 1) := by decide +kernel
theorem dX9_readRoad_100 : decode cX9_readRoad 100 = .ok (.goto 4, 3) := by decide +kernel
theorem dX9_readRoad_103 : decode cX9_readRoad 103 = .ok (.iload_n 3, 1) := by decide +kernel
theorem dX9_readRoad_104 : decode cX9_readRoad 104 = .ok (.istore 4, 2) := by decide +kernel
theorem dX9_readRoad_106 : decode cX9_readRoad 106 = .ok (.aload_n 0, 1) := by decide +kernel
theorem dX9_readRoad_107 : decode cX9_readRoad 107 = .ok (.getfield 22, 3) := by decide +kernel
theorem dX9_readRoad_110 : decode cX9_readRoad 110 = .ok (.iconst 5, 1) := by decide +kernel
theorem dX9_readRoad_111 : decode cX9_readRoad 111 = .ok (.bipush 8, 2) := by decide +kernel
theorem dX9_readRoad_113 : decode cX9_readRoad 113 = .ok (.iload_n 1, 1) := by decide +kernel
theorem dX9_readRoad_114 : decode cX9_readRoad 114 = .ok (.imul, 1) := by decide +kernel
theorem dX9_readRoad_115 : decode cX9_readRoad 115 = .ok (.iadd, 1) := by decide +kernel
theorem dX9_readRoad_116 : decode cX9_readRoad 116 = .ok (.iload_n 2, 1) := by decide +kernel
theorem dX9_readRoad_117 : decode cX9_readRoad 117 = .ok (.iadd, 1) := by decide +kernel
theorem dX9_readRoad_118 : decode cX9_readRoad 118 = .ok (.iload 4, 2) := by decide +kernel
theorem dX9_readRoad_120 : decode cX9_readRoad 120 = .ok (.iastore, 1) := by decide +kernel
theorem dX9_readRoad_121 : decode cX9_readRoad 121 = .ok (.aload_n 0, 1) := by decide +kernel
theorem dX9_readRoad_122 : decode cX9_readRoad 122 = .ok (.getfield 22, 3) := by decide +kernel
theorem dX9_readRoad_125 : decode cX9_readRoad 125 = .ok (.iconst 5, 1) := by decide +kernel
theorem dX9_readRoad_126 : decode cX9_readRoad 126 = .ok (.bipush 8, 2) := by decide +kernel
theorem dX9_readRoad_128 : decode cX9_readRoad 128 = .ok (.iload_n 2, 1) := by decide +kernel
theorem dX9_readRoad_129 : decode cX9_readRoad 129 = .ok (.imul, 1) := by decide +kernel
theorem dX9_readRoad_130 : decode cX9_readRoad 130 = .ok (.iadd, 1) := by decide +kernel
theorem dX9_readRoad_131 : decode cX9_readRoad 131 = .ok (.iload_n 1, 1) := by decide +kernel
theorem dX9_readRoad_132 : decode cX9_readRoad 132 = .ok (.iadd, 1) := by decide +kernel
theorem dX9_readRoad_133 : decode cX9_readRoad 133 = .ok (.iload 4, 2) := by decide +kernel
theorem dX9_readRoad_135 : decode cX9_readRoad 135 = .ok (.iastore, 1) := by decide +kernel
theorem dX9_readRoad_136 : decode cX9_readRoad 136 = .ok (.aload_n 0, 1) := by decide +kernel
theorem dX9_readRoad_137 : decode cX9_readRoad 137 = .ok (.getfield 22, 3) := by decide +kernel
theorem dX9_readRoad_140 : decode cX9_readRoad 140 = .ok (.iconst 1, 1) := by decide +kernel
theorem dX9_readRoad_141 : decode cX9_readRoad 141 = .ok (.dup2, 1) := by decide +kernel
theorem dX9_readRoad_142 : decode cX9_readRoad 142 = .ok (.iaload, 1) := by decide +kernel
theorem dX9_readRoad_143 : decode cX9_readRoad 143 = .ok (.iconst 1, 1) := by decide +kernel
theorem dX9_readRoad_144 : decode cX9_readRoad 144 = .ok (.iadd, 1) := by decide +kernel
theorem dX9_readRoad_145 : decode cX9_readRoad 145 = .ok (.iastore, 1) := by decide +kernel
theorem dX9_readRoad_146 : decode cX9_readRoad 146 = .ok (.return_, 1) := by decide +kernel
set_option maxRecDepth 20000 in
theorem ggX9_readHolder_X9_begins : GoodIn wsX9_readHolder wsX9_begins := goodIn_r _ [7, 2, 8, 9, 10, 6, 11, 1, 12, 13, 14, 15, 16, 17, 18, 19, 20, 21, 22, 23, 24, 25, 26, 27, 28, 29, 30, 31, 32, 33, 34, 35, 36, 37, 53, 54, 55, 56, 57, 58, 59, 60, 61, 62, 63, 64, 65, 66, 67, 68, 69, 70, 71, 72, 73, 74, 75, 76, 77, 78] (by decide +kernel) (by decide +kernel)
set_option maxRecDepth 20000 in
theorem gX9_readHolder_X9_begins : GoodIn wsX9_readHolder (wsV RX9 136 RX9 yX9_begins wsX9_begins) := goodIn_app (goodIn_of _ (by decide +kernel)) ggX9_readHolder_X9_begins
set_option maxRecDepth 20000 in
theorem ggX9_readHolder_X9_number : GoodIn wsX9_readHolder wsX9_number := goodIn_r _ [41, 1, 24, 42, 43, 44, 6, 45, 12, 25, 31, 46, 47, 48, 8, 9, 10, 11, 13, 14, 15, 16, 17, 18, 19, 20, 21, 22, 23, 26, 27, 28, 29, 30, 32, 33, 34, 35, 36, 37, 53, 54, 55, 56, 57, 58, 59, 60, 61, 62, 63, 64, 65, 66, 67, 68, 69, 70, 71, 72, 73, 74, 75, 76, 77, 78] (by decide +kernel) (by decide +kernel)
set_option maxRecDepth 20000 in
theorem gX9_readHolder_X9_number : GoodIn wsX9_readHolder (wsV RX9 140 RX9 yX9_number wsX9_number) := goodIn_app (goodIn_of _ (by decide +kernel)) ggX9_readHolder_X9_number
set_option maxRecDepth 20000 in
theorem ggX9_readHolder_X9_mustEnd : GoodIn wsX9_readHolder wsX9_mustEnd := goodIn_r _ [52, 1, 24, 14, 15, 16, 6, 17, 8, 9, 10, 11, 12, 13, 18, 19, 20, 21, 22, 23, 25, 26, 27, 28, 29, 30, 31, 32, 33, 34, 35, 36, 37, 53, 54, 55, 56, 57, 58, 59, 60, 61, 62, 63, 64, 65, 66, 67, 68, 69, 70, 71, 72, 73, 74, 75, 76, 77, 78] (by decide +kernel) (by decide +kernel)
set_option maxRecDepth 20000 in
theorem gX9_readHolder_X9_mustEnd : GoodIn wsX9_readHolder (wsV RX9 144 RX9 yX9_mustEnd wsX9_mustEnd) := goodIn_app (goodIn_of _ (by decide +kernel)) ggX9_readHolder_X9_mustEnd
theorem dX9_readHolder_0 : decode cX9_readHolder 0 = .ok (.aload_n 0, 1) := by decide +kernel
theorem dX9_readHolder_1 : decode cX9_readHolder 1 = .ok (.iconst 2, 1) := by decide +kernel
theorem dX9_readHolder_2 : decode cX9_readHolder 2 = .ok (.bipush 6, 2) := by decide +kernel
theorem dX9_readHolder_4 : decode cX9_readHolder 4 = .ok (.invokevirtual 136, 3) := by decide +kernel
theorem dX9_readHolder_7 : decode cX9_readHolder 7 = .ok (.aload_n 0, 1) := by decide +kernel
theorem dX9_readHolder_8 : decode cX9_readHolder 8 = .ok (.iconst 1, 1) := by decide +kernel
theorem dX9_readHolder_9 : decode cX9_readHolder 9 = .ok (.bipush 7, 2) := by decide +kernel
theorem dX9_readHolder_11 : decode cX9_readHolder 11 = .ok (.invokevirtual 140, 3) := by decide +kernel
theorem dX9_readHolder_14 : decode cX9_readHolder 14 = .ok (.istore_n 1, 1) := by decide +kernel
theorem dX9_readHolder_15 : decode cX9_readHolder 15 = .ok (.aload_n 0, 1) := by decide +kernel
theorem dX9_readHolder_16 : decode cX9_readHolder 16 = .ok (.invokevirtual 144, 3) := by decide +kernel
theorem dX9_readHolder_19 : decode cX9_readHolder 19 = .ok (.aload_n 0, 1) := by decide +kernel
theorem dX9_readHolder_20 : decode cX9_readHolder 20 = .ok (.getfield 105, 3) := by decide +kernel
theorem dX9_readHolder_23 : decode cX9_readHolder 23 = .ok (.ifCond .ne 28, 3) := by decide +kernel
theorem dX9_readHolder_26 : decode cX9_readHolder 26 = .ok (.aload_n 0, 1) := by decide +kernel
theorem dX9_readHolder_27 : decode cX9_readHolder 27 = .ok (.getfield 22, 3) := by decide +kernel
theorem dX9_readHolder_30 : decode cX9_readHolder 30 = .ok (.bipush 69, 2) := by decide +kernel
theorem dX9_readHolder_32 : decode cX9_readHolder 32 = .ok (.aload_n 0, 1) := by decide +kernel
theorem dX9_readHolder_33 : decode cX9_readHolder 33 = .ok (.getfield 22, 3) := by decide +kernel
theorem dX9_readHolder_36 : decode cX9_readHolder 36 = .ok (.iconst 2, 1) := by decide +kernel
theorem dX9_readHolder_37 : decode cX9_readHolder 37 = .ok (.iaload, 1) := by decide +kernel
theorem dX9_readHolder_38 : decode cX9_readHolder 38 = .ok (.iadd, 1) := by decide +kernel
theorem dX9_readHolder_39 : decode cX9_readHolder 39 = .ok (.iload_n 1, 1) := by decide +kernel
theorem dX9_readHolder_40 : decode cX9_readHolder 40 = .ok (.iastore, 1) := by decide +kernel
theorem dX9_readHolder_41 : decode cX9_readHolder 41 = .ok (.aload_n 0, 1) := by decide +kernel
theorem dX9_readHolder_42 : decode cX9_readHolder 42 = .ok (.getfield 22, 3) := by decide +kernel
theorem dX9_readHolder_45 : decode cX9_readHolder 45 = .ok (.iconst 2, 1) := by decide +kernel
theorem dX9_readHolder_46 : decode cX9_readHolder 46 = .ok (.dup2, 1) := by decide +kernel
theorem dX9_readHolder_47 : decode cX9_readHolder 47 = .ok (.iaload, 1) := by decide +kernel
theorem dX9_readHolder_48 : decode cX9_readHolder 48 = .ok (.iconst 1, 1) := by decide +kernel
theorem dX9_readHolder_49 : decode cX9_readHolder 49 = .ok (.iadd, 1) := by decide +kernel
theorem dX9_readHolder_50 : decode cX9_readHolder 50 = .ok (.iastore, 1) := by decide +kernel
theorem dX9_readHolder_51 : decode cX9_readHolder 51 = .ok (.return_, 1) := by decide +kernel
set_option maxRecDepth 20000 in
theorem ggX9_readCoin_X9_begins : GoodIn wsX9_readCoin wsX9_begins := goodIn_r _ [8, 3, 9, 10, 11, 7, 12, 1, 13, 14, 15, 16, 17, 18, 19, 20, 21, 22, 23, 2, 24, 25, 26, 27, 28, 29, 30, 31, 32, 33, 34, 35, 36, 37, 65, 66, 67, 68, 69, 70, 71, 72, 73, 74, 75, 76, 77, 78, 79, 80, 81, 82, 83, 84, 85, 86, 87, 88, 89, 90] (by decide +kernel) (by decide +kernel)
set_option maxRecDepth 20000 in
theorem gX9_readCoin_X9_begins : GoodIn wsX9_readCoin (wsV RX9 136 RX9 yX9_begins wsX9_begins) := goodIn_app (goodIn_of _ (by decide +kernel)) ggX9_readCoin_X9_begins
set_option maxRecDepth 20000 in
theorem ggX9_readCoin_X9_name : GoodIn wsX9_readCoin wsX9_name := goodIn_r _ [41, 13, 25, 24, 31, 1, 65, 66, 67, 68, 69, 70, 71, 72, 73, 74, 75, 76, 77, 78, 79, 80, 81, 82, 83, 84, 85, 86, 87, 88, 89, 90] (by decide +kernel) (by decide +kernel)
set_option maxRecDepth 20000 in
theorem gX9_readCoin_X9_name : GoodIn wsX9_readCoin (wsV RX9 147 RX9 yX9_name wsX9_name) := goodIn_app (goodIn_of _ (by decide +kernel)) ggX9_readCoin_X9_name
set_option maxRecDepth 20000 in
theorem ggX9_readCoin_X9_kindBy : GoodIn wsX9_readCoin wsX9_kindBy := goodIn_r _ [44, 45, 46, 47, 48, 49, 2] (by decide +kernel) (by decide +kernel)
set_option maxRecDepth 20000 in
theorem gX9_readCoin_X9_kindBy : GoodIn wsX9_readCoin (va_wsS RX9 151 yX9_kindBy wsX9_kindBy) := goodIn_app (goodIn_of _ (by decide +kernel)) ggX9_readCoin_X9_kindBy
set_option maxRecDepth 20000 in
theorem ggX9_readCoin_X9_must : GoodIn wsX9_readCoin wsX9_must := goodIn_r _ [18, 1, 9, 10, 11, 7, 12, 13, 14, 19, 20, 21, 22, 23, 2, 24, 25, 26, 27, 28, 29, 30, 31, 32, 33, 34, 35, 36, 37, 65, 66, 67, 68, 69, 70, 71, 72, 73, 74, 75, 76, 77, 78, 79, 80, 81, 82, 83, 84, 85, 86, 87, 88, 89, 90] (by decide +kernel) (by decide +kernel)
set_option maxRecDepth 20000 in
theorem gX9_readCoin_X9_must : GoodIn wsX9_readCoin (wsV RX9 122 RX9 yX9_must wsX9_must) := goodIn_app (goodIn_of _ (by decide +kernel)) ggX9_readCoin_X9_must
set_option maxRecDepth 20000 in
theorem ggX9_readCoin_X9_number : GoodIn wsX9_readCoin wsX9_number := goodIn_r _ [53, 1, 24, 54, 55, 56, 7, 57, 13, 25, 31, 58, 59, 60, 9, 10, 11, 12, 14, 15, 16, 17, 18, 19, 20, 21, 22, 23, 2, 26, 27, 28, 29, 30, 32, 33, 34, 35, 36, 37, 65, 66, 67, 68, 69, 70, 71, 72, 73, 74, 75, 76, 77, 78, 79, 80, 81, 82, 83, 84, 85, 86, 87, 88, 89, 90] (by decide +kernel) (by decide +kernel)
set_option maxRecDepth 20000 in
theorem gX9_readCoin_X9_number : GoodIn wsX9_readCoin (wsV RX9 140 RX9 yX9_number wsX9_number) := goodIn_app (goodIn_of _ (by decide +kernel)) ggX9_readCoin_X9_number
set_option maxRecDepth 20000 in
theorem ggX9_readCoin_X9_mustEnd : GoodIn wsX9_readCoin wsX9_mustEnd := goodIn_r _ [64, 1, 24, 15, 16, 17, 7, 18, 9, 10, 11, 12, 13, 14, 19, 20, 21, 22, 23, 2, 25, 26, 27, 28, 29, 30, 31, 32, 33, 34, 35, 36, 37, 65, 66, 67, 68, 69, 70, 71, 72, 73, 74, 75, 76, 77, 78, 79, 80, 81, 82, 83, 84, 85, 86, 87, 88, 89, 90] (by decide +kernel) (by decide +kernel)
set_option maxRecDepth 20000 in
theorem gX9_readCoin_X9_mustEnd : GoodIn wsX9_readCoin (wsV RX9 144 RX9 yX9_mustEnd wsX9_mustEnd) := goodIn_app (goodIn_of _ (by decide +kernel)) ggX9_readCoin_X9_mustEnd
theorem dX9_readCoin_0 : decode cX9_readCoin 0 = .ok (.aload_n 0, 1) := by decide +kernel
theorem dX9_readCoin_1 : decode cX9_readCoin 1 = .ok (.iconst 3, 1) := by decide +kernel
theorem dX9_readCoin_2 : decode cX9_readCoin 2 = .ok (.bipush 12, 2) := by decide +kernel
theorem dX9_readCoin_4 : decode cX9_readCoin 4 = .ok (.invokevirtual 136, 3) := by decide +kernel
theorem dX9_readCoin_7 : decode cX9_readCoin 7 = .ok (.aload_n 0, 1) := by decide +kernel
theorem dX9_readCoin_8 : decode cX9_readCoin 8 = .ok (.invokevirtual 147, 3) := by decide +kernel
theorem dX9_readCoin_11 : decode cX9_readCoin 11 = .ok (.invokestatic 151, 3) := by decide +kernel
theorem dX9_readCoin_14 : decode cX9_readCoin 14 = .ok (.istore_n 1, 1) := by decide +kernel
theorem dX9_readCoin_15 : decode cX9_readCoin 15 = .ok (.aload_n 0, 1) := by decide +kernel
theorem dX9_readCoin_16 : decode cX9_readCoin 16 = .ok (.getfield 105, 3) := by decide +kernel
theorem dX9_readCoin_19 : decode cX9_readCoin 19 = .ok (.ifCond .ne 18, 3) := by decide +kernel
theorem dX9_readCoin_22 : decode cX9_readCoin 22 = .ok (.aload_n 0, 1) := by decide +kernel
theorem dX9_readCoin_23 : decode cX9_readCoin 23 = .ok (.iload_n 1, 1) := by decide +kernel
theorem dX9_readCoin_24 : decode cX9_readCoin 24 = .ok (.ldc 83, 2) := by decide +kernel
theorem dX9_readCoin_26 : decode cX9_readCoin 26 = .ok (.if_icmp .eq 7, 3) := by decide +kernel
theorem dX9_readCoin_29 : decode cX9_readCoin 29 = .ok (.iconst 1, 1) := by decide +kernel
theorem dX9_readCoin_30 : decode cX9_readCoin 30 = .ok (.goto 4, 3) := by decide +kernel
theorem dX9_readCoin_33 : decode cX9_readCoin 33 = .ok (.iconst 0, 1) := by decide +kernel
theorem dX9_readCoin_34 : decode cX9_readCoin 34 = .ok (.invokevirtual 122, 3) := by decide +kernel
theorem dX9_readCoin_37 : decode cX9_readCoin 37 = .ok (.aload_n 0, 1) := by decide +kernel
theorem dX9_readCoin_38 : decode cX9_readCoin 38 = .ok (.iconst 0, 1) := by decide +kernel
theorem dX9_readCoin_39 : decode cX9_readCoin 39 = .ok (.aload_n 0, 1) := by decide +kernel
theorem dX9_readCoin_40 : decode cX9_readCoin 40 = .ok (.getfield 22, 3) := by decide +kernel
theorem dX9_readCoin_43 : decode cX9_readCoin 43 = .ok (.iconst 2, 1) := by decide +kernel
theorem dX9_readCoin_44 : decode cX9_readCoin 44 = .ok (.iaload, 1) := by decide +kernel
theorem dX9_readCoin_45 : decode cX9_readCoin 45 = .ok (.iconst 1, 1) := by decide +kernel
theorem dX9_readCoin_46 : decode cX9_readCoin 46 = .ok (.isub, 1) := by decide +kernel
theorem dX9_readCoin_47 : decode cX9_readCoin 47 = .ok (.invokevirtual 140, 3) := by decide +kernel
theorem dX9_readCoin_50 : decode cX9_readCoin 50 = .ok (.istore_n 2, 1) := by decide +kernel
theorem dX9_readCoin_51 : decode cX9_readCoin 51 = .ok (.aload_n 0, 1) := by decide +kernel
theorem dX9_readCoin_52 : decode cX9_readCoin 52 = .ok (.iconst 0, 1) := by decide +kernel
theorem dX9_readCoin_53 : decode cX9_readCoin 53 = .ok (.sipush 400, 3) := by decide +kernel
theorem dX9_readCoin_56 : decode cX9_readCoin 56 = .ok (.invokevirtual 140, 3) := by decide +kernel
theorem dX9_readCoin_59 : decode cX9_readCoin 59 = .ok (.istore_n 3, 1) := by decide +kernel
theorem dX9_readCoin_60 : decode cX9_readCoin 60 = .ok (.aload_n 0, 1) := by decide +kernel
theorem dX9_readCoin_61 : decode cX9_readCoin 61 = .ok (.invokevirtual 144, 3) := by decide +kernel
theorem dX9_readCoin_64 : decode cX9_readCoin 64 = .ok (.aload_n 0, 1) := by decide +kernel
theorem dX9_readCoin_65 : decode cX9_readCoin 65 = .ok (.getfield 105, 3) := by decide +kernel
theorem dX9_readCoin_68 : decode cX9_readCoin 68 = .ok (.ifCond .ne 55, 3) := by decide +kernel
theorem dX9_readCoin_71 : decode cX9_readCoin 71 = .ok (.bipush 75, 2) := by decide +kernel
theorem dX9_readCoin_73 : decode cX9_readCoin 73 = .ok (.bipush 6, 2) := by decide +kernel
theorem dX9_readCoin_75 : decode cX9_readCoin 75 = .ok (.aload_n 0, 1) := by decide +kernel
theorem dX9_readCoin_76 : decode cX9_readCoin 76 = .ok (.getfield 22, 3) := by decide +kernel
theorem dX9_readCoin_79 : decode cX9_readCoin 79 = .ok (.iconst 3, 1) := by decide +kernel
theorem dX9_readCoin_80 : decode cX9_readCoin 80 = .ok (.iaload, 1) := by decide +kernel
theorem dX9_readCoin_81 : decode cX9_readCoin 81 = .ok (.imul, 1) := by decide +kernel
theorem dX9_readCoin_82 : decode cX9_readCoin 82 = .ok (.iadd, 1) := by decide +kernel
theorem dX9_readCoin_83 : decode cX9_readCoin 83 = .ok (.istore 4, 2) := by decide +kernel
theorem dX9_readCoin_85 : decode cX9_readCoin 85 = .ok (.aload_n 0, 1) := by decide +kernel
theorem dX9_readCoin_86 : decode cX9_readCoin 86 = .ok (.getfield 22, 3) := by decide +kernel
theorem dX9_readCoin_89 : decode cX9_readCoin 89 = .ok (.iload 4, 2) := by decide +kernel
theorem dX9_readCoin_91 : decode cX9_readCoin 91 = .ok (.iload_n 1, 1) := by decide +kernel
theorem dX9_readCoin_92 : decode cX9_readCoin 92 = .ok (.iastore, 1) := by decide +kernel
theorem dX9_readCoin_93 : decode cX9_readCoin 93 = .ok (.aload_n 0, 1) := by decide +kernel
theorem dX9_readCoin_94 : decode cX9_readCoin 94 = .ok (.getfield 22, 3) := by decide +kernel
theorem dX9_readCoin_97 : decode cX9_readCoin 97 = .ok (.iload 4, 2) := by decide +kernel
theorem dX9_readCoin_99 : decode cX9_readCoin 99 = .ok (.iconst 1, 1) := by decide +kernel
theorem dX9_readCoin_100 : decode cX9_readCoin 100 = .ok (.iadd, 1) := by decide +kernel
theorem dX9_readCoin_101 : decode cX9_readCoin 101 = .ok (.iload_n 2, 1) := by decide +kernel
theorem dX9_readCoin_102 : decode cX9_readCoin 102 = .ok (.iastore, 1) := by decide +kernel
theorem dX9_readCoin_103 : decode cX9_readCoin 103 = .ok (.aload_n 0, 1) := by decide +kernel
theorem dX9_readCoin_104 : decode cX9_readCoin 104 = .ok (.getfield 22, 3) := by decide +kernel
theorem dX9_readCoin_107 : decode cX9_readCoin 107 = .ok (.iload 4, 2) := by decide +kernel
theorem dX9_readCoin_109 : decode cX9_readCoin 109 = .ok (.iconst 2, 1) := by decide +kernel
theorem dX9_readCoin_110 : decode cX9_readCoin 110 = .ok (.iadd, 1) := by decide +kernel
theorem dX9_readCoin_111 : decode cX9_readCoin 111 = .ok (.iload_n 3, 1) := by decide +kernel
theorem dX9_readCoin_112 : decode cX9_readCoin 112 = .ok (.iastore, 1) := by decide +kernel
theorem dX9_readCoin_113 : decode cX9_readCoin 113 = .ok (.aload_n 0, 1) := by decide +kernel
theorem dX9_readCoin_114 : decode cX9_readCoin 114 = .ok (.getfield 22, 3) := by decide +kernel
theorem dX9_readCoin_117 : decode cX9_readCoin 117 = .ok (.iconst 3, 1) := by decide +kernel
theorem dX9_readCoin_118 : decode cX9_readCoin 118 = .ok (.dup2, 1) := by decide +kernel
theorem dX9_readCoin_119 : decode cX9_readCoin 119 = .ok (.iaload, 1) := by decide +kernel
theorem dX9_readCoin_120 : decode cX9_readCoin 120 = .ok (.iconst 1, 1) := by decide +kernel
theorem dX9_readCoin_121 : decode cX9_readCoin 121 = .ok (.iadd, 1) := by decide +kernel
theorem dX9_readCoin_122 : decode cX9_readCoin 122 = .ok (.iastore, 1) := by decide +kernel
theorem dX9_readCoin_123 : decode cX9_readCoin 123 = .ok (.return_, 1) := by decide +kernel
theorem dX9_layFar_0 : decode cX9_layFar 0 = .ok (.iconst 0, 1) := by decide +kernel
theorem dX9_layFar_1 : decode cX9_layFar 1 = .ok (.istore_n 1, 1) := by decide +kernel
theorem dX9_layFar_2 : decode cX9_layFar 2 = .ok (.iload_n 1, 1) := by decide +kernel
theorem dX9_layFar_3 : decode cX9_layFar 3 = .ok (.bipush 8, 2) := by decide +kernel
theorem dX9_layFar_5 : decode cX9_layFar 5 = .ok (.if_icmp .ge 115, 3) := by decide +kernel
theorem dX9_layFar_8 : decode cX9_layFar 8 = .ok (.iconst 0, 1) := by decide +kernel
theorem dX9_layFar_9 : decode cX9_layFar 9 = .ok (.istore_n 2, 1) := by decide +kernel
theorem dX9_layFar_10 : decode cX9_layFar 10 = .ok (.iload_n 2, 1) := by decide +kernel
theorem dX9_layFar_11 : decode cX9_layFar 11 = .ok (.bipush 8, 2) := by decide +kernel
theorem dX9_layFar_13 : decode cX9_layFar 13 = .ok (.if_icmp .ge 101, 3) := by decide +kernel
theorem dX9_layFar_16 : decode cX9_layFar 16 = .ok (.iconst 0, 1) := by decide +kernel
theorem dX9_layFar_17 : decode cX9_layFar 17 = .ok (.istore_n 3, 1) := by decide +kernel
theorem dX9_layFar_18 : decode cX9_layFar 18 = .ok (.iload_n 3, 1) := by decide +kernel
theorem dX9_layFar_19 : decode cX9_layFar 19 = .ok (.bipush 8, 2) := by decide +kernel
theorem dX9_layFar_21 : decode cX9_layFar 21 = .ok (.if_icmp .ge 87, 3) := by decide +kernel
theorem dX9_layFar_24 : decode cX9_layFar 24 = .ok (.aload_n 0, 1) := by decide +kernel
theorem dX9_layFar_25 : decode cX9_layFar 25 = .ok (.getfield 22, 3) := by decide +kernel
theorem dX9_layFar_28 : decode cX9_layFar 28 = .ok (.iconst 5, 1) := by decide +kernel
theorem dX9_layFar_29 : decode cX9_layFar 29 = .ok (.bipush 8, 2) := by decide +kernel
theorem dX9_layFar_31 : decode cX9_layFar 31 = .ok (.iload_n 2, 1) := by decide +kernel
theorem dX9_layFar_32 : decode cX9_layFar 32 = .ok (.imul, 1) := by decide +kernel
theorem dX9_layFar_33 : decode cX9_layFar 33 = .ok (.iadd, 1) := by decide +kernel
theorem dX9_layFar_34 : decode cX9_layFar 34 = .ok (.iload_n 1, 1) := by decide +kernel
theorem dX9_layFar_35 : decode cX9_layFar 35 = .ok (.iadd, 1) := by decide +kernel
theorem dX9_layFar_36 : decode cX9_layFar 36 = .ok (.iaload, 1) := by decide +kernel
theorem dX9_layFar_37 : decode cX9_layFar 37 = .ok (.aload_n 0, 1) := by decide +kernel
theorem dX9_layFar_38 : decode cX9_layFar 38 = .ok (.getfield 22, 3) := by decide +kernel
theorem dX9_layFar_41 : decode cX9_layFar 41 = .ok (.iconst 5, 1) := by decide +kernel
theorem dX9_layFar_42 : decode cX9_layFar 42 = .ok (.bipush 8, 2) := by decide +kernel
theorem dX9_layFar_44 : decode cX9_layFar 44 = .ok (.iload_n 1, 1) := by decide +kernel
theorem dX9_layFar_45 : decode cX9_layFar 45 = .ok (.imul, 1) := by decide +kernel
theorem dX9_layFar_46 : decode cX9_layFar 46 = .ok (.iadd, 1) := by decide +kernel
theorem dX9_layFar_47 : decode cX9_layFar 47 = .ok (.iload_n 3, 1) := by decide +kernel
theorem dX9_layFar_48 : decode cX9_layFar 48 = .ok (.iadd, 1) := by decide +kernel
theorem dX9_layFar_49 : decode cX9_layFar 49 = .ok (.iaload, 1) := by decide +kernel
theorem dX9_layFar_50 : decode cX9_layFar 50 = .ok (.iadd, 1) := by decide +kernel
theorem dX9_layFar_51 : decode cX9_layFar 51 = .ok (.istore 4, 2) := by decide +kernel
theorem dX9_layFar_53 : decode cX9_layFar 53 = .ok (.aload_n 0, 1) := by decide +kernel
theorem dX9_layFar_54 : decode cX9_layFar 54 = .ok (.getfield 22, 3) := by decide +kernel
theorem dX9_layFar_57 : decode cX9_layFar 57 = .ok (.iconst 5, 1) := by decide +kernel
theorem dX9_layFar_58 : decode cX9_layFar 58 = .ok (.bipush 8, 2) := by decide +kernel
theorem dX9_layFar_60 : decode cX9_layFar 60 = .ok (.iload_n 2, 1) := by decide +kernel
theorem dX9_layFar_61 : decode cX9_layFar 61 = .ok (.imul, 1) := by decide +kernel
theorem dX9_layFar_62 : decode cX9_layFar 62 = .ok (.iadd, 1) := by decide +kernel
theorem dX9_layFar_63 : decode cX9_layFar 63 = .ok (.iload_n 3, 1) := by decide +kernel
theorem dX9_layFar_64 : decode cX9_layFar 64 = .ok (.iadd, 1) := by decide +kernel
theorem dX9_layFar_65 : decode cX9_layFar 65 = .ok (.iload 4, 2) := by decide +kernel
theorem dX9_layFar_67 : decode cX9_layFar 67 = .ok (.aload_n 0, 1) := by decide +kernel
theorem dX9_layFar_68 : decode cX9_layFar 68 = .ok (.getfield 22, 3) := by decide +kernel
theorem dX9_layFar_71 : decode cX9_layFar 71 = .ok (.iconst 5, 1) := by decide +kernel
theorem dX9_layFar_72 : decode cX9_layFar 72 = .ok (.bipush 8, 2) := by decide +kernel
theorem dX9_layFar_74 : decode cX9_layFar 74 = .ok (.iload_n 2, 1) := by decide +kernel
theorem dX9_layFar_75 : decode cX9_layFar 75 = .ok (.imul, 1) := by decide +kernel
theorem dX9_layFar_76 : decode cX9_layFar 76 = .ok (.iadd, 1) := by decide +kernel
theorem dX9_layFar_77 : decode cX9_layFar 77 = .ok (.iload_n 3, 1) := by decide +kernel
theorem dX9_layFar_78 : decode cX9_layFar 78 = .ok (.iadd, 1) := by decide +kernel
theorem dX9_layFar_79 : decode cX9_layFar 79 = .ok (.iaload, 1) := by decide +kernel
theorem dX9_layFar_80 : decode cX9_layFar 80 = .ok (.if_icmp .ge 8, 3) := by decide +kernel
theorem dX9_layFar_83 : decode cX9_layFar 83 = .ok (.iload 4, 2) := by decide +kernel
theorem dX9_layFar_85 : decode cX9_layFar 85 = .ok (.goto 16, 3) := by decide +kernel
theorem dX9_layFar_88 : decode cX9_layFar 88 = .ok (.aload_n 0, 1) := by decide +kernel
theorem dX9_layFar_89 : decode cX9_layFar 89 = .ok (.getfield 22, 3) := by decide +kernel
theorem dX9_layFar_92 : decode cX9_layFar 92 = .ok (.iconst 5, 1) := by decide +kernel
theorem dX9_layFar_93 : decode cX9_layFar 93 = .ok (.bipush 8, 2) := by decide +kernel
theorem dX9_layFar_95 : decode cX9_layFar 95 = .ok (.iload_n 2, 1) := by decide +kernel
theorem dX9_layFar_96 : decode cX9_layFar 96 = .ok (.imul, 1) := by decide +kernel
theorem dX9_layFar_97 : decode cX9_layFar 97 = .ok (.iadd, 1) := by decide +kernel
theorem dX9_layFar_98 : decode cX9_layFar 98 = .ok (.iload_n 3, 1) := by decide +kernel
theorem dX9_layFar_99 : decode cX9_layFar 99 = .ok (.iadd, 1) := by decide +kernel
theorem dX9_layFar_100 : decode cX9_layFar 100 = .ok (.iaload, 1) := by decide +kernel
theorem dX9_layFar_101 : decode cX9_layFar 101 = .ok (.iastore, 1) := by decide +kernel
theorem dX9_layFar_102 : decode cX9_layFar 102 = .ok (.iinc 3 1, 3) := by decide +kernel
theorem dX9_layFar_105 : decode cX9_layFar 105 = .ok (.goto (-87), 3) := by decide +kernel
theorem dX9_layFar_108 : decode cX9_layFar 108 = .ok (.iinc 2 1, 3) := by decide +kernel
theorem dX9_layFar_111 : decode cX9_layFar 111 = .ok (.goto (-101), 3) := by decide +kernel
theorem dX9_layFar_114 : decode cX9_layFar 114 = .ok (.iinc 1 1, 3) := by decide +kernel
theorem dX9_layFar_117 : decode cX9_layFar 117 = .ok (.goto (-115), 3) := by decide +kernel
theorem dX9_layFar_120 : decode cX9_layFar 120 = .ok (.return_, 1) := by decide +kernel
set_option maxRecDepth 20000 in
theorem ggX9_realm_X9_begin : GoodIn wsX9_realm wsX9_begin := goodIn_r _ [19, 20, 21, 22, 7, 23, 24, 25, 18, 26, 27, 28, 8, 29, 30, 31, 32, 33, 34, 35, 36, 37, 38, 39, 40, 96, 97, 98, 99, 100, 101, 102, 103, 104, 105, 106, 107, 108, 109, 110, 111, 112, 113, 114, 115, 116, 117, 118, 119, 120, 121] (by decide +kernel) (by decide +kernel)
set_option maxRecDepth 20000 in
theorem gX9_realm_X9_begin : GoodIn wsX9_realm (wsV RX9 155 RX9 yX9_begin wsX9_begin) := goodIn_app (goodIn_of _ (by decide +kernel)) ggX9_realm_X9_begin
set_option maxRecDepth 20000 in
theorem ggX9_realm_X9_name : GoodIn wsX9_realm wsX9_name := goodIn_r _ [44, 27, 29, 8, 34, 7, 96, 97, 98, 99, 100, 101, 102, 103, 104, 105, 106, 107, 108, 109, 110, 111, 112, 113, 114, 115, 116, 117, 118, 119, 120, 121] (by decide +kernel) (by decide +kernel)
set_option maxRecDepth 20000 in
theorem gX9_realm_X9_name : GoodIn wsX9_realm (wsV RX9 147 RX9 yX9_name wsX9_name) := goodIn_app (goodIn_of _ (by decide +kernel)) ggX9_realm_X9_name
set_option maxRecDepth 20000 in
theorem ggX9_realm_X9_must : GoodIn wsX9_realm wsX9_must := goodIn_r _ [48, 7, 49, 50, 51, 18, 52, 27, 11, 23, 24, 25, 26, 22, 28, 8, 29, 30, 31, 32, 33, 21, 34, 35, 36, 37, 38, 39, 40, 96, 97, 98, 99, 100, 101, 102, 103, 104, 105, 106, 107, 108, 109, 110, 111, 112, 113, 114, 115, 116, 117, 118, 119, 120, 121] (by decide +kernel) (by decide +kernel)
set_option maxRecDepth 20000 in
theorem gX9_realm_X9_must : GoodIn wsX9_realm (wsV RX9 122 RX9 yX9_must wsX9_must) := goodIn_app (goodIn_of _ (by decide +kernel)) ggX9_realm_X9_must
set_option maxRecDepth 20000 in
theorem ggX9_realm_X9_number : GoodIn wsX9_realm wsX9_number := goodIn_r _ [56, 7, 8, 57, 58, 59, 18, 60, 27, 29, 34, 61, 62, 63, 49, 50, 51, 52, 11, 45, 46, 47, 48, 23, 24, 25, 26, 22, 28, 30, 31, 32, 33, 21, 35, 36, 37, 38, 39, 40, 96, 97, 98, 99, 100, 101, 102, 103, 104, 105, 106, 107, 108, 109, 110, 111, 112, 113, 114, 115, 116, 117, 118, 119, 120, 121] (by decide +kernel) (by decide +kernel)
set_option maxRecDepth 20000 in
theorem gX9_realm_X9_number : GoodIn wsX9_realm (wsV RX9 140 RX9 yX9_number wsX9_number) := goodIn_app (goodIn_of _ (by decide +kernel)) ggX9_realm_X9_number
set_option maxRecDepth 20000 in
theorem ggX9_realm_X9_mustEnd : GoodIn wsX9_realm wsX9_mustEnd := goodIn_r _ [67, 7, 8, 45, 46, 47, 18, 48, 49, 50, 51, 52, 27, 11, 23, 24, 25, 26, 22, 28, 29, 30, 31, 32, 33, 21, 34, 35, 36, 37, 38, 39, 40, 96, 97, 98, 99, 100, 101, 102, 103, 104, 105, 106, 107, 108, 109, 110, 111, 112, 113, 114, 115, 116, 117, 118, 119, 120, 121] (by decide +kernel) (by decide +kernel)
set_option maxRecDepth 20000 in
theorem gX9_realm_X9_mustEnd : GoodIn wsX9_realm (wsV RX9 144 RX9 yX9_mustEnd wsX9_mustEnd) := goodIn_app (goodIn_of _ (by decide +kernel)) ggX9_realm_X9_mustEnd
set_option maxRecDepth 20000 in
theorem ggX9_realm_X9_readRoad : GoodIn wsX9_realm wsX9_readRoad := goodIn_r _ [71, 7, 8, 2, 72, 73, 74, 18, 75, 49, 50, 51, 52, 27, 11, 45, 46, 47, 48, 23, 24, 25, 26, 22, 28, 29, 30, 31, 32, 33, 21, 34, 35, 36, 37, 38, 39, 40, 53, 54, 55, 56, 57, 58, 59, 60, 61, 62, 63, 64, 65, 66, 67, 96, 97, 98, 99, 100, 101, 102, 103, 104, 105, 106, 107, 108, 109, 110, 111, 112, 113, 114, 115, 116, 117, 118, 119, 120, 121] (by decide +kernel) (by decide +kernel)
set_option maxRecDepth 20000 in
theorem gX9_realm_X9_readRoad : GoodIn wsX9_realm (wsV RX9 162 RX9 yX9_readRoad wsX9_readRoad) := goodIn_app (goodIn_of _ (by decide +kernel)) ggX9_realm_X9_readRoad
set_option maxRecDepth 20000 in
theorem ggX9_realm_X9_readHolder : GoodIn wsX9_realm wsX9_readHolder := goodIn_r _ [79, 7, 2, 72, 73, 74, 18, 75, 49, 50, 51, 52, 27, 11, 45, 46, 47, 48, 23, 24, 25, 26, 22, 28, 8, 29, 30, 31, 32, 33, 21, 34, 35, 36, 37, 38, 39, 40, 53, 54, 55, 56, 57, 58, 59, 60, 61, 62, 63, 64, 65, 66, 67, 96, 97, 98, 99, 100, 101, 102, 103, 104, 105, 106, 107, 108, 109, 110, 111, 112, 113, 114, 115, 116, 117, 118, 119, 120, 121] (by decide +kernel) (by decide +kernel)
set_option maxRecDepth 20000 in
theorem gX9_realm_X9_readHolder : GoodIn wsX9_realm (wsV RX9 167 RX9 yX9_readHolder wsX9_readHolder) := goodIn_app (goodIn_of _ (by decide +kernel)) ggX9_realm_X9_readHolder
set_option maxRecDepth 20000 in
theorem ggX9_realm_X9_readCoin : GoodIn wsX9_realm wsX9_readCoin := goodIn_r _ [83, 7, 28, 2, 72, 73, 74, 18, 75, 49, 50, 51, 52, 27, 11, 45, 46, 47, 48, 23, 24, 25, 26, 22, 8, 29, 30, 31, 32, 33, 21, 34, 35, 36, 37, 38, 39, 40, 41, 42, 43, 44, 84, 85, 86, 87, 88, 89, 90, 91, 53, 54, 55, 56, 57, 58, 59, 60, 61, 62, 63, 64, 65, 66, 67, 96, 97, 98, 99, 100, 101, 102, 103, 104, 105, 106, 107, 108, 109, 110, 111, 112, 113, 114, 115, 116, 117, 118, 119, 120, 121] (by decide +kernel) (by decide +kernel)
set_option maxRecDepth 20000 in
theorem gX9_realm_X9_readCoin : GoodIn wsX9_realm (wsV RX9 172 RX9 yX9_readCoin wsX9_readCoin) := goodIn_app (goodIn_of _ (by decide +kernel)) ggX9_realm_X9_readCoin
set_option maxRecDepth 20000 in
theorem ggX9_realm_X9_bad : GoodIn wsX9_realm wsX9_bad := goodIn_r _ [52, 7, 27, 11, 96, 97, 98, 99, 100, 101, 102, 103, 104, 105, 106, 107, 108, 109, 110, 111, 112, 113, 114, 115, 116, 117, 118, 119, 120, 121] (by decide +kernel) (by decide +kernel)
set_option maxRecDepth 20000 in
theorem gX9_realm_X9_bad : GoodIn wsX9_realm (wsV RX9 114 RX9 yX9_bad wsX9_bad) := goodIn_app (goodIn_of _ (by decide +kernel)) ggX9_realm_X9_bad
set_option maxRecDepth 20000 in
theorem ggX9_realm_X9_layFar : GoodIn wsX9_realm wsX9_layFar := goodIn_r _ [95, 2, 96, 97, 98, 99, 100, 101, 102, 103, 104, 105, 106, 107, 108, 109, 110, 111, 112, 113, 114, 115, 116, 117, 118, 119, 120, 121] (by decide +kernel) (by decide +kernel)
set_option maxRecDepth 20000 in
theorem gX9_realm_X9_layFar : GoodIn wsX9_realm (wsV RX9 186 RX9 yX9_layFar wsX9_layFar) := goodIn_app (goodIn_of _ (by decide +kernel)) ggX9_realm_X9_layFar
theorem dX9_realm_0 : decode cX9_realm 0 = .ok (.aload_n 0, 1) := by decide +kernel
theorem dX9_realm_1 : decode cX9_realm 1 = .ok (.iconst 0, 1) := by decide +kernel
theorem dX9_realm_2 : decode cX9_realm 2 = .ok (.putfield 47, 3) := by decide +kernel
theorem dX9_realm_5 : decode cX9_realm 5 = .ok (.aload_n 0, 1) := by decide +kernel
theorem dX9_realm_6 : decode cX9_realm 6 = .ok (.invokevirtual 155, 3) := by decide +kernel
theorem dX9_realm_9 : decode cX9_realm 9 = .ok (.iconst 0, 1) := by decide +kernel
theorem dX9_realm_10 : decode cX9_realm 10 = .ok (.istore_n 1, 1) := by decide +kernel
theorem dX9_realm_11 : decode cX9_realm 11 = .ok (.iload_n 1, 1) := by decide +kernel
theorem dX9_realm_12 : decode cX9_realm 12 = .ok (.sipush 147, 3) := by decide +kernel
theorem dX9_realm_15 : decode cX9_realm 15 = .ok (.if_icmp .ge 33, 3) := by decide +kernel
theorem dX9_realm_18 : decode cX9_realm 18 = .ok (.aload_n 0, 1) := by decide +kernel
theorem dX9_realm_19 : decode cX9_realm 19 = .ok (.getfield 22, 3) := by decide +kernel
theorem dX9_realm_22 : decode cX9_realm 22 = .ok (.iload_n 1, 1) := by decide +kernel
theorem dX9_realm_23 : decode cX9_realm 23 = .ok (.iload_n 1, 1) := by decide +kernel
theorem dX9_realm_24 : decode cX9_realm 24 = .ok (.iconst 5, 1) := by decide +kernel
theorem dX9_realm_25 : decode cX9_realm 25 = .ok (.if_icmp .lt 15, 3) := by decide +kernel
theorem dX9_realm_28 : decode cX9_realm 28 = .ok (.iload_n 1, 1) := by decide +kernel
theorem dX9_realm_29 : decode cX9_realm 29 = .ok (.bipush 69, 2) := by decide +kernel
theorem dX9_realm_31 : decode cX9_realm 31 = .ok (.if_icmp .ge 9, 3) := by decide +kernel
theorem dX9_realm_34 : decode cX9_realm 34 = .ok (.sipush 10000, 3) := by decide +kernel
theorem dX9_realm_37 : decode cX9_realm 37 = .ok (.goto 4, 3) := by decide +kernel
theorem dX9_realm_40 : decode cX9_realm 40 = .ok (.iconst 0, 1) := by decide +kernel
theorem dX9_realm_41 : decode cX9_realm 41 = .ok (.iastore, 1) := by decide +kernel
theorem dX9_realm_42 : decode cX9_realm 42 = .ok (.iinc 1 1, 3) := by decide +kernel
theorem dX9_realm_45 : decode cX9_realm 45 = .ok (.goto (-34), 3) := by decide +kernel
theorem dX9_realm_48 : decode cX9_realm 48 = .ok (.iconst 0, 1) := by decide +kernel
theorem dX9_realm_49 : decode cX9_realm 49 = .ok (.istore_n 1, 1) := by decide +kernel
theorem dX9_realm_50 : decode cX9_realm 50 = .ok (.iload_n 1, 1) := by decide +kernel
theorem dX9_realm_51 : decode cX9_realm 51 = .ok (.bipush 8, 2) := by decide +kernel
theorem dX9_realm_53 : decode cX9_realm 53 = .ok (.if_icmp .ge 21, 3) := by decide +kernel
theorem dX9_realm_56 : decode cX9_realm 56 = .ok (.aload_n 0, 1) := by decide +kernel
theorem dX9_realm_57 : decode cX9_realm 57 = .ok (.getfield 22, 3) := by decide +kernel
theorem dX9_realm_60 : decode cX9_realm 60 = .ok (.iconst 5, 1) := by decide +kernel
theorem dX9_realm_61 : decode cX9_realm 61 = .ok (.bipush 9, 2) := by decide +kernel
theorem dX9_realm_63 : decode cX9_realm 63 = .ok (.iload_n 1, 1) := by decide +kernel
theorem dX9_realm_64 : decode cX9_realm 64 = .ok (.imul, 1) := by decide +kernel
theorem dX9_realm_65 : decode cX9_realm 65 = .ok (.iadd, 1) := by decide +kernel
theorem dX9_realm_66 : decode cX9_realm 66 = .ok (.iconst 0, 1) := by decide +kernel
theorem dX9_realm_67 : decode cX9_realm 67 = .ok (.iastore, 1) := by decide +kernel
theorem dX9_realm_68 : decode cX9_realm 68 = .ok (.iinc 1 1, 3) := by decide +kernel
theorem dX9_realm_71 : decode cX9_realm 71 = .ok (.goto (-21), 3) := by decide +kernel
theorem dX9_realm_74 : decode cX9_realm 74 = .ok (.aload_n 0, 1) := by decide +kernel
theorem dX9_realm_75 : decode cX9_realm 75 = .ok (.aload_n 0, 1) := by decide +kernel
theorem dX9_realm_76 : decode cX9_realm 76 = .ok (.invokevirtual 147, 3) := by decide +kernel
theorem dX9_realm_79 : decode cX9_realm 79 = .ok (.ldc2_w 158, 3) := by decide +kernel
theorem dX9_realm_82 : decode cX9_realm 82 = .ok (.lcmp, 1) := by decide +kernel
theorem dX9_realm_83 : decode cX9_realm 83 = .ok (.ifCond .ne 7, 3) := by decide +kernel
theorem dX9_realm_86 : decode cX9_realm 86 = .ok (.iconst 1, 1) := by decide +kernel
theorem dX9_realm_87 : decode cX9_realm 87 = .ok (.goto 4, 3) := by decide +kernel
theorem dX9_realm_90 : decode cX9_realm 90 = .ok (.iconst 0, 1) := by decide +kernel
theorem dX9_realm_91 : decode cX9_realm 91 = .ok (.invokevirtual 122, 3) := by decide +kernel
theorem dX9_realm_94 : decode cX9_realm 94 = .ok (.aload_n 0, 1) := by decide +kernel
theorem dX9_realm_95 : decode cX9_realm 95 = .ok (.getfield 22, 3) := by decide +kernel
theorem dX9_realm_98 : decode cX9_realm 98 = .ok (.iconst 0, 1) := by decide +kernel
theorem dX9_realm_99 : decode cX9_realm 99 = .ok (.aload_n 0, 1) := by decide +kernel
theorem dX9_realm_100 : decode cX9_realm 100 = .ok (.iconst 1, 1) := by decide +kernel
theorem dX9_realm_101 : decode cX9_realm 101 = .ok (.sipush 400, 3) := by decide +kernel
theorem dX9_realm_104 : decode cX9_realm 104 = .ok (.invokevirtual 140, 3) := by decide +kernel
theorem dX9_realm_107 : decode cX9_realm 107 = .ok (.iastore, 1) := by decide +kernel
theorem dX9_realm_108 : decode cX9_realm 108 = .ok (.aload_n 0, 1) := by decide +kernel
theorem dX9_realm_109 : decode cX9_realm 109 = .ok (.invokevirtual 144, 3) := by decide +kernel
theorem dX9_realm_112 : decode cX9_realm 112 = .ok (.aload_n 0, 1) := by decide +kernel
theorem dX9_realm_113 : decode cX9_realm 113 = .ok (.invokevirtual 147, 3) := by decide +kernel
theorem dX9_realm_116 : decode cX9_realm 116 = .ok (.ldc2_w 160, 3) := by decide +kernel
theorem dX9_realm_119 : decode cX9_realm 119 = .ok (.lcmp, 1) := by decide +kernel
theorem dX9_realm_120 : decode cX9_realm 120 = .ok (.ifCond .ne 10, 3) := by decide +kernel
theorem dX9_realm_123 : decode cX9_realm 123 = .ok (.aload_n 0, 1) := by decide +kernel
theorem dX9_realm_124 : decode cX9_realm 124 = .ok (.invokevirtual 162, 3) := by decide +kernel
theorem dX9_realm_127 : decode cX9_realm 127 = .ok (.goto (-15), 3) := by decide +kernel
theorem dX9_realm_130 : decode cX9_realm 130 = .ok (.aload_n 0, 1) := by decide +kernel
theorem dX9_realm_131 : decode cX9_realm 131 = .ok (.invokevirtual 147, 3) := by decide +kernel
theorem dX9_realm_134 : decode cX9_realm 134 = .ok (.ldc2_w 165, 3) := by decide +kernel
theorem dX9_realm_137 : decode cX9_realm 137 = .ok (.lcmp, 1) := by decide +kernel
theorem dX9_realm_138 : decode cX9_realm 138 = .ok (.ifCond .ne 10, 3) := by decide +kernel
theorem dX9_realm_141 : decode cX9_realm 141 = .ok (.aload_n 0, 1) := by decide +kernel
theorem dX9_realm_142 : decode cX9_realm 142 = .ok (.invokevirtual 167, 3) := by decide +kernel
theorem dX9_realm_145 : decode cX9_realm 145 = .ok (.goto (-15), 3) := by decide +kernel
theorem dX9_realm_148 : decode cX9_realm 148 = .ok (.aload_n 0, 1) := by decide +kernel
theorem dX9_realm_149 : decode cX9_realm 149 = .ok (.invokevirtual 147, 3) := by decide +kernel
theorem dX9_realm_152 : decode cX9_realm 152 = .ok (.ldc2_w 170, 3) := by decide +kernel
theorem dX9_realm_155 : decode cX9_realm 155 = .ok (.lcmp, 1) := by decide +kernel
theorem dX9_realm_156 : decode cX9_realm 156 = .ok (.ifCond .ne 10, 3) := by decide +kernel
theorem dX9_realm_159 : decode cX9_realm 159 = .ok (.aload_n 0, 1) := by decide +kernel
theorem dX9_realm_160 : decode cX9_realm 160 = .ok (.invokevirtual 172, 3) := by decide +kernel
theorem dX9_realm_163 : decode cX9_realm 163 = .ok (.goto (-15), 3) := by decide +kernel
theorem dX9_realm_166 : decode cX9_realm 166 = .ok (.aload_n 0, 1) := by decide +kernel
theorem dX9_realm_167 : decode cX9_realm 167 = .ok (.getfield 105, 3) := by decide +kernel
theorem dX9_realm_170 : decode cX9_realm 170 = .ok (.ifCond .ne 16, 3) := by decide +kernel
theorem dX9_realm_173 : decode cX9_realm 173 = .ok (.aload_n 0, 1) := by decide +kernel
theorem dX9_realm_174 : decode cX9_realm 174 = .ok (.getfield 93, 3) := by decide +kernel
theorem dX9_realm_177 : decode cX9_realm 177 = .ok (.iconst 1, 1) := by decide +kernel
theorem dX9_realm_178 : decode cX9_realm 178 = .ok (.if_icmp .eq 8, 3) := by decide +kernel
theorem dX9_realm_181 : decode cX9_realm 181 = .ok (.aload_n 0, 1) := by decide +kernel
theorem dX9_realm_182 : decode cX9_realm 182 = .ok (.iconst 1, 1) := by decide +kernel
theorem dX9_realm_183 : decode cX9_realm 183 = .ok (.invokevirtual 114, 3) := by decide +kernel
theorem dX9_realm_186 : decode cX9_realm 186 = .ok (.aload_n 0, 1) := by decide +kernel
theorem dX9_realm_187 : decode cX9_realm 187 = .ok (.getfield 105, 3) := by decide +kernel
theorem dX9_realm_190 : decode cX9_realm 190 = .ok (.ifCond .le 19, 3) := by decide +kernel
theorem dX9_realm_193 : decode cX9_realm 193 = .ok (.aload_n 0, 1) := by decide +kernel
theorem dX9_realm_194 : decode cX9_realm 194 = .ok (.aload_n 0, 1) := by decide +kernel
theorem dX9_realm_195 : decode cX9_realm 195 = .ok (.getfield 105, 3) := by decide +kernel
theorem dX9_realm_198 : decode cX9_realm 198 = .ok (.putfield 175, 3) := by decide +kernel
theorem dX9_realm_201 : decode cX9_realm 201 = .ok (.ldc 178, 2) := by decide +kernel
theorem dX9_realm_203 : decode cX9_realm 203 = .ok (.aload_n 0, 1) := by decide +kernel
theorem dX9_realm_204 : decode cX9_realm 204 = .ok (.getfield 111, 3) := by decide +kernel
theorem dX9_realm_207 : decode cX9_realm 207 = .ok (.isub, 1) := by decide +kernel
theorem dX9_realm_208 : decode cX9_realm 208 = .ok (.ireturn, 1) := by decide +kernel
theorem dX9_realm_209 : decode cX9_realm 209 = .ok (.aload_n 0, 1) := by decide +kernel
theorem dX9_realm_210 : decode cX9_realm 210 = .ok (.iconst 1, 1) := by decide +kernel
theorem dX9_realm_211 : decode cX9_realm 211 = .ok (.putfield 179, 3) := by decide +kernel
theorem dX9_realm_214 : decode cX9_realm 214 = .ok (.aload_n 0, 1) := by decide +kernel
theorem dX9_realm_215 : decode cX9_realm 215 = .ok (.iconst 0, 1) := by decide +kernel
theorem dX9_realm_216 : decode cX9_realm 216 = .ok (.putfield 183, 3) := by decide +kernel
theorem dX9_realm_219 : decode cX9_realm 219 = .ok (.aload_n 0, 1) := by decide +kernel
theorem dX9_realm_220 : decode cX9_realm 220 = .ok (.invokevirtual 186, 3) := by decide +kernel
theorem dX9_realm_223 : decode cX9_realm 223 = .ok (.iconst 0, 1) := by decide +kernel
theorem dX9_realm_224 : decode cX9_realm 224 = .ok (.istore_n 1, 1) := by decide +kernel
theorem dX9_realm_225 : decode cX9_realm 225 = .ok (.iload_n 1, 1) := by decide +kernel
theorem dX9_realm_226 : decode cX9_realm 226 = .ok (.sipush 147, 3) := by decide +kernel
theorem dX9_realm_229 : decode cX9_realm 229 = .ok (.if_icmp .ge 21, 3) := by decide +kernel
theorem dX9_realm_232 : decode cX9_realm 232 = .ok (.aload_n 0, 1) := by decide +kernel
theorem dX9_realm_233 : decode cX9_realm 233 = .ok (.getfield 19, 3) := by decide +kernel
theorem dX9_realm_236 : decode cX9_realm 236 = .ok (.iload_n 1, 1) := by decide +kernel
theorem dX9_realm_237 : decode cX9_realm 237 = .ok (.aload_n 0, 1) := by decide +kernel
theorem dX9_realm_238 : decode cX9_realm 238 = .ok (.getfield 22, 3) := by decide +kernel
theorem dX9_realm_241 : decode cX9_realm 241 = .ok (.iload_n 1, 1) := by decide +kernel
theorem dX9_realm_242 : decode cX9_realm 242 = .ok (.iaload, 1) := by decide +kernel
theorem dX9_realm_243 : decode cX9_realm 243 = .ok (.iastore, 1) := by decide +kernel
theorem dX9_realm_244 : decode cX9_realm 244 = .ok (.iinc 1 1, 3) := by decide +kernel
theorem dX9_realm_247 : decode cX9_realm 247 = .ok (.goto (-22), 3) := by decide +kernel
theorem dX9_realm_250 : decode cX9_realm 250 = .ok (.aload_n 0, 1) := by decide +kernel
theorem dX9_realm_251 : decode cX9_realm 251 = .ok (.getfield 19, 3) := by decide +kernel
theorem dX9_realm_254 : decode cX9_realm 254 = .ok (.iconst 3, 1) := by decide +kernel
theorem dX9_realm_255 : decode cX9_realm 255 = .ok (.iaload, 1) := by decide +kernel
theorem dX9_realm_256 : decode cX9_realm 256 = .ok (.ireturn, 1) := by decide +kernel
