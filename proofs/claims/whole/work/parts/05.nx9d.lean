theorem dX9_arrives_0 : decode cX9_arrives 0 = .ok (.aload_n 0, 1) := by decide +kernel
theorem dX9_arrives_1 : decode cX9_arrives 1 = .ok (.iload_n 1, 1) := by decide +kernel
theorem dX9_arrives_2 : decode cX9_arrives 2 = .ok (.iconst 3, 1) := by decide +kernel
theorem dX9_arrives_3 : decode cX9_arrives 3 = .ok (.invokevirtual 189, 3) := by decide +kernel
theorem dX9_arrives_6 : decode cX9_arrives 6 = .ok (.iconst 2, 1) := by decide +kernel
theorem dX9_arrives_7 : decode cX9_arrives 7 = .ok (.if_icmp .ne 13, 3) := by decide +kernel
theorem dX9_arrives_10 : decode cX9_arrives 10 = .ok (.aload_n 0, 1) := by decide +kernel
theorem dX9_arrives_11 : decode cX9_arrives 11 = .ok (.iload_n 1, 1) := by decide +kernel
theorem dX9_arrives_12 : decode cX9_arrives 12 = .ok (.iconst 3, 1) := by decide +kernel
theorem dX9_arrives_13 : decode cX9_arrives 13 = .ok (.iconst 0, 1) := by decide +kernel
theorem dX9_arrives_14 : decode cX9_arrives 14 = .ok (.invokevirtual 214, 3) := by decide +kernel
theorem dX9_arrives_17 : decode cX9_arrives 17 = .ok (.goto 63, 3) := by decide +kernel
theorem dX9_arrives_20 : decode cX9_arrives 20 = .ok (.aload_n 0, 1) := by decide +kernel
theorem dX9_arrives_21 : decode cX9_arrives 21 = .ok (.iload_n 1, 1) := by decide +kernel
theorem dX9_arrives_22 : decode cX9_arrives 22 = .ok (.iconst 5, 1) := by decide +kernel
theorem dX9_arrives_23 : decode cX9_arrives 23 = .ok (.invokevirtual 189, 3) := by decide +kernel
theorem dX9_arrives_26 : decode cX9_arrives 26 = .ok (.iconst 1, 1) := by decide +kernel
theorem dX9_arrives_27 : decode cX9_arrives 27 = .ok (.if_icmp .eq 13, 3) := by decide +kernel
theorem dX9_arrives_30 : decode cX9_arrives 30 = .ok (.aload_n 0, 1) := by decide +kernel
theorem dX9_arrives_31 : decode cX9_arrives 31 = .ok (.iload_n 1, 1) := by decide +kernel
theorem dX9_arrives_32 : decode cX9_arrives 32 = .ok (.iconst 0, 1) := by decide +kernel
theorem dX9_arrives_33 : decode cX9_arrives 33 = .ok (.invokevirtual 189, 3) := by decide +kernel
theorem dX9_arrives_36 : decode cX9_arrives 36 = .ok (.iconst 5, 1) := by decide +kernel
theorem dX9_arrives_37 : decode cX9_arrives 37 = .ok (.if_icmp .ne 13, 3) := by decide +kernel
theorem dX9_arrives_40 : decode cX9_arrives 40 = .ok (.aload_n 0, 1) := by decide +kernel
theorem dX9_arrives_41 : decode cX9_arrives 41 = .ok (.iload_n 1, 1) := by decide +kernel
theorem dX9_arrives_42 : decode cX9_arrives 42 = .ok (.iconst 3, 1) := by decide +kernel
theorem dX9_arrives_43 : decode cX9_arrives 43 = .ok (.iconst 3, 1) := by decide +kernel
theorem dX9_arrives_44 : decode cX9_arrives 44 = .ok (.invokevirtual 214, 3) := by decide +kernel
theorem dX9_arrives_47 : decode cX9_arrives 47 = .ok (.goto 33, 3) := by decide +kernel
theorem dX9_arrives_50 : decode cX9_arrives 50 = .ok (.aload_n 0, 1) := by decide +kernel
theorem dX9_arrives_51 : decode cX9_arrives 51 = .ok (.iload_n 1, 1) := by decide +kernel
theorem dX9_arrives_52 : decode cX9_arrives 52 = .ok (.iconst 2, 1) := by decide +kernel
theorem dX9_arrives_53 : decode cX9_arrives 53 = .ok (.iconst 0, 1) := by decide +kernel
theorem dX9_arrives_54 : decode cX9_arrives 54 = .ok (.invokevirtual 214, 3) := by decide +kernel
theorem dX9_arrives_57 : decode cX9_arrives 57 = .ok (.aload_n 0, 1) := by decide +kernel
theorem dX9_arrives_58 : decode cX9_arrives 58 = .ok (.iload_n 1, 1) := by decide +kernel
theorem dX9_arrives_59 : decode cX9_arrives 59 = .ok (.iconst 3, 1) := by decide +kernel
theorem dX9_arrives_60 : decode cX9_arrives 60 = .ok (.iconst 2, 1) := by decide +kernel
theorem dX9_arrives_61 : decode cX9_arrives 61 = .ok (.invokevirtual 214, 3) := by decide +kernel
theorem dX9_arrives_64 : decode cX9_arrives 64 = .ok (.aload_n 0, 1) := by decide +kernel
theorem dX9_arrives_65 : decode cX9_arrives 65 = .ok (.iload_n 1, 1) := by decide +kernel
theorem dX9_arrives_66 : decode cX9_arrives 66 = .ok (.iconst 4, 1) := by decide +kernel
theorem dX9_arrives_67 : decode cX9_arrives 67 = .ok (.aload_n 0, 1) := by decide +kernel
theorem dX9_arrives_68 : decode cX9_arrives 68 = .ok (.aload_n 0, 1) := by decide +kernel
theorem dX9_arrives_69 : decode cX9_arrives 69 = .ok (.iload_n 1, 1) := by decide +kernel
theorem dX9_arrives_70 : decode cX9_arrives 70 = .ok (.invokevirtual 195, 3) := by decide +kernel
theorem dX9_arrives_73 : decode cX9_arrives 73 = .ok (.iconst 0, 1) := by decide +kernel
theorem dX9_arrives_74 : decode cX9_arrives 74 = .ok (.invokevirtual 198, 3) := by decide +kernel
theorem dX9_arrives_77 : decode cX9_arrives 77 = .ok (.invokevirtual 214, 3) := by decide +kernel
theorem dX9_arrives_80 : decode cX9_arrives 80 = .ok (.return_, 1) := by decide +kernel
set_option maxRecDepth 20000 in
theorem ggX9_goesOn_X9_of : GoodIn wsX9_goesOn wsX9_of := goodIn_r _ [5, 6, 23, 24, 25, 26, 27, 28, 29, 30, 31, 32, 33, 34, 35, 36, 37, 38, 39, 40, 41, 42, 43, 44, 45, 46, 47, 48] (by decide +kernel) (by decide +kernel)
set_option maxRecDepth 20000 in
theorem gX9_goesOn_X9_of : GoodIn wsX9_goesOn (wsV RX9 189 RX9 yX9_of wsX9_of) := goodIn_app (goodIn_of _ (by decide +kernel)) ggX9_goesOn_X9_of
set_option maxRecDepth 20000 in
theorem ggX9_goesOn_X9_becomes : GoodIn wsX9_goesOn wsX9_becomes := goodIn_r _ [10, 6, 23, 24, 25, 26, 27, 28, 29, 30, 31, 32, 33, 34, 35, 36, 37, 38, 39, 40, 41, 42, 43, 44, 45, 46, 47, 48] (by decide +kernel) (by decide +kernel)
set_option maxRecDepth 20000 in
theorem gX9_goesOn_X9_becomes : GoodIn wsX9_goesOn (wsV RX9 214 RX9 yX9_becomes wsX9_becomes) := goodIn_app (goodIn_of _ (by decide +kernel)) ggX9_goesOn_X9_becomes
set_option maxRecDepth 20000 in
theorem ggX9_goesOn_X9_arrives : GoodIn wsX9_goesOn wsX9_arrives := goodIn_r _ [14, 1, 2, 3, 4, 5, 6, 7, 8, 9, 10, 15, 16, 17, 18, 19, 20, 21, 22, 23, 24, 25, 26, 27, 28, 29, 30, 31, 32, 33, 34, 35, 36, 37, 38, 39, 40, 41, 42, 43, 44, 45, 46, 47, 48] (by decide +kernel) (by decide +kernel)
set_option maxRecDepth 20000 in
theorem gX9_goesOn_X9_arrives : GoodIn wsX9_goesOn (wsV RX9 226 RX9 yX9_arrives wsX9_arrives) := goodIn_app (goodIn_of _ (by decide +kernel)) ggX9_goesOn_X9_arrives
theorem dX9_goesOn_0 : decode cX9_goesOn 0 = .ok (.aload_n 0, 1) := by decide +kernel
theorem dX9_goesOn_1 : decode cX9_goesOn 1 = .ok (.iload_n 1, 1) := by decide +kernel
theorem dX9_goesOn_2 : decode cX9_goesOn 2 = .ok (.iconst 5, 1) := by decide +kernel
theorem dX9_goesOn_3 : decode cX9_goesOn 3 = .ok (.invokevirtual 189, 3) := by decide +kernel
theorem dX9_goesOn_6 : decode cX9_goesOn 6 = .ok (.ifCond .ne 27, 3) := by decide +kernel
theorem dX9_goesOn_9 : decode cX9_goesOn 9 = .ok (.aload_n 0, 1) := by decide +kernel
theorem dX9_goesOn_10 : decode cX9_goesOn 10 = .ok (.iload_n 1, 1) := by decide +kernel
theorem dX9_goesOn_11 : decode cX9_goesOn 11 = .ok (.iconst 3, 1) := by decide +kernel
theorem dX9_goesOn_12 : decode cX9_goesOn 12 = .ok (.invokevirtual 189, 3) := by decide +kernel
theorem dX9_goesOn_15 : decode cX9_goesOn 15 = .ok (.iconst 3, 1) := by decide +kernel
theorem dX9_goesOn_16 : decode cX9_goesOn 16 = .ok (.if_icmp .eq 17, 3) := by decide +kernel
theorem dX9_goesOn_19 : decode cX9_goesOn 19 = .ok (.aload_n 0, 1) := by decide +kernel
theorem dX9_goesOn_20 : decode cX9_goesOn 20 = .ok (.iload_n 1, 1) := by decide +kernel
theorem dX9_goesOn_21 : decode cX9_goesOn 21 = .ok (.iconst 2, 1) := by decide +kernel
theorem dX9_goesOn_22 : decode cX9_goesOn 22 = .ok (.aload_n 0, 1) := by decide +kernel
theorem dX9_goesOn_23 : decode cX9_goesOn 23 = .ok (.iload_n 1, 1) := by decide +kernel
theorem dX9_goesOn_24 : decode cX9_goesOn 24 = .ok (.iconst 2, 1) := by decide +kernel
theorem dX9_goesOn_25 : decode cX9_goesOn 25 = .ok (.invokevirtual 189, 3) := by decide +kernel
theorem dX9_goesOn_28 : decode cX9_goesOn 28 = .ok (.iconst 1, 1) := by decide +kernel
theorem dX9_goesOn_29 : decode cX9_goesOn 29 = .ok (.iadd, 1) := by decide +kernel
theorem dX9_goesOn_30 : decode cX9_goesOn 30 = .ok (.invokevirtual 214, 3) := by decide +kernel
theorem dX9_goesOn_33 : decode cX9_goesOn 33 = .ok (.aload_n 0, 1) := by decide +kernel
theorem dX9_goesOn_34 : decode cX9_goesOn 34 = .ok (.iload_n 1, 1) := by decide +kernel
theorem dX9_goesOn_35 : decode cX9_goesOn 35 = .ok (.iconst 3, 1) := by decide +kernel
theorem dX9_goesOn_36 : decode cX9_goesOn 36 = .ok (.invokevirtual 189, 3) := by decide +kernel
theorem dX9_goesOn_39 : decode cX9_goesOn 39 = .ok (.iconst 1, 1) := by decide +kernel
theorem dX9_goesOn_40 : decode cX9_goesOn 40 = .ok (.if_icmp .eq 13, 3) := by decide +kernel
theorem dX9_goesOn_43 : decode cX9_goesOn 43 = .ok (.aload_n 0, 1) := by decide +kernel
theorem dX9_goesOn_44 : decode cX9_goesOn 44 = .ok (.iload_n 1, 1) := by decide +kernel
theorem dX9_goesOn_45 : decode cX9_goesOn 45 = .ok (.iconst 3, 1) := by decide +kernel
theorem dX9_goesOn_46 : decode cX9_goesOn 46 = .ok (.invokevirtual 189, 3) := by decide +kernel
theorem dX9_goesOn_49 : decode cX9_goesOn 49 = .ok (.iconst 2, 1) := by decide +kernel
theorem dX9_goesOn_50 : decode cX9_goesOn 50 = .ok (.if_icmp .ne 31, 3) := by decide +kernel
theorem dX9_goesOn_53 : decode cX9_goesOn 53 = .ok (.aload_n 0, 1) := by decide +kernel
theorem dX9_goesOn_54 : decode cX9_goesOn 54 = .ok (.iload_n 1, 1) := by decide +kernel
theorem dX9_goesOn_55 : decode cX9_goesOn 55 = .ok (.iconst 4, 1) := by decide +kernel
theorem dX9_goesOn_56 : decode cX9_goesOn 56 = .ok (.aload_n 0, 1) := by decide +kernel
theorem dX9_goesOn_57 : decode cX9_goesOn 57 = .ok (.iload_n 1, 1) := by decide +kernel
theorem dX9_goesOn_58 : decode cX9_goesOn 58 = .ok (.iconst 4, 1) := by decide +kernel
theorem dX9_goesOn_59 : decode cX9_goesOn 59 = .ok (.invokevirtual 189, 3) := by decide +kernel
theorem dX9_goesOn_62 : decode cX9_goesOn 62 = .ok (.iconst 1, 1) := by decide +kernel
theorem dX9_goesOn_63 : decode cX9_goesOn 63 = .ok (.isub, 1) := by decide +kernel
theorem dX9_goesOn_64 : decode cX9_goesOn 64 = .ok (.invokevirtual 214, 3) := by decide +kernel
theorem dX9_goesOn_67 : decode cX9_goesOn 67 = .ok (.aload_n 0, 1) := by decide +kernel
theorem dX9_goesOn_68 : decode cX9_goesOn 68 = .ok (.iload_n 1, 1) := by decide +kernel
theorem dX9_goesOn_69 : decode cX9_goesOn 69 = .ok (.iconst 4, 1) := by decide +kernel
theorem dX9_goesOn_70 : decode cX9_goesOn 70 = .ok (.invokevirtual 189, 3) := by decide +kernel
theorem dX9_goesOn_73 : decode cX9_goesOn 73 = .ok (.ifCond .ne 8, 3) := by decide +kernel
theorem dX9_goesOn_76 : decode cX9_goesOn 76 = .ok (.aload_n 0, 1) := by decide +kernel
theorem dX9_goesOn_77 : decode cX9_goesOn 77 = .ok (.iload_n 1, 1) := by decide +kernel
theorem dX9_goesOn_78 : decode cX9_goesOn 78 = .ok (.invokevirtual 226, 3) := by decide +kernel
theorem dX9_goesOn_81 : decode cX9_goesOn 81 = .ok (.return_, 1) := by decide +kernel
set_option maxRecDepth 20000 in
theorem ggX9_days_X9_in : GoodIn wsX9_days wsX9_in := goodIn_r _ [11] (by decide +kernel) (by decide +kernel)
set_option maxRecDepth 20000 in
theorem gX9_days_X9_in : GoodIn wsX9_days (va_wsS RX9 57 yX9_in wsX9_in) := goodIn_app (goodIn_of _ (by decide +kernel)) ggX9_days_X9_in
set_option maxRecDepth 20000 in
theorem ggX9_days_X9_keep : GoodIn wsX9_days wsX9_keep := goodIn_r _ [15, 16, 17, 6, 46, 47, 48, 49, 50, 51, 52, 53, 54, 55, 56, 57, 58, 59, 60, 61, 62, 63, 64, 65, 66, 67, 68, 69, 70, 71] (by decide +kernel) (by decide +kernel)
set_option maxRecDepth 20000 in
theorem gX9_days_X9_keep : GoodIn wsX9_days (wsV RX9 211 RX9 yX9_keep wsX9_keep) := goodIn_app (goodIn_of _ (by decide +kernel)) ggX9_days_X9_keep
set_option maxRecDepth 20000 in
theorem ggX9_days_X9_goesOn : GoodIn wsX9_days wsX9_goesOn := goodIn_r _ [21, 22, 23, 24, 10, 25, 6, 26, 27, 28, 29, 30, 31, 32, 33, 34, 35, 36, 37, 38, 39, 40, 41, 46, 47, 48, 49, 50, 51, 52, 53, 54, 55, 56, 57, 58, 59, 60, 61, 62, 63, 64, 65, 66, 67, 68, 69, 70, 71] (by decide +kernel) (by decide +kernel)
set_option maxRecDepth 20000 in
theorem gX9_days_X9_goesOn : GoodIn wsX9_days (wsV RX9 231 RX9 yX9_goesOn wsX9_goesOn) := goodIn_app (goodIn_of _ (by decide +kernel)) ggX9_days_X9_goesOn
set_option maxRecDepth 20000 in
theorem ggX9_days_X9_of : GoodIn wsX9_days wsX9_of := goodIn_r _ [25, 6, 46, 47, 48, 49, 50, 51, 52, 53, 54, 55, 56, 57, 58, 59, 60, 61, 62, 63, 64, 65, 66, 67, 68, 69, 70, 71] (by decide +kernel) (by decide +kernel)
set_option maxRecDepth 20000 in
theorem gX9_days_X9_of : GoodIn wsX9_days (wsV RX9 189 RX9 yX9_of wsX9_of) := goodIn_app (goodIn_of _ (by decide +kernel)) ggX9_days_X9_of
set_option maxRecDepth 20000 in
theorem ggX9_days_X9_spanOf : GoodIn wsX9_days wsX9_spanOf := goodIn_r _ [45, 6, 22, 23, 24, 10, 25, 46, 47, 48, 49, 50, 51, 52, 53, 54, 55, 56, 57, 58, 59, 60, 61, 62, 63, 64, 65, 66, 67, 68, 69, 70, 71] (by decide +kernel) (by decide +kernel)
set_option maxRecDepth 20000 in
theorem gX9_days_X9_spanOf : GoodIn wsX9_days (wsV RX9 192 RX9 yX9_spanOf wsX9_spanOf) := goodIn_app (goodIn_of _ (by decide +kernel)) ggX9_days_X9_spanOf
set_option maxRecDepth 20000 in
theorem ggX9_days_X9_becomes : GoodIn wsX9_days wsX9_becomes := goodIn_r _ [29, 6, 46, 47, 48, 49, 50, 51, 52, 53, 54, 55, 56, 57, 58, 59, 60, 61, 62, 63, 64, 65, 66, 67, 68, 69, 70, 71] (by decide +kernel) (by decide +kernel)
set_option maxRecDepth 20000 in
theorem gX9_days_X9_becomes : GoodIn wsX9_days (wsV RX9 214 RX9 yX9_becomes wsX9_becomes) := goodIn_app (goodIn_of _ (by decide +kernel)) ggX9_days_X9_becomes
theorem dX9_days_0 : decode cX9_days 0 = .ok (.aload_n 0, 1) := by decide +kernel
theorem dX9_days_1 : decode cX9_days 1 = .ok (.iconst 0, 1) := by decide +kernel
theorem dX9_days_2 : decode cX9_days 2 = .ok (.putfield 47, 3) := by decide +kernel
theorem dX9_days_5 : decode cX9_days 5 = .ok (.aload_n 0, 1) := by decide +kernel
theorem dX9_days_6 : decode cX9_days 6 = .ok (.getfield 179, 3) := by decide +kernel
theorem dX9_days_9 : decode cX9_days 9 = .ok (.ifCond .ne 6, 3) := by decide +kernel
theorem dX9_days_12 : decode cX9_days 12 = .ok (.ldc 210, 2) := by decide +kernel
theorem dX9_days_14 : decode cX9_days 14 = .ok (.ireturn, 1) := by decide +kernel
theorem dX9_days_15 : decode cX9_days 15 = .ok (.iload_n 1, 1) := by decide +kernel
theorem dX9_days_16 : decode cX9_days 16 = .ok (.i2l, 1) := by decide +kernel
theorem dX9_days_17 : decode cX9_days 17 = .ok (.lconst 1, 1) := by decide +kernel
theorem dX9_days_18 : decode cX9_days 18 = .ok (.ldc2_w 229, 3) := by decide +kernel
theorem dX9_days_21 : decode cX9_days 21 = .ok (.invokestatic 57, 3) := by decide +kernel
theorem dX9_days_24 : decode cX9_days 24 = .ok (.ifCond .ne 6, 3) := by decide +kernel
theorem dX9_days_27 : decode cX9_days 27 = .ok (.ldc 67, 2) := by decide +kernel
theorem dX9_days_29 : decode cX9_days 29 = .ok (.ireturn, 1) := by decide +kernel
theorem dX9_days_30 : decode cX9_days 30 = .ok (.aload_n 0, 1) := by decide +kernel
theorem dX9_days_31 : decode cX9_days 31 = .ok (.getfield 19, 3) := by decide +kernel
theorem dX9_days_34 : decode cX9_days 34 = .ok (.iconst 4, 1) := by decide +kernel
theorem dX9_days_35 : decode cX9_days 35 = .ok (.iaload, 1) := by decide +kernel
theorem dX9_days_36 : decode cX9_days 36 = .ok (.iload_n 1, 1) := by decide +kernel
theorem dX9_days_37 : decode cX9_days 37 = .ok (.iadd, 1) := by decide +kernel
theorem dX9_days_38 : decode cX9_days 38 = .ok (.sipush 9999, 3) := by decide +kernel
theorem dX9_days_41 : decode cX9_days 41 = .ok (.if_icmp .le 6, 3) := by decide +kernel
theorem dX9_days_44 : decode cX9_days 44 = .ok (.ldc 77, 2) := by decide +kernel
theorem dX9_days_46 : decode cX9_days 46 = .ok (.ireturn, 1) := by decide +kernel
theorem dX9_days_47 : decode cX9_days 47 = .ok (.aload_n 0, 1) := by decide +kernel
theorem dX9_days_48 : decode cX9_days 48 = .ok (.invokevirtual 211, 3) := by decide +kernel
theorem dX9_days_51 : decode cX9_days 51 = .ok (.iconst 0, 1) := by decide +kernel
theorem dX9_days_52 : decode cX9_days 52 = .ok (.istore_n 2, 1) := by decide +kernel
theorem dX9_days_53 : decode cX9_days 53 = .ok (.iconst 0, 1) := by decide +kernel
theorem dX9_days_54 : decode cX9_days 54 = .ok (.istore_n 3, 1) := by decide +kernel
theorem dX9_days_55 : decode cX9_days 55 = .ok (.iload_n 3, 1) := by decide +kernel
theorem dX9_days_56 : decode cX9_days 56 = .ok (.iload_n 1, 1) := by decide +kernel
theorem dX9_days_57 : decode cX9_days 57 = .ok (.if_icmp .ge 117, 3) := by decide +kernel
theorem dX9_days_60 : decode cX9_days 60 = .ok (.aload_n 0, 1) := by decide +kernel
theorem dX9_days_61 : decode cX9_days 61 = .ok (.getfield 19, 3) := by decide +kernel
theorem dX9_days_64 : decode cX9_days 64 = .ok (.iconst 4, 1) := by decide +kernel
theorem dX9_days_65 : decode cX9_days 65 = .ok (.dup2, 1) := by decide +kernel
theorem dX9_days_66 : decode cX9_days 66 = .ok (.iaload, 1) := by decide +kernel
theorem dX9_days_67 : decode cX9_days 67 = .ok (.iconst 1, 1) := by decide +kernel
theorem dX9_days_68 : decode cX9_days 68 = .ok (.iadd, 1) := by decide +kernel
theorem dX9_days_69 : decode cX9_days 69 = .ok (.iastore, 1) := by decide +kernel
theorem dX9_days_70 : decode cX9_days 70 = .ok (.iconst 0, 1) := by decide +kernel
theorem dX9_days_71 : decode cX9_days 71 = .ok (.istore 4, 2) := by decide +kernel
theorem dX9_days_73 : decode cX9_days 73 = .ok (.iload 4, 2) := by decide +kernel
theorem dX9_days_75 : decode cX9_days 75 = .ok (.aload_n 0, 1) := by decide +kernel
theorem dX9_days_76 : decode cX9_days 76 = .ok (.getfield 19, 3) := by decide +kernel
theorem dX9_days_79 : decode cX9_days 79 = .ok (.iconst 3, 1) := by decide +kernel
theorem dX9_days_80 : decode cX9_days 80 = .ok (.iaload, 1) := by decide +kernel
theorem dX9_days_81 : decode cX9_days 81 = .ok (.if_icmp .ge 15, 3) := by decide +kernel
theorem dX9_days_84 : decode cX9_days 84 = .ok (.aload_n 0, 1) := by decide +kernel
theorem dX9_days_85 : decode cX9_days 85 = .ok (.iload 4, 2) := by decide +kernel
theorem dX9_days_87 : decode cX9_days 87 = .ok (.invokevirtual 231, 3) := by decide +kernel
theorem dX9_days_90 : decode cX9_days 90 = .ok (.iinc 4 1, 3) := by decide +kernel
theorem dX9_days_93 : decode cX9_days 93 = .ok (.goto (-20), 3) := by decide +kernel
theorem dX9_days_96 : decode cX9_days 96 = .ok (.iconst 0, 1) := by decide +kernel
theorem dX9_days_97 : decode cX9_days 97 = .ok (.istore 4, 2) := by decide +kernel
theorem dX9_days_99 : decode cX9_days 99 = .ok (.iload 4, 2) := by decide +kernel
theorem dX9_days_101 : decode cX9_days 101 = .ok (.aload_n 0, 1) := by decide +kernel
theorem dX9_days_102 : decode cX9_days 102 = .ok (.getfield 19, 3) := by decide +kernel
theorem dX9_days_105 : decode cX9_days 105 = .ok (.iconst 3, 1) := by decide +kernel
theorem dX9_days_106 : decode cX9_days 106 = .ok (.iaload, 1) := by decide +kernel
theorem dX9_days_107 : decode cX9_days 107 = .ok (.if_icmp .ge 61, 3) := by decide +kernel
theorem dX9_days_110 : decode cX9_days 110 = .ok (.aload_n 0, 1) := by decide +kernel
theorem dX9_days_111 : decode cX9_days 111 = .ok (.iload 4, 2) := by decide +kernel
theorem dX9_days_113 : decode cX9_days 113 = .ok (.iconst 5, 1) := by decide +kernel
theorem dX9_days_114 : decode cX9_days 114 = .ok (.invokevirtual 189, 3) := by decide +kernel
theorem dX9_days_117 : decode cX9_days 117 = .ok (.ifCond .ne 45, 3) := by decide +kernel
theorem dX9_days_120 : decode cX9_days 120 = .ok (.aload_n 0, 1) := by decide +kernel
theorem dX9_days_121 : decode cX9_days 121 = .ok (.iload 4, 2) := by decide +kernel
theorem dX9_days_123 : decode cX9_days 123 = .ok (.iconst 0, 1) := by decide +kernel
theorem dX9_days_124 : decode cX9_days 124 = .ok (.invokevirtual 189, 3) := by decide +kernel
theorem dX9_days_127 : decode cX9_days 127 = .ok (.iconst 5, 1) := by decide +kernel
theorem dX9_days_128 : decode cX9_days 128 = .ok (.if_icmp .eq 34, 3) := by decide +kernel
theorem dX9_days_131 : decode cX9_days 131 = .ok (.aload_n 0, 1) := by decide +kernel
theorem dX9_days_132 : decode cX9_days 132 = .ok (.iload 4, 2) := by decide +kernel
theorem dX9_days_134 : decode cX9_days 134 = .ok (.iconst 2, 1) := by decide +kernel
theorem dX9_days_135 : decode cX9_days 135 = .ok (.invokevirtual 189, 3) := by decide +kernel
theorem dX9_days_138 : decode cX9_days 138 = .ok (.aload_n 0, 1) := by decide +kernel
theorem dX9_days_139 : decode cX9_days 139 = .ok (.iload 4, 2) := by decide +kernel
theorem dX9_days_141 : decode cX9_days 141 = .ok (.invokevirtual 192, 3) := by decide +kernel
theorem dX9_days_144 : decode cX9_days 144 = .ok (.if_icmp .le 18, 3) := by decide +kernel
theorem dX9_days_147 : decode cX9_days 147 = .ok (.aload_n 0, 1) := by decide +kernel
theorem dX9_days_148 : decode cX9_days 148 = .ok (.iload 4, 2) := by decide +kernel
theorem dX9_days_150 : decode cX9_days 150 = .ok (.iconst 5, 1) := by decide +kernel
theorem dX9_days_151 : decode cX9_days 151 = .ok (.iconst 1, 1) := by decide +kernel
theorem dX9_days_152 : decode cX9_days 152 = .ok (.invokevirtual 214, 3) := by decide +kernel
theorem dX9_days_155 : decode cX9_days 155 = .ok (.iload_n 2, 1) := by decide +kernel
theorem dX9_days_156 : decode cX9_days 156 = .ok (.iconst 1, 1) := by decide +kernel
theorem dX9_days_157 : decode cX9_days 157 = .ok (.iload 4, 2) := by decide +kernel
theorem dX9_days_159 : decode cX9_days 159 = .ok (.ishl, 1) := by decide +kernel
theorem dX9_days_160 : decode cX9_days 160 = .ok (.ior, 1) := by decide +kernel
theorem dX9_days_161 : decode cX9_days 161 = .ok (.istore_n 2, 1) := by decide +kernel
theorem dX9_days_162 : decode cX9_days 162 = .ok (.iinc 4 1, 3) := by decide +kernel
theorem dX9_days_165 : decode cX9_days 165 = .ok (.goto (-66), 3) := by decide +kernel
theorem dX9_days_168 : decode cX9_days 168 = .ok (.iinc 3 1, 3) := by decide +kernel
theorem dX9_days_171 : decode cX9_days 171 = .ok (.goto (-116), 3) := by decide +kernel
theorem dX9_days_174 : decode cX9_days 174 = .ok (.iload_n 2, 1) := by decide +kernel
theorem dX9_days_175 : decode cX9_days 175 = .ok (.ireturn, 1) := by decide +kernel
set_option maxRecDepth 20000 in
theorem ggX9_flood_X9_in : GoodIn wsX9_flood wsX9_in := goodIn_r _ [13] (by decide +kernel) (by decide +kernel)
set_option maxRecDepth 20000 in
theorem gX9_flood_X9_in : GoodIn wsX9_flood (va_wsS RX9 57 yX9_in wsX9_in) := goodIn_app (goodIn_of _ (by decide +kernel)) ggX9_flood_X9_in
set_option maxRecDepth 20000 in
theorem ggX9_flood_X9_keep : GoodIn wsX9_flood wsX9_keep := goodIn_r _ [17, 18, 19, 6, 28, 29, 30, 31, 32, 33, 34, 35, 36, 37, 38, 39, 40, 41, 42, 43, 44, 45, 46, 47, 48, 49, 50, 51, 52, 53] (by decide +kernel) (by decide +kernel)
set_option maxRecDepth 20000 in
theorem gX9_flood_X9_keep : GoodIn wsX9_flood (wsV RX9 211 RX9 yX9_keep wsX9_keep) := goodIn_app (goodIn_of _ (by decide +kernel)) ggX9_flood_X9_keep
set_option maxRecDepth 20000 in
theorem ggX9_flood_X9_of : GoodIn wsX9_flood wsX9_of := goodIn_r _ [23, 6, 28, 29, 30, 31, 32, 33, 34, 35, 36, 37, 38, 39, 40, 41, 42, 43, 44, 45, 46, 47, 48, 49, 50, 51, 52, 53] (by decide +kernel) (by decide +kernel)
set_option maxRecDepth 20000 in
theorem gX9_flood_X9_of : GoodIn wsX9_flood (wsV RX9 189 RX9 yX9_of wsX9_of) := goodIn_app (goodIn_of _ (by decide +kernel)) ggX9_flood_X9_of
set_option maxRecDepth 20000 in
theorem ggX9_flood_X9_becomes : GoodIn wsX9_flood wsX9_becomes := goodIn_r _ [27, 6, 28, 29, 30, 31, 32, 33, 34, 35, 36, 37, 38, 39, 40, 41, 42, 43, 44, 45, 46, 47, 48, 49, 50, 51, 52, 53] (by decide +kernel) (by decide +kernel)
set_option maxRecDepth 20000 in
theorem gX9_flood_X9_becomes : GoodIn wsX9_flood (wsV RX9 214 RX9 yX9_becomes wsX9_becomes) := goodIn_app (goodIn_of _ (by decide +kernel)) ggX9_flood_X9_becomes
theorem dX9_flood_0 : decode cX9_flood 0 = .ok (.aload_n 0, 1) := by decide +kernel
theorem dX9_flood_1 : decode cX9_flood 1 = .ok (.iconst 0, 1) := by decide +kernel
theorem dX9_flood_2 : decode cX9_flood 2 = .ok (.putfield 47, 3) := by decide +kernel
theorem dX9_flood_5 : decode cX9_flood 5 = .ok (.aload_n 0, 1) := by decide +kernel
theorem dX9_flood_6 : decode cX9_flood 6 = .ok (.getfield 179, 3) := by decide +kernel
theorem dX9_flood_9 : decode cX9_flood 9 = .ok (.ifCond .ne 6, 3) := by decide +kernel
theorem dX9_flood_12 : decode cX9_flood 12 = .ok (.ldc 210, 2) := by decide +kernel
theorem dX9_flood_14 : decode cX9_flood 14 = .ok (.ireturn, 1) := by decide +kernel
theorem dX9_flood_15 : decode cX9_flood 15 = .ok (.iload_n 1, 1) := by decide +kernel
theorem dX9_flood_16 : decode cX9_flood 16 = .ok (.i2l, 1) := by decide +kernel
theorem dX9_flood_17 : decode cX9_flood 17 = .ok (.lconst 1, 1) := by decide +kernel
theorem dX9_flood_18 : decode cX9_flood 18 = .ok (.ldc2_w 234, 3) := by decide +kernel
theorem dX9_flood_21 : decode cX9_flood 21 = .ok (.invokestatic 57, 3) := by decide +kernel
theorem dX9_flood_24 : decode cX9_flood 24 = .ok (.ifCond .ne 6, 3) := by decide +kernel
theorem dX9_flood_27 : decode cX9_flood 27 = .ok (.ldc 67, 2) := by decide +kernel
theorem dX9_flood_29 : decode cX9_flood 29 = .ok (.ireturn, 1) := by decide +kernel
theorem dX9_flood_30 : decode cX9_flood 30 = .ok (.aload_n 0, 1) := by decide +kernel
theorem dX9_flood_31 : decode cX9_flood 31 = .ok (.invokevirtual 211, 3) := by decide +kernel
theorem dX9_flood_34 : decode cX9_flood 34 = .ok (.iload_n 1, 1) := by decide +kernel
theorem dX9_flood_35 : decode cX9_flood 35 = .ok (.i2l, 1) := by decide +kernel
theorem dX9_flood_36 : decode cX9_flood 36 = .ok (.lstore_n 2, 1) := by decide +kernel
theorem dX9_flood_37 : decode cX9_flood 37 = .ok (.iconst 0, 1) := by decide +kernel
theorem dX9_flood_38 : decode cX9_flood 38 = .ok (.istore 4, 2) := by decide +kernel
theorem dX9_flood_40 : decode cX9_flood 40 = .ok (.iconst 0, 1) := by decide +kernel
theorem dX9_flood_41 : decode cX9_flood 41 = .ok (.istore 5, 2) := by decide +kernel
theorem dX9_flood_43 : decode cX9_flood 43 = .ok (.iload 5, 2) := by decide +kernel
theorem dX9_flood_45 : decode cX9_flood 45 = .ok (.aload_n 0, 1) := by decide +kernel
theorem dX9_flood_46 : decode cX9_flood 46 = .ok (.getfield 19, 3) := by decide +kernel
theorem dX9_flood_49 : decode cX9_flood 49 = .ok (.iconst 3, 1) := by decide +kernel
theorem dX9_flood_50 : decode cX9_flood 50 = .ok (.iaload, 1) := by decide +kernel
theorem dX9_flood_51 : decode cX9_flood 51 = .ok (.if_icmp .ge 81, 3) := by decide +kernel
theorem dX9_flood_54 : decode cX9_flood 54 = .ok (.aload_n 0, 1) := by decide +kernel
theorem dX9_flood_55 : decode cX9_flood 55 = .ok (.iload 5, 2) := by decide +kernel
theorem dX9_flood_57 : decode cX9_flood 57 = .ok (.iconst 3, 1) := by decide +kernel
theorem dX9_flood_58 : decode cX9_flood 58 = .ok (.invokevirtual 189, 3) := by decide +kernel
theorem dX9_flood_61 : decode cX9_flood 61 = .ok (.iconst 1, 1) := by decide +kernel
theorem dX9_flood_62 : decode cX9_flood 62 = .ok (.if_icmp .eq 14, 3) := by decide +kernel
theorem dX9_flood_65 : decode cX9_flood 65 = .ok (.aload_n 0, 1) := by decide +kernel
theorem dX9_flood_66 : decode cX9_flood 66 = .ok (.iload 5, 2) := by decide +kernel
theorem dX9_flood_68 : decode cX9_flood 68 = .ok (.iconst 3, 1) := by decide +kernel
theorem dX9_flood_69 : decode cX9_flood 69 = .ok (.invokevirtual 189, 3) := by decide +kernel
theorem dX9_flood_72 : decode cX9_flood 72 = .ok (.iconst 2, 1) := by decide +kernel
theorem dX9_flood_73 : decode cX9_flood 73 = .ok (.if_icmp .ne 53, 3) := by decide +kernel
theorem dX9_flood_76 : decode cX9_flood 76 = .ok (.lload_n 2, 1) := by decide +kernel
theorem dX9_flood_77 : decode cX9_flood 77 = .ok (.ldc2_w 236, 3) := by decide +kernel
theorem dX9_flood_80 : decode cX9_flood 80 = .ok (.lmul, 1) := by decide +kernel
theorem dX9_flood_81 : decode cX9_flood 81 = .ok (.ldc2_w 238, 3) := by decide +kernel
theorem dX9_flood_84 : decode cX9_flood 84 = .ok (.lrem, 1) := by decide +kernel
theorem dX9_flood_85 : decode cX9_flood 85 = .ok (.lstore_n 2, 1) := by decide +kernel
theorem dX9_flood_86 : decode cX9_flood 86 = .ok (.lload_n 2, 1) := by decide +kernel
theorem dX9_flood_87 : decode cX9_flood 87 = .ok (.ldc2_w 240, 3) := by decide +kernel
theorem dX9_flood_90 : decode cX9_flood 90 = .ok (.lrem, 1) := by decide +kernel
theorem dX9_flood_91 : decode cX9_flood 91 = .ok (.l2i, 1) := by decide +kernel
theorem dX9_flood_92 : decode cX9_flood 92 = .ok (.istore 6, 2) := by decide +kernel
theorem dX9_flood_94 : decode cX9_flood 94 = .ok (.aload_n 0, 1) := by decide +kernel
theorem dX9_flood_95 : decode cX9_flood 95 = .ok (.iload 5, 2) := by decide +kernel
theorem dX9_flood_97 : decode cX9_flood 97 = .ok (.iconst 4, 1) := by decide +kernel
theorem dX9_flood_98 : decode cX9_flood 98 = .ok (.aload_n 0, 1) := by decide +kernel
theorem dX9_flood_99 : decode cX9_flood 99 = .ok (.iload 5, 2) := by decide +kernel
theorem dX9_flood_101 : decode cX9_flood 101 = .ok (.iconst 4, 1) := by decide +kernel
theorem dX9_flood_102 : decode cX9_flood 102 = .ok (.invokevirtual 189, 3) := by decide +kernel
theorem dX9_flood_105 : decode cX9_flood 105 = .ok (.iload 6, 2) := by decide +kernel
theorem dX9_flood_107 : decode cX9_flood 107 = .ok (.iadd, 1) := by decide +kernel
theorem dX9_flood_108 : decode cX9_flood 108 = .ok (.invokevirtual 214, 3) := by decide +kernel
theorem dX9_flood_111 : decode cX9_flood 111 = .ok (.iload 4, 2) := by decide +kernel
theorem dX9_flood_113 : decode cX9_flood 113 = .ok (.iload 6, 2) := by decide +kernel
theorem dX9_flood_115 : decode cX9_flood 115 = .ok (.ifCond .le 7, 3) := by decide +kernel
theorem dX9_flood_118 : decode cX9_flood 118 = .ok (.iconst 1, 1) := by decide +kernel
theorem dX9_flood_119 : decode cX9_flood 119 = .ok (.goto 4, 3) := by decide +kernel
theorem dX9_flood_122 : decode cX9_flood 122 = .ok (.iconst 0, 1) := by decide +kernel
theorem dX9_flood_123 : decode cX9_flood 123 = .ok (.iadd, 1) := by decide +kernel
theorem dX9_flood_124 : decode cX9_flood 124 = .ok (.istore 4, 2) := by decide +kernel
theorem dX9_flood_126 : decode cX9_flood 126 = .ok (.iinc 5 1, 3) := by decide +kernel
theorem dX9_flood_129 : decode cX9_flood 129 = .ok (.goto (-86), 3) := by decide +kernel
theorem dX9_flood_132 : decode cX9_flood 132 = .ok (.iload 4, 2) := by decide +kernel
theorem dX9_flood_134 : decode cX9_flood 134 = .ok (.ireturn, 1) := by decide +kernel
theorem dX9_undo_0 : decode cX9_undo 0 = .ok (.aload_n 0, 1) := by decide +kernel
theorem dX9_undo_1 : decode cX9_undo 1 = .ok (.iconst 0, 1) := by decide +kernel
theorem dX9_undo_2 : decode cX9_undo 2 = .ok (.putfield 47, 3) := by decide +kernel
theorem dX9_undo_5 : decode cX9_undo 5 = .ok (.aload_n 0, 1) := by decide +kernel
theorem dX9_undo_6 : decode cX9_undo 6 = .ok (.getfield 183, 3) := by decide +kernel
theorem dX9_undo_9 : decode cX9_undo 9 = .ok (.ifCond .ne 6, 3) := by decide +kernel
theorem dX9_undo_12 : decode cX9_undo 12 = .ok (.ldc 210, 2) := by decide +kernel
theorem dX9_undo_14 : decode cX9_undo 14 = .ok (.ireturn, 1) := by decide +kernel
theorem dX9_undo_15 : decode cX9_undo 15 = .ok (.aload_n 0, 1) := by decide +kernel
theorem dX9_undo_16 : decode cX9_undo 16 = .ok (.dup, 1) := by decide +kernel
theorem dX9_undo_17 : decode cX9_undo 17 = .ok (.getfield 183, 3) := by decide +kernel
theorem dX9_undo_20 : decode cX9_undo 20 = .ok (.iconst 1, 1) := by decide +kernel
theorem dX9_undo_21 : decode cX9_undo 21 = .ok (.isub, 1) := by decide +kernel
theorem dX9_undo_22 : decode cX9_undo 22 = .ok (.putfield 183, 3) := by decide +kernel
theorem dX9_undo_25 : decode cX9_undo 25 = .ok (.iconst 0, 1) := by decide +kernel
theorem dX9_undo_26 : decode cX9_undo 26 = .ok (.istore_n 1, 1) := by decide +kernel
theorem dX9_undo_27 : decode cX9_undo 27 = .ok (.iload_n 1, 1) := by decide +kernel
theorem dX9_undo_28 : decode cX9_undo 28 = .ok (.sipush 147, 3) := by decide +kernel
theorem dX9_undo_31 : decode cX9_undo 31 = .ok (.if_icmp .ge 30, 3) := by decide +kernel
theorem dX9_undo_34 : decode cX9_undo 34 = .ok (.aload_n 0, 1) := by decide +kernel
theorem dX9_undo_35 : decode cX9_undo 35 = .ok (.getfield 19, 3) := by decide +kernel
theorem dX9_undo_38 : decode cX9_undo 38 = .ok (.iload_n 1, 1) := by decide +kernel
theorem dX9_undo_39 : decode cX9_undo 39 = .ok (.aload_n 0, 1) := by decide +kernel
theorem dX9_undo_40 : decode cX9_undo 40 = .ok (.getfield 25, 3) := by decide +kernel
theorem dX9_undo_43 : decode cX9_undo 43 = .ok (.sipush 147, 3) := by decide +kernel
theorem dX9_undo_46 : decode cX9_undo 46 = .ok (.aload_n 0, 1) := by decide +kernel
theorem dX9_undo_47 : decode cX9_undo 47 = .ok (.getfield 183, 3) := by decide +kernel
theorem dX9_undo_50 : decode cX9_undo 50 = .ok (.imul, 1) := by decide +kernel
theorem dX9_undo_51 : decode cX9_undo 51 = .ok (.iload_n 1, 1) := by decide +kernel
theorem dX9_undo_52 : decode cX9_undo 52 = .ok (.iadd, 1) := by decide +kernel
theorem dX9_undo_53 : decode cX9_undo 53 = .ok (.iaload, 1) := by decide +kernel
theorem dX9_undo_54 : decode cX9_undo 54 = .ok (.iastore, 1) := by decide +kernel
theorem dX9_undo_55 : decode cX9_undo 55 = .ok (.iinc 1 1, 3) := by decide +kernel
theorem dX9_undo_58 : decode cX9_undo 58 = .ok (.goto (-31), 3) := by decide +kernel
theorem dX9_undo_61 : decode cX9_undo 61 = .ok (.aload_n 0, 1) := by decide +kernel
theorem dX9_undo_62 : decode cX9_undo 62 = .ok (.getfield 183, 3) := by decide +kernel
theorem dX9_undo_65 : decode cX9_undo 65 = .ok (.ireturn, 1) := by decide +kernel
set_option maxRecDepth 20000 in
theorem ggX9_worthOf_X9_slackOf : GoodIn wsX9_worthOf wsX9_slackOf := goodIn_r _ [5, 6, 7, 8, 4, 9, 10, 11, 12, 13, 14, 15, 16, 17, 18, 19, 20, 21, 22, 23, 24, 25, 26, 27, 28, 29, 30, 31, 32, 33, 34, 35, 36, 37, 38, 39, 40, 41, 42, 43, 44, 45, 46, 47, 48, 49, 50, 51, 52, 53] (by decide +kernel) (by decide +kernel)
set_option maxRecDepth 20000 in
theorem gX9_worthOf_X9_slackOf : GoodIn wsX9_worthOf (wsV RX9 242 RX9 yX9_slackOf wsX9_slackOf) := goodIn_app (goodIn_of _ (by decide +kernel)) ggX9_worthOf_X9_slackOf
set_option maxRecDepth 20000 in
theorem ggX9_worthOf_X9_spanOf : GoodIn wsX9_worthOf wsX9_spanOf := goodIn_r _ [27, 10, 11, 12, 13, 4, 14, 28, 29, 30, 31, 32, 33, 34, 35, 36, 37, 38, 39, 40, 41, 42, 43, 44, 45, 46, 47, 48, 49, 50, 51, 52, 53] (by decide +kernel) (by decide +kernel)
set_option maxRecDepth 20000 in
theorem gX9_worthOf_X9_spanOf : GoodIn wsX9_worthOf (wsV RX9 192 RX9 yX9_spanOf wsX9_spanOf) := goodIn_app (goodIn_of _ (by decide +kernel)) ggX9_worthOf_X9_spanOf
theorem dX9_worthOf_0 : decode cX9_worthOf 0 = .ok (.aload_n 0, 1) := by decide +kernel
theorem dX9_worthOf_1 : decode cX9_worthOf 1 = .ok (.iload_n 1, 1) := by decide +kernel
theorem dX9_worthOf_2 : decode cX9_worthOf 2 = .ok (.invokevirtual 242, 3) := by decide +kernel
theorem dX9_worthOf_5 : decode cX9_worthOf 5 = .ok (.istore_n 2, 1) := by decide +kernel
theorem dX9_worthOf_6 : decode cX9_worthOf 6 = .ok (.iload_n 2, 1) := by decide +kernel
theorem dX9_worthOf_7 : decode cX9_worthOf 7 = .ok (.ifCond .le 11, 3) := by decide +kernel
theorem dX9_worthOf_10 : decode cX9_worthOf 10 = .ok (.aload_n 0, 1) := by decide +kernel
theorem dX9_worthOf_11 : decode cX9_worthOf 11 = .ok (.iload_n 1, 1) := by decide +kernel
theorem dX9_worthOf_12 : decode cX9_worthOf 12 = .ok (.invokevirtual 192, 3) := by decide +kernel
theorem dX9_worthOf_15 : decode cX9_worthOf 15 = .ok (.ifCond .ne 7, 3) := by decide +kernel
theorem dX9_worthOf_18 : decode cX9_worthOf 18 = .ok (.iconst 0, 1) := by decide +kernel
theorem dX9_worthOf_19 : decode cX9_worthOf 19 = .ok (.goto 13, 3) := by decide +kernel
theorem dX9_worthOf_22 : decode cX9_worthOf 22 = .ok (.bipush 100, 2) := by decide +kernel
theorem dX9_worthOf_24 : decode cX9_worthOf 24 = .ok (.iload_n 2, 1) := by decide +kernel
theorem dX9_worthOf_25 : decode cX9_worthOf 25 = .ok (.imul, 1) := by decide +kernel
theorem dX9_worthOf_26 : decode cX9_worthOf 26 = .ok (.aload_n 0, 1) := by decide +kernel
theorem dX9_worthOf_27 : decode cX9_worthOf 27 = .ok (.iload_n 1, 1) := by decide +kernel
theorem dX9_worthOf_28 : decode cX9_worthOf 28 = .ok (.invokevirtual 192, 3) := by decide +kernel
theorem dX9_worthOf_31 : decode cX9_worthOf 31 = .ok (.idiv, 1) := by decide +kernel
theorem dX9_worthOf_32 : decode cX9_worthOf 32 = .ok (.ireturn, 1) := by decide +kernel
set_option maxRecDepth 20000 in
theorem ggX9_coin_X9_isCoin : GoodIn wsX9_coin wsX9_isCoin := goodIn_r _ [8, 9, 10, 11, 7, 12, 42, 43, 44, 45, 46, 47, 48, 49, 50, 51, 52, 53, 54, 55, 56, 57, 58, 59, 60, 61, 62, 63, 64, 65, 66, 67] (by decide +kernel) (by decide +kernel)
set_option maxRecDepth 20000 in
theorem gX9_coin_X9_isCoin : GoodIn wsX9_coin (wsV RX9 204 RX9 yX9_isCoin wsX9_isCoin) := goodIn_app (goodIn_of _ (by decide +kernel)) ggX9_coin_X9_isCoin
set_option maxRecDepth 20000 in
theorem ggX9_coin_X9_in : GoodIn wsX9_coin wsX9_in := goodIn_r _ [12] (by decide +kernel) (by decide +kernel)
set_option maxRecDepth 20000 in
theorem gX9_coin_X9_in : GoodIn wsX9_coin (va_wsS RX9 57 yX9_in wsX9_in) := goodIn_app (goodIn_of _ (by decide +kernel)) ggX9_coin_X9_in
set_option maxRecDepth 20000 in
theorem ggX9_coin_X9_spanOf : GoodIn wsX9_coin wsX9_spanOf := goodIn_r _ [16, 9, 17, 18, 19, 7, 20, 42, 43, 44, 45, 46, 47, 48, 49, 50, 51, 52, 53, 54, 55, 56, 57, 58, 59, 60, 61, 62, 63, 64, 65, 66, 67] (by decide +kernel) (by decide +kernel)
set_option maxRecDepth 20000 in
theorem gX9_coin_X9_spanOf : GoodIn wsX9_coin (wsV RX9 192 RX9 yX9_spanOf wsX9_spanOf) := goodIn_app (goodIn_of _ (by decide +kernel)) ggX9_coin_X9_spanOf
set_option maxRecDepth 20000 in
theorem ggX9_coin_X9_slackOf : GoodIn wsX9_coin wsX9_slackOf := goodIn_r _ [24, 25, 26, 27, 7, 28, 9, 17, 18, 19, 20, 29, 30, 31, 32, 33, 34, 35, 36, 37, 13, 14, 15, 16, 42, 43, 44, 45, 46, 47, 48, 49, 50, 51, 52, 53, 54, 55, 56, 57, 58, 59, 60, 61, 62, 63, 64, 65, 66, 67] (by decide +kernel) (by decide +kernel)
set_option maxRecDepth 20000 in
theorem gX9_coin_X9_slackOf : GoodIn wsX9_coin (wsV RX9 242 RX9 yX9_slackOf wsX9_slackOf) := goodIn_app (goodIn_of _ (by decide +kernel)) ggX9_coin_X9_slackOf
set_option maxRecDepth 20000 in
theorem ggX9_coin_X9_worthOf : GoodIn wsX9_coin wsX9_worthOf := goodIn_r _ [41, 21, 22, 23, 7, 24, 25, 26, 27, 28, 9, 17, 18, 19, 20, 29, 30, 31, 32, 33, 34, 35, 36, 37, 13, 14, 15, 16, 42, 43, 44, 45, 46, 47, 48, 49, 50, 51, 52, 53, 54, 55, 56, 57, 58, 59, 60, 61, 62, 63, 64, 65, 66, 67] (by decide +kernel) (by decide +kernel)
set_option maxRecDepth 20000 in
theorem gX9_coin_X9_worthOf : GoodIn wsX9_coin (wsV RX9 245 RX9 yX9_worthOf wsX9_worthOf) := goodIn_app (goodIn_of _ (by decide +kernel)) ggX9_coin_X9_worthOf
set_option maxRecDepth 20000 in
theorem ggX9_coin_X9_of : GoodIn wsX9_coin wsX9_of := goodIn_r _ [20, 9, 42, 43, 44, 45, 46, 47, 48, 49, 50, 51, 52, 53, 54, 55, 56, 57, 58, 59, 60, 61, 62, 63, 64, 65, 66, 67] (by decide +kernel) (by decide +kernel)
set_option maxRecDepth 20000 in
theorem gX9_coin_X9_of : GoodIn wsX9_coin (wsV RX9 189 RX9 yX9_of wsX9_of) := goodIn_app (goodIn_of _ (by decide +kernel)) ggX9_coin_X9_of
theorem dX9_coin_0 : decode cX9_coin 0 = .ok (.aload_n 0, 1) := by decide +kernel
theorem dX9_coin_1 : decode cX9_coin 1 = .ok (.iconst 0, 1) := by decide +kernel
theorem dX9_coin_2 : decode cX9_coin 2 = .ok (.putfield 47, 3) := by decide +kernel
theorem dX9_coin_5 : decode cX9_coin 5 = .ok (.aload_n 0, 1) := by decide +kernel
theorem dX9_coin_6 : decode cX9_coin 6 = .ok (.iload_n 1, 1) := by decide +kernel
theorem dX9_coin_7 : decode cX9_coin 7 = .ok (.invokevirtual 204, 3) := by decide +kernel
theorem dX9_coin_10 : decode cX9_coin 10 = .ok (.ifCond .eq 15, 3) := by decide +kernel
theorem dX9_coin_13 : decode cX9_coin 13 = .ok (.iload_n 2, 1) := by decide +kernel
theorem dX9_coin_14 : decode cX9_coin 14 = .ok (.i2l, 1) := by decide +kernel
theorem dX9_coin_15 : decode cX9_coin 15 = .ok (.lconst 0, 1) := by decide +kernel
theorem dX9_coin_16 : decode cX9_coin 16 = .ok (.ldc2_w 55, 3) := by decide +kernel
theorem dX9_coin_19 : decode cX9_coin 19 = .ok (.invokestatic 57, 3) := by decide +kernel
theorem dX9_coin_22 : decode cX9_coin 22 = .ok (.ifCond .ne 6, 3) := by decide +kernel
theorem dX9_coin_25 : decode cX9_coin 25 = .ok (.ldc 67, 2) := by decide +kernel
theorem dX9_coin_27 : decode cX9_coin 27 = .ok (.ireturn, 1) := by decide +kernel
theorem dX9_coin_28 : decode cX9_coin 28 = .ok (.iload_n 2, 1) := by decide +kernel
theorem dX9_coin_29 : decode cX9_coin 29 = .ok (.tableswitch 45 5 7 #[27, 33, 39], 27) := by decide +kernel
theorem dX9_coin_56 : decode cX9_coin 56 = .ok (.aload_n 0, 1) := by decide +kernel
theorem dX9_coin_57 : decode cX9_coin 57 = .ok (.iload_n 1, 1) := by decide +kernel
theorem dX9_coin_58 : decode cX9_coin 58 = .ok (.invokevirtual 192, 3) := by decide +kernel
theorem dX9_coin_61 : decode cX9_coin 61 = .ok (.ireturn, 1) := by decide +kernel
theorem dX9_coin_62 : decode cX9_coin 62 = .ok (.aload_n 0, 1) := by decide +kernel
theorem dX9_coin_63 : decode cX9_coin 63 = .ok (.iload_n 1, 1) := by decide +kernel
theorem dX9_coin_64 : decode cX9_coin 64 = .ok (.invokevirtual 242, 3) := by decide +kernel
theorem dX9_coin_67 : decode cX9_coin 67 = .ok (.ireturn, 1) := by decide +kernel
theorem dX9_coin_68 : decode cX9_coin 68 = .ok (.aload_n 0, 1) := by decide +kernel
theorem dX9_coin_69 : decode cX9_coin 69 = .ok (.iload_n 1, 1) := by decide +kernel
theorem dX9_coin_70 : decode cX9_coin 70 = .ok (.invokevirtual 245, 3) := by decide +kernel
theorem dX9_coin_73 : decode cX9_coin 73 = .ok (.ireturn, 1) := by decide +kernel
theorem dX9_coin_74 : decode cX9_coin 74 = .ok (.aload_n 0, 1) := by decide +kernel
theorem dX9_coin_75 : decode cX9_coin 75 = .ok (.iload_n 1, 1) := by decide +kernel
theorem dX9_coin_76 : decode cX9_coin 76 = .ok (.iload_n 2, 1) := by decide +kernel
theorem dX9_coin_77 : decode cX9_coin 77 = .ok (.iconst 4, 1) := by decide +kernel
theorem dX9_coin_78 : decode cX9_coin 78 = .ok (.if_icmp .ne 7, 3) := by decide +kernel
theorem dX9_coin_81 : decode cX9_coin 81 = .ok (.iconst 5, 1) := by decide +kernel
theorem dX9_coin_82 : decode cX9_coin 82 = .ok (.goto 31, 3) := by decide +kernel
theorem dX9_coin_85 : decode cX9_coin 85 = .ok (.iload_n 2, 1) := by decide +kernel
theorem dX9_coin_86 : decode cX9_coin 86 = .ok (.iconst 3, 1) := by decide +kernel
theorem dX9_coin_87 : decode cX9_coin 87 = .ok (.if_icmp .ne 7, 3) := by decide +kernel
theorem dX9_coin_90 : decode cX9_coin 90 = .ok (.iconst 4, 1) := by decide +kernel
theorem dX9_coin_91 : decode cX9_coin 91 = .ok (.goto 22, 3) := by decide +kernel
theorem dX9_coin_94 : decode cX9_coin 94 = .ok (.iload_n 2, 1) := by decide +kernel
theorem dX9_coin_95 : decode cX9_coin 95 = .ok (.iconst 2, 1) := by decide +kernel
theorem dX9_coin_96 : decode cX9_coin 96 = .ok (.if_icmp .ne 7, 3) := by decide +kernel
theorem dX9_coin_99 : decode cX9_coin 99 = .ok (.iconst 3, 1) := by decide +kernel
theorem dX9_coin_100 : decode cX9_coin 100 = .ok (.goto 13, 3) := by decide +kernel
theorem dX9_coin_103 : decode cX9_coin 103 = .ok (.iload_n 2, 1) := by decide +kernel
theorem dX9_coin_104 : decode cX9_coin 104 = .ok (.iconst 1, 1) := by decide +kernel
theorem dX9_coin_105 : decode cX9_coin 105 = .ok (.if_icmp .ne 7, 3) := by decide +kernel
theorem dX9_coin_108 : decode cX9_coin 108 = .ok (.iconst 2, 1) := by decide +kernel
theorem dX9_coin_109 : decode cX9_coin 109 = .ok (.goto 4, 3) := by decide +kernel
theorem dX9_coin_112 : decode cX9_coin 112 = .ok (.iconst 1, 1) := by decide +kernel
theorem dX9_coin_113 : decode cX9_coin 113 = .ok (.invokevirtual 189, 3) := by decide +kernel
theorem dX9_coin_116 : decode cX9_coin 116 = .ok (.ireturn, 1) := by decide +kernel
set_option maxRecDepth 20000 in
theorem ggX9_far_X9_in : GoodIn wsX9_far wsX9_in := goodIn_r _ [10] (by decide +kernel) (by decide +kernel)
set_option maxRecDepth 20000 in
theorem gX9_far_X9_in : GoodIn wsX9_far (va_wsS RX9 57 yX9_in wsX9_in) := goodIn_app (goodIn_of _ (by decide +kernel)) ggX9_far_X9_in
set_option maxRecDepth 20000 in
theorem ggX9_far_X9_farOf : GoodIn wsX9_far wsX9_farOf := goodIn_r _ [14, 15, 16, 17, 18, 19, 20, 21, 22, 23, 24, 25, 26, 27, 28, 29, 30, 31, 32, 33, 34, 35, 36, 37, 38, 39, 40, 41] (by decide +kernel) (by decide +kernel)
set_option maxRecDepth 20000 in
theorem gX9_far_X9_farOf : GoodIn wsX9_far (wsV RX9 198 RX9 yX9_farOf wsX9_farOf) := goodIn_app (goodIn_of _ (by decide +kernel)) ggX9_far_X9_farOf
theorem dX9_far_0 : decode cX9_far 0 = .ok (.aload_n 0, 1) := by decide +kernel
theorem dX9_far_1 : decode cX9_far 1 = .ok (.iconst 0, 1) := by decide +kernel
theorem dX9_far_2 : decode cX9_far 2 = .ok (.putfield 47, 3) := by decide +kernel
theorem dX9_far_5 : decode cX9_far 5 = .ok (.aload_n 0, 1) := by decide +kernel
theorem dX9_far_6 : decode cX9_far 6 = .ok (.getfield 179, 3) := by decide +kernel
theorem dX9_far_9 : decode cX9_far 9 = .ok (.ifCond .ne 6, 3) := by decide +kernel
theorem dX9_far_12 : decode cX9_far 12 = .ok (.ldc 210, 2) := by decide +kernel
theorem dX9_far_14 : decode cX9_far 14 = .ok (.ireturn, 1) := by decide +kernel
theorem dX9_far_15 : decode cX9_far 15 = .ok (.iload_n 1, 1) := by decide +kernel
theorem dX9_far_16 : decode cX9_far 16 = .ok (.i2l, 1) := by decide +kernel
theorem dX9_far_17 : decode cX9_far 17 = .ok (.lconst 0, 1) := by decide +kernel
theorem dX9_far_18 : decode cX9_far 18 = .ok (.ldc2_w 55, 3) := by decide +kernel
theorem dX9_far_21 : decode cX9_far 21 = .ok (.invokestatic 57, 3) := by decide +kernel
theorem dX9_far_24 : decode cX9_far 24 = .ok (.ifCond .eq 15, 3) := by decide +kernel
theorem dX9_far_27 : decode cX9_far 27 = .ok (.iload_n 2, 1) := by decide +kernel
theorem dX9_far_28 : decode cX9_far 28 = .ok (.i2l, 1) := by decide +kernel
theorem dX9_far_29 : decode cX9_far 29 = .ok (.lconst 0, 1) := by decide +kernel
theorem dX9_far_30 : decode cX9_far 30 = .ok (.ldc2_w 55, 3) := by decide +kernel
theorem dX9_far_33 : decode cX9_far 33 = .ok (.invokestatic 57, 3) := by decide +kernel
theorem dX9_far_36 : decode cX9_far 36 = .ok (.ifCond .ne 6, 3) := by decide +kernel
theorem dX9_far_39 : decode cX9_far 39 = .ok (.ldc 67, 2) := by decide +kernel
theorem dX9_far_41 : decode cX9_far 41 = .ok (.ireturn, 1) := by decide +kernel
theorem dX9_far_42 : decode cX9_far 42 = .ok (.aload_n 0, 1) := by decide +kernel
theorem dX9_far_43 : decode cX9_far 43 = .ok (.iload_n 1, 1) := by decide +kernel
theorem dX9_far_44 : decode cX9_far 44 = .ok (.iload_n 2, 1) := by decide +kernel
theorem dX9_far_45 : decode cX9_far 45 = .ok (.invokevirtual 198, 3) := by decide +kernel
theorem dX9_far_48 : decode cX9_far 48 = .ok (.sipush 10000, 3) := by decide +kernel
theorem dX9_far_51 : decode cX9_far 51 = .ok (.if_icmp .ge 12, 3) := by decide +kernel
theorem dX9_far_54 : decode cX9_far 54 = .ok (.aload_n 0, 1) := by decide +kernel
theorem dX9_far_55 : decode cX9_far 55 = .ok (.iload_n 1, 1) := by decide +kernel
theorem dX9_far_56 : decode cX9_far 56 = .ok (.iload_n 2, 1) := by decide +kernel
theorem dX9_far_57 : decode cX9_far 57 = .ok (.invokevirtual 198, 3) := by decide +kernel
theorem dX9_far_60 : decode cX9_far 60 = .ok (.goto 5, 3) := by decide +kernel
theorem dX9_far_63 : decode cX9_far 63 = .ok (.ldc 83, 2) := by decide +kernel
theorem dX9_far_65 : decode cX9_far 65 = .ok (.ireturn, 1) := by decide +kernel
set_option maxRecDepth 20000 in
theorem ggX9_late_X9_slackOf : GoodIn wsX9_late wsX9_slackOf := goodIn_r _ [10, 11, 12, 13, 9, 14, 4, 15, 16, 17, 18, 19, 20, 21, 22, 23, 24, 25, 26, 5, 27, 28, 29, 30, 31, 32, 33, 34, 35, 36, 37, 38, 39, 40, 41, 42, 43, 44, 45, 46, 47, 48, 49, 50, 51, 52, 53, 54, 55, 56] (by decide +kernel) (by decide +kernel)
set_option maxRecDepth 20000 in
theorem gX9_late_X9_slackOf : GoodIn wsX9_late (wsV RX9 242 RX9 yX9_slackOf wsX9_slackOf) := goodIn_app (goodIn_of _ (by decide +kernel)) ggX9_late_X9_slackOf
theorem dX9_late_0 : decode cX9_late 0 = .ok (.aload_n 0, 1) := by decide +kernel
theorem dX9_late_1 : decode cX9_late 1 = .ok (.iconst 0, 1) := by decide +kernel
theorem dX9_late_2 : decode cX9_late 2 = .ok (.putfield 47, 3) := by decide +kernel
theorem dX9_late_5 : decode cX9_late 5 = .ok (.aload_n 0, 1) := by decide +kernel
theorem dX9_late_6 : decode cX9_late 6 = .ok (.getfield 179, 3) := by decide +kernel
theorem dX9_late_9 : decode cX9_late 9 = .ok (.ifCond .ne 6, 3) := by decide +kernel
theorem dX9_late_12 : decode cX9_late 12 = .ok (.ldc 210, 2) := by decide +kernel
theorem dX9_late_14 : decode cX9_late 14 = .ok (.ireturn, 1) := by decide +kernel
theorem dX9_late_15 : decode cX9_late 15 = .ok (.iconst 0, 1) := by decide +kernel
theorem dX9_late_16 : decode cX9_late 16 = .ok (.istore_n 1, 1) := by decide +kernel
theorem dX9_late_17 : decode cX9_late 17 = .ok (.iconst 0, 1) := by decide +kernel
theorem dX9_late_18 : decode cX9_late 18 = .ok (.istore_n 2, 1) := by decide +kernel
theorem dX9_late_19 : decode cX9_late 19 = .ok (.iload_n 2, 1) := by decide +kernel
theorem dX9_late_20 : decode cX9_late 20 = .ok (.aload_n 0, 1) := by decide +kernel
theorem dX9_late_21 : decode cX9_late 21 = .ok (.getfield 19, 3) := by decide +kernel
theorem dX9_late_24 : decode cX9_late 24 = .ok (.iconst 3, 1) := by decide +kernel
theorem dX9_late_25 : decode cX9_late 25 = .ok (.iaload, 1) := by decide +kernel
theorem dX9_late_26 : decode cX9_late 26 = .ok (.if_icmp .ge 35, 3) := by decide +kernel
theorem dX9_late_29 : decode cX9_late 29 = .ok (.aload_n 0, 1) := by decide +kernel
theorem dX9_late_30 : decode cX9_late 30 = .ok (.iload_n 2, 1) := by decide +kernel
theorem dX9_late_31 : decode cX9_late 31 = .ok (.invokevirtual 242, 3) := by decide +kernel
theorem dX9_late_34 : decode cX9_late 34 = .ok (.istore_n 3, 1) := by decide +kernel
theorem dX9_late_35 : decode cX9_late 35 = .ok (.iload_n 1, 1) := by decide +kernel
theorem dX9_late_36 : decode cX9_late 36 = .ok (.iload_n 3, 1) := by decide +kernel
theorem dX9_late_37 : decode cX9_late 37 = .ok (.ldc 83, 2) := by decide +kernel
theorem dX9_late_39 : decode cX9_late 39 = .ok (.if_icmp .eq 13, 3) := by decide +kernel
theorem dX9_late_42 : decode cX9_late 42 = .ok (.iload_n 3, 1) := by decide +kernel
theorem dX9_late_43 : decode cX9_late 43 = .ok (.ifCond .ge 9, 3) := by decide +kernel
theorem dX9_late_46 : decode cX9_late 46 = .ok (.iconst 1, 1) := by decide +kernel
theorem dX9_late_47 : decode cX9_late 47 = .ok (.iload_n 2, 1) := by decide +kernel
theorem dX9_late_48 : decode cX9_late 48 = .ok (.ishl, 1) := by decide +kernel
theorem dX9_late_49 : decode cX9_late 49 = .ok (.goto 4, 3) := by decide +kernel
theorem dX9_late_52 : decode cX9_late 52 = .ok (.iconst 0, 1) := by decide +kernel
theorem dX9_late_53 : decode cX9_late 53 = .ok (.ior, 1) := by decide +kernel
theorem dX9_late_54 : decode cX9_late 54 = .ok (.istore_n 1, 1) := by decide +kernel
theorem dX9_late_55 : decode cX9_late 55 = .ok (.iinc 2 1, 3) := by decide +kernel
theorem dX9_late_58 : decode cX9_late 58 = .ok (.goto (-39), 3) := by decide +kernel
theorem dX9_late_61 : decode cX9_late 61 = .ok (.iload_n 1, 1) := by decide +kernel
theorem dX9_late_62 : decode cX9_late 62 = .ok (.ireturn, 1) := by decide +kernel
set_option maxRecDepth 20000 in
theorem ggX9_canBeSaved_X9_slackOf : GoodIn wsX9_canBeSaved wsX9_slackOf := goodIn_r _ [5, 6, 7, 8, 4, 9, 10, 11, 12, 13, 14, 15, 16, 17, 18, 19, 20, 21, 22, 23, 24, 25, 26, 27, 28, 29, 30, 31, 32, 33, 34, 35, 36, 37, 38, 39, 40, 41, 42, 43, 44, 45, 46, 47, 48, 49, 50, 51, 52, 53] (by decide +kernel) (by decide +kernel)
set_option maxRecDepth 20000 in
theorem gX9_canBeSaved_X9_slackOf : GoodIn wsX9_canBeSaved (wsV RX9 242 RX9 yX9_slackOf wsX9_slackOf) := goodIn_app (goodIn_of _ (by decide +kernel)) ggX9_canBeSaved_X9_slackOf
set_option maxRecDepth 20000 in
theorem ggX9_canBeSaved_X9_of : GoodIn wsX9_canBeSaved wsX9_of := goodIn_r _ [14, 10, 28, 29, 30, 31, 32, 33, 34, 35, 36, 37, 38, 39, 40, 41, 42, 43, 44, 45, 46, 47, 48, 49, 50, 51, 52, 53] (by decide +kernel) (by decide +kernel)
set_option maxRecDepth 20000 in
theorem gX9_canBeSaved_X9_of : GoodIn wsX9_canBeSaved (wsV RX9 189 RX9 yX9_of wsX9_of) := goodIn_app (goodIn_of _ (by decide +kernel)) ggX9_canBeSaved_X9_of
theorem dX9_canBeSaved_0 : decode cX9_canBeSaved 0 = .ok (.aload_n 0, 1) := by decide +kernel
theorem dX9_canBeSaved_1 : decode cX9_canBeSaved 1 = .ok (.iload_n 1, 1) := by decide +kernel
theorem dX9_canBeSaved_2 : decode cX9_canBeSaved 2 = .ok (.invokevirtual 242, 3) := by decide +kernel
theorem dX9_canBeSaved_5 : decode cX9_canBeSaved 5 = .ok (.istore_n 2, 1) := by decide +kernel
theorem dX9_canBeSaved_6 : decode cX9_canBeSaved 6 = .ok (.aload_n 0, 1) := by decide +kernel
theorem dX9_canBeSaved_7 : decode cX9_canBeSaved 7 = .ok (.iload_n 1, 1) := by decide +kernel
theorem dX9_canBeSaved_8 : decode cX9_canBeSaved 8 = .ok (.iconst 3, 1) := by decide +kernel
theorem dX9_canBeSaved_9 : decode cX9_canBeSaved 9 = .ok (.invokevirtual 189, 3) := by decide +kernel
theorem dX9_canBeSaved_12 : decode cX9_canBeSaved 12 = .ok (.ifCond .ne 11, 3) := by decide +kernel
theorem dX9_canBeSaved_15 : decode cX9_canBeSaved 15 = .ok (.iload_n 2, 1) := by decide +kernel
theorem dX9_canBeSaved_16 : decode cX9_canBeSaved 16 = .ok (.ifCond .lt 7, 3) := by decide +kernel
theorem dX9_canBeSaved_19 : decode cX9_canBeSaved 19 = .ok (.iconst 1, 1) := by decide +kernel
theorem dX9_canBeSaved_20 : decode cX9_canBeSaved 20 = .ok (.goto 4, 3) := by decide +kernel
theorem dX9_canBeSaved_23 : decode cX9_canBeSaved 23 = .ok (.iconst 0, 1) := by decide +kernel
theorem dX9_canBeSaved_24 : decode cX9_canBeSaved 24 = .ok (.ireturn, 1) := by decide +kernel
set_option maxRecDepth 20000 in
theorem ggX9_mustGo_X9_in : GoodIn wsX9_mustGo wsX9_in := goodIn_r _ [10] (by decide +kernel) (by decide +kernel)
set_option maxRecDepth 20000 in
theorem gX9_mustGo_X9_in : GoodIn wsX9_mustGo (va_wsS RX9 57 yX9_in wsX9_in) := goodIn_app (goodIn_of _ (by decide +kernel)) ggX9_mustGo_X9_in
set_option maxRecDepth 20000 in
theorem ggX9_mustGo_X9_canBeSaved : GoodIn wsX9_mustGo wsX9_canBeSaved := goodIn_r _ [14, 15, 16, 17, 9, 18, 19, 20, 21, 22, 6, 23, 24, 25, 26, 27, 28, 29, 30, 31, 32, 33, 34, 35, 36, 37, 38, 39, 40, 41, 42, 43, 44, 45, 46, 47, 48, 49, 50, 51, 52, 53, 54, 55, 56, 57, 58, 59, 60, 61, 62, 63, 64, 65] (by decide +kernel) (by decide +kernel)
set_option maxRecDepth 20000 in
theorem gX9_mustGo_X9_canBeSaved : GoodIn wsX9_mustGo (wsV RX9 250 RX9 yX9_canBeSaved wsX9_canBeSaved) := goodIn_app (goodIn_of _ (by decide +kernel)) ggX9_mustGo_X9_canBeSaved
set_option maxRecDepth 20000 in
theorem ggX9_mustGo_X9_slackOf : GoodIn wsX9_mustGo wsX9_slackOf := goodIn_r _ [18, 19, 20, 21, 9, 22, 6, 23, 24, 25, 26, 27, 28, 29, 30, 31, 32, 33, 34, 35, 36, 37, 38, 39, 40, 41, 42, 43, 44, 45, 46, 47, 48, 49, 50, 51, 52, 53, 54, 55, 56, 57, 58, 59, 60, 61, 62, 63, 64, 65] (by decide +kernel) (by decide +kernel)
set_option maxRecDepth 20000 in
theorem gX9_mustGo_X9_slackOf : GoodIn wsX9_mustGo (wsV RX9 242 RX9 yX9_slackOf wsX9_slackOf) := goodIn_app (goodIn_of _ (by decide +kernel)) ggX9_mustGo_X9_slackOf
theorem dX9_mustGo_0 : decode cX9_mustGo 0 = .ok (.aload_n 0, 1) := by decide +kernel
theorem dX9_mustGo_1 : decode cX9_mustGo 1 = .ok (.iconst 0, 1) := by decide +kernel
theorem dX9_mustGo_2 : decode cX9_mustGo 2 = .ok (.putfield 47, 3) := by decide +kernel
theorem dX9_mustGo_5 : decode cX9_mustGo 5 = .ok (.aload_n 0, 1) := by decide +kernel
theorem dX9_mustGo_6 : decode cX9_mustGo 6 = .ok (.getfield 179, 3) := by decide +kernel
theorem dX9_mustGo_9 : decode cX9_mustGo 9 = .ok (.ifCond .ne 6, 3) := by decide +kernel
theorem dX9_mustGo_12 : decode cX9_mustGo 12 = .ok (.ldc 210, 2) := by decide +kernel
theorem dX9_mustGo_14 : decode cX9_mustGo 14 = .ok (.ireturn, 1) := by decide +kernel
theorem dX9_mustGo_15 : decode cX9_mustGo 15 = .ok (.iload_n 1, 1) := by decide +kernel
theorem dX9_mustGo_16 : decode cX9_mustGo 16 = .ok (.i2l, 1) := by decide +kernel
theorem dX9_mustGo_17 : decode cX9_mustGo 17 = .ok (.lconst 1, 1) := by decide +kernel
theorem dX9_mustGo_18 : decode cX9_mustGo 18 = .ok (.ldc2_w 248, 3) := by decide +kernel
theorem dX9_mustGo_21 : decode cX9_mustGo 21 = .ok (.invokestatic 57, 3) := by decide +kernel
theorem dX9_mustGo_24 : decode cX9_mustGo 24 = .ok (.ifCond .ne 6, 3) := by decide +kernel
theorem dX9_mustGo_27 : decode cX9_mustGo 27 = .ok (.ldc 67, 2) := by decide +kernel
theorem dX9_mustGo_29 : decode cX9_mustGo 29 = .ok (.ireturn, 1) := by decide +kernel
theorem dX9_mustGo_30 : decode cX9_mustGo 30 = .ok (.iconst 0, 1) := by decide +kernel
theorem dX9_mustGo_31 : decode cX9_mustGo 31 = .ok (.istore_n 2, 1) := by decide +kernel
theorem dX9_mustGo_32 : decode cX9_mustGo 32 = .ok (.iconst 0, 1) := by decide +kernel
theorem dX9_mustGo_33 : decode cX9_mustGo 33 = .ok (.istore_n 3, 1) := by decide +kernel
theorem dX9_mustGo_34 : decode cX9_mustGo 34 = .ok (.iload_n 3, 1) := by decide +kernel
theorem dX9_mustGo_35 : decode cX9_mustGo 35 = .ok (.aload_n 0, 1) := by decide +kernel
theorem dX9_mustGo_36 : decode cX9_mustGo 36 = .ok (.getfield 19, 3) := by decide +kernel
theorem dX9_mustGo_39 : decode cX9_mustGo 39 = .ok (.iconst 3, 1) := by decide +kernel
theorem dX9_mustGo_40 : decode cX9_mustGo 40 = .ok (.iaload, 1) := by decide +kernel
theorem dX9_mustGo_41 : decode cX9_mustGo 41 = .ok (.if_icmp .ge 36, 3) := by decide +kernel
theorem dX9_mustGo_44 : decode cX9_mustGo 44 = .ok (.iload_n 2, 1) := by decide +kernel
theorem dX9_mustGo_45 : decode cX9_mustGo 45 = .ok (.aload_n 0, 1) := by decide +kernel
theorem dX9_mustGo_46 : decode cX9_mustGo 46 = .ok (.iload_n 3, 1) := by decide +kernel
theorem dX9_mustGo_47 : decode cX9_mustGo 47 = .ok (.invokevirtual 250, 3) := by decide +kernel
theorem dX9_mustGo_50 : decode cX9_mustGo 50 = .ok (.ifCond .eq 18, 3) := by decide +kernel
theorem dX9_mustGo_53 : decode cX9_mustGo 53 = .ok (.aload_n 0, 1) := by decide +kernel
theorem dX9_mustGo_54 : decode cX9_mustGo 54 = .ok (.iload_n 3, 1) := by decide +kernel
theorem dX9_mustGo_55 : decode cX9_mustGo 55 = .ok (.invokevirtual 242, 3) := by decide +kernel
theorem dX9_mustGo_58 : decode cX9_mustGo 58 = .ok (.iload_n 1, 1) := by decide +kernel
theorem dX9_mustGo_59 : decode cX9_mustGo 59 = .ok (.if_icmp .ge 9, 3) := by decide +kernel
theorem dX9_mustGo_62 : decode cX9_mustGo 62 = .ok (.iconst 1, 1) := by decide +kernel
theorem dX9_mustGo_63 : decode cX9_mustGo 63 = .ok (.iload_n 3, 1) := by decide +kernel
theorem dX9_mustGo_64 : decode cX9_mustGo 64 = .ok (.ishl, 1) := by decide +kernel
theorem dX9_mustGo_65 : decode cX9_mustGo 65 = .ok (.goto 4, 3) := by decide +kernel
theorem dX9_mustGo_68 : decode cX9_mustGo 68 = .ok (.iconst 0, 1) := by decide +kernel
theorem dX9_mustGo_69 : decode cX9_mustGo 69 = .ok (.ior, 1) := by decide +kernel
theorem dX9_mustGo_70 : decode cX9_mustGo 70 = .ok (.istore_n 2, 1) := by decide +kernel
theorem dX9_mustGo_71 : decode cX9_mustGo 71 = .ok (.iinc 3 1, 3) := by decide +kernel
theorem dX9_mustGo_74 : decode cX9_mustGo 74 = .ok (.goto (-40), 3) := by decide +kernel
theorem dX9_mustGo_77 : decode cX9_mustGo 77 = .ok (.iload_n 2, 1) := by decide +kernel
theorem dX9_mustGo_78 : decode cX9_mustGo 78 = .ok (.ireturn, 1) := by decide +kernel
set_option maxRecDepth 20000 in
theorem ggX9_save_X9_in : GoodIn wsX9_save wsX9_in := goodIn_r _ [11] (by decide +kernel) (by decide +kernel)
set_option maxRecDepth 20000 in
theorem gX9_save_X9_in : GoodIn wsX9_save (va_wsS RX9 57 yX9_in wsX9_in) := goodIn_app (goodIn_of _ (by decide +kernel)) ggX9_save_X9_in
set_option maxRecDepth 20000 in
theorem ggX9_save_X9_canBeSaved : GoodIn wsX9_save wsX9_canBeSaved := goodIn_r _ [15, 16, 17, 18, 10, 19, 20, 21, 22, 23, 7, 24, 25, 26, 27, 28, 29, 30, 31, 32, 33, 34, 35, 6, 36, 37, 38, 39, 40, 41, 42, 43, 44, 45, 46, 47, 48, 49, 50, 51, 52, 53, 54, 55, 56, 57, 58, 59, 60, 61, 62, 63, 64, 65] (by decide +kernel) (by decide +kernel)
set_option maxRecDepth 20000 in
theorem gX9_save_X9_canBeSaved : GoodIn wsX9_save (wsV RX9 250 RX9 yX9_canBeSaved wsX9_canBeSaved) := goodIn_app (goodIn_of _ (by decide +kernel)) ggX9_save_X9_canBeSaved
set_option maxRecDepth 20000 in
theorem ggX9_save_X9_slackOf : GoodIn wsX9_save wsX9_slackOf := goodIn_r _ [19, 20, 21, 22, 10, 23, 7, 24, 25, 26, 27, 28, 29, 30, 31, 32, 33, 34, 35, 6, 36, 37, 38, 39, 40, 41, 42, 43, 44, 45, 46, 47, 48, 49, 50, 51, 52, 53, 54, 55, 56, 57, 58, 59, 60, 61, 62, 63, 64, 65] (by decide +kernel) (by decide +kernel)
set_option maxRecDepth 20000 in
theorem gX9_save_X9_slackOf : GoodIn wsX9_save (wsV RX9 242 RX9 yX9_slackOf wsX9_slackOf) := goodIn_app (goodIn_of _ (by decide +kernel)) ggX9_save_X9_slackOf
