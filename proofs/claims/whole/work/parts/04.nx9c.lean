theorem dX9_fault_0 : decode cX9_fault 0 = .ok (.aload_n 0, 1) := by decide +kernel
theorem dX9_fault_1 : decode cX9_fault 1 = .ok (.iconst 0, 1) := by decide +kernel
theorem dX9_fault_2 : decode cX9_fault 2 = .ok (.putfield 47, 3) := by decide +kernel
theorem dX9_fault_5 : decode cX9_fault 5 = .ok (.aload_n 0, 1) := by decide +kernel
theorem dX9_fault_6 : decode cX9_fault 6 = .ok (.getfield 175, 3) := by decide +kernel
theorem dX9_fault_9 : decode cX9_fault 9 = .ok (.ireturn, 1) := by decide +kernel
set_option maxRecDepth 20000 in
theorem ggX9_isHolder_X9_in : GoodIn wsX9_isHolder wsX9_in := goodIn_r _ [5] (by decide +kernel) (by decide +kernel)
set_option maxRecDepth 20000 in
theorem gX9_isHolder_X9_in : GoodIn wsX9_isHolder (va_wsS RX9 57 yX9_in wsX9_in) := goodIn_app (goodIn_of _ (by decide +kernel)) ggX9_isHolder_X9_in
theorem dX9_isHolder_0 : decode cX9_isHolder 0 = .ok (.iload_n 1, 1) := by decide +kernel
theorem dX9_isHolder_1 : decode cX9_isHolder 1 = .ok (.i2l, 1) := by decide +kernel
theorem dX9_isHolder_2 : decode cX9_isHolder 2 = .ok (.lconst 0, 1) := by decide +kernel
theorem dX9_isHolder_3 : decode cX9_isHolder 3 = .ok (.aload_n 0, 1) := by decide +kernel
theorem dX9_isHolder_4 : decode cX9_isHolder 4 = .ok (.getfield 19, 3) := by decide +kernel
theorem dX9_isHolder_7 : decode cX9_isHolder 7 = .ok (.iconst 2, 1) := by decide +kernel
theorem dX9_isHolder_8 : decode cX9_isHolder 8 = .ok (.iaload, 1) := by decide +kernel
theorem dX9_isHolder_9 : decode cX9_isHolder 9 = .ok (.iconst 1, 1) := by decide +kernel
theorem dX9_isHolder_10 : decode cX9_isHolder 10 = .ok (.isub, 1) := by decide +kernel
theorem dX9_isHolder_11 : decode cX9_isHolder 11 = .ok (.i2l, 1) := by decide +kernel
theorem dX9_isHolder_12 : decode cX9_isHolder 12 = .ok (.invokestatic 57, 3) := by decide +kernel
theorem dX9_isHolder_15 : decode cX9_isHolder 15 = .ok (.ireturn, 1) := by decide +kernel
set_option maxRecDepth 20000 in
theorem ggX9_isCoin_X9_in : GoodIn wsX9_isCoin wsX9_in := goodIn_r _ [5] (by decide +kernel) (by decide +kernel)
set_option maxRecDepth 20000 in
theorem gX9_isCoin_X9_in : GoodIn wsX9_isCoin (va_wsS RX9 57 yX9_in wsX9_in) := goodIn_app (goodIn_of _ (by decide +kernel)) ggX9_isCoin_X9_in
theorem dX9_isCoin_0 : decode cX9_isCoin 0 = .ok (.iload_n 1, 1) := by decide +kernel
theorem dX9_isCoin_1 : decode cX9_isCoin 1 = .ok (.i2l, 1) := by decide +kernel
theorem dX9_isCoin_2 : decode cX9_isCoin 2 = .ok (.lconst 0, 1) := by decide +kernel
theorem dX9_isCoin_3 : decode cX9_isCoin 3 = .ok (.aload_n 0, 1) := by decide +kernel
theorem dX9_isCoin_4 : decode cX9_isCoin 4 = .ok (.getfield 19, 3) := by decide +kernel
theorem dX9_isCoin_7 : decode cX9_isCoin 7 = .ok (.iconst 3, 1) := by decide +kernel
theorem dX9_isCoin_8 : decode cX9_isCoin 8 = .ok (.iaload, 1) := by decide +kernel
theorem dX9_isCoin_9 : decode cX9_isCoin 9 = .ok (.iconst 1, 1) := by decide +kernel
theorem dX9_isCoin_10 : decode cX9_isCoin 10 = .ok (.isub, 1) := by decide +kernel
theorem dX9_isCoin_11 : decode cX9_isCoin 11 = .ok (.i2l, 1) := by decide +kernel
theorem dX9_isCoin_12 : decode cX9_isCoin 12 = .ok (.invokestatic 57, 3) := by decide +kernel
theorem dX9_isCoin_15 : decode cX9_isCoin 15 = .ok (.ireturn, 1) := by decide +kernel
theorem dX9_of_0 : decode cX9_of 0 = .ok (.aload_n 0, 1) := by decide +kernel
theorem dX9_of_1 : decode cX9_of 1 = .ok (.getfield 19, 3) := by decide +kernel
theorem dX9_of_4 : decode cX9_of 4 = .ok (.bipush 75, 2) := by decide +kernel
theorem dX9_of_6 : decode cX9_of 6 = .ok (.bipush 6, 2) := by decide +kernel
theorem dX9_of_8 : decode cX9_of 8 = .ok (.iload_n 1, 1) := by decide +kernel
theorem dX9_of_9 : decode cX9_of 9 = .ok (.imul, 1) := by decide +kernel
theorem dX9_of_10 : decode cX9_of 10 = .ok (.iadd, 1) := by decide +kernel
theorem dX9_of_11 : decode cX9_of 11 = .ok (.iload_n 2, 1) := by decide +kernel
theorem dX9_of_12 : decode cX9_of 12 = .ok (.iadd, 1) := by decide +kernel
theorem dX9_of_13 : decode cX9_of 13 = .ok (.iaload, 1) := by decide +kernel
theorem dX9_of_14 : decode cX9_of 14 = .ok (.ireturn, 1) := by decide +kernel
theorem dX9_becomes_0 : decode cX9_becomes 0 = .ok (.aload_n 0, 1) := by decide +kernel
theorem dX9_becomes_1 : decode cX9_becomes 1 = .ok (.getfield 19, 3) := by decide +kernel
theorem dX9_becomes_4 : decode cX9_becomes 4 = .ok (.bipush 75, 2) := by decide +kernel
theorem dX9_becomes_6 : decode cX9_becomes 6 = .ok (.bipush 6, 2) := by decide +kernel
theorem dX9_becomes_8 : decode cX9_becomes 8 = .ok (.iload_n 1, 1) := by decide +kernel
theorem dX9_becomes_9 : decode cX9_becomes 9 = .ok (.imul, 1) := by decide +kernel
theorem dX9_becomes_10 : decode cX9_becomes 10 = .ok (.iadd, 1) := by decide +kernel
theorem dX9_becomes_11 : decode cX9_becomes 11 = .ok (.iload_n 2, 1) := by decide +kernel
theorem dX9_becomes_12 : decode cX9_becomes 12 = .ok (.iadd, 1) := by decide +kernel
theorem dX9_becomes_13 : decode cX9_becomes 13 = .ok (.iload_n 3, 1) := by decide +kernel
theorem dX9_becomes_14 : decode cX9_becomes 14 = .ok (.iastore, 1) := by decide +kernel
theorem dX9_becomes_15 : decode cX9_becomes 15 = .ok (.return_, 1) := by decide +kernel
set_option maxRecDepth 20000 in
theorem ggX9_townOf_X9_of : GoodIn wsX9_townOf wsX9_of := goodIn_r _ [6, 1, 7, 8, 9, 10, 11, 12, 13, 14, 15, 16, 17, 18, 19, 20, 21, 22, 23, 24, 25, 26, 27, 28, 29, 30, 31, 32] (by decide +kernel) (by decide +kernel)
set_option maxRecDepth 20000 in
theorem gX9_townOf_X9_of : GoodIn wsX9_townOf (wsV RX9 189 RX9 yX9_of wsX9_of) := goodIn_app (goodIn_of _ (by decide +kernel)) ggX9_townOf_X9_of
theorem dX9_townOf_0 : decode cX9_townOf 0 = .ok (.aload_n 0, 1) := by decide +kernel
theorem dX9_townOf_1 : decode cX9_townOf 1 = .ok (.getfield 19, 3) := by decide +kernel
theorem dX9_townOf_4 : decode cX9_townOf 4 = .ok (.bipush 69, 2) := by decide +kernel
theorem dX9_townOf_6 : decode cX9_townOf 6 = .ok (.aload_n 0, 1) := by decide +kernel
theorem dX9_townOf_7 : decode cX9_townOf 7 = .ok (.iload_n 1, 1) := by decide +kernel
theorem dX9_townOf_8 : decode cX9_townOf 8 = .ok (.iconst 1, 1) := by decide +kernel
theorem dX9_townOf_9 : decode cX9_townOf 9 = .ok (.invokevirtual 189, 3) := by decide +kernel
theorem dX9_townOf_12 : decode cX9_townOf 12 = .ok (.iadd, 1) := by decide +kernel
theorem dX9_townOf_13 : decode cX9_townOf 13 = .ok (.iaload, 1) := by decide +kernel
theorem dX9_townOf_14 : decode cX9_townOf 14 = .ok (.ireturn, 1) := by decide +kernel
theorem dX9_farOf_0 : decode cX9_farOf 0 = .ok (.aload_n 0, 1) := by decide +kernel
theorem dX9_farOf_1 : decode cX9_farOf 1 = .ok (.getfield 19, 3) := by decide +kernel
theorem dX9_farOf_4 : decode cX9_farOf 4 = .ok (.iconst 5, 1) := by decide +kernel
theorem dX9_farOf_5 : decode cX9_farOf 5 = .ok (.bipush 8, 2) := by decide +kernel
theorem dX9_farOf_7 : decode cX9_farOf 7 = .ok (.iload_n 1, 1) := by decide +kernel
theorem dX9_farOf_8 : decode cX9_farOf 8 = .ok (.imul, 1) := by decide +kernel
theorem dX9_farOf_9 : decode cX9_farOf 9 = .ok (.iadd, 1) := by decide +kernel
theorem dX9_farOf_10 : decode cX9_farOf 10 = .ok (.iload_n 2, 1) := by decide +kernel
theorem dX9_farOf_11 : decode cX9_farOf 11 = .ok (.iadd, 1) := by decide +kernel
theorem dX9_farOf_12 : decode cX9_farOf 12 = .ok (.iaload, 1) := by decide +kernel
theorem dX9_farOf_13 : decode cX9_farOf 13 = .ok (.ireturn, 1) := by decide +kernel
set_option maxRecDepth 20000 in
theorem ggX9_spanOf_X9_of : GoodIn wsX9_spanOf wsX9_of := goodIn_r _ [6, 1, 7, 8, 9, 10, 11, 12, 13, 14, 15, 16, 17, 18, 19, 20, 21, 22, 23, 24, 25, 26, 27, 28, 29, 30, 31, 32] (by decide +kernel) (by decide +kernel)
set_option maxRecDepth 20000 in
theorem gX9_spanOf_X9_of : GoodIn wsX9_spanOf (wsV RX9 189 RX9 yX9_of wsX9_of) := goodIn_app (goodIn_of _ (by decide +kernel)) ggX9_spanOf_X9_of
theorem dX9_spanOf_0 : decode cX9_spanOf 0 = .ok (.aload_n 0, 1) := by decide +kernel
theorem dX9_spanOf_1 : decode cX9_spanOf 1 = .ok (.iload_n 1, 1) := by decide +kernel
theorem dX9_spanOf_2 : decode cX9_spanOf 2 = .ok (.iconst 0, 1) := by decide +kernel
theorem dX9_spanOf_3 : decode cX9_spanOf 3 = .ok (.invokevirtual 189, 3) := by decide +kernel
theorem dX9_spanOf_6 : decode cX9_spanOf 6 = .ok (.istore_n 2, 1) := by decide +kernel
theorem dX9_spanOf_7 : decode cX9_spanOf 7 = .ok (.iload_n 2, 1) := by decide +kernel
theorem dX9_spanOf_8 : decode cX9_spanOf 8 = .ok (.iconst 4, 1) := by decide +kernel
theorem dX9_spanOf_9 : decode cX9_spanOf 9 = .ok (.if_icmp .ne 14, 3) := by decide +kernel
theorem dX9_spanOf_12 : decode cX9_spanOf 12 = .ok (.aload_n 0, 1) := by decide +kernel
theorem dX9_spanOf_13 : decode cX9_spanOf 13 = .ok (.getfield 19, 3) := by decide +kernel
theorem dX9_spanOf_16 : decode cX9_spanOf 16 = .ok (.iconst 0, 1) := by decide +kernel
theorem dX9_spanOf_17 : decode cX9_spanOf 17 = .ok (.iaload, 1) := by decide +kernel
theorem dX9_spanOf_18 : decode cX9_spanOf 18 = .ok (.iconst 2, 1) := by decide +kernel
theorem dX9_spanOf_19 : decode cX9_spanOf 19 = .ok (.idiv, 1) := by decide +kernel
theorem dX9_spanOf_20 : decode cX9_spanOf 20 = .ok (.goto 32, 3) := by decide +kernel
theorem dX9_spanOf_23 : decode cX9_spanOf 23 = .ok (.iload_n 2, 1) := by decide +kernel
theorem dX9_spanOf_24 : decode cX9_spanOf 24 = .ok (.iconst 2, 1) := by decide +kernel
theorem dX9_spanOf_25 : decode cX9_spanOf 25 = .ok (.if_icmp .ne 21, 3) := by decide +kernel
theorem dX9_spanOf_28 : decode cX9_spanOf 28 = .ok (.aload_n 0, 1) := by decide +kernel
theorem dX9_spanOf_29 : decode cX9_spanOf 29 = .ok (.getfield 19, 3) := by decide +kernel
theorem dX9_spanOf_32 : decode cX9_spanOf 32 = .ok (.iconst 0, 1) := by decide +kernel
theorem dX9_spanOf_33 : decode cX9_spanOf 33 = .ok (.iaload, 1) := by decide +kernel
theorem dX9_spanOf_34 : decode cX9_spanOf 34 = .ok (.aload_n 0, 1) := by decide +kernel
theorem dX9_spanOf_35 : decode cX9_spanOf 35 = .ok (.getfield 19, 3) := by decide +kernel
theorem dX9_spanOf_38 : decode cX9_spanOf 38 = .ok (.iconst 0, 1) := by decide +kernel
theorem dX9_spanOf_39 : decode cX9_spanOf 39 = .ok (.iaload, 1) := by decide +kernel
theorem dX9_spanOf_40 : decode cX9_spanOf 40 = .ok (.iconst 2, 1) := by decide +kernel
theorem dX9_spanOf_41 : decode cX9_spanOf 41 = .ok (.idiv, 1) := by decide +kernel
theorem dX9_spanOf_42 : decode cX9_spanOf 42 = .ok (.iadd, 1) := by decide +kernel
theorem dX9_spanOf_43 : decode cX9_spanOf 43 = .ok (.goto 9, 3) := by decide +kernel
theorem dX9_spanOf_46 : decode cX9_spanOf 46 = .ok (.aload_n 0, 1) := by decide +kernel
theorem dX9_spanOf_47 : decode cX9_spanOf 47 = .ok (.getfield 19, 3) := by decide +kernel
theorem dX9_spanOf_50 : decode cX9_spanOf 50 = .ok (.iconst 0, 1) := by decide +kernel
theorem dX9_spanOf_51 : decode cX9_spanOf 51 = .ok (.iaload, 1) := by decide +kernel
theorem dX9_spanOf_52 : decode cX9_spanOf 52 = .ok (.ireturn, 1) := by decide +kernel
set_option maxRecDepth 20000 in
theorem ggX9_slackBy_X9_of : GoodIn wsX9_slackBy wsX9_of := goodIn_r _ [6, 7, 12, 13, 14, 15, 16, 17, 18, 19, 20, 21, 22, 23, 24, 25, 26, 27, 28, 29, 30, 31, 32, 33, 34, 35, 36, 37] (by decide +kernel) (by decide +kernel)
set_option maxRecDepth 20000 in
theorem gX9_slackBy_X9_of : GoodIn wsX9_slackBy (wsV RX9 189 RX9 yX9_of wsX9_of) := goodIn_app (goodIn_of _ (by decide +kernel)) ggX9_slackBy_X9_of
set_option maxRecDepth 20000 in
theorem ggX9_slackBy_X9_spanOf : GoodIn wsX9_slackBy wsX9_spanOf := goodIn_r _ [11, 7, 2, 3, 4, 5, 6, 12, 13, 14, 15, 16, 17, 18, 19, 20, 21, 22, 23, 24, 25, 26, 27, 28, 29, 30, 31, 32, 33, 34, 35, 36, 37] (by decide +kernel) (by decide +kernel)
set_option maxRecDepth 20000 in
theorem gX9_slackBy_X9_spanOf : GoodIn wsX9_slackBy (wsV RX9 192 RX9 yX9_spanOf wsX9_spanOf) := goodIn_app (goodIn_of _ (by decide +kernel)) ggX9_slackBy_X9_spanOf
theorem dX9_slackBy_0 : decode cX9_slackBy 0 = .ok (.aload_n 0, 1) := by decide +kernel
theorem dX9_slackBy_1 : decode cX9_slackBy 1 = .ok (.iload_n 1, 1) := by decide +kernel
theorem dX9_slackBy_2 : decode cX9_slackBy 2 = .ok (.iconst 5, 1) := by decide +kernel
theorem dX9_slackBy_3 : decode cX9_slackBy 3 = .ok (.invokevirtual 189, 3) := by decide +kernel
theorem dX9_slackBy_6 : decode cX9_slackBy 6 = .ok (.iconst 1, 1) := by decide +kernel
theorem dX9_slackBy_7 : decode cX9_slackBy 7 = .ok (.if_icmp .eq 30, 3) := by decide +kernel
theorem dX9_slackBy_10 : decode cX9_slackBy 10 = .ok (.aload_n 0, 1) := by decide +kernel
theorem dX9_slackBy_11 : decode cX9_slackBy 11 = .ok (.iload_n 1, 1) := by decide +kernel
theorem dX9_slackBy_12 : decode cX9_slackBy 12 = .ok (.iconst 0, 1) := by decide +kernel
theorem dX9_slackBy_13 : decode cX9_slackBy 13 = .ok (.invokevirtual 189, 3) := by decide +kernel
theorem dX9_slackBy_16 : decode cX9_slackBy 16 = .ok (.iconst 5, 1) := by decide +kernel
theorem dX9_slackBy_17 : decode cX9_slackBy 17 = .ok (.if_icmp .eq 20, 3) := by decide +kernel
theorem dX9_slackBy_20 : decode cX9_slackBy 20 = .ok (.aload_n 0, 1) := by decide +kernel
theorem dX9_slackBy_21 : decode cX9_slackBy 21 = .ok (.iload_n 1, 1) := by decide +kernel
theorem dX9_slackBy_22 : decode cX9_slackBy 22 = .ok (.iconst 3, 1) := by decide +kernel
theorem dX9_slackBy_23 : decode cX9_slackBy 23 = .ok (.invokevirtual 189, 3) := by decide +kernel
theorem dX9_slackBy_26 : decode cX9_slackBy 26 = .ok (.iconst 1, 1) := by decide +kernel
theorem dX9_slackBy_27 : decode cX9_slackBy 27 = .ok (.if_icmp .eq 13, 3) := by decide +kernel
theorem dX9_slackBy_30 : decode cX9_slackBy 30 = .ok (.iload_n 2, 1) := by decide +kernel
theorem dX9_slackBy_31 : decode cX9_slackBy 31 = .ok (.sipush 10000, 3) := by decide +kernel
theorem dX9_slackBy_34 : decode cX9_slackBy 34 = .ok (.if_icmp .lt 6, 3) := by decide +kernel
theorem dX9_slackBy_37 : decode cX9_slackBy 37 = .ok (.ldc 83, 2) := by decide +kernel
theorem dX9_slackBy_39 : decode cX9_slackBy 39 = .ok (.ireturn, 1) := by decide +kernel
theorem dX9_slackBy_40 : decode cX9_slackBy 40 = .ok (.aload_n 0, 1) := by decide +kernel
theorem dX9_slackBy_41 : decode cX9_slackBy 41 = .ok (.iload_n 1, 1) := by decide +kernel
theorem dX9_slackBy_42 : decode cX9_slackBy 42 = .ok (.iconst 3, 1) := by decide +kernel
theorem dX9_slackBy_43 : decode cX9_slackBy 43 = .ok (.invokevirtual 189, 3) := by decide +kernel
theorem dX9_slackBy_46 : decode cX9_slackBy 46 = .ok (.iconst 1, 1) := by decide +kernel
theorem dX9_slackBy_47 : decode cX9_slackBy 47 = .ok (.if_icmp .ne 12, 3) := by decide +kernel
theorem dX9_slackBy_50 : decode cX9_slackBy 50 = .ok (.aload_n 0, 1) := by decide +kernel
theorem dX9_slackBy_51 : decode cX9_slackBy 51 = .ok (.iload_n 1, 1) := by decide +kernel
theorem dX9_slackBy_52 : decode cX9_slackBy 52 = .ok (.iconst 4, 1) := by decide +kernel
theorem dX9_slackBy_53 : decode cX9_slackBy 53 = .ok (.invokevirtual 189, 3) := by decide +kernel
theorem dX9_slackBy_56 : decode cX9_slackBy 56 = .ok (.goto 11, 3) := by decide +kernel
theorem dX9_slackBy_59 : decode cX9_slackBy 59 = .ok (.iload_n 2, 1) := by decide +kernel
theorem dX9_slackBy_60 : decode cX9_slackBy 60 = .ok (.aload_n 0, 1) := by decide +kernel
theorem dX9_slackBy_61 : decode cX9_slackBy 61 = .ok (.iload_n 1, 1) := by decide +kernel
theorem dX9_slackBy_62 : decode cX9_slackBy 62 = .ok (.iconst 4, 1) := by decide +kernel
theorem dX9_slackBy_63 : decode cX9_slackBy 63 = .ok (.invokevirtual 189, 3) := by decide +kernel
theorem dX9_slackBy_66 : decode cX9_slackBy 66 = .ok (.iadd, 1) := by decide +kernel
theorem dX9_slackBy_67 : decode cX9_slackBy 67 = .ok (.istore_n 3, 1) := by decide +kernel
theorem dX9_slackBy_68 : decode cX9_slackBy 68 = .ok (.aload_n 0, 1) := by decide +kernel
theorem dX9_slackBy_69 : decode cX9_slackBy 69 = .ok (.iload_n 1, 1) := by decide +kernel
theorem dX9_slackBy_70 : decode cX9_slackBy 70 = .ok (.invokevirtual 192, 3) := by decide +kernel
theorem dX9_slackBy_73 : decode cX9_slackBy 73 = .ok (.aload_n 0, 1) := by decide +kernel
theorem dX9_slackBy_74 : decode cX9_slackBy 74 = .ok (.iload_n 1, 1) := by decide +kernel
theorem dX9_slackBy_75 : decode cX9_slackBy 75 = .ok (.iconst 2, 1) := by decide +kernel
theorem dX9_slackBy_76 : decode cX9_slackBy 76 = .ok (.invokevirtual 189, 3) := by decide +kernel
theorem dX9_slackBy_79 : decode cX9_slackBy 79 = .ok (.isub, 1) := by decide +kernel
theorem dX9_slackBy_80 : decode cX9_slackBy 80 = .ok (.iload_n 3, 1) := by decide +kernel
theorem dX9_slackBy_81 : decode cX9_slackBy 81 = .ok (.isub, 1) := by decide +kernel
theorem dX9_slackBy_82 : decode cX9_slackBy 82 = .ok (.ireturn, 1) := by decide +kernel
set_option maxRecDepth 20000 in
theorem ggX9_slackOf_X9_townOf : GoodIn wsX9_slackOf wsX9_townOf := goodIn_r _ [5, 6, 7, 8, 9, 4, 10, 24, 25, 26, 27, 28, 29, 30, 31, 32, 33, 34, 35, 36, 37, 38, 39, 40, 41, 42, 43, 44, 45, 46, 47, 48, 49] (by decide +kernel) (by decide +kernel)
set_option maxRecDepth 20000 in
theorem gX9_slackOf_X9_townOf : GoodIn wsX9_slackOf (wsV RX9 195 RX9 yX9_townOf wsX9_townOf) := goodIn_app (goodIn_of _ (by decide +kernel)) ggX9_slackOf_X9_townOf
set_option maxRecDepth 20000 in
theorem ggX9_slackOf_X9_farOf : GoodIn wsX9_slackOf wsX9_farOf := goodIn_r _ [14, 6, 24, 25, 26, 27, 28, 29, 30, 31, 32, 33, 34, 35, 36, 37, 38, 39, 40, 41, 42, 43, 44, 45, 46, 47, 48, 49] (by decide +kernel) (by decide +kernel)
set_option maxRecDepth 20000 in
theorem gX9_slackOf_X9_farOf : GoodIn wsX9_slackOf (wsV RX9 198 RX9 yX9_farOf wsX9_farOf) := goodIn_app (goodIn_of _ (by decide +kernel)) ggX9_slackOf_X9_farOf
set_option maxRecDepth 20000 in
theorem ggX9_slackOf_X9_slackBy : GoodIn wsX9_slackOf wsX9_slackBy := goodIn_r _ [18, 19, 7, 8, 9, 4, 10, 6, 20, 21, 22, 23, 24, 25, 26, 27, 28, 29, 30, 31, 32, 33, 34, 35, 36, 37, 38, 39, 40, 41, 42, 43, 44, 45, 46, 47, 48, 49] (by decide +kernel) (by decide +kernel)
set_option maxRecDepth 20000 in
theorem gX9_slackOf_X9_slackBy : GoodIn wsX9_slackOf (wsV RX9 201 RX9 yX9_slackBy wsX9_slackBy) := goodIn_app (goodIn_of _ (by decide +kernel)) ggX9_slackOf_X9_slackBy
theorem dX9_slackOf_0 : decode cX9_slackOf 0 = .ok (.aload_n 0, 1) := by decide +kernel
theorem dX9_slackOf_1 : decode cX9_slackOf 1 = .ok (.iload_n 1, 1) := by decide +kernel
theorem dX9_slackOf_2 : decode cX9_slackOf 2 = .ok (.aload_n 0, 1) := by decide +kernel
theorem dX9_slackOf_3 : decode cX9_slackOf 3 = .ok (.aload_n 0, 1) := by decide +kernel
theorem dX9_slackOf_4 : decode cX9_slackOf 4 = .ok (.iload_n 1, 1) := by decide +kernel
theorem dX9_slackOf_5 : decode cX9_slackOf 5 = .ok (.invokevirtual 195, 3) := by decide +kernel
theorem dX9_slackOf_8 : decode cX9_slackOf 8 = .ok (.iconst 0, 1) := by decide +kernel
theorem dX9_slackOf_9 : decode cX9_slackOf 9 = .ok (.invokevirtual 198, 3) := by decide +kernel
theorem dX9_slackOf_12 : decode cX9_slackOf 12 = .ok (.invokevirtual 201, 3) := by decide +kernel
theorem dX9_slackOf_15 : decode cX9_slackOf 15 = .ok (.ireturn, 1) := by decide +kernel
theorem dX9_keep_0 : decode cX9_keep 0 = .ok (.aload_n 0, 1) := by decide +kernel
theorem dX9_keep_1 : decode cX9_keep 1 = .ok (.getfield 183, 3) := by decide +kernel
theorem dX9_keep_4 : decode cX9_keep 4 = .ok (.bipush 24, 2) := by decide +kernel
theorem dX9_keep_6 : decode cX9_keep 6 = .ok (.if_icmp .ne 44, 3) := by decide +kernel
theorem dX9_keep_9 : decode cX9_keep 9 = .ok (.iconst 0, 1) := by decide +kernel
theorem dX9_keep_10 : decode cX9_keep 10 = .ok (.istore_n 1, 1) := by decide +kernel
theorem dX9_keep_11 : decode cX9_keep 11 = .ok (.iload_n 1, 1) := by decide +kernel
theorem dX9_keep_12 : decode cX9_keep 12 = .ok (.sipush 3381, 3) := by decide +kernel
theorem dX9_keep_15 : decode cX9_keep 15 = .ok (.if_icmp .ge 25, 3) := by decide +kernel
theorem dX9_keep_18 : decode cX9_keep 18 = .ok (.aload_n 0, 1) := by decide +kernel
theorem dX9_keep_19 : decode cX9_keep 19 = .ok (.getfield 25, 3) := by decide +kernel
theorem dX9_keep_22 : decode cX9_keep 22 = .ok (.iload_n 1, 1) := by decide +kernel
theorem dX9_keep_23 : decode cX9_keep 23 = .ok (.aload_n 0, 1) := by decide +kernel
theorem dX9_keep_24 : decode cX9_keep 24 = .ok (.getfield 25, 3) := by decide +kernel
theorem dX9_keep_27 : decode cX9_keep 27 = .ok (.iload_n 1, 1) := by decide +kernel
theorem dX9_keep_28 : decode cX9_keep 28 = .ok (.sipush 147, 3) := by decide +kernel
theorem dX9_keep_31 : decode cX9_keep 31 = .ok (.iadd, 1) := by decide +kernel
theorem dX9_keep_32 : decode cX9_keep 32 = .ok (.iaload, 1) := by decide +kernel
theorem dX9_keep_33 : decode cX9_keep 33 = .ok (.iastore, 1) := by decide +kernel
theorem dX9_keep_34 : decode cX9_keep 34 = .ok (.iinc 1 1, 3) := by decide +kernel
theorem dX9_keep_37 : decode cX9_keep 37 = .ok (.goto (-26), 3) := by decide +kernel
theorem dX9_keep_40 : decode cX9_keep 40 = .ok (.aload_n 0, 1) := by decide +kernel
theorem dX9_keep_41 : decode cX9_keep 41 = .ok (.dup, 1) := by decide +kernel
theorem dX9_keep_42 : decode cX9_keep 42 = .ok (.getfield 183, 3) := by decide +kernel
theorem dX9_keep_45 : decode cX9_keep 45 = .ok (.iconst 1, 1) := by decide +kernel
theorem dX9_keep_46 : decode cX9_keep 46 = .ok (.isub, 1) := by decide +kernel
theorem dX9_keep_47 : decode cX9_keep 47 = .ok (.putfield 183, 3) := by decide +kernel
theorem dX9_keep_50 : decode cX9_keep 50 = .ok (.iconst 0, 1) := by decide +kernel
theorem dX9_keep_51 : decode cX9_keep 51 = .ok (.istore_n 1, 1) := by decide +kernel
theorem dX9_keep_52 : decode cX9_keep 52 = .ok (.iload_n 1, 1) := by decide +kernel
theorem dX9_keep_53 : decode cX9_keep 53 = .ok (.sipush 147, 3) := by decide +kernel
theorem dX9_keep_56 : decode cX9_keep 56 = .ok (.if_icmp .ge 30, 3) := by decide +kernel
theorem dX9_keep_59 : decode cX9_keep 59 = .ok (.aload_n 0, 1) := by decide +kernel
theorem dX9_keep_60 : decode cX9_keep 60 = .ok (.getfield 25, 3) := by decide +kernel
theorem dX9_keep_63 : decode cX9_keep 63 = .ok (.sipush 147, 3) := by decide +kernel
theorem dX9_keep_66 : decode cX9_keep 66 = .ok (.aload_n 0, 1) := by decide +kernel
theorem dX9_keep_67 : decode cX9_keep 67 = .ok (.getfield 183, 3) := by decide +kernel
theorem dX9_keep_70 : decode cX9_keep 70 = .ok (.imul, 1) := by decide +kernel
theorem dX9_keep_71 : decode cX9_keep 71 = .ok (.iload_n 1, 1) := by decide +kernel
theorem dX9_keep_72 : decode cX9_keep 72 = .ok (.iadd, 1) := by decide +kernel
theorem dX9_keep_73 : decode cX9_keep 73 = .ok (.aload_n 0, 1) := by decide +kernel
theorem dX9_keep_74 : decode cX9_keep 74 = .ok (.getfield 19, 3) := by decide +kernel
theorem dX9_keep_77 : decode cX9_keep 77 = .ok (.iload_n 1, 1) := by decide +kernel
theorem dX9_keep_78 : decode cX9_keep 78 = .ok (.iaload, 1) := by decide +kernel
theorem dX9_keep_79 : decode cX9_keep 79 = .ok (.iastore, 1) := by decide +kernel
theorem dX9_keep_80 : decode cX9_keep 80 = .ok (.iinc 1 1, 3) := by decide +kernel
theorem dX9_keep_83 : decode cX9_keep 83 = .ok (.goto (-31), 3) := by decide +kernel
theorem dX9_keep_86 : decode cX9_keep 86 = .ok (.aload_n 0, 1) := by decide +kernel
theorem dX9_keep_87 : decode cX9_keep 87 = .ok (.dup, 1) := by decide +kernel
theorem dX9_keep_88 : decode cX9_keep 88 = .ok (.getfield 183, 3) := by decide +kernel
theorem dX9_keep_91 : decode cX9_keep 91 = .ok (.iconst 1, 1) := by decide +kernel
theorem dX9_keep_92 : decode cX9_keep 92 = .ok (.iadd, 1) := by decide +kernel
theorem dX9_keep_93 : decode cX9_keep 93 = .ok (.putfield 183, 3) := by decide +kernel
theorem dX9_keep_96 : decode cX9_keep 96 = .ok (.return_, 1) := by decide +kernel
set_option maxRecDepth 20000 in
theorem ggX9_pass_X9_isCoin : GoodIn wsX9_pass wsX9_isCoin := goodIn_r _ [9, 3, 10, 11, 8, 12, 35, 36, 37, 38, 39, 40, 41, 42, 43, 44, 45, 46, 47, 48, 49, 50, 51, 52, 53, 54, 55, 56, 57, 58, 59, 60] (by decide +kernel) (by decide +kernel)
set_option maxRecDepth 20000 in
theorem gX9_pass_X9_isCoin : GoodIn wsX9_pass (wsV RX9 204 RX9 yX9_isCoin wsX9_isCoin) := goodIn_app (goodIn_of _ (by decide +kernel)) ggX9_pass_X9_isCoin
set_option maxRecDepth 20000 in
theorem ggX9_pass_X9_isHolder : GoodIn wsX9_pass wsX9_isHolder := goodIn_r _ [16, 3, 10, 11, 8, 12, 35, 36, 37, 38, 39, 40, 41, 42, 43, 44, 45, 46, 47, 48, 49, 50, 51, 52, 53, 54, 55, 56, 57, 58, 59, 60] (by decide +kernel) (by decide +kernel)
set_option maxRecDepth 20000 in
theorem gX9_pass_X9_isHolder : GoodIn wsX9_pass (wsV RX9 207 RX9 yX9_isHolder wsX9_isHolder) := goodIn_app (goodIn_of _ (by decide +kernel)) ggX9_pass_X9_isHolder
set_option maxRecDepth 20000 in
theorem ggX9_pass_X9_of : GoodIn wsX9_pass wsX9_of := goodIn_r _ [20, 3, 35, 36, 37, 38, 39, 40, 41, 42, 43, 44, 45, 46, 47, 48, 49, 50, 51, 52, 53, 54, 55, 56, 57, 58, 59, 60] (by decide +kernel) (by decide +kernel)
set_option maxRecDepth 20000 in
theorem gX9_pass_X9_of : GoodIn wsX9_pass (wsV RX9 189 RX9 yX9_of wsX9_of) := goodIn_app (goodIn_of _ (by decide +kernel)) ggX9_pass_X9_of
set_option maxRecDepth 20000 in
theorem ggX9_pass_X9_townOf : GoodIn wsX9_pass wsX9_townOf := goodIn_r _ [24, 3, 17, 18, 19, 8, 20, 35, 36, 37, 38, 39, 40, 41, 42, 43, 44, 45, 46, 47, 48, 49, 50, 51, 52, 53, 54, 55, 56, 57, 58, 59, 60] (by decide +kernel) (by decide +kernel)
set_option maxRecDepth 20000 in
theorem gX9_pass_X9_townOf : GoodIn wsX9_pass (wsV RX9 195 RX9 yX9_townOf wsX9_townOf) := goodIn_app (goodIn_of _ (by decide +kernel)) ggX9_pass_X9_townOf
set_option maxRecDepth 20000 in
theorem ggX9_pass_X9_keep : GoodIn wsX9_pass wsX9_keep := goodIn_r _ [28, 29, 30, 3, 35, 36, 37, 38, 39, 40, 41, 42, 43, 44, 45, 46, 47, 48, 49, 50, 51, 52, 53, 54, 55, 56, 57, 58, 59, 60] (by decide +kernel) (by decide +kernel)
set_option maxRecDepth 20000 in
theorem gX9_pass_X9_keep : GoodIn wsX9_pass (wsV RX9 211 RX9 yX9_keep wsX9_keep) := goodIn_app (goodIn_of _ (by decide +kernel)) ggX9_pass_X9_keep
set_option maxRecDepth 20000 in
theorem ggX9_pass_X9_becomes : GoodIn wsX9_pass wsX9_becomes := goodIn_r _ [34, 3, 35, 36, 37, 38, 39, 40, 41, 42, 43, 44, 45, 46, 47, 48, 49, 50, 51, 52, 53, 54, 55, 56, 57, 58, 59, 60] (by decide +kernel) (by decide +kernel)
set_option maxRecDepth 20000 in
theorem gX9_pass_X9_becomes : GoodIn wsX9_pass (wsV RX9 214 RX9 yX9_becomes wsX9_becomes) := goodIn_app (goodIn_of _ (by decide +kernel)) ggX9_pass_X9_becomes
theorem dX9_pass_0 : decode cX9_pass 0 = .ok (.aload_n 0, 1) := by decide +kernel
theorem dX9_pass_1 : decode cX9_pass 1 = .ok (.iconst 0, 1) := by decide +kernel
theorem dX9_pass_2 : decode cX9_pass 2 = .ok (.putfield 47, 3) := by decide +kernel
theorem dX9_pass_5 : decode cX9_pass 5 = .ok (.aload_n 0, 1) := by decide +kernel
theorem dX9_pass_6 : decode cX9_pass 6 = .ok (.iload_n 1, 1) := by decide +kernel
theorem dX9_pass_7 : decode cX9_pass 7 = .ok (.invokevirtual 204, 3) := by decide +kernel
theorem dX9_pass_10 : decode cX9_pass 10 = .ok (.ifCond .eq 21, 3) := by decide +kernel
theorem dX9_pass_13 : decode cX9_pass 13 = .ok (.aload_n 0, 1) := by decide +kernel
theorem dX9_pass_14 : decode cX9_pass 14 = .ok (.iload_n 2, 1) := by decide +kernel
theorem dX9_pass_15 : decode cX9_pass 15 = .ok (.invokevirtual 207, 3) := by decide +kernel
theorem dX9_pass_18 : decode cX9_pass 18 = .ok (.ifCond .eq 13, 3) := by decide +kernel
theorem dX9_pass_21 : decode cX9_pass 21 = .ok (.aload_n 0, 1) := by decide +kernel
theorem dX9_pass_22 : decode cX9_pass 22 = .ok (.iload_n 1, 1) := by decide +kernel
theorem dX9_pass_23 : decode cX9_pass 23 = .ok (.iconst 1, 1) := by decide +kernel
theorem dX9_pass_24 : decode cX9_pass 24 = .ok (.invokevirtual 189, 3) := by decide +kernel
theorem dX9_pass_27 : decode cX9_pass 27 = .ok (.iload_n 2, 1) := by decide +kernel
theorem dX9_pass_28 : decode cX9_pass 28 = .ok (.if_icmp .ne 6, 3) := by decide +kernel
theorem dX9_pass_31 : decode cX9_pass 31 = .ok (.ldc 67, 2) := by decide +kernel
theorem dX9_pass_33 : decode cX9_pass 33 = .ok (.ireturn, 1) := by decide +kernel
theorem dX9_pass_34 : decode cX9_pass 34 = .ok (.aload_n 0, 1) := by decide +kernel
theorem dX9_pass_35 : decode cX9_pass 35 = .ok (.iload_n 1, 1) := by decide +kernel
theorem dX9_pass_36 : decode cX9_pass 36 = .ok (.iconst 3, 1) := by decide +kernel
theorem dX9_pass_37 : decode cX9_pass 37 = .ok (.invokevirtual 189, 3) := by decide +kernel
theorem dX9_pass_40 : decode cX9_pass 40 = .ok (.ifCond .ne 20, 3) := by decide +kernel
theorem dX9_pass_43 : decode cX9_pass 43 = .ok (.aload_n 0, 1) := by decide +kernel
theorem dX9_pass_44 : decode cX9_pass 44 = .ok (.getfield 19, 3) := by decide +kernel
theorem dX9_pass_47 : decode cX9_pass 47 = .ok (.bipush 69, 2) := by decide +kernel
theorem dX9_pass_49 : decode cX9_pass 49 = .ok (.iload_n 2, 1) := by decide +kernel
theorem dX9_pass_50 : decode cX9_pass 50 = .ok (.iadd, 1) := by decide +kernel
theorem dX9_pass_51 : decode cX9_pass 51 = .ok (.iaload, 1) := by decide +kernel
theorem dX9_pass_52 : decode cX9_pass 52 = .ok (.aload_n 0, 1) := by decide +kernel
theorem dX9_pass_53 : decode cX9_pass 53 = .ok (.iload_n 1, 1) := by decide +kernel
theorem dX9_pass_54 : decode cX9_pass 54 = .ok (.invokevirtual 195, 3) := by decide +kernel
theorem dX9_pass_57 : decode cX9_pass 57 = .ok (.if_icmp .eq 6, 3) := by decide +kernel
theorem dX9_pass_60 : decode cX9_pass 60 = .ok (.ldc 210, 2) := by decide +kernel
theorem dX9_pass_62 : decode cX9_pass 62 = .ok (.ireturn, 1) := by decide +kernel
theorem dX9_pass_63 : decode cX9_pass 63 = .ok (.aload_n 0, 1) := by decide +kernel
theorem dX9_pass_64 : decode cX9_pass 64 = .ok (.invokevirtual 211, 3) := by decide +kernel
theorem dX9_pass_67 : decode cX9_pass 67 = .ok (.aload_n 0, 1) := by decide +kernel
theorem dX9_pass_68 : decode cX9_pass 68 = .ok (.iload_n 1, 1) := by decide +kernel
theorem dX9_pass_69 : decode cX9_pass 69 = .ok (.iconst 1, 1) := by decide +kernel
theorem dX9_pass_70 : decode cX9_pass 70 = .ok (.invokevirtual 189, 3) := by decide +kernel
theorem dX9_pass_73 : decode cX9_pass 73 = .ok (.istore_n 3, 1) := by decide +kernel
theorem dX9_pass_74 : decode cX9_pass 74 = .ok (.aload_n 0, 1) := by decide +kernel
theorem dX9_pass_75 : decode cX9_pass 75 = .ok (.iload_n 1, 1) := by decide +kernel
theorem dX9_pass_76 : decode cX9_pass 76 = .ok (.iconst 1, 1) := by decide +kernel
theorem dX9_pass_77 : decode cX9_pass 77 = .ok (.iload_n 2, 1) := by decide +kernel
theorem dX9_pass_78 : decode cX9_pass 78 = .ok (.invokevirtual 214, 3) := by decide +kernel
theorem dX9_pass_81 : decode cX9_pass 81 = .ok (.iload_n 3, 1) := by decide +kernel
theorem dX9_pass_82 : decode cX9_pass 82 = .ok (.ireturn, 1) := by decide +kernel
set_option maxRecDepth 20000 in
theorem ggX9_maySend_X9_of : GoodIn wsX9_maySend wsX9_of := goodIn_r _ [5, 6, 15, 16, 17, 18, 19, 20, 21, 22, 23, 24, 25, 26, 27, 28, 29, 30, 31, 32, 33, 34, 35, 36, 37, 38, 39, 40] (by decide +kernel) (by decide +kernel)
set_option maxRecDepth 20000 in
theorem gX9_maySend_X9_of : GoodIn wsX9_maySend (wsV RX9 189 RX9 yX9_of wsX9_of) := goodIn_app (goodIn_of _ (by decide +kernel)) ggX9_maySend_X9_of
set_option maxRecDepth 20000 in
theorem ggX9_maySend_X9_townOf : GoodIn wsX9_maySend wsX9_townOf := goodIn_r _ [10, 6, 1, 2, 3, 4, 5, 15, 16, 17, 18, 19, 20, 21, 22, 23, 24, 25, 26, 27, 28, 29, 30, 31, 32, 33, 34, 35, 36, 37, 38, 39, 40] (by decide +kernel) (by decide +kernel)
set_option maxRecDepth 20000 in
theorem gX9_maySend_X9_townOf : GoodIn wsX9_maySend (wsV RX9 195 RX9 yX9_townOf wsX9_townOf) := goodIn_app (goodIn_of _ (by decide +kernel)) ggX9_maySend_X9_townOf
set_option maxRecDepth 20000 in
theorem ggX9_maySend_X9_farOf : GoodIn wsX9_maySend wsX9_farOf := goodIn_r _ [14, 6, 15, 16, 17, 18, 19, 20, 21, 22, 23, 24, 25, 26, 27, 28, 29, 30, 31, 32, 33, 34, 35, 36, 37, 38, 39, 40] (by decide +kernel) (by decide +kernel)
set_option maxRecDepth 20000 in
theorem gX9_maySend_X9_farOf : GoodIn wsX9_maySend (wsV RX9 198 RX9 yX9_farOf wsX9_farOf) := goodIn_app (goodIn_of _ (by decide +kernel)) ggX9_maySend_X9_farOf
theorem dX9_maySend_0 : decode cX9_maySend 0 = .ok (.aload_n 0, 1) := by decide +kernel
theorem dX9_maySend_1 : decode cX9_maySend 1 = .ok (.iload_n 1, 1) := by decide +kernel
theorem dX9_maySend_2 : decode cX9_maySend 2 = .ok (.iconst 3, 1) := by decide +kernel
theorem dX9_maySend_3 : decode cX9_maySend 3 = .ok (.invokevirtual 189, 3) := by decide +kernel
theorem dX9_maySend_6 : decode cX9_maySend 6 = .ok (.ifCond .ne 23, 3) := by decide +kernel
theorem dX9_maySend_9 : decode cX9_maySend 9 = .ok (.aload_n 0, 1) := by decide +kernel
theorem dX9_maySend_10 : decode cX9_maySend 10 = .ok (.aload_n 0, 1) := by decide +kernel
theorem dX9_maySend_11 : decode cX9_maySend 11 = .ok (.iload_n 1, 1) := by decide +kernel
theorem dX9_maySend_12 : decode cX9_maySend 12 = .ok (.invokevirtual 195, 3) := by decide +kernel
theorem dX9_maySend_15 : decode cX9_maySend 15 = .ok (.iconst 0, 1) := by decide +kernel
theorem dX9_maySend_16 : decode cX9_maySend 16 = .ok (.invokevirtual 198, 3) := by decide +kernel
theorem dX9_maySend_19 : decode cX9_maySend 19 = .ok (.sipush 10000, 3) := by decide +kernel
theorem dX9_maySend_22 : decode cX9_maySend 22 = .ok (.if_icmp .ge 7, 3) := by decide +kernel
theorem dX9_maySend_25 : decode cX9_maySend 25 = .ok (.iconst 1, 1) := by decide +kernel
theorem dX9_maySend_26 : decode cX9_maySend 26 = .ok (.goto 4, 3) := by decide +kernel
theorem dX9_maySend_29 : decode cX9_maySend 29 = .ok (.iconst 0, 1) := by decide +kernel
theorem dX9_maySend_30 : decode cX9_maySend 30 = .ok (.ireturn, 1) := by decide +kernel
set_option maxRecDepth 20000 in
theorem ggX9_sends_X9_keep : GoodIn wsX9_sends wsX9_keep := goodIn_r _ [5, 6, 7, 8, 25, 26, 27, 28, 29, 30, 31, 32, 33, 34, 35, 36, 37, 38, 39, 40, 41, 42, 43, 44, 45, 46, 47, 48, 49, 50] (by decide +kernel) (by decide +kernel)
set_option maxRecDepth 20000 in
theorem gX9_sends_X9_keep : GoodIn wsX9_sends (wsV RX9 211 RX9 yX9_keep wsX9_keep) := goodIn_app (goodIn_of _ (by decide +kernel)) ggX9_sends_X9_keep
set_option maxRecDepth 20000 in
theorem ggX9_sends_X9_becomes : GoodIn wsX9_sends wsX9_becomes := goodIn_r _ [12, 8, 25, 26, 27, 28, 29, 30, 31, 32, 33, 34, 35, 36, 37, 38, 39, 40, 41, 42, 43, 44, 45, 46, 47, 48, 49, 50] (by decide +kernel) (by decide +kernel)
set_option maxRecDepth 20000 in
theorem gX9_sends_X9_becomes : GoodIn wsX9_sends (wsV RX9 214 RX9 yX9_becomes wsX9_becomes) := goodIn_app (goodIn_of _ (by decide +kernel)) ggX9_sends_X9_becomes
set_option maxRecDepth 20000 in
theorem ggX9_sends_X9_townOf : GoodIn wsX9_sends wsX9_townOf := goodIn_r _ [16, 8, 17, 18, 19, 4, 20, 25, 26, 27, 28, 29, 30, 31, 32, 33, 34, 35, 36, 37, 38, 39, 40, 41, 42, 43, 44, 45, 46, 47, 48, 49, 50] (by decide +kernel) (by decide +kernel)
set_option maxRecDepth 20000 in
theorem gX9_sends_X9_townOf : GoodIn wsX9_sends (wsV RX9 195 RX9 yX9_townOf wsX9_townOf) := goodIn_app (goodIn_of _ (by decide +kernel)) ggX9_sends_X9_townOf
set_option maxRecDepth 20000 in
theorem ggX9_sends_X9_farOf : GoodIn wsX9_sends wsX9_farOf := goodIn_r _ [24, 8, 25, 26, 27, 28, 29, 30, 31, 32, 33, 34, 35, 36, 37, 38, 39, 40, 41, 42, 43, 44, 45, 46, 47, 48, 49, 50] (by decide +kernel) (by decide +kernel)
set_option maxRecDepth 20000 in
theorem gX9_sends_X9_farOf : GoodIn wsX9_sends (wsV RX9 198 RX9 yX9_farOf wsX9_farOf) := goodIn_app (goodIn_of _ (by decide +kernel)) ggX9_sends_X9_farOf
theorem dX9_sends_0 : decode cX9_sends 0 = .ok (.aload_n 0, 1) := by decide +kernel
theorem dX9_sends_1 : decode cX9_sends 1 = .ok (.invokevirtual 211, 3) := by decide +kernel
theorem dX9_sends_4 : decode cX9_sends 4 = .ok (.aload_n 0, 1) := by decide +kernel
theorem dX9_sends_5 : decode cX9_sends 5 = .ok (.iload_n 1, 1) := by decide +kernel
theorem dX9_sends_6 : decode cX9_sends 6 = .ok (.iconst 3, 1) := by decide +kernel
theorem dX9_sends_7 : decode cX9_sends 7 = .ok (.iconst 1, 1) := by decide +kernel
theorem dX9_sends_8 : decode cX9_sends 8 = .ok (.invokevirtual 214, 3) := by decide +kernel
theorem dX9_sends_11 : decode cX9_sends 11 = .ok (.aload_n 0, 1) := by decide +kernel
theorem dX9_sends_12 : decode cX9_sends 12 = .ok (.iload_n 1, 1) := by decide +kernel
theorem dX9_sends_13 : decode cX9_sends 13 = .ok (.iconst 4, 1) := by decide +kernel
theorem dX9_sends_14 : decode cX9_sends 14 = .ok (.aload_n 0, 1) := by decide +kernel
theorem dX9_sends_15 : decode cX9_sends 15 = .ok (.aload_n 0, 1) := by decide +kernel
theorem dX9_sends_16 : decode cX9_sends 16 = .ok (.iload_n 1, 1) := by decide +kernel
theorem dX9_sends_17 : decode cX9_sends 17 = .ok (.invokevirtual 195, 3) := by decide +kernel
theorem dX9_sends_20 : decode cX9_sends 20 = .ok (.iconst 0, 1) := by decide +kernel
theorem dX9_sends_21 : decode cX9_sends 21 = .ok (.invokevirtual 198, 3) := by decide +kernel
theorem dX9_sends_24 : decode cX9_sends 24 = .ok (.invokevirtual 214, 3) := by decide +kernel
theorem dX9_sends_27 : decode cX9_sends 27 = .ok (.return_, 1) := by decide +kernel
set_option maxRecDepth 20000 in
theorem ggX9_send_X9_isCoin : GoodIn wsX9_send wsX9_isCoin := goodIn_r _ [8, 9, 10, 11, 7, 12, 43, 44, 45, 46, 47, 48, 49, 50, 51, 52, 53, 54, 55, 56, 57, 58, 59, 60, 61, 62, 63, 64, 65, 66, 67, 68] (by decide +kernel) (by decide +kernel)
set_option maxRecDepth 20000 in
theorem gX9_send_X9_isCoin : GoodIn wsX9_send (wsV RX9 204 RX9 yX9_isCoin wsX9_isCoin) := goodIn_app (goodIn_of _ (by decide +kernel)) ggX9_send_X9_isCoin
set_option maxRecDepth 20000 in
theorem ggX9_send_X9_maySend : GoodIn wsX9_send wsX9_maySend := goodIn_r _ [16, 17, 18, 19, 7, 20, 9, 21, 22, 23, 24, 25, 26, 27, 28, 43, 44, 45, 46, 47, 48, 49, 50, 51, 52, 53, 54, 55, 56, 57, 58, 59, 60, 61, 62, 63, 64, 65, 66, 67, 68] (by decide +kernel) (by decide +kernel)
set_option maxRecDepth 20000 in
theorem gX9_send_X9_maySend : GoodIn wsX9_send (wsV RX9 218 RX9 yX9_maySend wsX9_maySend) := goodIn_app (goodIn_of _ (by decide +kernel)) ggX9_send_X9_maySend
set_option maxRecDepth 20000 in
theorem ggX9_send_X9_sends : GoodIn wsX9_send wsX9_sends := goodIn_r _ [32, 33, 34, 35, 7, 36, 37, 38, 9, 39, 40, 41, 42, 21, 22, 23, 24, 17, 18, 19, 20, 25, 26, 27, 28, 43, 44, 45, 46, 47, 48, 49, 50, 51, 52, 53, 54, 55, 56, 57, 58, 59, 60, 61, 62, 63, 64, 65, 66, 67, 68] (by decide +kernel) (by decide +kernel)
set_option maxRecDepth 20000 in
theorem gX9_send_X9_sends : GoodIn wsX9_send (wsV RX9 221 RX9 yX9_sends wsX9_sends) := goodIn_app (goodIn_of _ (by decide +kernel)) ggX9_send_X9_sends
set_option maxRecDepth 20000 in
theorem ggX9_send_X9_of : GoodIn wsX9_send wsX9_of := goodIn_r _ [20, 9, 43, 44, 45, 46, 47, 48, 49, 50, 51, 52, 53, 54, 55, 56, 57, 58, 59, 60, 61, 62, 63, 64, 65, 66, 67, 68] (by decide +kernel) (by decide +kernel)
set_option maxRecDepth 20000 in
theorem gX9_send_X9_of : GoodIn wsX9_send (wsV RX9 189 RX9 yX9_of wsX9_of) := goodIn_app (goodIn_of _ (by decide +kernel)) ggX9_send_X9_of
theorem dX9_send_0 : decode cX9_send 0 = .ok (.aload_n 0, 1) := by decide +kernel
theorem dX9_send_1 : decode cX9_send 1 = .ok (.iconst 0, 1) := by decide +kernel
theorem dX9_send_2 : decode cX9_send 2 = .ok (.putfield 47, 3) := by decide +kernel
theorem dX9_send_5 : decode cX9_send 5 = .ok (.aload_n 0, 1) := by decide +kernel
theorem dX9_send_6 : decode cX9_send 6 = .ok (.iload_n 1, 1) := by decide +kernel
theorem dX9_send_7 : decode cX9_send 7 = .ok (.invokevirtual 204, 3) := by decide +kernel
theorem dX9_send_10 : decode cX9_send 10 = .ok (.ifCond .ne 6, 3) := by decide +kernel
theorem dX9_send_13 : decode cX9_send 13 = .ok (.ldc 67, 2) := by decide +kernel
theorem dX9_send_15 : decode cX9_send 15 = .ok (.ireturn, 1) := by decide +kernel
theorem dX9_send_16 : decode cX9_send 16 = .ok (.aload_n 0, 1) := by decide +kernel
theorem dX9_send_17 : decode cX9_send 17 = .ok (.iload_n 1, 1) := by decide +kernel
theorem dX9_send_18 : decode cX9_send 18 = .ok (.invokevirtual 218, 3) := by decide +kernel
theorem dX9_send_21 : decode cX9_send 21 = .ok (.ifCond .ne 6, 3) := by decide +kernel
theorem dX9_send_24 : decode cX9_send 24 = .ok (.ldc 210, 2) := by decide +kernel
theorem dX9_send_26 : decode cX9_send 26 = .ok (.ireturn, 1) := by decide +kernel
theorem dX9_send_27 : decode cX9_send 27 = .ok (.aload_n 0, 1) := by decide +kernel
theorem dX9_send_28 : decode cX9_send 28 = .ok (.iload_n 1, 1) := by decide +kernel
theorem dX9_send_29 : decode cX9_send 29 = .ok (.invokevirtual 221, 3) := by decide +kernel
theorem dX9_send_32 : decode cX9_send 32 = .ok (.aload_n 0, 1) := by decide +kernel
theorem dX9_send_33 : decode cX9_send 33 = .ok (.iload_n 1, 1) := by decide +kernel
theorem dX9_send_34 : decode cX9_send 34 = .ok (.iconst 4, 1) := by decide +kernel
theorem dX9_send_35 : decode cX9_send 35 = .ok (.invokevirtual 189, 3) := by decide +kernel
theorem dX9_send_38 : decode cX9_send 38 = .ok (.ireturn, 1) := by decide +kernel
set_option maxRecDepth 20000 in
theorem ggX9_sendAll_X9_isRow : GoodIn wsX9_sendAll wsX9_isRow := goodIn_r _ [13, 14, 15, 16, 12, 17] (by decide +kernel) (by decide +kernel)
set_option maxRecDepth 20000 in
theorem gX9_sendAll_X9_isRow : GoodIn wsX9_sendAll (va_wsS RX9 61 yX9_isRow wsX9_isRow) := goodIn_app (goodIn_of _ (by decide +kernel)) ggX9_sendAll_X9_isRow
set_option maxRecDepth 20000 in
theorem ggX9_sendAll_X9_in : GoodIn wsX9_sendAll wsX9_in := goodIn_r _ [17] (by decide +kernel) (by decide +kernel)
set_option maxRecDepth 20000 in
theorem gX9_sendAll_X9_in : GoodIn wsX9_sendAll (va_wsS RX9 57 yX9_in wsX9_in) := goodIn_app (goodIn_of _ (by decide +kernel)) ggX9_sendAll_X9_in
set_option maxRecDepth 20000 in
theorem ggX9_sendAll_X9_finding : GoodIn wsX9_sendAll wsX9_finding := goodIn_r _ [21, 9, 22, 58, 59, 60, 61, 62, 63, 64, 65, 66, 67, 68, 69, 70, 71, 72, 73, 74, 75, 76, 77, 78, 79, 80, 81, 82, 83] (by decide +kernel) (by decide +kernel)
set_option maxRecDepth 20000 in
theorem gX9_sendAll_X9_finding : GoodIn wsX9_sendAll (wsV RX9 68 RX9 yX9_finding wsX9_finding) := goodIn_app (goodIn_of _ (by decide +kernel)) ggX9_sendAll_X9_finding
set_option maxRecDepth 20000 in
theorem ggX9_sendAll_X9_isCoin : GoodIn wsX9_sendAll wsX9_isCoin := goodIn_r _ [26, 27, 15, 16, 12, 17, 58, 59, 60, 61, 62, 63, 64, 65, 66, 67, 68, 69, 70, 71, 72, 73, 74, 75, 76, 77, 78, 79, 80, 81, 82, 83] (by decide +kernel) (by decide +kernel)
set_option maxRecDepth 20000 in
theorem gX9_sendAll_X9_isCoin : GoodIn wsX9_sendAll (wsV RX9 204 RX9 yX9_isCoin wsX9_isCoin) := goodIn_app (goodIn_of _ (by decide +kernel)) ggX9_sendAll_X9_isCoin
set_option maxRecDepth 20000 in
theorem ggX9_sendAll_X9_maySend : GoodIn wsX9_sendAll wsX9_maySend := goodIn_r _ [31, 32, 33, 34, 12, 35, 27, 36, 37, 38, 39, 40, 41, 42, 43, 58, 59, 60, 61, 62, 63, 64, 65, 66, 67, 68, 69, 70, 71, 72, 73, 74, 75, 76, 77, 78, 79, 80, 81, 82, 83] (by decide +kernel) (by decide +kernel)
set_option maxRecDepth 20000 in
theorem gX9_sendAll_X9_maySend : GoodIn wsX9_sendAll (wsV RX9 218 RX9 yX9_maySend wsX9_maySend) := goodIn_app (goodIn_of _ (by decide +kernel)) ggX9_sendAll_X9_maySend
set_option maxRecDepth 20000 in
theorem ggX9_sendAll_X9_sends : GoodIn wsX9_sendAll wsX9_sends := goodIn_r _ [47, 48, 49, 50, 12, 51, 52, 53, 27, 54, 55, 56, 57, 36, 37, 38, 39, 32, 33, 34, 35, 40, 41, 42, 43, 58, 59, 60, 61, 62, 63, 64, 65, 66, 67, 68, 69, 70, 71, 72, 73, 74, 75, 76, 77, 78, 79, 80, 81, 82, 83] (by decide +kernel) (by decide +kernel)
set_option maxRecDepth 20000 in
theorem gX9_sendAll_X9_sends : GoodIn wsX9_sendAll (wsV RX9 221 RX9 yX9_sends wsX9_sends) := goodIn_app (goodIn_of _ (by decide +kernel)) ggX9_sendAll_X9_sends
theorem dX9_sendAll_0 : decode cX9_sendAll 0 = .ok (.aload_n 0, 1) := by decide +kernel
theorem dX9_sendAll_1 : decode cX9_sendAll 1 = .ok (.iconst 0, 1) := by decide +kernel
theorem dX9_sendAll_2 : decode cX9_sendAll 2 = .ok (.putfield 47, 3) := by decide +kernel
theorem dX9_sendAll_5 : decode cX9_sendAll 5 = .ok (.aload_n 0, 1) := by decide +kernel
theorem dX9_sendAll_6 : decode cX9_sendAll 6 = .ok (.getfield 179, 3) := by decide +kernel
theorem dX9_sendAll_9 : decode cX9_sendAll 9 = .ok (.ifCond .ne 6, 3) := by decide +kernel
theorem dX9_sendAll_12 : decode cX9_sendAll 12 = .ok (.ldc 210, 2) := by decide +kernel
theorem dX9_sendAll_14 : decode cX9_sendAll 14 = .ok (.ireturn, 1) := by decide +kernel
theorem dX9_sendAll_15 : decode cX9_sendAll 15 = .ok (.iload_n 1, 1) := by decide +kernel
theorem dX9_sendAll_16 : decode cX9_sendAll 16 = .ok (.invokestatic 61, 3) := by decide +kernel
theorem dX9_sendAll_19 : decode cX9_sendAll 19 = .ok (.ifCond .eq 15, 3) := by decide +kernel
theorem dX9_sendAll_22 : decode cX9_sendAll 22 = .ok (.iload_n 3, 1) := by decide +kernel
theorem dX9_sendAll_23 : decode cX9_sendAll 23 = .ok (.i2l, 1) := by decide +kernel
theorem dX9_sendAll_24 : decode cX9_sendAll 24 = .ok (.lconst 1, 1) := by decide +kernel
theorem dX9_sendAll_25 : decode cX9_sendAll 25 = .ok (.ldc2_w 224, 3) := by decide +kernel
theorem dX9_sendAll_28 : decode cX9_sendAll 28 = .ok (.invokestatic 57, 3) := by decide +kernel
theorem dX9_sendAll_31 : decode cX9_sendAll 31 = .ok (.ifCond .ne 6, 3) := by decide +kernel
theorem dX9_sendAll_34 : decode cX9_sendAll 34 = .ok (.ldc 67, 2) := by decide +kernel
theorem dX9_sendAll_36 : decode cX9_sendAll 36 = .ok (.ireturn, 1) := by decide +kernel
theorem dX9_sendAll_37 : decode cX9_sendAll 37 = .ok (.aload_n 0, 1) := by decide +kernel
theorem dX9_sendAll_38 : decode cX9_sendAll 38 = .ok (.getfield 7, 3) := by decide +kernel
theorem dX9_sendAll_41 : decode cX9_sendAll 41 = .ok (.iload_n 1, 1) := by decide +kernel
theorem dX9_sendAll_42 : decode cX9_sendAll 42 = .ok (.iaload, 1) := by decide +kernel
theorem dX9_sendAll_43 : decode cX9_sendAll 43 = .ok (.ifCond .ge 9, 3) := by decide +kernel
theorem dX9_sendAll_46 : decode cX9_sendAll 46 = .ok (.aload_n 0, 1) := by decide +kernel
theorem dX9_sendAll_47 : decode cX9_sendAll 47 = .ok (.iconst 1, 1) := by decide +kernel
theorem dX9_sendAll_48 : decode cX9_sendAll 48 = .ok (.invokevirtual 68, 3) := by decide +kernel
theorem dX9_sendAll_51 : decode cX9_sendAll 51 = .ok (.ireturn, 1) := by decide +kernel
theorem dX9_sendAll_52 : decode cX9_sendAll 52 = .ok (.iload_n 2, 1) := by decide +kernel
theorem dX9_sendAll_53 : decode cX9_sendAll 53 = .ok (.ifCond .lt 19, 3) := by decide +kernel
theorem dX9_sendAll_56 : decode cX9_sendAll 56 = .ok (.iload_n 2, 1) := by decide +kernel
theorem dX9_sendAll_57 : decode cX9_sendAll 57 = .ok (.i2l, 1) := by decide +kernel
theorem dX9_sendAll_58 : decode cX9_sendAll 58 = .ok (.iload_n 3, 1) := by decide +kernel
theorem dX9_sendAll_59 : decode cX9_sendAll 59 = .ok (.i2l, 1) := by decide +kernel
theorem dX9_sendAll_60 : decode cX9_sendAll 60 = .ok (.ladd, 1) := by decide +kernel
theorem dX9_sendAll_61 : decode cX9_sendAll 61 = .ok (.aload_n 0, 1) := by decide +kernel
theorem dX9_sendAll_62 : decode cX9_sendAll 62 = .ok (.getfield 13, 3) := by decide +kernel
theorem dX9_sendAll_65 : decode cX9_sendAll 65 = .ok (.iload_n 1, 1) := by decide +kernel
theorem dX9_sendAll_66 : decode cX9_sendAll 66 = .ok (.iaload, 1) := by decide +kernel
theorem dX9_sendAll_67 : decode cX9_sendAll 67 = .ok (.i2l, 1) := by decide +kernel
theorem dX9_sendAll_68 : decode cX9_sendAll 68 = .ok (.lcmp, 1) := by decide +kernel
theorem dX9_sendAll_69 : decode cX9_sendAll 69 = .ok (.ifCond .le 9, 3) := by decide +kernel
theorem dX9_sendAll_72 : decode cX9_sendAll 72 = .ok (.aload_n 0, 1) := by decide +kernel
theorem dX9_sendAll_73 : decode cX9_sendAll 73 = .ok (.iconst 2, 1) := by decide +kernel
theorem dX9_sendAll_74 : decode cX9_sendAll 74 = .ok (.invokevirtual 68, 3) := by decide +kernel
theorem dX9_sendAll_77 : decode cX9_sendAll 77 = .ok (.ireturn, 1) := by decide +kernel
theorem dX9_sendAll_78 : decode cX9_sendAll 78 = .ok (.iconst 0, 1) := by decide +kernel
theorem dX9_sendAll_79 : decode cX9_sendAll 79 = .ok (.istore 4, 2) := by decide +kernel
theorem dX9_sendAll_81 : decode cX9_sendAll 81 = .ok (.iload 4, 2) := by decide +kernel
theorem dX9_sendAll_83 : decode cX9_sendAll 83 = .ok (.iload_n 3, 1) := by decide +kernel
theorem dX9_sendAll_84 : decode cX9_sendAll 84 = .ok (.if_icmp .ge 33, 3) := by decide +kernel
theorem dX9_sendAll_87 : decode cX9_sendAll 87 = .ok (.aload_n 0, 1) := by decide +kernel
theorem dX9_sendAll_88 : decode cX9_sendAll 88 = .ok (.aload_n 0, 1) := by decide +kernel
theorem dX9_sendAll_89 : decode cX9_sendAll 89 = .ok (.getfield 16, 3) := by decide +kernel
theorem dX9_sendAll_92 : decode cX9_sendAll 92 = .ok (.bipush 40, 2) := by decide +kernel
theorem dX9_sendAll_94 : decode cX9_sendAll 94 = .ok (.iload_n 1, 1) := by decide +kernel
theorem dX9_sendAll_95 : decode cX9_sendAll 95 = .ok (.imul, 1) := by decide +kernel
theorem dX9_sendAll_96 : decode cX9_sendAll 96 = .ok (.iload_n 2, 1) := by decide +kernel
theorem dX9_sendAll_97 : decode cX9_sendAll 97 = .ok (.iadd, 1) := by decide +kernel
theorem dX9_sendAll_98 : decode cX9_sendAll 98 = .ok (.iload 4, 2) := by decide +kernel
theorem dX9_sendAll_100 : decode cX9_sendAll 100 = .ok (.iadd, 1) := by decide +kernel
theorem dX9_sendAll_101 : decode cX9_sendAll 101 = .ok (.iaload, 1) := by decide +kernel
theorem dX9_sendAll_102 : decode cX9_sendAll 102 = .ok (.invokevirtual 204, 3) := by decide +kernel
theorem dX9_sendAll_105 : decode cX9_sendAll 105 = .ok (.ifCond .ne 6, 3) := by decide +kernel
theorem dX9_sendAll_108 : decode cX9_sendAll 108 = .ok (.ldc 67, 2) := by decide +kernel
theorem dX9_sendAll_110 : decode cX9_sendAll 110 = .ok (.ireturn, 1) := by decide +kernel
theorem dX9_sendAll_111 : decode cX9_sendAll 111 = .ok (.iinc 4 1, 3) := by decide +kernel
theorem dX9_sendAll_114 : decode cX9_sendAll 114 = .ok (.goto (-33), 3) := by decide +kernel
theorem dX9_sendAll_117 : decode cX9_sendAll 117 = .ok (.aload_n 0, 1) := by decide +kernel
theorem dX9_sendAll_118 : decode cX9_sendAll 118 = .ok (.iconst 0, 1) := by decide +kernel
theorem dX9_sendAll_119 : decode cX9_sendAll 119 = .ok (.putfield 51, 3) := by decide +kernel
theorem dX9_sendAll_122 : decode cX9_sendAll 122 = .ok (.iconst 0, 1) := by decide +kernel
theorem dX9_sendAll_123 : decode cX9_sendAll 123 = .ok (.istore 4, 2) := by decide +kernel
theorem dX9_sendAll_125 : decode cX9_sendAll 125 = .ok (.iconst 0, 1) := by decide +kernel
theorem dX9_sendAll_126 : decode cX9_sendAll 126 = .ok (.istore 5, 2) := by decide +kernel
theorem dX9_sendAll_128 : decode cX9_sendAll 128 = .ok (.iload 5, 2) := by decide +kernel
theorem dX9_sendAll_130 : decode cX9_sendAll 130 = .ok (.iload_n 3, 1) := by decide +kernel
theorem dX9_sendAll_131 : decode cX9_sendAll 131 = .ok (.if_icmp .ge 51, 3) := by decide +kernel
theorem dX9_sendAll_134 : decode cX9_sendAll 134 = .ok (.aload_n 0, 1) := by decide +kernel
theorem dX9_sendAll_135 : decode cX9_sendAll 135 = .ok (.aload_n 0, 1) := by decide +kernel
theorem dX9_sendAll_136 : decode cX9_sendAll 136 = .ok (.getfield 16, 3) := by decide +kernel
theorem dX9_sendAll_139 : decode cX9_sendAll 139 = .ok (.bipush 40, 2) := by decide +kernel
theorem dX9_sendAll_141 : decode cX9_sendAll 141 = .ok (.iload_n 1, 1) := by decide +kernel
theorem dX9_sendAll_142 : decode cX9_sendAll 142 = .ok (.imul, 1) := by decide +kernel
theorem dX9_sendAll_143 : decode cX9_sendAll 143 = .ok (.iload_n 2, 1) := by decide +kernel
theorem dX9_sendAll_144 : decode cX9_sendAll 144 = .ok (.iadd, 1) := by decide +kernel
theorem dX9_sendAll_145 : decode cX9_sendAll 145 = .ok (.iload 5, 2) := by decide +kernel
theorem dX9_sendAll_147 : decode cX9_sendAll 147 = .ok (.iadd, 1) := by decide +kernel
theorem dX9_sendAll_148 : decode cX9_sendAll 148 = .ok (.iaload, 1) := by decide +kernel
theorem dX9_sendAll_149 : decode cX9_sendAll 149 = .ok (.invokevirtual 218, 3) := by decide +kernel
theorem dX9_sendAll_152 : decode cX9_sendAll 152 = .ok (.ifCond .eq 24, 3) := by decide +kernel
theorem dX9_sendAll_155 : decode cX9_sendAll 155 = .ok (.aload_n 0, 1) := by decide +kernel
theorem dX9_sendAll_156 : decode cX9_sendAll 156 = .ok (.aload_n 0, 1) := by decide +kernel
theorem dX9_sendAll_157 : decode cX9_sendAll 157 = .ok (.getfield 16, 3) := by decide +kernel
theorem dX9_sendAll_160 : decode cX9_sendAll 160 = .ok (.bipush 40, 2) := by decide +kernel
theorem dX9_sendAll_162 : decode cX9_sendAll 162 = .ok (.iload_n 1, 1) := by decide +kernel
theorem dX9_sendAll_163 : decode cX9_sendAll 163 = .ok (.imul, 1) := by decide +kernel
theorem dX9_sendAll_164 : decode cX9_sendAll 164 = .ok (.iload_n 2, 1) := by decide +kernel
theorem dX9_sendAll_165 : decode cX9_sendAll 165 = .ok (.iadd, 1) := by decide +kernel
theorem dX9_sendAll_166 : decode cX9_sendAll 166 = .ok (.iload 5, 2) := by decide +kernel
theorem dX9_sendAll_168 : decode cX9_sendAll 168 = .ok (.iadd, 1) := by decide +kernel
theorem dX9_sendAll_169 : decode cX9_sendAll 169 = .ok (.iaload, 1) := by decide +kernel
theorem dX9_sendAll_170 : decode cX9_sendAll 170 = .ok (.invokevirtual 221, 3) := by decide +kernel
theorem dX9_sendAll_173 : decode cX9_sendAll 173 = .ok (.iinc 4 1, 3) := by decide +kernel
theorem dX9_sendAll_176 : decode cX9_sendAll 176 = .ok (.iinc 5 1, 3) := by decide +kernel
theorem dX9_sendAll_179 : decode cX9_sendAll 179 = .ok (.goto (-51), 3) := by decide +kernel
theorem dX9_sendAll_182 : decode cX9_sendAll 182 = .ok (.iload 4, 2) := by decide +kernel
theorem dX9_sendAll_184 : decode cX9_sendAll 184 = .ok (.ireturn, 1) := by decide +kernel
set_option maxRecDepth 20000 in
theorem ggX9_arrives_X9_of : GoodIn wsX9_arrives wsX9_of := goodIn_r _ [5, 6, 19, 20, 21, 22, 23, 24, 25, 26, 27, 28, 29, 30, 31, 32, 33, 34, 35, 36, 37, 38, 39, 40, 41, 42, 43, 44] (by decide +kernel) (by decide +kernel)
set_option maxRecDepth 20000 in
theorem gX9_arrives_X9_of : GoodIn wsX9_arrives (wsV RX9 189 RX9 yX9_of wsX9_of) := goodIn_app (goodIn_of _ (by decide +kernel)) ggX9_arrives_X9_of
set_option maxRecDepth 20000 in
theorem ggX9_arrives_X9_becomes : GoodIn wsX9_arrives wsX9_becomes := goodIn_r _ [10, 6, 19, 20, 21, 22, 23, 24, 25, 26, 27, 28, 29, 30, 31, 32, 33, 34, 35, 36, 37, 38, 39, 40, 41, 42, 43, 44] (by decide +kernel) (by decide +kernel)
set_option maxRecDepth 20000 in
theorem gX9_arrives_X9_becomes : GoodIn wsX9_arrives (wsV RX9 214 RX9 yX9_becomes wsX9_becomes) := goodIn_app (goodIn_of _ (by decide +kernel)) ggX9_arrives_X9_becomes
set_option maxRecDepth 20000 in
theorem ggX9_arrives_X9_townOf : GoodIn wsX9_arrives wsX9_townOf := goodIn_r _ [14, 6, 1, 2, 3, 4, 5, 19, 20, 21, 22, 23, 24, 25, 26, 27, 28, 29, 30, 31, 32, 33, 34, 35, 36, 37, 38, 39, 40, 41, 42, 43, 44] (by decide +kernel) (by decide +kernel)
set_option maxRecDepth 20000 in
theorem gX9_arrives_X9_townOf : GoodIn wsX9_arrives (wsV RX9 195 RX9 yX9_townOf wsX9_townOf) := goodIn_app (goodIn_of _ (by decide +kernel)) ggX9_arrives_X9_townOf
set_option maxRecDepth 20000 in
theorem ggX9_arrives_X9_farOf : GoodIn wsX9_arrives wsX9_farOf := goodIn_r _ [18, 6, 19, 20, 21, 22, 23, 24, 25, 26, 27, 28, 29, 30, 31, 32, 33, 34, 35, 36, 37, 38, 39, 40, 41, 42, 43, 44] (by decide +kernel) (by decide +kernel)
set_option maxRecDepth 20000 in
theorem gX9_arrives_X9_farOf : GoodIn wsX9_arrives (wsV RX9 198 RX9 yX9_farOf wsX9_farOf) := goodIn_app (goodIn_of _ (by decide +kernel)) ggX9_arrives_X9_farOf
