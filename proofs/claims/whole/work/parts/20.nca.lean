theorem dX0_init_0 : decode cX0_init 0 = .ok (.aload_n 0, 1) := by decide +kernel
theorem dX0_init_1 : decode cX0_init 1 = .ok (.invokespecial 1, 3) := by decide +kernel
theorem dX0_init_4 : decode cX0_init 4 = .ok (.aload_n 0, 1) := by decide +kernel
theorem dX0_init_5 : decode cX0_init 5 = .ok (.bipush 24, 2) := by decide +kernel
theorem dX0_init_7 : decode cX0_init 7 = .ok (.bipush 61, 2) := by decide +kernel
theorem dX0_init_9 : decode cX0_init 9 = .ok (.multianewarray 11 2, 4) := by decide +kernel
theorem dX0_init_13 : decode cX0_init 13 = .ok (.putfield 13, 3) := by decide +kernel
theorem dX0_init_16 : decode cX0_init 16 = .ok (.aload_n 0, 1) := by decide +kernel
theorem dX0_init_17 : decode cX0_init 17 = .ok (.iconst 0, 1) := by decide +kernel
theorem dX0_init_18 : decode cX0_init 18 = .ok (.putfield 16, 3) := by decide +kernel
theorem dX0_init_21 : decode cX0_init 21 = .ok (.aload_n 0, 1) := by decide +kernel
theorem dX0_init_22 : decode cX0_init 22 = .ok (.iconst 0, 1) := by decide +kernel
theorem dX0_init_23 : decode cX0_init 23 = .ok (.putfield 20, 3) := by decide +kernel
theorem dX0_init_26 : decode cX0_init 26 = .ok (.return_, 1) := by decide +kernel
theorem dX0_keep_0 : decode cX0_keep 0 = .ok (.aload_n 1, 1) := by decide +kernel
theorem dX0_keep_1 : decode cX0_keep 1 = .ok (.iconst 0, 1) := by decide +kernel
theorem dX0_keep_2 : decode cX0_keep 2 = .ok (.aload_n 0, 1) := by decide +kernel
theorem dX0_keep_3 : decode cX0_keep 3 = .ok (.getfield 13, 3) := by decide +kernel
theorem dX0_keep_6 : decode cX0_keep 6 = .ok (.aload_n 0, 1) := by decide +kernel
theorem dX0_keep_7 : decode cX0_keep 7 = .ok (.getfield 16, 3) := by decide +kernel
theorem dX0_keep_10 : decode cX0_keep 10 = .ok (.aaload, 1) := by decide +kernel
theorem dX0_keep_11 : decode cX0_keep 11 = .ok (.iconst 0, 1) := by decide +kernel
theorem dX0_keep_12 : decode cX0_keep 12 = .ok (.bipush 61, 2) := by decide +kernel
theorem dX0_keep_14 : decode cX0_keep 14 = .ok (.invokestatic 23, 3) := by decide +kernel
theorem dX0_keep_17 : decode cX0_keep 17 = .ok (.aload_n 0, 1) := by decide +kernel
theorem dX0_keep_18 : decode cX0_keep 18 = .ok (.aload_n 0, 1) := by decide +kernel
theorem dX0_keep_19 : decode cX0_keep 19 = .ok (.getfield 16, 3) := by decide +kernel
theorem dX0_keep_22 : decode cX0_keep 22 = .ok (.iconst 1, 1) := by decide +kernel
theorem dX0_keep_23 : decode cX0_keep 23 = .ok (.iadd, 1) := by decide +kernel
theorem dX0_keep_24 : decode cX0_keep 24 = .ok (.bipush 24, 2) := by decide +kernel
theorem dX0_keep_26 : decode cX0_keep 26 = .ok (.irem, 1) := by decide +kernel
theorem dX0_keep_27 : decode cX0_keep 27 = .ok (.putfield 16, 3) := by decide +kernel
theorem dX0_keep_30 : decode cX0_keep 30 = .ok (.aload_n 0, 1) := by decide +kernel
theorem dX0_keep_31 : decode cX0_keep 31 = .ok (.aload_n 0, 1) := by decide +kernel
theorem dX0_keep_32 : decode cX0_keep 32 = .ok (.getfield 20, 3) := by decide +kernel
theorem dX0_keep_35 : decode cX0_keep 35 = .ok (.iconst 1, 1) := by decide +kernel
theorem dX0_keep_36 : decode cX0_keep 36 = .ok (.iadd, 1) := by decide +kernel
theorem dX0_keep_37 : decode cX0_keep 37 = .ok (.bipush 24, 2) := by decide +kernel
theorem dX0_keep_39 : decode cX0_keep 39 = .ok (.invokestatic 29, 3) := by decide +kernel
theorem dX0_keep_42 : decode cX0_keep 42 = .ok (.putfield 20, 3) := by decide +kernel
theorem dX0_keep_45 : decode cX0_keep 45 = .ok (.return_, 1) := by decide +kernel
theorem dX0_takeBack_0 : decode cX0_takeBack 0 = .ok (.aload_n 0, 1) := by decide +kernel
theorem dX0_takeBack_1 : decode cX0_takeBack 1 = .ok (.aload_n 0, 1) := by decide +kernel
theorem dX0_takeBack_2 : decode cX0_takeBack 2 = .ok (.getfield 16, 3) := by decide +kernel
theorem dX0_takeBack_5 : decode cX0_takeBack 5 = .ok (.bipush 24, 2) := by decide +kernel
theorem dX0_takeBack_7 : decode cX0_takeBack 7 = .ok (.iadd, 1) := by decide +kernel
theorem dX0_takeBack_8 : decode cX0_takeBack 8 = .ok (.iconst 1, 1) := by decide +kernel
theorem dX0_takeBack_9 : decode cX0_takeBack 9 = .ok (.isub, 1) := by decide +kernel
theorem dX0_takeBack_10 : decode cX0_takeBack 10 = .ok (.bipush 24, 2) := by decide +kernel
theorem dX0_takeBack_12 : decode cX0_takeBack 12 = .ok (.irem, 1) := by decide +kernel
theorem dX0_takeBack_13 : decode cX0_takeBack 13 = .ok (.putfield 16, 3) := by decide +kernel
theorem dX0_takeBack_16 : decode cX0_takeBack 16 = .ok (.aload_n 0, 1) := by decide +kernel
theorem dX0_takeBack_17 : decode cX0_takeBack 17 = .ok (.getfield 13, 3) := by decide +kernel
theorem dX0_takeBack_20 : decode cX0_takeBack 20 = .ok (.aload_n 0, 1) := by decide +kernel
theorem dX0_takeBack_21 : decode cX0_takeBack 21 = .ok (.getfield 16, 3) := by decide +kernel
theorem dX0_takeBack_24 : decode cX0_takeBack 24 = .ok (.aaload, 1) := by decide +kernel
theorem dX0_takeBack_25 : decode cX0_takeBack 25 = .ok (.iconst 0, 1) := by decide +kernel
theorem dX0_takeBack_26 : decode cX0_takeBack 26 = .ok (.aload_n 1, 1) := by decide +kernel
theorem dX0_takeBack_27 : decode cX0_takeBack 27 = .ok (.iconst 0, 1) := by decide +kernel
theorem dX0_takeBack_28 : decode cX0_takeBack 28 = .ok (.bipush 61, 2) := by decide +kernel
theorem dX0_takeBack_30 : decode cX0_takeBack 30 = .ok (.invokestatic 23, 3) := by decide +kernel
theorem dX0_takeBack_33 : decode cX0_takeBack 33 = .ok (.aload_n 0, 1) := by decide +kernel
theorem dX0_takeBack_34 : decode cX0_takeBack 34 = .ok (.dup, 1) := by decide +kernel
theorem dX0_takeBack_35 : decode cX0_takeBack 35 = .ok (.getfield 20, 3) := by decide +kernel
theorem dX0_takeBack_38 : decode cX0_takeBack 38 = .ok (.iconst 1, 1) := by decide +kernel
theorem dX0_takeBack_39 : decode cX0_takeBack 39 = .ok (.isub, 1) := by decide +kernel
theorem dX0_takeBack_40 : decode cX0_takeBack 40 = .ok (.putfield 20, 3) := by decide +kernel
theorem dX0_takeBack_43 : decode cX0_takeBack 43 = .ok (.return_, 1) := by decide +kernel
theorem dX0_forgetAll_0 : decode cX0_forgetAll 0 = .ok (.aload_n 0, 1) := by decide +kernel
theorem dX0_forgetAll_1 : decode cX0_forgetAll 1 = .ok (.iconst 0, 1) := by decide +kernel
theorem dX0_forgetAll_2 : decode cX0_forgetAll 2 = .ok (.putfield 16, 3) := by decide +kernel
theorem dX0_forgetAll_5 : decode cX0_forgetAll 5 = .ok (.aload_n 0, 1) := by decide +kernel
theorem dX0_forgetAll_6 : decode cX0_forgetAll 6 = .ok (.iconst 0, 1) := by decide +kernel
theorem dX0_forgetAll_7 : decode cX0_forgetAll 7 = .ok (.putfield 20, 3) := by decide +kernel
theorem dX0_forgetAll_10 : decode cX0_forgetAll 10 = .ok (.return_, 1) := by decide +kernel
theorem dX1_init_0 : decode cX1_init 0 = .ok (.aload_n 0, 1) := by decide +kernel
theorem dX1_init_1 : decode cX1_init 1 = .ok (.invokespecial 3, 3) := by decide +kernel
theorem dX1_init_4 : decode cX1_init 4 = .ok (.aload_n 0, 1) := by decide +kernel
theorem dX1_init_5 : decode cX1_init 5 = .ok (.bipush 16, 2) := by decide +kernel
theorem dX1_init_7 : decode cX1_init 7 = .ok (.newarray .int, 2) := by decide +kernel
theorem dX1_init_9 : decode cX1_init 9 = .ok (.putfield 11, 3) := by decide +kernel
theorem dX1_init_12 : decode cX1_init 12 = .ok (.aload_n 0, 1) := by decide +kernel
theorem dX1_init_13 : decode cX1_init 13 = .ok (.iconst 0, 1) := by decide +kernel
theorem dX1_init_14 : decode cX1_init 14 = .ok (.putfield 15, 3) := by decide +kernel
theorem dX1_init_17 : decode cX1_init 17 = .ok (.aload_n 0, 1) := by decide +kernel
theorem dX1_init_18 : decode cX1_init 18 = .ok (.iconst 0, 1) := by decide +kernel
theorem dX1_init_19 : decode cX1_init 19 = .ok (.putfield 19, 3) := by decide +kernel
theorem dX1_init_22 : decode cX1_init 22 = .ok (.aload_n 0, 1) := by decide +kernel
theorem dX1_init_23 : decode cX1_init 23 = .ok (.iconst 0, 1) := by decide +kernel
theorem dX1_init_24 : decode cX1_init 24 = .ok (.putfield 22, 3) := by decide +kernel
theorem dX1_init_27 : decode cX1_init 27 = .ok (.aload_n 0, 1) := by decide +kernel
theorem dX1_init_28 : decode cX1_init 28 = .ok (.iconst 0, 1) := by decide +kernel
theorem dX1_init_29 : decode cX1_init 29 = .ok (.putfield 25, 3) := by decide +kernel
theorem dX1_init_32 : decode cX1_init 32 = .ok (.aload_n 0, 1) := by decide +kernel
theorem dX1_init_33 : decode cX1_init 33 = .ok (.iconst 0, 1) := by decide +kernel
theorem dX1_init_34 : decode cX1_init 34 = .ok (.putfield 28, 3) := by decide +kernel
theorem dX1_init_37 : decode cX1_init 37 = .ok (.return_, 1) := by decide +kernel
set_option maxRecDepth 20000 in
theorem ggX1_answer_X5_about : GoodIn wsX1_answer wsX5_about := goodIn_r _ [11, 12, 53, 54, 55, 56, 57, 58, 59, 60] (by decide +kernel) (by decide +kernel)
set_option maxRecDepth 20000 in
theorem gX1_answer_X5_about : GoodIn wsX1_answer (wsV RX1 36 RX5 yX5_about wsX5_about) := goodIn_app (goodIn_of _ (by decide +kernel)) ggX1_answer_X5_about
set_option maxRecDepth 20000 in
theorem ggX1_answer_X5_spanOf : GoodIn wsX1_answer wsX5_spanOf := goodIn_r _ [16, 17, 18, 53, 54, 55, 56, 57, 58, 59, 60] (by decide +kernel) (by decide +kernel)
set_option maxRecDepth 20000 in
theorem gX1_answer_X5_spanOf : GoodIn wsX1_answer (wsV RX1 40 RX5 yX5_spanOf wsX5_spanOf) := goodIn_app (goodIn_of _ (by decide +kernel)) ggX1_answer_X5_spanOf
set_option maxRecDepth 20000 in
theorem ggX1_answer_X1_bodyFor : GoodIn wsX1_answer wsX1_bodyFor := goodIn_r _ [23, 24, 25, 4, 26, 27, 28, 29, 30, 31, 32, 33, 34, 35, 36, 37, 47, 48, 49, 50, 51, 52] (by decide +kernel) (by decide +kernel)
set_option maxRecDepth 20000 in
theorem gX1_answer_X1_bodyFor : GoodIn wsX1_answer (wsV RX1 44 RX1 yX1_bodyFor wsX1_bodyFor) := goodIn_app (goodIn_of _ (by decide +kernel)) ggX1_answer_X1_bodyFor
set_option maxRecDepth 20000 in
theorem ggX1_answer_X1_begin : GoodIn wsX1_answer wsX1_begin := goodIn_r _ [41, 5, 2, 6, 42, 43, 44, 22, 45, 1, 46, 38, 39, 40, 19, 20, 21, 23, 24, 25, 4, 26, 27, 28, 29, 30, 31, 32, 33, 34, 35, 36, 37, 47, 48, 49, 50, 51, 52] (by decide +kernel) (by decide +kernel)
set_option maxRecDepth 20000 in
theorem gX1_answer_X1_begin : GoodIn wsX1_answer (wsV RX1 47 RX1 yX1_begin wsX1_begin) := goodIn_app (goodIn_of _ (by decide +kernel)) ggX1_answer_X1_begin
theorem dX1_answer_0 : decode cX1_answer 0 = .ok (.aload_n 0, 1) := by decide +kernel
theorem dX1_answer_1 : decode cX1_answer 1 = .ok (.iconst 0, 1) := by decide +kernel
theorem dX1_answer_2 : decode cX1_answer 2 = .ok (.putfield 15, 3) := by decide +kernel
theorem dX1_answer_5 : decode cX1_answer 5 = .ok (.aload_n 0, 1) := by decide +kernel
theorem dX1_answer_6 : decode cX1_answer 6 = .ok (.iload_n 2, 1) := by decide +kernel
theorem dX1_answer_7 : decode cX1_answer 7 = .ok (.putfield 19, 3) := by decide +kernel
theorem dX1_answer_10 : decode cX1_answer 10 = .ok (.aload_n 0, 1) := by decide +kernel
theorem dX1_answer_11 : decode cX1_answer 11 = .ok (.aload_n 1, 1) := by decide +kernel
theorem dX1_answer_12 : decode cX1_answer 12 = .ok (.getfield 31, 3) := by decide +kernel
theorem dX1_answer_15 : decode cX1_answer 15 = .ok (.iload_n 2, 1) := by decide +kernel
theorem dX1_answer_16 : decode cX1_answer 16 = .ok (.iaload, 1) := by decide +kernel
theorem dX1_answer_17 : decode cX1_answer 17 = .ok (.putfield 22, 3) := by decide +kernel
theorem dX1_answer_20 : decode cX1_answer 20 = .ok (.aload_n 0, 1) := by decide +kernel
theorem dX1_answer_21 : decode cX1_answer 21 = .ok (.aload_n 1, 1) := by decide +kernel
theorem dX1_answer_22 : decode cX1_answer 22 = .ok (.iload_n 2, 1) := by decide +kernel
theorem dX1_answer_23 : decode cX1_answer 23 = .ok (.iconst 1, 1) := by decide +kernel
theorem dX1_answer_24 : decode cX1_answer 24 = .ok (.invokevirtual 36, 3) := by decide +kernel
theorem dX1_answer_27 : decode cX1_answer 27 = .ok (.putfield 25, 3) := by decide +kernel
theorem dX1_answer_30 : decode cX1_answer 30 = .ok (.aload_n 0, 1) := by decide +kernel
theorem dX1_answer_31 : decode cX1_answer 31 = .ok (.aload_n 1, 1) := by decide +kernel
theorem dX1_answer_32 : decode cX1_answer 32 = .ok (.iload_n 2, 1) := by decide +kernel
theorem dX1_answer_33 : decode cX1_answer 33 = .ok (.invokevirtual 40, 3) := by decide +kernel
theorem dX1_answer_36 : decode cX1_answer 36 = .ok (.putfield 28, 3) := by decide +kernel
theorem dX1_answer_39 : decode cX1_answer 39 = .ok (.aload_n 0, 1) := by decide +kernel
theorem dX1_answer_40 : decode cX1_answer 40 = .ok (.aload_n 0, 1) := by decide +kernel
theorem dX1_answer_41 : decode cX1_answer 41 = .ok (.iload_n 3, 1) := by decide +kernel
theorem dX1_answer_42 : decode cX1_answer 42 = .ok (.invokevirtual 44, 3) := by decide +kernel
theorem dX1_answer_45 : decode cX1_answer 45 = .ok (.iconst 0, 1) := by decide +kernel
theorem dX1_answer_46 : decode cX1_answer 46 = .ok (.invokevirtual 47, 3) := by decide +kernel
theorem dX1_answer_49 : decode cX1_answer 49 = .ok (.ireturn, 1) := by decide +kernel
set_option maxRecDepth 20000 in
theorem ggX1_noted_X8_outside : GoodIn wsX1_noted wsX8_outside := goodIn_r _ [6] (by decide +kernel) (by decide +kernel)
set_option maxRecDepth 20000 in
theorem gX1_noted_X8_outside_n50 : GoodIn wsX1_noted (wsX8_outside) := ggX1_noted_X8_outside
theorem dX1_noted_0 : decode cX1_noted 0 = .ok (.iload_n 1, 1) := by decide +kernel
theorem dX1_noted_1 : decode cX1_noted 1 = .ok (.iconst 0, 1) := by decide +kernel
theorem dX1_noted_2 : decode cX1_noted 2 = .ok (.aload_n 0, 1) := by decide +kernel
theorem dX1_noted_3 : decode cX1_noted 3 = .ok (.getfield 15, 3) := by decide +kernel
theorem dX1_noted_6 : decode cX1_noted 6 = .ok (.iconst 1, 1) := by decide +kernel
theorem dX1_noted_7 : decode cX1_noted 7 = .ok (.isub, 1) := by decide +kernel
theorem dX1_noted_8 : decode cX1_noted 8 = .ok (.invokestatic 50, 3) := by decide +kernel
theorem dX1_noted_11 : decode cX1_noted 11 = .ok (.ifCond .eq 8, 3) := by decide +kernel
theorem dX1_noted_14 : decode cX1_noted 14 = .ok (.ldc 54, 2) := by decide +kernel
theorem dX1_noted_16 : decode cX1_noted 16 = .ok (.goto 9, 3) := by decide +kernel
theorem dX1_noted_19 : decode cX1_noted 19 = .ok (.aload_n 0, 1) := by decide +kernel
theorem dX1_noted_20 : decode cX1_noted 20 = .ok (.getfield 11, 3) := by decide +kernel
theorem dX1_noted_23 : decode cX1_noted 23 = .ok (.iload_n 1, 1) := by decide +kernel
theorem dX1_noted_24 : decode cX1_noted 24 = .ok (.iaload, 1) := by decide +kernel
theorem dX1_noted_25 : decode cX1_noted 25 = .ok (.ireturn, 1) := by decide +kernel
set_option maxRecDepth 20000 in
theorem ggX1_bodyFor_X3_nextOf : GoodIn wsX1_bodyFor wsX3_nextOf := goodIn_r _ [11, 12, 13, 14, 15] (by decide +kernel) (by decide +kernel)
set_option maxRecDepth 20000 in
theorem gX1_bodyFor_X3_nextOf : GoodIn wsX1_bodyFor (va_wsS RX1 63 yX3_nextOf wsX3_nextOf) := goodIn_app (goodIn_of _ (by decide +kernel)) ggX1_bodyFor_X3_nextOf
theorem dX1_bodyFor_0 : decode cX1_bodyFor 0 = .ok (.iload_n 1, 1) := by decide +kernel
theorem dX1_bodyFor_1 : decode cX1_bodyFor 1 = .ok (.ifCond .ne 9, 3) := by decide +kernel
theorem dX1_bodyFor_4 : decode cX1_bodyFor 4 = .ok (.getstatic 55, 3) := by decide +kernel
theorem dX1_bodyFor_7 : decode cX1_bodyFor 7 = .ok (.goto 6, 3) := by decide +kernel
theorem dX1_bodyFor_10 : decode cX1_bodyFor 10 = .ok (.getstatic 58, 3) := by decide +kernel
theorem dX1_bodyFor_13 : decode cX1_bodyFor 13 = .ok (.astore_n 2, 1) := by decide +kernel
theorem dX1_bodyFor_14 : decode cX1_bodyFor 14 = .ok (.aload_n 0, 1) := by decide +kernel
theorem dX1_bodyFor_15 : decode cX1_bodyFor 15 = .ok (.getfield 22, 3) := by decide +kernel
theorem dX1_bodyFor_18 : decode cX1_bodyFor 18 = .ok (.istore_n 3, 1) := by decide +kernel
theorem dX1_bodyFor_19 : decode cX1_bodyFor 19 = .ok (.iconst 0, 1) := by decide +kernel
theorem dX1_bodyFor_20 : decode cX1_bodyFor 20 = .ok (.istore 4, 2) := by decide +kernel
theorem dX1_bodyFor_22 : decode cX1_bodyFor 22 = .ok (.iload 4, 2) := by decide +kernel
theorem dX1_bodyFor_24 : decode cX1_bodyFor 24 = .ok (.iconst 5, 1) := by decide +kernel
theorem dX1_bodyFor_25 : decode cX1_bodyFor 25 = .ok (.if_icmp .ge 24, 3) := by decide +kernel
theorem dX1_bodyFor_28 : decode cX1_bodyFor 28 = .ok (.aload_n 2, 1) := by decide +kernel
theorem dX1_bodyFor_29 : decode cX1_bodyFor 29 = .ok (.iload_n 3, 1) := by decide +kernel
theorem dX1_bodyFor_30 : decode cX1_bodyFor 30 = .ok (.iaload, 1) := by decide +kernel
theorem dX1_bodyFor_31 : decode cX1_bodyFor 31 = .ok (.ifCond .ne 18, 3) := by decide +kernel
theorem dX1_bodyFor_34 : decode cX1_bodyFor 34 = .ok (.iload_n 3, 1) := by decide +kernel
theorem dX1_bodyFor_35 : decode cX1_bodyFor 35 = .ok (.invokestatic 63, 3) := by decide +kernel
theorem dX1_bodyFor_38 : decode cX1_bodyFor 38 = .ok (.iconst 0, 1) := by decide +kernel
theorem dX1_bodyFor_39 : decode cX1_bodyFor 39 = .ok (.invokestatic 66, 3) := by decide +kernel
theorem dX1_bodyFor_42 : decode cX1_bodyFor 42 = .ok (.istore_n 3, 1) := by decide +kernel
theorem dX1_bodyFor_43 : decode cX1_bodyFor 43 = .ok (.iinc 4 1, 3) := by decide +kernel
theorem dX1_bodyFor_46 : decode cX1_bodyFor 46 = .ok (.goto (-24), 3) := by decide +kernel
theorem dX1_bodyFor_49 : decode cX1_bodyFor 49 = .ok (.aload_n 2, 1) := by decide +kernel
theorem dX1_bodyFor_50 : decode cX1_bodyFor 50 = .ok (.iload_n 3, 1) := by decide +kernel
theorem dX1_bodyFor_51 : decode cX1_bodyFor 51 = .ok (.iaload, 1) := by decide +kernel
theorem dX1_bodyFor_52 : decode cX1_bodyFor 52 = .ok (.ireturn, 1) := by decide +kernel
set_option maxRecDepth 20000 in
theorem ggX1_begin_X1_note : GoodIn wsX1_begin wsX1_note := goodIn_r _ [8, 9, 10, 33, 34, 35, 36, 37, 38] (by decide +kernel) (by decide +kernel)
set_option maxRecDepth 20000 in
theorem gX1_begin_X1_note : GoodIn wsX1_begin (wsV RX1 71 RX1 yX1_note wsX1_note) := goodIn_app (goodIn_of _ (by decide +kernel)) ggX1_begin_X1_note
set_option maxRecDepth 20000 in
theorem ggX1_begin_X1_begin : GoodIn wsX1_begin wsX1_begin := goodIn_r _ [0, 1, 2, 3, 4, 5, 6, 7, 8, 9, 10, 11, 12, 13, 14, 15, 16, 17, 18, 19, 20, 21, 22, 23, 24, 25, 26, 27, 28, 29, 30, 31, 32, 33, 34, 35, 36, 37, 38] (by decide +kernel) (by decide +kernel)
set_option maxRecDepth 20000 in
theorem gX1_begin_X1_begin : GoodIn wsX1_begin (wsV RX1 47 RX1 yX1_begin wsX1_begin) := goodIn_app (goodIn_of _ (by decide +kernel)) ggX1_begin_X1_begin
set_option maxRecDepth 20000 in
theorem ggX1_begin_X1_bodyFor : GoodIn wsX1_begin wsX1_bodyFor := goodIn_r _ [17, 18, 19, 20, 21, 22, 23, 24, 25, 26, 27, 28, 29, 30, 31, 32, 33, 34, 35, 36, 37, 38] (by decide +kernel) (by decide +kernel)
set_option maxRecDepth 20000 in
theorem gX1_begin_X1_bodyFor : GoodIn wsX1_begin (wsV RX1 44 RX1 yX1_bodyFor wsX1_bodyFor) := goodIn_app (goodIn_of _ (by decide +kernel)) ggX1_begin_X1_bodyFor
theorem dX1_begin_0 : decode cX1_begin 0 = .ok (.iload_n 2, 1) := by decide +kernel
theorem dX1_begin_1 : decode cX1_begin 1 = .ok (.bipush 40, 2) := by decide +kernel
theorem dX1_begin_3 : decode cX1_begin 3 = .ok (.if_icmp .le 5, 3) := by decide +kernel
theorem dX1_begin_6 : decode cX1_begin 6 = .ok (.iconst 0, 1) := by decide +kernel
theorem dX1_begin_7 : decode cX1_begin 7 = .ok (.ireturn, 1) := by decide +kernel
theorem dX1_begin_8 : decode cX1_begin 8 = .ok (.aload_n 0, 1) := by decide +kernel
theorem dX1_begin_9 : decode cX1_begin 9 = .ok (.iload_n 1, 1) := by decide +kernel
theorem dX1_begin_10 : decode cX1_begin 10 = .ok (.invokevirtual 71, 3) := by decide +kernel
theorem dX1_begin_13 : decode cX1_begin 13 = .ok (.iload_n 2, 1) := by decide +kernel
theorem dX1_begin_14 : decode cX1_begin 14 = .ok (.iconst 1, 1) := by decide +kernel
theorem dX1_begin_15 : decode cX1_begin 15 = .ok (.iadd, 1) := by decide +kernel
theorem dX1_begin_16 : decode cX1_begin 16 = .ok (.istore_n 3, 1) := by decide +kernel
theorem dX1_begin_17 : decode cX1_begin 17 = .ok (.iload_n 1, 1) := by decide +kernel
theorem dX1_begin_18 : decode cX1_begin 18 = .ok (.tableswitch 187 10 24 #[74, 79, 98, 107, 118, 187, 187, 187, 187, 187, 128, 133, 146, 158, 177], 74) := by decide +kernel
theorem dX1_begin_92 : decode cX1_begin 92 = .ok (.aload_n 0, 1) := by decide +kernel
theorem dX1_begin_93 : decode cX1_begin 93 = .ok (.getfield 25, 3) := by decide +kernel
theorem dX1_begin_96 : decode cX1_begin 96 = .ok (.ireturn, 1) := by decide +kernel
theorem dX1_begin_97 : decode cX1_begin 97 = .ok (.aload_n 0, 1) := by decide +kernel
theorem dX1_begin_98 : decode cX1_begin 98 = .ok (.bipush 10, 2) := by decide +kernel
theorem dX1_begin_100 : decode cX1_begin 100 = .ok (.iload_n 3, 1) := by decide +kernel
theorem dX1_begin_101 : decode cX1_begin 101 = .ok (.invokevirtual 47, 3) := by decide +kernel
theorem dX1_begin_104 : decode cX1_begin 104 = .ok (.aload_n 0, 1) := by decide +kernel
theorem dX1_begin_105 : decode cX1_begin 105 = .ok (.aload_n 0, 1) := by decide +kernel
theorem dX1_begin_106 : decode cX1_begin 106 = .ok (.iconst 1, 1) := by decide +kernel
theorem dX1_begin_107 : decode cX1_begin 107 = .ok (.invokevirtual 44, 3) := by decide +kernel
theorem dX1_begin_110 : decode cX1_begin 110 = .ok (.iload_n 3, 1) := by decide +kernel
theorem dX1_begin_111 : decode cX1_begin 111 = .ok (.invokevirtual 47, 3) := by decide +kernel
theorem dX1_begin_114 : decode cX1_begin 114 = .ok (.iadd, 1) := by decide +kernel
theorem dX1_begin_115 : decode cX1_begin 115 = .ok (.ireturn, 1) := by decide +kernel
theorem dX1_begin_116 : decode cX1_begin 116 = .ok (.aload_n 0, 1) := by decide +kernel
theorem dX1_begin_117 : decode cX1_begin 117 = .ok (.bipush 11, 2) := by decide +kernel
theorem dX1_begin_119 : decode cX1_begin 119 = .ok (.iload_n 3, 1) := by decide +kernel
theorem dX1_begin_120 : decode cX1_begin 120 = .ok (.invokevirtual 47, 3) := by decide +kernel
theorem dX1_begin_123 : decode cX1_begin 123 = .ok (.ineg, 1) := by decide +kernel
theorem dX1_begin_124 : decode cX1_begin 124 = .ok (.ireturn, 1) := by decide +kernel
theorem dX1_begin_125 : decode cX1_begin 125 = .ok (.aload_n 0, 1) := by decide +kernel
theorem dX1_begin_126 : decode cX1_begin 126 = .ok (.bipush 10, 2) := by decide +kernel
theorem dX1_begin_128 : decode cX1_begin 128 = .ok (.iload_n 3, 1) := by decide +kernel
theorem dX1_begin_129 : decode cX1_begin 129 = .ok (.invokevirtual 47, 3) := by decide +kernel
theorem dX1_begin_132 : decode cX1_begin 132 = .ok (.bipush 100, 2) := by decide +kernel
theorem dX1_begin_134 : decode cX1_begin 134 = .ok (.isub, 1) := by decide +kernel
theorem dX1_begin_135 : decode cX1_begin 135 = .ok (.ireturn, 1) := by decide +kernel
theorem dX1_begin_136 : decode cX1_begin 136 = .ok (.iconst 2, 1) := by decide +kernel
theorem dX1_begin_137 : decode cX1_begin 137 = .ok (.aload_n 0, 1) := by decide +kernel
theorem dX1_begin_138 : decode cX1_begin 138 = .ok (.bipush 11, 2) := by decide +kernel
theorem dX1_begin_140 : decode cX1_begin 140 = .ok (.iload_n 3, 1) := by decide +kernel
theorem dX1_begin_141 : decode cX1_begin 141 = .ok (.invokevirtual 47, 3) := by decide +kernel
theorem dX1_begin_144 : decode cX1_begin 144 = .ok (.imul, 1) := by decide +kernel
theorem dX1_begin_145 : decode cX1_begin 145 = .ok (.ireturn, 1) := by decide +kernel
theorem dX1_begin_146 : decode cX1_begin 146 = .ok (.aload_n 0, 1) := by decide +kernel
theorem dX1_begin_147 : decode cX1_begin 147 = .ok (.getfield 19, 3) := by decide +kernel
theorem dX1_begin_150 : decode cX1_begin 150 = .ok (.ireturn, 1) := by decide +kernel
theorem dX1_begin_151 : decode cX1_begin 151 = .ok (.aload_n 0, 1) := by decide +kernel
theorem dX1_begin_152 : decode cX1_begin 152 = .ok (.bipush 20, 2) := by decide +kernel
theorem dX1_begin_154 : decode cX1_begin 154 = .ok (.iload_n 3, 1) := by decide +kernel
theorem dX1_begin_155 : decode cX1_begin 155 = .ok (.invokevirtual 47, 3) := by decide +kernel
theorem dX1_begin_158 : decode cX1_begin 158 = .ok (.aload_n 0, 1) := by decide +kernel
theorem dX1_begin_159 : decode cX1_begin 159 = .ok (.getfield 28, 3) := by decide +kernel
theorem dX1_begin_162 : decode cX1_begin 162 = .ok (.iadd, 1) := by decide +kernel
theorem dX1_begin_163 : decode cX1_begin 163 = .ok (.ireturn, 1) := by decide +kernel
theorem dX1_begin_164 : decode cX1_begin 164 = .ok (.aload_n 0, 1) := by decide +kernel
theorem dX1_begin_165 : decode cX1_begin 165 = .ok (.bipush 21, 2) := by decide +kernel
theorem dX1_begin_167 : decode cX1_begin 167 = .ok (.iload_n 3, 1) := by decide +kernel
theorem dX1_begin_168 : decode cX1_begin 168 = .ok (.invokevirtual 47, 3) := by decide +kernel
theorem dX1_begin_171 : decode cX1_begin 171 = .ok (.sipush 1000, 3) := by decide +kernel
theorem dX1_begin_174 : decode cX1_begin 174 = .ok (.isub, 1) := by decide +kernel
theorem dX1_begin_175 : decode cX1_begin 175 = .ok (.ireturn, 1) := by decide +kernel
theorem dX1_begin_176 : decode cX1_begin 176 = .ok (.aload_n 0, 1) := by decide +kernel
theorem dX1_begin_177 : decode cX1_begin 177 = .ok (.bipush 20, 2) := by decide +kernel
theorem dX1_begin_179 : decode cX1_begin 179 = .ok (.iload_n 3, 1) := by decide +kernel
theorem dX1_begin_180 : decode cX1_begin 180 = .ok (.invokevirtual 47, 3) := by decide +kernel
theorem dX1_begin_183 : decode cX1_begin 183 = .ok (.aload_n 0, 1) := by decide +kernel
theorem dX1_begin_184 : decode cX1_begin 184 = .ok (.aload_n 0, 1) := by decide +kernel
theorem dX1_begin_185 : decode cX1_begin 185 = .ok (.iconst 0, 1) := by decide +kernel
theorem dX1_begin_186 : decode cX1_begin 186 = .ok (.invokevirtual 44, 3) := by decide +kernel
theorem dX1_begin_189 : decode cX1_begin 189 = .ok (.iload_n 3, 1) := by decide +kernel
theorem dX1_begin_190 : decode cX1_begin 190 = .ok (.invokevirtual 47, 3) := by decide +kernel
theorem dX1_begin_193 : decode cX1_begin 193 = .ok (.isub, 1) := by decide +kernel
theorem dX1_begin_194 : decode cX1_begin 194 = .ok (.ireturn, 1) := by decide +kernel
theorem dX1_begin_195 : decode cX1_begin 195 = .ok (.iconst 2, 1) := by decide +kernel
theorem dX1_begin_196 : decode cX1_begin 196 = .ok (.aload_n 0, 1) := by decide +kernel
theorem dX1_begin_197 : decode cX1_begin 197 = .ok (.bipush 22, 2) := by decide +kernel
theorem dX1_begin_199 : decode cX1_begin 199 = .ok (.iload_n 3, 1) := by decide +kernel
theorem dX1_begin_200 : decode cX1_begin 200 = .ok (.invokevirtual 47, 3) := by decide +kernel
theorem dX1_begin_203 : decode cX1_begin 203 = .ok (.imul, 1) := by decide +kernel
theorem dX1_begin_204 : decode cX1_begin 204 = .ok (.ireturn, 1) := by decide +kernel
theorem dX1_begin_205 : decode cX1_begin 205 = .ok (.iconst 0, 1) := by decide +kernel
theorem dX1_begin_206 : decode cX1_begin 206 = .ok (.ireturn, 1) := by decide +kernel
theorem dX1_note_0 : decode cX1_note 0 = .ok (.aload_n 0, 1) := by decide +kernel
theorem dX1_note_1 : decode cX1_note 1 = .ok (.getfield 15, 3) := by decide +kernel
theorem dX1_note_4 : decode cX1_note 4 = .ok (.bipush 16, 2) := by decide +kernel
theorem dX1_note_6 : decode cX1_note 6 = .ok (.if_icmp .ge 23, 3) := by decide +kernel
theorem dX1_note_9 : decode cX1_note 9 = .ok (.aload_n 0, 1) := by decide +kernel
theorem dX1_note_10 : decode cX1_note 10 = .ok (.getfield 11, 3) := by decide +kernel
theorem dX1_note_13 : decode cX1_note 13 = .ok (.aload_n 0, 1) := by decide +kernel
theorem dX1_note_14 : decode cX1_note 14 = .ok (.getfield 15, 3) := by decide +kernel
theorem dX1_note_17 : decode cX1_note 17 = .ok (.iload_n 1, 1) := by decide +kernel
theorem dX1_note_18 : decode cX1_note 18 = .ok (.iastore, 1) := by decide +kernel
theorem dX1_note_19 : decode cX1_note 19 = .ok (.aload_n 0, 1) := by decide +kernel
theorem dX1_note_20 : decode cX1_note 20 = .ok (.dup, 1) := by decide +kernel
theorem dX1_note_21 : decode cX1_note 21 = .ok (.getfield 15, 3) := by decide +kernel
theorem dX1_note_24 : decode cX1_note 24 = .ok (.iconst 1, 1) := by decide +kernel
theorem dX1_note_25 : decode cX1_note 25 = .ok (.iadd, 1) := by decide +kernel
theorem dX1_note_26 : decode cX1_note 26 = .ok (.putfield 15, 3) := by decide +kernel
theorem dX1_note_29 : decode cX1_note 29 = .ok (.return_, 1) := by decide +kernel
theorem dX2_init_0 : decode cX2_init 0 = .ok (.aload_n 0, 1) := by decide +kernel
theorem dX2_init_1 : decode cX2_init 1 = .ok (.invokespecial 3, 3) := by decide +kernel
theorem dX2_init_4 : decode cX2_init 4 = .ok (.aload_n 0, 1) := by decide +kernel
theorem dX2_init_5 : decode cX2_init 5 = .ok (.bipush 6, 2) := by decide +kernel
theorem dX2_init_7 : decode cX2_init 7 = .ok (.newarray .int, 2) := by decide +kernel
theorem dX2_init_9 : decode cX2_init 9 = .ok (.putfield 11, 3) := by decide +kernel
theorem dX2_init_12 : decode cX2_init 12 = .ok (.aload_n 0, 1) := by decide +kernel
theorem dX2_init_13 : decode cX2_init 13 = .ok (.bipush 6, 2) := by decide +kernel
theorem dX2_init_15 : decode cX2_init 15 = .ok (.newarray .int, 2) := by decide +kernel
theorem dX2_init_17 : decode cX2_init 17 = .ok (.putfield 17, 3) := by decide +kernel
theorem dX2_init_20 : decode cX2_init 20 = .ok (.aload_n 0, 1) := by decide +kernel
theorem dX2_init_21 : decode cX2_init 21 = .ok (.iconst 0, 1) := by decide +kernel
theorem dX2_init_22 : decode cX2_init 22 = .ok (.putfield 20, 3) := by decide +kernel
theorem dX2_init_25 : decode cX2_init 25 = .ok (.aload_n 0, 1) := by decide +kernel
theorem dX2_init_26 : decode cX2_init 26 = .ok (.ldc 24, 2) := by decide +kernel
theorem dX2_init_28 : decode cX2_init 28 = .ok (.putfield 25, 3) := by decide +kernel
theorem dX2_init_31 : decode cX2_init 31 = .ok (.return_, 1) := by decide +kernel
set_option maxRecDepth 20000 in
theorem ggX2_plan_J6_bitCount_0f7a4 : GoodIn wsX2_plan wsJ6_bitCount_0f7a4 := goodIn_r _ [7, 8, 9, 10] (by decide +kernel) (by decide +kernel)
set_option maxRecDepth 20000 in
theorem gX2_plan_J6_bitCount_0f7a4 : GoodIn wsX2_plan (va_wsS RX2 28 yJ6_bitCount_0f7a4 wsJ6_bitCount_0f7a4) := goodIn_app (goodIn_of _ (by decide +kernel)) ggX2_plan_J6_bitCount_0f7a4
set_option maxRecDepth 20000 in
theorem ggX2_plan_X2_goOn : GoodIn wsX2_plan wsX2_goOn := goodIn_r _ [15, 1, 16, 17, 2, 18, 19, 20, 21, 22, 23, 24, 25, 26, 27, 28, 29, 14, 30, 3, 31, 32, 33, 34, 35, 11, 12, 13, 36, 37, 38, 39, 40, 41, 42, 43, 44, 45, 46, 47] (by decide +kernel) (by decide +kernel)
set_option maxRecDepth 20000 in
theorem gX2_plan_X2_goOn : GoodIn wsX2_plan (wsV RX2 34 RX2 yX2_goOn wsX2_goOn) := goodIn_app (goodIn_of _ (by decide +kernel)) ggX2_plan_X2_goOn
theorem dX2_plan_0 : decode cX2_plan 0 = .ok (.aload_n 0, 1) := by decide +kernel
theorem dX2_plan_1 : decode cX2_plan 1 = .ok (.iload_n 2, 1) := by decide +kernel
theorem dX2_plan_2 : decode cX2_plan 2 = .ok (.invokestatic 28, 3) := by decide +kernel
theorem dX2_plan_5 : decode cX2_plan 5 = .ok (.putfield 20, 3) := by decide +kernel
theorem dX2_plan_8 : decode cX2_plan 8 = .ok (.aload_n 0, 1) := by decide +kernel
theorem dX2_plan_9 : decode cX2_plan 9 = .ok (.ldc 24, 2) := by decide +kernel
theorem dX2_plan_11 : decode cX2_plan 11 = .ok (.putfield 25, 3) := by decide +kernel
theorem dX2_plan_14 : decode cX2_plan 14 = .ok (.aload_n 0, 1) := by decide +kernel
theorem dX2_plan_15 : decode cX2_plan 15 = .ok (.aload_n 1, 1) := by decide +kernel
theorem dX2_plan_16 : decode cX2_plan 16 = .ok (.iload_n 2, 1) := by decide +kernel
theorem dX2_plan_17 : decode cX2_plan 17 = .ok (.iconst 0, 1) := by decide +kernel
theorem dX2_plan_18 : decode cX2_plan 18 = .ok (.iconst 0, 1) := by decide +kernel
theorem dX2_plan_19 : decode cX2_plan 19 = .ok (.iconst 0, 1) := by decide +kernel
theorem dX2_plan_20 : decode cX2_plan 20 = .ok (.invokevirtual 34, 3) := by decide +kernel
theorem dX2_plan_23 : decode cX2_plan 23 = .ok (.aload_n 0, 1) := by decide +kernel
theorem dX2_plan_24 : decode cX2_plan 24 = .ok (.getfield 25, 3) := by decide +kernel
theorem dX2_plan_27 : decode cX2_plan 27 = .ok (.ireturn, 1) := by decide +kernel
set_option maxRecDepth 20000 in
theorem ggX2_stop_X8_outside : GoodIn wsX2_stop wsX8_outside := goodIn_r _ [6] (by decide +kernel) (by decide +kernel)
set_option maxRecDepth 20000 in
theorem gX2_stop_X8_outside_n38 : GoodIn wsX2_stop (wsX8_outside) := ggX2_stop_X8_outside
theorem dX2_stop_0 : decode cX2_stop 0 = .ok (.iload_n 1, 1) := by decide +kernel
theorem dX2_stop_1 : decode cX2_stop 1 = .ok (.iconst 0, 1) := by decide +kernel
theorem dX2_stop_2 : decode cX2_stop 2 = .ok (.aload_n 0, 1) := by decide +kernel
theorem dX2_stop_3 : decode cX2_stop 3 = .ok (.getfield 20, 3) := by decide +kernel
theorem dX2_stop_6 : decode cX2_stop 6 = .ok (.iconst 1, 1) := by decide +kernel
theorem dX2_stop_7 : decode cX2_stop 7 = .ok (.isub, 1) := by decide +kernel
theorem dX2_stop_8 : decode cX2_stop 8 = .ok (.invokestatic 38, 3) := by decide +kernel
theorem dX2_stop_11 : decode cX2_stop 11 = .ok (.ifCond .eq 8, 3) := by decide +kernel
theorem dX2_stop_14 : decode cX2_stop 14 = .ok (.ldc 24, 2) := by decide +kernel
theorem dX2_stop_16 : decode cX2_stop 16 = .ok (.goto 9, 3) := by decide +kernel
theorem dX2_stop_19 : decode cX2_stop 19 = .ok (.aload_n 0, 1) := by decide +kernel
theorem dX2_stop_20 : decode cX2_stop 20 = .ok (.getfield 11, 3) := by decide +kernel
theorem dX2_stop_23 : decode cX2_stop 23 = .ok (.iload_n 1, 1) := by decide +kernel
theorem dX2_stop_24 : decode cX2_stop 24 = .ok (.iaload, 1) := by decide +kernel
theorem dX2_stop_25 : decode cX2_stop 25 = .ok (.ireturn, 1) := by decide +kernel
set_option maxRecDepth 20000 in
theorem ggX2_goOn_X5_distance : GoodIn wsX2_goOn wsX5_distance := goodIn_r _ [10, 11, 12, 13, 32, 33, 34, 35, 36, 37, 38, 39] (by decide +kernel) (by decide +kernel)
set_option maxRecDepth 20000 in
theorem gX2_goOn_X5_distance : GoodIn wsX2_goOn (wsV RX2 42 RX5 yX5_distance wsX5_distance) := goodIn_app (goodIn_of _ (by decide +kernel)) ggX2_goOn_X5_distance
set_option maxRecDepth 20000 in
theorem ggX2_goOn_X2_comeHome : GoodIn wsX2_goOn wsX2_comeHome := goodIn_r _ [18, 4, 19, 5, 20, 21, 22, 23, 24, 28, 29, 30, 31] (by decide +kernel) (by decide +kernel)
set_option maxRecDepth 20000 in
theorem gX2_goOn_X2_comeHome : GoodIn wsX2_goOn (wsV RX2 46 RX2 yX2_comeHome wsX2_comeHome) := goodIn_app (goodIn_of _ (by decide +kernel)) ggX2_goOn_X2_comeHome
set_option maxRecDepth 20000 in
theorem ggX2_goOn_X2_goOn : GoodIn wsX2_goOn wsX2_goOn := goodIn_r _ [0, 1, 2, 3, 4, 5, 6, 7, 8, 9, 10, 11, 12, 13, 14, 15, 16, 17, 18, 19, 20, 21, 22, 23, 24, 25, 26, 27, 28, 29, 30, 31, 32, 33, 34, 35, 36, 37, 38, 39] (by decide +kernel) (by decide +kernel)
set_option maxRecDepth 20000 in
theorem gX2_goOn_X2_goOn : GoodIn wsX2_goOn (wsV RX2 34 RX2 yX2_goOn wsX2_goOn) := goodIn_app (goodIn_of _ (by decide +kernel)) ggX2_goOn_X2_goOn
theorem dX2_goOn_0 : decode cX2_goOn 0 = .ok (.iload 5, 2) := by decide +kernel
theorem dX2_goOn_2 : decode cX2_goOn 2 = .ok (.aload_n 0, 1) := by decide +kernel
theorem dX2_goOn_3 : decode cX2_goOn 3 = .ok (.getfield 20, 3) := by decide +kernel
theorem dX2_goOn_6 : decode cX2_goOn 6 = .ok (.if_icmp .ge 10, 3) := by decide +kernel
theorem dX2_goOn_9 : decode cX2_goOn 9 = .ok (.iload 5, 2) := by decide +kernel
theorem dX2_goOn_11 : decode cX2_goOn 11 = .ok (.bipush 6, 2) := by decide +kernel
theorem dX2_goOn_13 : decode cX2_goOn 13 = .ok (.if_icmp .lt 16, 3) := by decide +kernel
theorem dX2_goOn_16 : decode cX2_goOn 16 = .ok (.aload_n 0, 1) := by decide +kernel
theorem dX2_goOn_17 : decode cX2_goOn 17 = .ok (.iload 4, 2) := by decide +kernel
theorem dX2_goOn_19 : decode cX2_goOn 19 = .ok (.aload_n 1, 1) := by decide +kernel
theorem dX2_goOn_20 : decode cX2_goOn 20 = .ok (.iload_n 3, 1) := by decide +kernel
theorem dX2_goOn_21 : decode cX2_goOn 21 = .ok (.iconst 0, 1) := by decide +kernel
theorem dX2_goOn_22 : decode cX2_goOn 22 = .ok (.invokevirtual 42, 3) := by decide +kernel
theorem dX2_goOn_25 : decode cX2_goOn 25 = .ok (.invokevirtual 46, 3) := by decide +kernel
theorem dX2_goOn_28 : decode cX2_goOn 28 = .ok (.return_, 1) := by decide +kernel
theorem dX2_goOn_29 : decode cX2_goOn 29 = .ok (.iconst 0, 1) := by decide +kernel
theorem dX2_goOn_30 : decode cX2_goOn 30 = .ok (.istore 6, 2) := by decide +kernel
theorem dX2_goOn_32 : decode cX2_goOn 32 = .ok (.iload 6, 2) := by decide +kernel
theorem dX2_goOn_34 : decode cX2_goOn 34 = .ok (.aload_n 1, 1) := by decide +kernel
theorem dX2_goOn_35 : decode cX2_goOn 35 = .ok (.getfield 50, 3) := by decide +kernel
theorem dX2_goOn_38 : decode cX2_goOn 38 = .ok (.if_icmp .ge 78, 3) := by decide +kernel
theorem dX2_goOn_41 : decode cX2_goOn 41 = .ok (.aload_n 1, 1) := by decide +kernel
theorem dX2_goOn_42 : decode cX2_goOn 42 = .ok (.iload_n 3, 1) := by decide +kernel
theorem dX2_goOn_43 : decode cX2_goOn 43 = .ok (.aload_n 1, 1) := by decide +kernel
theorem dX2_goOn_44 : decode cX2_goOn 44 = .ok (.getfield 53, 3) := by decide +kernel
theorem dX2_goOn_47 : decode cX2_goOn 47 = .ok (.iload 6, 2) := by decide +kernel
theorem dX2_goOn_49 : decode cX2_goOn 49 = .ok (.iaload, 1) := by decide +kernel
theorem dX2_goOn_50 : decode cX2_goOn 50 = .ok (.invokevirtual 42, 3) := by decide +kernel
theorem dX2_goOn_53 : decode cX2_goOn 53 = .ok (.istore 7, 2) := by decide +kernel
theorem dX2_goOn_55 : decode cX2_goOn 55 = .ok (.iload_n 2, 1) := by decide +kernel
theorem dX2_goOn_56 : decode cX2_goOn 56 = .ok (.iload 6, 2) := by decide +kernel
theorem dX2_goOn_58 : decode cX2_goOn 58 = .ok (.ishr, 1) := by decide +kernel
theorem dX2_goOn_59 : decode cX2_goOn 59 = .ok (.iconst 1, 1) := by decide +kernel
theorem dX2_goOn_60 : decode cX2_goOn 60 = .ok (.iand, 1) := by decide +kernel
theorem dX2_goOn_61 : decode cX2_goOn 61 = .ok (.iconst 1, 1) := by decide +kernel
theorem dX2_goOn_62 : decode cX2_goOn 62 = .ok (.if_icmp .ne 48, 3) := by decide +kernel
theorem dX2_goOn_65 : decode cX2_goOn 65 = .ok (.iload 7, 2) := by decide +kernel
theorem dX2_goOn_67 : decode cX2_goOn 67 = .ok (.ldc 24, 2) := by decide +kernel
theorem dX2_goOn_69 : decode cX2_goOn 69 = .ok (.if_icmp .eq 41, 3) := by decide +kernel
theorem dX2_goOn_72 : decode cX2_goOn 72 = .ok (.aload_n 0, 1) := by decide +kernel
theorem dX2_goOn_73 : decode cX2_goOn 73 = .ok (.getfield 17, 3) := by decide +kernel
theorem dX2_goOn_76 : decode cX2_goOn 76 = .ok (.iload 5, 2) := by decide +kernel
theorem dX2_goOn_78 : decode cX2_goOn 78 = .ok (.iload 6, 2) := by decide +kernel
theorem dX2_goOn_80 : decode cX2_goOn 80 = .ok (.iastore, 1) := by decide +kernel
theorem dX2_goOn_81 : decode cX2_goOn 81 = .ok (.aload_n 0, 1) := by decide +kernel
theorem dX2_goOn_82 : decode cX2_goOn 82 = .ok (.aload_n 1, 1) := by decide +kernel
theorem dX2_goOn_83 : decode cX2_goOn 83 = .ok (.iload_n 2, 1) := by decide +kernel
theorem dX2_goOn_84 : decode cX2_goOn 84 = .ok (.iconst 1, 1) := by decide +kernel
theorem dX2_goOn_85 : decode cX2_goOn 85 = .ok (.iload 6, 2) := by decide +kernel
theorem dX2_goOn_87 : decode cX2_goOn 87 = .ok (.ishl, 1) := by decide +kernel
theorem dX2_goOn_88 : decode cX2_goOn 88 = .ok (.iconst (-1), 1) := by decide +kernel
theorem dX2_goOn_89 : decode cX2_goOn 89 = .ok (.ixor, 1) := by decide +kernel
theorem dX2_goOn_90 : decode cX2_goOn 90 = .ok (.iand, 1) := by decide +kernel
theorem dX2_goOn_91 : decode cX2_goOn 91 = .ok (.aload_n 1, 1) := by decide +kernel
theorem dX2_goOn_92 : decode cX2_goOn 92 = .ok (.getfield 53, 3) := by decide +kernel
theorem dX2_goOn_95 : decode cX2_goOn 95 = .ok (.iload 6, 2) := by decide +kernel
theorem dX2_goOn_97 : decode cX2_goOn 97 = .ok (.iaload, 1) := by decide +kernel
theorem dX2_goOn_98 : decode cX2_goOn 98 = .ok (.iload 4, 2) := by decide +kernel
theorem dX2_goOn_100 : decode cX2_goOn 100 = .ok (.iload 7, 2) := by decide +kernel
theorem dX2_goOn_102 : decode cX2_goOn 102 = .ok (.iadd, 1) := by decide +kernel
theorem dX2_goOn_103 : decode cX2_goOn 103 = .ok (.iload 5, 2) := by decide +kernel
theorem dX2_goOn_105 : decode cX2_goOn 105 = .ok (.iconst 1, 1) := by decide +kernel
theorem dX2_goOn_106 : decode cX2_goOn 106 = .ok (.iadd, 1) := by decide +kernel
theorem dX2_goOn_107 : decode cX2_goOn 107 = .ok (.invokevirtual 34, 3) := by decide +kernel
theorem dX2_goOn_110 : decode cX2_goOn 110 = .ok (.iinc 6 1, 3) := by decide +kernel
theorem dX2_goOn_113 : decode cX2_goOn 113 = .ok (.goto (-81), 3) := by decide +kernel
theorem dX2_goOn_116 : decode cX2_goOn 116 = .ok (.return_, 1) := by decide +kernel
theorem dX2_comeHome_0 : decode cX2_comeHome 0 = .ok (.iload_n 2, 1) := by decide +kernel
theorem dX2_comeHome_1 : decode cX2_comeHome 1 = .ok (.ldc 24, 2) := by decide +kernel
theorem dX2_comeHome_3 : decode cX2_comeHome 3 = .ok (.if_icmp .eq 44, 3) := by decide +kernel
theorem dX2_comeHome_6 : decode cX2_comeHome 6 = .ok (.aload_n 0, 1) := by decide +kernel
theorem dX2_comeHome_7 : decode cX2_comeHome 7 = .ok (.getfield 25, 3) := by decide +kernel
theorem dX2_comeHome_10 : decode cX2_comeHome 10 = .ok (.ldc 24, 2) := by decide +kernel
theorem dX2_comeHome_12 : decode cX2_comeHome 12 = .ok (.if_icmp .eq 13, 3) := by decide +kernel
theorem dX2_comeHome_15 : decode cX2_comeHome 15 = .ok (.iload_n 1, 1) := by decide +kernel
theorem dX2_comeHome_16 : decode cX2_comeHome 16 = .ok (.iload_n 2, 1) := by decide +kernel
theorem dX2_comeHome_17 : decode cX2_comeHome 17 = .ok (.iadd, 1) := by decide +kernel
theorem dX2_comeHome_18 : decode cX2_comeHome 18 = .ok (.aload_n 0, 1) := by decide +kernel
theorem dX2_comeHome_19 : decode cX2_comeHome 19 = .ok (.getfield 25, 3) := by decide +kernel
theorem dX2_comeHome_22 : decode cX2_comeHome 22 = .ok (.if_icmp .ge 25, 3) := by decide +kernel
theorem dX2_comeHome_25 : decode cX2_comeHome 25 = .ok (.aload_n 0, 1) := by decide +kernel
theorem dX2_comeHome_26 : decode cX2_comeHome 26 = .ok (.iload_n 1, 1) := by decide +kernel
theorem dX2_comeHome_27 : decode cX2_comeHome 27 = .ok (.iload_n 2, 1) := by decide +kernel
theorem dX2_comeHome_28 : decode cX2_comeHome 28 = .ok (.iadd, 1) := by decide +kernel
theorem dX2_comeHome_29 : decode cX2_comeHome 29 = .ok (.putfield 25, 3) := by decide +kernel
theorem dX2_comeHome_32 : decode cX2_comeHome 32 = .ok (.aload_n 0, 1) := by decide +kernel
theorem dX2_comeHome_33 : decode cX2_comeHome 33 = .ok (.getfield 17, 3) := by decide +kernel
theorem dX2_comeHome_36 : decode cX2_comeHome 36 = .ok (.iconst 0, 1) := by decide +kernel
theorem dX2_comeHome_37 : decode cX2_comeHome 37 = .ok (.aload_n 0, 1) := by decide +kernel
theorem dX2_comeHome_38 : decode cX2_comeHome 38 = .ok (.getfield 11, 3) := by decide +kernel
theorem dX2_comeHome_41 : decode cX2_comeHome 41 = .ok (.iconst 0, 1) := by decide +kernel
theorem dX2_comeHome_42 : decode cX2_comeHome 42 = .ok (.bipush 6, 2) := by decide +kernel
theorem dX2_comeHome_44 : decode cX2_comeHome 44 = .ok (.invokestatic 56, 3) := by decide +kernel
theorem dX2_comeHome_47 : decode cX2_comeHome 47 = .ok (.return_, 1) := by decide +kernel
set_option maxRecDepth 20000 in
theorem ggX3_nextOf_X8_outside : GoodIn wsX3_nextOf wsX8_outside := goodIn_r _ [4] (by decide +kernel) (by decide +kernel)
set_option maxRecDepth 20000 in
theorem gX3_nextOf_X8_outside_n9 : GoodIn wsX3_nextOf (wsX8_outside) := ggX3_nextOf_X8_outside
theorem dX3_nextOf_0 : decode cX3_nextOf 0 = .ok (.iload_n 0, 1) := by decide +kernel
theorem dX3_nextOf_1 : decode cX3_nextOf 1 = .ok (.iconst 0, 1) := by decide +kernel
theorem dX3_nextOf_2 : decode cX3_nextOf 2 = .ok (.iconst 5, 1) := by decide +kernel
theorem dX3_nextOf_3 : decode cX3_nextOf 3 = .ok (.invokestatic 9, 3) := by decide +kernel
theorem dX3_nextOf_6 : decode cX3_nextOf 6 = .ok (.ifCond .eq 7, 3) := by decide +kernel
theorem dX3_nextOf_9 : decode cX3_nextOf 9 = .ok (.iconst (-1), 1) := by decide +kernel
theorem dX3_nextOf_10 : decode cX3_nextOf 10 = .ok (.goto 8, 3) := by decide +kernel
theorem dX3_nextOf_13 : decode cX3_nextOf 13 = .ok (.getstatic 15, 3) := by decide +kernel
theorem dX3_nextOf_16 : decode cX3_nextOf 16 = .ok (.iload_n 0, 1) := by decide +kernel
theorem dX3_nextOf_17 : decode cX3_nextOf 17 = .ok (.iaload, 1) := by decide +kernel
theorem dX3_nextOf_18 : decode cX3_nextOf 18 = .ok (.ireturn, 1) := by decide +kernel
set_option maxRecDepth 20000 in
theorem ggX3_isOne_X3_nextOf : GoodIn wsX3_isOne wsX3_nextOf := goodIn_r _ [4, 5, 6, 7, 8] (by decide +kernel) (by decide +kernel)
set_option maxRecDepth 20000 in
theorem gX3_isOne_X3_nextOf : GoodIn wsX3_isOne (va_wsS RX3 19 yX3_nextOf wsX3_nextOf) := goodIn_app (goodIn_of _ (by decide +kernel)) ggX3_isOne_X3_nextOf
theorem dX3_isOne_0 : decode cX3_isOne 0 = .ok (.iload_n 0, 1) := by decide +kernel
theorem dX3_isOne_1 : decode cX3_isOne 1 = .ok (.istore_n 2, 1) := by decide +kernel
theorem dX3_isOne_2 : decode cX3_isOne 2 = .ok (.iconst 0, 1) := by decide +kernel
theorem dX3_isOne_3 : decode cX3_isOne 3 = .ok (.istore_n 3, 1) := by decide +kernel
theorem dX3_isOne_4 : decode cX3_isOne 4 = .ok (.iload_n 3, 1) := by decide +kernel
theorem dX3_isOne_5 : decode cX3_isOne 5 = .ok (.iconst 5, 1) := by decide +kernel
theorem dX3_isOne_6 : decode cX3_isOne 6 = .ok (.if_icmp .gt 26, 3) := by decide +kernel
theorem dX3_isOne_9 : decode cX3_isOne 9 = .ok (.iload_n 2, 1) := by decide +kernel
theorem dX3_isOne_10 : decode cX3_isOne 10 = .ok (.iconst (-1), 1) := by decide +kernel
theorem dX3_isOne_11 : decode cX3_isOne 11 = .ok (.if_icmp .eq 21, 3) := by decide +kernel
theorem dX3_isOne_14 : decode cX3_isOne 14 = .ok (.iload_n 2, 1) := by decide +kernel
theorem dX3_isOne_15 : decode cX3_isOne 15 = .ok (.iload_n 1, 1) := by decide +kernel
theorem dX3_isOne_16 : decode cX3_isOne 16 = .ok (.if_icmp .ne 5, 3) := by decide +kernel
theorem dX3_isOne_19 : decode cX3_isOne 19 = .ok (.iconst 1, 1) := by decide +kernel
theorem dX3_isOne_20 : decode cX3_isOne 20 = .ok (.ireturn, 1) := by decide +kernel
theorem dX3_isOne_21 : decode cX3_isOne 21 = .ok (.iload_n 2, 1) := by decide +kernel
theorem dX3_isOne_22 : decode cX3_isOne 22 = .ok (.invokestatic 19, 3) := by decide +kernel
theorem dX3_isOne_25 : decode cX3_isOne 25 = .ok (.istore_n 2, 1) := by decide +kernel
theorem dX3_isOne_26 : decode cX3_isOne 26 = .ok (.iinc 3 1, 3) := by decide +kernel
theorem dX3_isOne_29 : decode cX3_isOne 29 = .ok (.goto (-25), 3) := by decide +kernel
theorem dX3_isOne_32 : decode cX3_isOne 32 = .ok (.iconst 0, 1) := by decide +kernel
theorem dX3_isOne_33 : decode cX3_isOne 33 = .ok (.ireturn, 1) := by decide +kernel
set_option maxRecDepth 20000 in
theorem ggX4_init_X7_init : GoodIn wsX4_init wsX7_init := goodIn_r _ [12, 13, 2, 3, 14, 15, 16, 17, 18, 19, 20, 21, 22, 23, 24, 25, 26] (by decide +kernel) (by decide +kernel)
set_option maxRecDepth 20000 in
theorem gX4_init_X7_init_n9 : GoodIn wsX4_init (wsX7_init) := ggX4_init_X7_init
theorem dX4_init_0 : decode cX4_init 0 = .ok (.aload_n 0, 1) := by decide +kernel
theorem dX4_init_1 : decode cX4_init 1 = .ok (.invokespecial 1, 3) := by decide +kernel
theorem dX4_init_4 : decode cX4_init 4 = .ok (.aload_n 0, 1) := by decide +kernel
theorem dX4_init_5 : decode cX4_init 5 = .ok (.new 7, 3) := by decide +kernel
theorem dX4_init_8 : decode cX4_init 8 = .ok (.dup, 1) := by decide +kernel
theorem dX4_init_9 : decode cX4_init 9 = .ok (.invokespecial 9, 3) := by decide +kernel
theorem dX4_init_12 : decode cX4_init 12 = .ok (.putfield 10, 3) := by decide +kernel
theorem dX4_init_15 : decode cX4_init 15 = .ok (.aload_n 0, 1) := by decide +kernel
theorem dX4_init_16 : decode cX4_init 16 = .ok (.iconst 0, 1) := by decide +kernel
theorem dX4_init_17 : decode cX4_init 17 = .ok (.putfield 16, 3) := by decide +kernel
theorem dX4_init_20 : decode cX4_init 20 = .ok (.aload_n 0, 1) := by decide +kernel
theorem dX4_init_21 : decode cX4_init 21 = .ok (.iconst 0, 1) := by decide +kernel
theorem dX4_init_22 : decode cX4_init 22 = .ok (.putfield 20, 3) := by decide +kernel
theorem dX4_init_25 : decode cX4_init 25 = .ok (.aload_n 0, 1) := by decide +kernel
theorem dX4_init_26 : decode cX4_init 26 = .ok (.iconst 0, 1) := by decide +kernel
theorem dX4_init_27 : decode cX4_init 27 = .ok (.putfield 23, 3) := by decide +kernel
theorem dX4_init_30 : decode cX4_init 30 = .ok (.return_, 1) := by decide +kernel
set_option maxRecDepth 20000 in
theorem ggX4_read_X5_clear : GoodIn wsX4_read wsX5_clear := goodIn_r _ [8, 9, 10, 11, 12, 13, 14, 15, 16, 17, 18, 19, 184, 185, 186, 187, 188, 189, 190, 191] (by decide +kernel) (by decide +kernel)
set_option maxRecDepth 20000 in
theorem gX4_read_X5_clear : GoodIn wsX4_read (wsV RX4 26 RX5 yX5_clear wsX5_clear) := goodIn_app (goodIn_of _ (by decide +kernel)) ggX4_read_X5_clear
set_option maxRecDepth 20000 in
theorem ggX4_read_X7_rewind : GoodIn wsX4_read wsX7_rewind := goodIn_r _ [24, 25, 26, 27, 28, 23, 29, 30, 31, 32, 33, 34, 35, 36, 37, 38, 39, 40, 41, 42, 178, 179, 180, 181, 182, 183] (by decide +kernel) (by decide +kernel)
set_option maxRecDepth 20000 in
theorem gX4_read_X7_rewind : GoodIn wsX4_read (wsV RX4 31 RX7 yX7_rewind wsX7_rewind) := goodIn_app (goodIn_of _ (by decide +kernel)) ggX4_read_X7_rewind
set_option maxRecDepth 20000 in
theorem ggX4_read_X4_readLaw : GoodIn wsX4_read wsX4_readLaw := goodIn_r _ [47, 1, 48, 49, 50, 51, 52, 23, 53, 32, 25, 30, 37, 54, 55, 56, 57, 58, 59, 60, 61, 62, 63, 64, 65, 66, 67, 68, 69, 70, 71, 72, 73, 74, 75, 76, 77, 78, 79, 80, 81, 82, 83, 84, 85, 86, 87, 88, 89, 90, 91, 92, 93, 94, 95, 96, 97, 98, 99, 100, 101, 102, 103, 104, 105, 46, 106, 107, 108, 109, 110, 27, 28, 29, 31, 33, 34, 35, 36, 38, 39, 40, 41, 42, 111, 112, 113, 114, 2, 115, 116, 117, 118, 119, 120, 121, 122, 174, 175, 176, 177, 184, 185, 186, 187, 188, 189, 190, 191, 178, 179, 180, 181, 182, 183] (by decide +kernel) (by decide +kernel)
set_option maxRecDepth 20000 in
theorem gX4_read_X4_readLaw : GoodIn wsX4_read (wsV RX4 34 RX4 yX4_readLaw wsX4_readLaw) := goodIn_app (goodIn_of _ (by decide +kernel)) ggX4_read_X4_readLaw
set_option maxRecDepth 20000 in
theorem ggX4_read_X4_readRoads : GoodIn wsX4_read wsX4_readRoads := goodIn_r _ [126, 1, 50, 51, 52, 23, 53, 32, 25, 30, 37, 54, 55, 56, 57, 58, 59, 60, 61, 62, 63, 64, 65, 66, 67, 68, 69, 70, 71, 72, 73, 74, 75, 76, 77, 78, 79, 80, 81, 82, 83, 84, 85, 86, 87, 88, 89, 90, 91, 92, 93, 94, 95, 96, 97, 98, 99, 100, 101, 102, 103, 104, 105, 46, 106, 107, 108, 109, 110, 27, 28, 29, 31, 33, 34, 35, 36, 38, 39, 40, 41, 42, 127, 128, 129, 130, 48, 2, 115, 111, 112, 113, 114, 116, 117, 118, 131, 132, 133, 7, 134, 9, 135, 136, 137, 138, 119, 120, 121, 122, 174, 175, 176, 177, 178, 179, 180, 181, 182, 183, 184, 185, 186, 187, 188, 189, 190, 191] (by decide +kernel) (by decide +kernel)
set_option maxRecDepth 20000 in
theorem gX4_read_X4_readRoads : GoodIn wsX4_read (wsV RX4 38 RX4 yX4_readRoads wsX4_readRoads) := goodIn_app (goodIn_of _ (by decide +kernel)) ggX4_read_X4_readRoads
set_option maxRecDepth 20000 in
theorem ggX4_read_X4_readHolders : GoodIn wsX4_read wsX4_readHolders := goodIn_r _ [142, 1, 48, 50, 51, 52, 23, 53, 32, 25, 30, 37, 54, 55, 56, 57, 58, 59, 60, 61, 62, 63, 64, 65, 66, 67, 68, 69, 70, 71, 72, 73, 74, 75, 76, 77, 78, 79, 80, 81, 82, 83, 84, 85, 86, 87, 88, 89, 90, 91, 92, 93, 94, 95, 96, 97, 98, 99, 100, 101, 102, 103, 104, 105, 46, 106, 107, 108, 109, 110, 27, 28, 29, 31, 33, 34, 35, 36, 38, 39, 40, 41, 42, 111, 112, 113, 114, 2, 115, 116, 117, 118, 143, 144, 145, 7, 146, 14, 147, 119, 120, 121, 122, 174, 175, 176, 177, 178, 179, 180, 181, 182, 183, 184, 185, 186, 187, 188, 189, 190, 191] (by decide +kernel) (by decide +kernel)
set_option maxRecDepth 20000 in
theorem gX4_read_X4_readHolders : GoodIn wsX4_read (wsV RX4 41 RX4 yX4_readHolders wsX4_readHolders) := goodIn_app (goodIn_of _ (by decide +kernel)) ggX4_read_X4_readHolders
set_option maxRecDepth 20000 in
theorem ggX4_read_X4_readCoins : GoodIn wsX4_read wsX4_readCoins := goodIn_r _ [151, 1, 50, 51, 52, 23, 53, 32, 25, 30, 37, 54, 55, 56, 57, 58, 59, 60, 61, 62, 63, 64, 65, 66, 67, 68, 69, 70, 71, 72, 73, 74, 75, 76, 77, 78, 79, 80, 81, 82, 83, 84, 85, 86, 87, 88, 89, 90, 91, 92, 93, 94, 95, 96, 97, 98, 99, 100, 101, 102, 103, 104, 105, 46, 106, 107, 108, 109, 110, 27, 28, 29, 31, 33, 34, 35, 36, 38, 39, 40, 41, 42, 152, 153, 154, 155, 156, 48, 157, 158, 159, 160, 111, 112, 113, 114, 2, 115, 116, 117, 118, 161, 162, 163, 7, 164, 15, 165, 166, 167, 168, 169, 11, 119, 120, 121, 122, 174, 175, 176, 177, 178, 179, 180, 181, 182, 183, 184, 185, 186, 187, 188, 189, 190, 191] (by decide +kernel) (by decide +kernel)
set_option maxRecDepth 20000 in
theorem gX4_read_X4_readCoins : GoodIn wsX4_read (wsV RX4 44 RX4 yX4_readCoins wsX4_readCoins) := goodIn_app (goodIn_of _ (by decide +kernel)) ggX4_read_X4_readCoins
set_option maxRecDepth 20000 in
theorem ggX4_read_X4_faulty : GoodIn wsX4_read wsX4_faulty := goodIn_r _ [106, 107, 1, 108, 109, 174, 175, 176, 177, 178, 179, 180, 181, 182, 183] (by decide +kernel) (by decide +kernel)
set_option maxRecDepth 20000 in
theorem gX4_read_X4_faulty : GoodIn wsX4_read (wsV RX4 50 RX4 yX4_faulty wsX4_faulty) := goodIn_app (goodIn_of _ (by decide +kernel)) ggX4_read_X4_faulty
set_option maxRecDepth 20000 in
theorem ggX4_read_X5_shortenWays : GoodIn wsX4_read wsX5_shortenWays := goodIn_r _ [173, 9, 135, 136, 137, 138, 184, 185, 186, 187, 188, 189, 190, 191] (by decide +kernel) (by decide +kernel)
set_option maxRecDepth 20000 in
theorem gX4_read_X5_shortenWays : GoodIn wsX4_read (wsV RX4 54 RX5 yX5_shortenWays wsX5_shortenWays) := goodIn_app (goodIn_of _ (by decide +kernel)) ggX4_read_X5_shortenWays
theorem dX4_read_0 : decode cX4_read 0 = .ok (.aload_n 1, 1) := by decide +kernel
theorem dX4_read_1 : decode cX4_read 1 = .ok (.invokevirtual 26, 3) := by decide +kernel
theorem dX4_read_4 : decode cX4_read 4 = .ok (.aload_n 0, 1) := by decide +kernel
theorem dX4_read_5 : decode cX4_read 5 = .ok (.getfield 10, 3) := by decide +kernel
theorem dX4_read_8 : decode cX4_read 8 = .ok (.invokevirtual 31, 3) := by decide +kernel
theorem dX4_read_11 : decode cX4_read 11 = .ok (.aload_n 0, 1) := by decide +kernel
theorem dX4_read_12 : decode cX4_read 12 = .ok (.aload_n 1, 1) := by decide +kernel
theorem dX4_read_13 : decode cX4_read 13 = .ok (.invokevirtual 34, 3) := by decide +kernel
theorem dX4_read_16 : decode cX4_read 16 = .ok (.ifCond .eq 27, 3) := by decide +kernel
theorem dX4_read_19 : decode cX4_read 19 = .ok (.aload_n 0, 1) := by decide +kernel
theorem dX4_read_20 : decode cX4_read 20 = .ok (.aload_n 1, 1) := by decide +kernel
theorem dX4_read_21 : decode cX4_read 21 = .ok (.invokevirtual 38, 3) := by decide +kernel
theorem dX4_read_24 : decode cX4_read 24 = .ok (.ifCond .eq 19, 3) := by decide +kernel
theorem dX4_read_27 : decode cX4_read 27 = .ok (.aload_n 0, 1) := by decide +kernel
theorem dX4_read_28 : decode cX4_read 28 = .ok (.aload_n 1, 1) := by decide +kernel
theorem dX4_read_29 : decode cX4_read 29 = .ok (.invokevirtual 41, 3) := by decide +kernel
theorem dX4_read_32 : decode cX4_read 32 = .ok (.ifCond .eq 11, 3) := by decide +kernel
theorem dX4_read_35 : decode cX4_read 35 = .ok (.aload_n 0, 1) := by decide +kernel
theorem dX4_read_36 : decode cX4_read 36 = .ok (.aload_n 1, 1) := by decide +kernel
theorem dX4_read_37 : decode cX4_read 37 = .ok (.invokevirtual 44, 3) := by decide +kernel
theorem dX4_read_40 : decode cX4_read 40 = .ok (.ifCond .ne 5, 3) := by decide +kernel
theorem dX4_read_43 : decode cX4_read 43 = .ok (.iconst 0, 1) := by decide +kernel
theorem dX4_read_44 : decode cX4_read 44 = .ok (.ireturn, 1) := by decide +kernel
theorem dX4_read_45 : decode cX4_read 45 = .ok (.aload_n 0, 1) := by decide +kernel
theorem dX4_read_46 : decode cX4_read 46 = .ok (.getfield 10, 3) := by decide +kernel
theorem dX4_read_49 : decode cX4_read 49 = .ok (.getfield 47, 3) := by decide +kernel
theorem dX4_read_52 : decode cX4_read 52 = .ok (.ifCond .eq 9, 3) := by decide +kernel
theorem dX4_read_55 : decode cX4_read 55 = .ok (.aload_n 0, 1) := by decide +kernel
theorem dX4_read_56 : decode cX4_read 56 = .ok (.iconst 1, 1) := by decide +kernel
theorem dX4_read_57 : decode cX4_read 57 = .ok (.invokevirtual 50, 3) := by decide +kernel
theorem dX4_read_60 : decode cX4_read 60 = .ok (.ireturn, 1) := by decide +kernel
theorem dX4_read_61 : decode cX4_read 61 = .ok (.aload_n 1, 1) := by decide +kernel
theorem dX4_read_62 : decode cX4_read 62 = .ok (.invokevirtual 54, 3) := by decide +kernel
theorem dX4_read_65 : decode cX4_read 65 = .ok (.aload_n 1, 1) := by decide +kernel
theorem dX4_read_66 : decode cX4_read 66 = .ok (.iconst 1, 1) := by decide +kernel
theorem dX4_read_67 : decode cX4_read 67 = .ok (.putfield 57, 3) := by decide +kernel
theorem dX4_read_70 : decode cX4_read 70 = .ok (.iconst 1, 1) := by decide +kernel
theorem dX4_read_71 : decode cX4_read 71 = .ok (.ireturn, 1) := by decide +kernel
set_option maxRecDepth 20000 in
theorem ggX4_readLaw_X7_isWord : GoodIn wsX4_readLaw wsX7_isWord := goodIn_r _ [8, 9, 10, 11, 12, 13, 14, 15, 16, 17, 18, 19, 20, 21, 22, 23, 24, 25, 26, 27, 28, 29, 30, 31, 32, 33, 34, 35, 36, 37, 38, 39, 40, 41, 42, 43, 44, 45, 46, 47, 48, 49, 50, 51, 52, 53, 54, 55, 56, 57, 58, 59, 60, 61, 109, 110, 111, 112, 113, 114] (by decide +kernel) (by decide +kernel)
set_option maxRecDepth 20000 in
theorem gX4_readLaw_X7_isWord : GoodIn wsX4_readLaw (wsV RX4 63 RX7 yX7_isWord wsX7_isWord) := goodIn_app (goodIn_of _ (by decide +kernel)) ggX4_readLaw_X7_isWord
set_option maxRecDepth 20000 in
theorem ggX4_readLaw_X4_faulty : GoodIn wsX4_readLaw wsX4_faulty := goodIn_r _ [66, 67, 1, 68, 69, 97, 98, 99, 100, 109, 110, 111, 112, 113, 114] (by decide +kernel) (by decide +kernel)
set_option maxRecDepth 20000 in
theorem gX4_readLaw_X4_faulty : GoodIn wsX4_readLaw (wsV RX4 50 RX4 yX4_faulty wsX4_faulty) := goodIn_app (goodIn_of _ (by decide +kernel)) ggX4_readLaw_X4_faulty
set_option maxRecDepth 20000 in
theorem ggX4_readLaw_X7_step : GoodIn wsX4_readLaw wsX7_step := goodIn_r _ [73, 10, 11, 74, 9, 75, 76, 77, 7, 78, 12, 79, 80, 81, 82, 83, 109, 110, 111, 112, 113, 114] (by decide +kernel) (by decide +kernel)
set_option maxRecDepth 20000 in
theorem gX4_readLaw_X7_step : GoodIn wsX4_readLaw (wsV RX4 67 RX7 yX7_step wsX7_step) := goodIn_app (goodIn_of _ (by decide +kernel)) ggX4_readLaw_X7_step
set_option maxRecDepth 20000 in
theorem ggX4_readLaw_X4_takeNumber : GoodIn wsX4_readLaw wsX4_takeNumber := goodIn_r _ [87, 1, 88, 89, 2, 62, 63, 64, 65, 66, 67, 68, 69, 90, 91, 92, 70, 71, 72, 7, 73, 10, 11, 74, 9, 75, 76, 77, 78, 12, 79, 80, 81, 82, 83, 97, 98, 99, 100, 109, 110, 111, 112, 113, 114] (by decide +kernel) (by decide +kernel)
set_option maxRecDepth 20000 in
theorem gX4_readLaw_X4_takeNumber : GoodIn wsX4_readLaw (wsV RX4 70 RX4 yX4_takeNumber wsX4_takeNumber) := goodIn_app (goodIn_of _ (by decide +kernel)) ggX4_readLaw_X4_takeNumber
set_option maxRecDepth 20000 in
theorem ggX4_readLaw_X4_takeSign : GoodIn wsX4_readLaw wsX4_takeSign := goodIn_r _ [96, 1, 88, 62, 63, 64, 65, 66, 67, 68, 69, 70, 71, 72, 7, 73, 10, 11, 74, 9, 75, 76, 77, 78, 12, 79, 80, 81, 82, 83, 97, 98, 99, 100, 109, 110, 111, 112, 113, 114] (by decide +kernel) (by decide +kernel)
set_option maxRecDepth 20000 in
theorem gX4_readLaw_X4_takeSign : GoodIn wsX4_readLaw (wsV RX4 77 RX4 yX4_takeSign wsX4_takeSign) := goodIn_app (goodIn_of _ (by decide +kernel)) ggX4_readLaw_X4_takeSign
theorem dX4_readLaw_0 : decode cX4_readLaw 0 = .ok (.aload_n 0, 1) := by decide +kernel
theorem dX4_readLaw_1 : decode cX4_readLaw 1 = .ok (.getfield 10, 3) := by decide +kernel
theorem dX4_readLaw_4 : decode cX4_readLaw 4 = .ok (.ldc 61, 2) := by decide +kernel
theorem dX4_readLaw_6 : decode cX4_readLaw 6 = .ok (.invokevirtual 63, 3) := by decide +kernel
theorem dX4_readLaw_9 : decode cX4_readLaw 9 = .ok (.ifCond .ne 9, 3) := by decide +kernel
theorem dX4_readLaw_12 : decode cX4_readLaw 12 = .ok (.aload_n 0, 1) := by decide +kernel
theorem dX4_readLaw_13 : decode cX4_readLaw 13 = .ok (.iconst 1, 1) := by decide +kernel
theorem dX4_readLaw_14 : decode cX4_readLaw 14 = .ok (.invokevirtual 50, 3) := by decide +kernel
theorem dX4_readLaw_17 : decode cX4_readLaw 17 = .ok (.ireturn, 1) := by decide +kernel
theorem dX4_readLaw_18 : decode cX4_readLaw 18 = .ok (.aload_n 0, 1) := by decide +kernel
theorem dX4_readLaw_19 : decode cX4_readLaw 19 = .ok (.getfield 10, 3) := by decide +kernel
theorem dX4_readLaw_22 : decode cX4_readLaw 22 = .ok (.invokevirtual 67, 3) := by decide +kernel
theorem dX4_readLaw_25 : decode cX4_readLaw 25 = .ok (.aload_n 0, 1) := by decide +kernel
theorem dX4_readLaw_26 : decode cX4_readLaw 26 = .ok (.iconst 1, 1) := by decide +kernel
theorem dX4_readLaw_27 : decode cX4_readLaw 27 = .ok (.sipush 400, 3) := by decide +kernel
theorem dX4_readLaw_30 : decode cX4_readLaw 30 = .ok (.invokevirtual 70, 3) := by decide +kernel
theorem dX4_readLaw_33 : decode cX4_readLaw 33 = .ok (.ifCond .ne 5, 3) := by decide +kernel
theorem dX4_readLaw_36 : decode cX4_readLaw 36 = .ok (.iconst 0, 1) := by decide +kernel
theorem dX4_readLaw_37 : decode cX4_readLaw 37 = .ok (.ireturn, 1) := by decide +kernel
theorem dX4_readLaw_38 : decode cX4_readLaw 38 = .ok (.aload_n 1, 1) := by decide +kernel
theorem dX4_readLaw_39 : decode cX4_readLaw 39 = .ok (.aload_n 0, 1) := by decide +kernel
theorem dX4_readLaw_40 : decode cX4_readLaw 40 = .ok (.getfield 16, 3) := by decide +kernel
theorem dX4_readLaw_43 : decode cX4_readLaw 43 = .ok (.putfield 74, 3) := by decide +kernel
theorem dX4_readLaw_46 : decode cX4_readLaw 46 = .ok (.aload_n 0, 1) := by decide +kernel
theorem dX4_readLaw_47 : decode cX4_readLaw 47 = .ok (.invokevirtual 77, 3) := by decide +kernel
theorem dX4_readLaw_50 : decode cX4_readLaw 50 = .ok (.ireturn, 1) := by decide +kernel
set_option maxRecDepth 20000 in
theorem ggX4_readRoads_X7_isWord : GoodIn wsX4_readRoads wsX7_isWord := goodIn_r _ [6, 7, 8, 9, 10, 11, 12, 13, 14, 15, 16, 17, 18, 19, 20, 21, 22, 23, 24, 25, 26, 27, 28, 29, 30, 31, 32, 33, 34, 35, 36, 37, 38, 39, 40, 41, 42, 43, 44, 45, 46, 47, 48, 49, 50, 51, 52, 53, 54, 55, 56, 57, 58, 59, 114, 115, 116, 117, 118, 119] (by decide +kernel) (by decide +kernel)
set_option maxRecDepth 20000 in
theorem gX4_readRoads_X7_isWord : GoodIn wsX4_readRoads (wsV RX4 63 RX7 yX7_isWord wsX7_isWord) := goodIn_app (goodIn_of _ (by decide +kernel)) ggX4_readRoads_X7_isWord
set_option maxRecDepth 20000 in
theorem ggX4_readRoads_X4_faulty : GoodIn wsX4_readRoads wsX4_faulty := goodIn_r _ [64, 65, 1, 66, 67, 110, 111, 112, 113, 114, 115, 116, 117, 118, 119] (by decide +kernel) (by decide +kernel)
set_option maxRecDepth 20000 in
theorem gX4_readRoads_X4_faulty : GoodIn wsX4_readRoads (wsV RX4 50 RX4 yX4_faulty wsX4_faulty) := goodIn_app (goodIn_of _ (by decide +kernel)) ggX4_readRoads_X4_faulty
set_option maxRecDepth 20000 in
theorem ggX4_readRoads_X7_step : GoodIn wsX4_readRoads wsX7_step := goodIn_r _ [71, 8, 9, 72, 7, 73, 74, 75, 5, 76, 10, 77, 78, 79, 80, 81, 114, 115, 116, 117, 118, 119] (by decide +kernel) (by decide +kernel)
set_option maxRecDepth 20000 in
theorem gX4_readRoads_X7_step : GoodIn wsX4_readRoads (wsV RX4 67 RX7 yX7_step wsX7_step) := goodIn_app (goodIn_of _ (by decide +kernel)) ggX4_readRoads_X7_step
set_option maxRecDepth 20000 in
theorem ggX4_readRoads_X4_readRoad : GoodIn wsX4_readRoads wsX4_readRoad := goodIn_r _ [85, 86, 1, 87, 88, 89, 90, 91, 63, 92, 60, 61, 62, 64, 65, 66, 67, 93, 94, 95, 68, 69, 70, 5, 71, 8, 9, 72, 7, 73, 74, 75, 76, 10, 77, 78, 79, 80, 81, 96, 97, 98, 99, 100, 101, 102, 103, 104, 105, 106, 107, 108, 109, 110, 111, 112, 113, 114, 115, 116, 117, 118, 119, 120, 121, 122, 123, 124, 125, 126, 127] (by decide +kernel) (by decide +kernel)
set_option maxRecDepth 20000 in
theorem gX4_readRoads_X4_readRoad : GoodIn wsX4_readRoads (wsV RX4 83 RX4 yX4_readRoad wsX4_readRoad) := goodIn_app (goodIn_of _ (by decide +kernel)) ggX4_readRoads_X4_readRoad
