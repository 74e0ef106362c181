theorem dX9_timesOf_0 : decode cX9_timesOf 0 = .ok (.iconst 1, 1) := by decide +kernel
theorem dX9_timesOf_1 : decode cX9_timesOf 1 = .ok (.istore_n 2, 1) := by decide +kernel
theorem dX9_timesOf_2 : decode cX9_timesOf 2 = .ok (.iconst 0, 1) := by decide +kernel
theorem dX9_timesOf_3 : decode cX9_timesOf 3 = .ok (.istore_n 3, 1) := by decide +kernel
theorem dX9_timesOf_4 : decode cX9_timesOf 4 = .ok (.iload_n 3, 1) := by decide +kernel
theorem dX9_timesOf_5 : decode cX9_timesOf 5 = .ok (.iload_n 1, 1) := by decide +kernel
theorem dX9_timesOf_6 : decode cX9_timesOf 6 = .ok (.if_icmp .ge 13, 3) := by decide +kernel
theorem dX9_timesOf_9 : decode cX9_timesOf 9 = .ok (.iload_n 2, 1) := by decide +kernel
theorem dX9_timesOf_10 : decode cX9_timesOf 10 = .ok (.iload_n 0, 1) := by decide +kernel
theorem dX9_timesOf_11 : decode cX9_timesOf 11 = .ok (.imul, 1) := by decide +kernel
theorem dX9_timesOf_12 : decode cX9_timesOf 12 = .ok (.istore_n 2, 1) := by decide +kernel
theorem dX9_timesOf_13 : decode cX9_timesOf 13 = .ok (.iinc 3 1, 3) := by decide +kernel
theorem dX9_timesOf_16 : decode cX9_timesOf 16 = .ok (.goto (-12), 3) := by decide +kernel
theorem dX9_timesOf_19 : decode cX9_timesOf 19 = .ok (.iload_n 2, 1) := by decide +kernel
theorem dX9_timesOf_20 : decode cX9_timesOf 20 = .ok (.ireturn, 1) := by decide +kernel
set_option maxRecDepth 20000 in
theorem ggX9_ear_X9_in : GoodIn wsX9_ear wsX9_in := goodIn_r _ [8] (by decide +kernel) (by decide +kernel)
set_option maxRecDepth 20000 in
theorem gX9_ear_X9_in : GoodIn wsX9_ear (va_wsS RX9 57 yX9_in wsX9_in) := goodIn_app (goodIn_of _ (by decide +kernel)) ggX9_ear_X9_in
set_option maxRecDepth 20000 in
theorem ggX9_ear_X9_timesOf : GoodIn wsX9_ear wsX9_timesOf := goodIn_r _ [11] (by decide +kernel) (by decide +kernel)
set_option maxRecDepth 20000 in
theorem gX9_ear_X9_timesOf : GoodIn wsX9_ear (va_wsS RX9 270 yX9_timesOf wsX9_timesOf) := goodIn_app (goodIn_of _ (by decide +kernel)) ggX9_ear_X9_timesOf
theorem dX9_ear_0 : decode cX9_ear 0 = .ok (.aload_n 0, 1) := by decide +kernel
theorem dX9_ear_1 : decode cX9_ear 1 = .ok (.iconst 0, 1) := by decide +kernel
theorem dX9_ear_2 : decode cX9_ear 2 = .ok (.putfield 47, 3) := by decide +kernel
theorem dX9_ear_5 : decode cX9_ear 5 = .ok (.iload_n 1, 1) := by decide +kernel
theorem dX9_ear_6 : decode cX9_ear 6 = .ok (.i2l, 1) := by decide +kernel
theorem dX9_ear_7 : decode cX9_ear 7 = .ok (.lconst 0, 1) := by decide +kernel
theorem dX9_ear_8 : decode cX9_ear 8 = .ok (.ldc2_w 240, 3) := by decide +kernel
theorem dX9_ear_11 : decode cX9_ear 11 = .ok (.invokestatic 57, 3) := by decide +kernel
theorem dX9_ear_14 : decode cX9_ear 14 = .ok (.ifCond .eq 50, 3) := by decide +kernel
theorem dX9_ear_17 : decode cX9_ear 17 = .ok (.iload_n 2, 1) := by decide +kernel
theorem dX9_ear_18 : decode cX9_ear 18 = .ok (.i2l, 1) := by decide +kernel
theorem dX9_ear_19 : decode cX9_ear 19 = .ok (.lconst 0, 1) := by decide +kernel
theorem dX9_ear_20 : decode cX9_ear 20 = .ok (.ldc2_w 240, 3) := by decide +kernel
theorem dX9_ear_23 : decode cX9_ear 23 = .ok (.invokestatic 57, 3) := by decide +kernel
theorem dX9_ear_26 : decode cX9_ear 26 = .ok (.ifCond .eq 38, 3) := by decide +kernel
theorem dX9_ear_29 : decode cX9_ear 29 = .ok (.iload_n 3, 1) := by decide +kernel
theorem dX9_ear_30 : decode cX9_ear 30 = .ok (.i2l, 1) := by decide +kernel
theorem dX9_ear_31 : decode cX9_ear 31 = .ok (.lconst 0, 1) := by decide +kernel
theorem dX9_ear_32 : decode cX9_ear 32 = .ok (.ldc2_w 268, 3) := by decide +kernel
theorem dX9_ear_35 : decode cX9_ear 35 = .ok (.invokestatic 57, 3) := by decide +kernel
theorem dX9_ear_38 : decode cX9_ear 38 = .ok (.ifCond .eq 26, 3) := by decide +kernel
theorem dX9_ear_41 : decode cX9_ear 41 = .ok (.iload 4, 2) := by decide +kernel
theorem dX9_ear_43 : decode cX9_ear 43 = .ok (.i2l, 1) := by decide +kernel
theorem dX9_ear_44 : decode cX9_ear 44 = .ok (.lconst 0, 1) := by decide +kernel
theorem dX9_ear_45 : decode cX9_ear 45 = .ok (.iload_n 3, 1) := by decide +kernel
theorem dX9_ear_46 : decode cX9_ear 46 = .ok (.i2l, 1) := by decide +kernel
theorem dX9_ear_47 : decode cX9_ear 47 = .ok (.invokestatic 57, 3) := by decide +kernel
theorem dX9_ear_50 : decode cX9_ear 50 = .ok (.ifCond .eq 14, 3) := by decide +kernel
theorem dX9_ear_53 : decode cX9_ear 53 = .ok (.iload 5, 2) := by decide +kernel
theorem dX9_ear_55 : decode cX9_ear 55 = .ok (.i2l, 1) := by decide +kernel
theorem dX9_ear_56 : decode cX9_ear 56 = .ok (.lconst 0, 1) := by decide +kernel
theorem dX9_ear_57 : decode cX9_ear 57 = .ok (.lconst 1, 1) := by decide +kernel
theorem dX9_ear_58 : decode cX9_ear 58 = .ok (.invokestatic 57, 3) := by decide +kernel
theorem dX9_ear_61 : decode cX9_ear 61 = .ok (.ifCond .ne 6, 3) := by decide +kernel
theorem dX9_ear_64 : decode cX9_ear 64 = .ok (.ldc 67, 2) := by decide +kernel
theorem dX9_ear_66 : decode cX9_ear 66 = .ok (.ireturn, 1) := by decide +kernel
theorem dX9_ear_67 : decode cX9_ear 67 = .ok (.iload_n 1, 1) := by decide +kernel
theorem dX9_ear_68 : decode cX9_ear 68 = .ok (.bipush 10, 2) := by decide +kernel
theorem dX9_ear_70 : decode cX9_ear 70 = .ok (.iload_n 2, 1) := by decide +kernel
theorem dX9_ear_71 : decode cX9_ear 71 = .ok (.isub, 1) := by decide +kernel
theorem dX9_ear_72 : decode cX9_ear 72 = .ok (.iload 4, 2) := by decide +kernel
theorem dX9_ear_74 : decode cX9_ear 74 = .ok (.invokestatic 270, 3) := by decide +kernel
theorem dX9_ear_77 : decode cX9_ear 77 = .ok (.imul, 1) := by decide +kernel
theorem dX9_ear_78 : decode cX9_ear 78 = .ok (.iload_n 2, 1) := by decide +kernel
theorem dX9_ear_79 : decode cX9_ear 79 = .ok (.iload_n 3, 1) := by decide +kernel
theorem dX9_ear_80 : decode cX9_ear 80 = .ok (.iload 4, 2) := by decide +kernel
theorem dX9_ear_82 : decode cX9_ear 82 = .ok (.isub, 1) := by decide +kernel
theorem dX9_ear_83 : decode cX9_ear 83 = .ok (.invokestatic 270, 3) := by decide +kernel
theorem dX9_ear_86 : decode cX9_ear 86 = .ok (.imul, 1) := by decide +kernel
theorem dX9_ear_87 : decode cX9_ear 87 = .ok (.istore 6, 2) := by decide +kernel
theorem dX9_ear_89 : decode cX9_ear 89 = .ok (.iload 6, 2) := by decide +kernel
theorem dX9_ear_91 : decode cX9_ear 91 = .ok (.bipush 10, 2) := by decide +kernel
theorem dX9_ear_93 : decode cX9_ear 93 = .ok (.iload_n 1, 1) := by decide +kernel
theorem dX9_ear_94 : decode cX9_ear 94 = .ok (.isub, 1) := by decide +kernel
theorem dX9_ear_95 : decode cX9_ear 95 = .ok (.iload_n 2, 1) := by decide +kernel
theorem dX9_ear_96 : decode cX9_ear 96 = .ok (.iload 4, 2) := by decide +kernel
theorem dX9_ear_98 : decode cX9_ear 98 = .ok (.invokestatic 270, 3) := by decide +kernel
theorem dX9_ear_101 : decode cX9_ear 101 = .ok (.imul, 1) := by decide +kernel
theorem dX9_ear_102 : decode cX9_ear 102 = .ok (.bipush 10, 2) := by decide +kernel
theorem dX9_ear_104 : decode cX9_ear 104 = .ok (.iload_n 2, 1) := by decide +kernel
theorem dX9_ear_105 : decode cX9_ear 105 = .ok (.isub, 1) := by decide +kernel
theorem dX9_ear_106 : decode cX9_ear 106 = .ok (.iload_n 3, 1) := by decide +kernel
theorem dX9_ear_107 : decode cX9_ear 107 = .ok (.iload 4, 2) := by decide +kernel
theorem dX9_ear_109 : decode cX9_ear 109 = .ok (.isub, 1) := by decide +kernel
theorem dX9_ear_110 : decode cX9_ear 110 = .ok (.invokestatic 270, 3) := by decide +kernel
theorem dX9_ear_113 : decode cX9_ear 113 = .ok (.imul, 1) := by decide +kernel
theorem dX9_ear_114 : decode cX9_ear 114 = .ok (.iadd, 1) := by decide +kernel
theorem dX9_ear_115 : decode cX9_ear 115 = .ok (.istore 7, 2) := by decide +kernel
theorem dX9_ear_117 : decode cX9_ear 117 = .ok (.iload 7, 2) := by decide +kernel
theorem dX9_ear_119 : decode cX9_ear 119 = .ok (.ifCond .ne 6, 3) := by decide +kernel
theorem dX9_ear_122 : decode cX9_ear 122 = .ok (.iload 5, 2) := by decide +kernel
theorem dX9_ear_124 : decode cX9_ear 124 = .ok (.ireturn, 1) := by decide +kernel
theorem dX9_ear_125 : decode cX9_ear 125 = .ok (.iload 6, 2) := by decide +kernel
theorem dX9_ear_127 : decode cX9_ear 127 = .ok (.istore 8, 2) := by decide +kernel
theorem dX9_ear_129 : decode cX9_ear 129 = .ok (.iload 7, 2) := by decide +kernel
theorem dX9_ear_131 : decode cX9_ear 131 = .ok (.istore 9, 2) := by decide +kernel
theorem dX9_ear_133 : decode cX9_ear 133 = .ok (.iload 9, 2) := by decide +kernel
theorem dX9_ear_135 : decode cX9_ear 135 = .ok (.ifCond .eq 21, 3) := by decide +kernel
theorem dX9_ear_138 : decode cX9_ear 138 = .ok (.iload 8, 2) := by decide +kernel
theorem dX9_ear_140 : decode cX9_ear 140 = .ok (.iload 9, 2) := by decide +kernel
theorem dX9_ear_142 : decode cX9_ear 142 = .ok (.irem, 1) := by decide +kernel
theorem dX9_ear_143 : decode cX9_ear 143 = .ok (.istore 10, 2) := by decide +kernel
theorem dX9_ear_145 : decode cX9_ear 145 = .ok (.iload 9, 2) := by decide +kernel
theorem dX9_ear_147 : decode cX9_ear 147 = .ok (.istore 8, 2) := by decide +kernel
theorem dX9_ear_149 : decode cX9_ear 149 = .ok (.iload 10, 2) := by decide +kernel
theorem dX9_ear_151 : decode cX9_ear 151 = .ok (.istore 9, 2) := by decide +kernel
theorem dX9_ear_153 : decode cX9_ear 153 = .ok (.goto (-20), 3) := by decide +kernel
theorem dX9_ear_156 : decode cX9_ear 156 = .ok (.iload 5, 2) := by decide +kernel
theorem dX9_ear_158 : decode cX9_ear 158 = .ok (.ifCond .ne 8, 3) := by decide +kernel
theorem dX9_ear_161 : decode cX9_ear 161 = .ok (.iload 6, 2) := by decide +kernel
theorem dX9_ear_163 : decode cX9_ear 163 = .ok (.goto 5, 3) := by decide +kernel
theorem dX9_ear_166 : decode cX9_ear 166 = .ok (.iload 7, 2) := by decide +kernel
theorem dX9_ear_168 : decode cX9_ear 168 = .ok (.iload 8, 2) := by decide +kernel
theorem dX9_ear_170 : decode cX9_ear 170 = .ok (.idiv, 1) := by decide +kernel
theorem dX9_ear_171 : decode cX9_ear 171 = .ok (.ireturn, 1) := by decide +kernel
set_option maxRecDepth 20000 in
theorem ggX9_image_X9_in : GoodIn wsX9_image wsX9_in := goodIn_r _ [11] (by decide +kernel) (by decide +kernel)
set_option maxRecDepth 20000 in
theorem gX9_image_X9_in : GoodIn wsX9_image (va_wsS RX9 57 yX9_in wsX9_in) := goodIn_app (goodIn_of _ (by decide +kernel)) ggX9_image_X9_in
theorem dX9_image_0 : decode cX9_image 0 = .ok (.aload_n 0, 1) := by decide +kernel
theorem dX9_image_1 : decode cX9_image 1 = .ok (.iconst 0, 1) := by decide +kernel
theorem dX9_image_2 : decode cX9_image 2 = .ok (.putfield 47, 3) := by decide +kernel
theorem dX9_image_5 : decode cX9_image 5 = .ok (.iload_n 1, 1) := by decide +kernel
theorem dX9_image_6 : decode cX9_image 6 = .ok (.i2l, 1) := by decide +kernel
theorem dX9_image_7 : decode cX9_image 7 = .ok (.lconst 0, 1) := by decide +kernel
theorem dX9_image_8 : decode cX9_image 8 = .ok (.lconst 1, 1) := by decide +kernel
theorem dX9_image_9 : decode cX9_image 9 = .ok (.invokestatic 57, 3) := by decide +kernel
theorem dX9_image_12 : decode cX9_image 12 = .ok (.ifCond .ne 6, 3) := by decide +kernel
theorem dX9_image_15 : decode cX9_image 15 = .ok (.ldc 67, 2) := by decide +kernel
theorem dX9_image_17 : decode cX9_image 17 = .ok (.ireturn, 1) := by decide +kernel
theorem dX9_image_18 : decode cX9_image 18 = .ok (.aload_n 0, 1) := by decide +kernel
theorem dX9_image_19 : decode cX9_image 19 = .ok (.getfield 179, 3) := by decide +kernel
theorem dX9_image_22 : decode cX9_image 22 = .ok (.ifCond .ne 6, 3) := by decide +kernel
theorem dX9_image_25 : decode cX9_image 25 = .ok (.ldc 210, 2) := by decide +kernel
theorem dX9_image_27 : decode cX9_image 27 = .ok (.ireturn, 1) := by decide +kernel
theorem dX9_image_28 : decode cX9_image 28 = .ok (.iconst 0, 1) := by decide +kernel
theorem dX9_image_29 : decode cX9_image 29 = .ok (.istore_n 2, 1) := by decide +kernel
theorem dX9_image_30 : decode cX9_image 30 = .ok (.iload_n 2, 1) := by decide +kernel
theorem dX9_image_31 : decode cX9_image 31 = .ok (.sipush 147, 3) := by decide +kernel
theorem dX9_image_34 : decode cX9_image 34 = .ok (.if_icmp .ge 27, 3) := by decide +kernel
theorem dX9_image_37 : decode cX9_image 37 = .ok (.aload_n 0, 1) := by decide +kernel
theorem dX9_image_38 : decode cX9_image 38 = .ok (.getfield 41, 3) := by decide +kernel
theorem dX9_image_41 : decode cX9_image 41 = .ok (.sipush 147, 3) := by decide +kernel
theorem dX9_image_44 : decode cX9_image 44 = .ok (.iload_n 1, 1) := by decide +kernel
theorem dX9_image_45 : decode cX9_image 45 = .ok (.imul, 1) := by decide +kernel
theorem dX9_image_46 : decode cX9_image 46 = .ok (.iload_n 2, 1) := by decide +kernel
theorem dX9_image_47 : decode cX9_image 47 = .ok (.iadd, 1) := by decide +kernel
theorem dX9_image_48 : decode cX9_image 48 = .ok (.aload_n 0, 1) := by decide +kernel
theorem dX9_image_49 : decode cX9_image 49 = .ok (.getfield 19, 3) := by decide +kernel
theorem dX9_image_52 : decode cX9_image 52 = .ok (.iload_n 2, 1) := by decide +kernel
theorem dX9_image_53 : decode cX9_image 53 = .ok (.iaload, 1) := by decide +kernel
theorem dX9_image_54 : decode cX9_image 54 = .ok (.iastore, 1) := by decide +kernel
theorem dX9_image_55 : decode cX9_image 55 = .ok (.iinc 2 1, 3) := by decide +kernel
theorem dX9_image_58 : decode cX9_image 58 = .ok (.goto (-28), 3) := by decide +kernel
theorem dX9_image_61 : decode cX9_image 61 = .ok (.aload_n 0, 1) := by decide +kernel
theorem dX9_image_62 : decode cX9_image 62 = .ok (.getfield 37, 3) := by decide +kernel
theorem dX9_image_65 : decode cX9_image 65 = .ok (.iload_n 1, 1) := by decide +kernel
theorem dX9_image_66 : decode cX9_image 66 = .ok (.iconst 1, 1) := by decide +kernel
theorem dX9_image_67 : decode cX9_image 67 = .ok (.bastore, 1) := by decide +kernel
theorem dX9_image_68 : decode cX9_image 68 = .ok (.iconst 1, 1) := by decide +kernel
theorem dX9_image_69 : decode cX9_image 69 = .ok (.ireturn, 1) := by decide +kernel
set_option maxRecDepth 20000 in
theorem ggX9_restore_X9_in : GoodIn wsX9_restore wsX9_in := goodIn_r _ [11] (by decide +kernel) (by decide +kernel)
set_option maxRecDepth 20000 in
theorem gX9_restore_X9_in : GoodIn wsX9_restore (va_wsS RX9 57 yX9_in wsX9_in) := goodIn_app (goodIn_of _ (by decide +kernel)) ggX9_restore_X9_in
theorem dX9_restore_0 : decode cX9_restore 0 = .ok (.aload_n 0, 1) := by decide +kernel
theorem dX9_restore_1 : decode cX9_restore 1 = .ok (.iconst 0, 1) := by decide +kernel
theorem dX9_restore_2 : decode cX9_restore 2 = .ok (.putfield 47, 3) := by decide +kernel
theorem dX9_restore_5 : decode cX9_restore 5 = .ok (.iload_n 1, 1) := by decide +kernel
theorem dX9_restore_6 : decode cX9_restore 6 = .ok (.i2l, 1) := by decide +kernel
theorem dX9_restore_7 : decode cX9_restore 7 = .ok (.lconst 0, 1) := by decide +kernel
theorem dX9_restore_8 : decode cX9_restore 8 = .ok (.lconst 1, 1) := by decide +kernel
theorem dX9_restore_9 : decode cX9_restore 9 = .ok (.invokestatic 57, 3) := by decide +kernel
theorem dX9_restore_12 : decode cX9_restore 12 = .ok (.ifCond .ne 6, 3) := by decide +kernel
theorem dX9_restore_15 : decode cX9_restore 15 = .ok (.ldc 67, 2) := by decide +kernel
theorem dX9_restore_17 : decode cX9_restore 17 = .ok (.ireturn, 1) := by decide +kernel
theorem dX9_restore_18 : decode cX9_restore 18 = .ok (.aload_n 0, 1) := by decide +kernel
theorem dX9_restore_19 : decode cX9_restore 19 = .ok (.getfield 37, 3) := by decide +kernel
theorem dX9_restore_22 : decode cX9_restore 22 = .ok (.iload_n 1, 1) := by decide +kernel
theorem dX9_restore_23 : decode cX9_restore 23 = .ok (.baload, 1) := by decide +kernel
theorem dX9_restore_24 : decode cX9_restore 24 = .ok (.ifCond .ne 6, 3) := by decide +kernel
theorem dX9_restore_27 : decode cX9_restore 27 = .ok (.ldc 210, 2) := by decide +kernel
theorem dX9_restore_29 : decode cX9_restore 29 = .ok (.ireturn, 1) := by decide +kernel
theorem dX9_restore_30 : decode cX9_restore 30 = .ok (.iconst 0, 1) := by decide +kernel
theorem dX9_restore_31 : decode cX9_restore 31 = .ok (.istore_n 2, 1) := by decide +kernel
theorem dX9_restore_32 : decode cX9_restore 32 = .ok (.iload_n 2, 1) := by decide +kernel
theorem dX9_restore_33 : decode cX9_restore 33 = .ok (.sipush 147, 3) := by decide +kernel
theorem dX9_restore_36 : decode cX9_restore 36 = .ok (.if_icmp .ge 27, 3) := by decide +kernel
theorem dX9_restore_39 : decode cX9_restore 39 = .ok (.aload_n 0, 1) := by decide +kernel
theorem dX9_restore_40 : decode cX9_restore 40 = .ok (.getfield 19, 3) := by decide +kernel
theorem dX9_restore_43 : decode cX9_restore 43 = .ok (.iload_n 2, 1) := by decide +kernel
theorem dX9_restore_44 : decode cX9_restore 44 = .ok (.aload_n 0, 1) := by decide +kernel
theorem dX9_restore_45 : decode cX9_restore 45 = .ok (.getfield 41, 3) := by decide +kernel
theorem dX9_restore_48 : decode cX9_restore 48 = .ok (.sipush 147, 3) := by decide +kernel
theorem dX9_restore_51 : decode cX9_restore 51 = .ok (.iload_n 1, 1) := by decide +kernel
theorem dX9_restore_52 : decode cX9_restore 52 = .ok (.imul, 1) := by decide +kernel
theorem dX9_restore_53 : decode cX9_restore 53 = .ok (.iload_n 2, 1) := by decide +kernel
theorem dX9_restore_54 : decode cX9_restore 54 = .ok (.iadd, 1) := by decide +kernel
theorem dX9_restore_55 : decode cX9_restore 55 = .ok (.iaload, 1) := by decide +kernel
theorem dX9_restore_56 : decode cX9_restore 56 = .ok (.iastore, 1) := by decide +kernel
theorem dX9_restore_57 : decode cX9_restore 57 = .ok (.iinc 2 1, 3) := by decide +kernel
theorem dX9_restore_60 : decode cX9_restore 60 = .ok (.goto (-28), 3) := by decide +kernel
theorem dX9_restore_63 : decode cX9_restore 63 = .ok (.aload_n 0, 1) := by decide +kernel
theorem dX9_restore_64 : decode cX9_restore 64 = .ok (.iconst 0, 1) := by decide +kernel
theorem dX9_restore_65 : decode cX9_restore 65 = .ok (.putfield 183, 3) := by decide +kernel
theorem dX9_restore_68 : decode cX9_restore 68 = .ok (.iconst 1, 1) := by decide +kernel
theorem dX9_restore_69 : decode cX9_restore 69 = .ok (.ireturn, 1) := by decide +kernel
theorem dX9_isOf_0 : decode cX9_isOf 0 = .ok (.iload_n 1, 1) := by decide +kernel
theorem dX9_isOf_1 : decode cX9_isOf 1 = .ok (.ifCond .eq 28, 3) := by decide +kernel
theorem dX9_isOf_4 : decode cX9_isOf 4 = .ok (.iload_n 0, 1) := by decide +kernel
theorem dX9_isOf_5 : decode cX9_isOf 5 = .ok (.iload_n 1, 1) := by decide +kernel
theorem dX9_isOf_6 : decode cX9_isOf 6 = .ok (.if_icmp .eq 23, 3) := by decide +kernel
theorem dX9_isOf_9 : decode cX9_isOf 9 = .ok (.iload_n 1, 1) := by decide +kernel
theorem dX9_isOf_10 : decode cX9_isOf 10 = .ok (.iconst 1, 1) := by decide +kernel
theorem dX9_isOf_11 : decode cX9_isOf 11 = .ok (.if_icmp .ne 8, 3) := by decide +kernel
theorem dX9_isOf_14 : decode cX9_isOf 14 = .ok (.iload_n 0, 1) := by decide +kernel
theorem dX9_isOf_15 : decode cX9_isOf 15 = .ok (.iconst 5, 1) := by decide +kernel
theorem dX9_isOf_16 : decode cX9_isOf 16 = .ok (.if_icmp .lt 13, 3) := by decide +kernel
theorem dX9_isOf_19 : decode cX9_isOf 19 = .ok (.iload_n 1, 1) := by decide +kernel
theorem dX9_isOf_20 : decode cX9_isOf 20 = .ok (.iconst 3, 1) := by decide +kernel
theorem dX9_isOf_21 : decode cX9_isOf 21 = .ok (.if_icmp .ne 12, 3) := by decide +kernel
theorem dX9_isOf_24 : decode cX9_isOf 24 = .ok (.iload_n 0, 1) := by decide +kernel
theorem dX9_isOf_25 : decode cX9_isOf 25 = .ok (.iconst 4, 1) := by decide +kernel
theorem dX9_isOf_26 : decode cX9_isOf 26 = .ok (.if_icmp .ne 7, 3) := by decide +kernel
theorem dX9_isOf_29 : decode cX9_isOf 29 = .ok (.iconst 1, 1) := by decide +kernel
theorem dX9_isOf_30 : decode cX9_isOf 30 = .ok (.goto 4, 3) := by decide +kernel
theorem dX9_isOf_33 : decode cX9_isOf 33 = .ok (.iconst 0, 1) := by decide +kernel
theorem dX9_isOf_34 : decode cX9_isOf 34 = .ok (.ireturn, 1) := by decide +kernel
set_option maxRecDepth 20000 in
theorem ggX9_kind_X9_isCoin : GoodIn wsX9_kind wsX9_isCoin := goodIn_r _ [7, 8, 9, 10, 6, 11, 16, 17, 18, 19, 20, 21, 22, 23, 24, 25, 26, 27, 28, 29, 30, 31, 32, 33, 34, 35, 36, 37, 38, 39, 40, 41] (by decide +kernel) (by decide +kernel)
set_option maxRecDepth 20000 in
theorem gX9_kind_X9_isCoin : GoodIn wsX9_kind (wsV RX9 204 RX9 yX9_isCoin wsX9_isCoin) := goodIn_app (goodIn_of _ (by decide +kernel)) ggX9_kind_X9_isCoin
set_option maxRecDepth 20000 in
theorem ggX9_kind_X9_of : GoodIn wsX9_kind wsX9_of := goodIn_r _ [15, 8, 16, 17, 18, 19, 20, 21, 22, 23, 24, 25, 26, 27, 28, 29, 30, 31, 32, 33, 34, 35, 36, 37, 38, 39, 40, 41] (by decide +kernel) (by decide +kernel)
set_option maxRecDepth 20000 in
theorem gX9_kind_X9_of : GoodIn wsX9_kind (wsV RX9 189 RX9 yX9_of wsX9_of) := goodIn_app (goodIn_of _ (by decide +kernel)) ggX9_kind_X9_of
theorem dX9_kind_0 : decode cX9_kind 0 = .ok (.aload_n 0, 1) := by decide +kernel
theorem dX9_kind_1 : decode cX9_kind 1 = .ok (.iconst 0, 1) := by decide +kernel
theorem dX9_kind_2 : decode cX9_kind 2 = .ok (.putfield 47, 3) := by decide +kernel
theorem dX9_kind_5 : decode cX9_kind 5 = .ok (.aload_n 0, 1) := by decide +kernel
theorem dX9_kind_6 : decode cX9_kind 6 = .ok (.iload_n 1, 1) := by decide +kernel
theorem dX9_kind_7 : decode cX9_kind 7 = .ok (.invokevirtual 204, 3) := by decide +kernel
theorem dX9_kind_10 : decode cX9_kind 10 = .ok (.ifCond .eq 12, 3) := by decide +kernel
theorem dX9_kind_13 : decode cX9_kind 13 = .ok (.aload_n 0, 1) := by decide +kernel
theorem dX9_kind_14 : decode cX9_kind 14 = .ok (.iload_n 1, 1) := by decide +kernel
theorem dX9_kind_15 : decode cX9_kind 15 = .ok (.iconst 0, 1) := by decide +kernel
theorem dX9_kind_16 : decode cX9_kind 16 = .ok (.invokevirtual 189, 3) := by decide +kernel
theorem dX9_kind_19 : decode cX9_kind 19 = .ok (.goto 5, 3) := by decide +kernel
theorem dX9_kind_22 : decode cX9_kind 22 = .ok (.ldc 67, 2) := by decide +kernel
theorem dX9_kind_24 : decode cX9_kind 24 = .ok (.ireturn, 1) := by decide +kernel
set_option maxRecDepth 20000 in
theorem ggX9_as_X9_isCoin : GoodIn wsX9_as wsX9_isCoin := goodIn_r _ [9, 10, 11, 12, 8, 13, 26, 27, 28, 29, 30, 31, 32, 33, 34, 35, 36, 37, 38, 39, 40, 41, 42, 43, 44, 45, 46, 47, 48, 49, 50, 51] (by decide +kernel) (by decide +kernel)
set_option maxRecDepth 20000 in
theorem gX9_as_X9_isCoin : GoodIn wsX9_as (wsV RX9 204 RX9 yX9_isCoin wsX9_isCoin) := goodIn_app (goodIn_of _ (by decide +kernel)) ggX9_as_X9_isCoin
set_option maxRecDepth 20000 in
theorem ggX9_as_X9_in : GoodIn wsX9_as wsX9_in := goodIn_r _ [13] (by decide +kernel) (by decide +kernel)
set_option maxRecDepth 20000 in
theorem gX9_as_X9_in : GoodIn wsX9_as (va_wsS RX9 57 yX9_in wsX9_in) := goodIn_app (goodIn_of _ (by decide +kernel)) ggX9_as_X9_in
set_option maxRecDepth 20000 in
theorem ggX9_as_X9_of : GoodIn wsX9_as wsX9_of := goodIn_r _ [17, 10, 26, 27, 28, 29, 30, 31, 32, 33, 34, 35, 36, 37, 38, 39, 40, 41, 42, 43, 44, 45, 46, 47, 48, 49, 50, 51] (by decide +kernel) (by decide +kernel)
set_option maxRecDepth 20000 in
theorem gX9_as_X9_of : GoodIn wsX9_as (wsV RX9 189 RX9 yX9_of wsX9_of) := goodIn_app (goodIn_of _ (by decide +kernel)) ggX9_as_X9_of
set_option maxRecDepth 20000 in
theorem ggX9_as_X9_isOf : GoodIn wsX9_as wsX9_isOf := goodIn_r _ [20] (by decide +kernel) (by decide +kernel)
set_option maxRecDepth 20000 in
theorem gX9_as_X9_isOf : GoodIn wsX9_as (va_wsS RX9 275 yX9_isOf wsX9_isOf) := goodIn_app (goodIn_of _ (by decide +kernel)) ggX9_as_X9_isOf
set_option maxRecDepth 20000 in
theorem ggX9_as_X9_finding : GoodIn wsX9_as wsX9_finding := goodIn_r _ [24, 4, 25, 26, 27, 28, 29, 30, 31, 32, 33, 34, 35, 36, 37, 38, 39, 40, 41, 42, 43, 44, 45, 46, 47, 48, 49, 50, 51] (by decide +kernel) (by decide +kernel)
set_option maxRecDepth 20000 in
theorem gX9_as_X9_finding : GoodIn wsX9_as (wsV RX9 68 RX9 yX9_finding wsX9_finding) := goodIn_app (goodIn_of _ (by decide +kernel)) ggX9_as_X9_finding
theorem dX9_as_0 : decode cX9_as 0 = .ok (.aload_n 0, 1) := by decide +kernel
theorem dX9_as_1 : decode cX9_as 1 = .ok (.iconst 0, 1) := by decide +kernel
theorem dX9_as_2 : decode cX9_as 2 = .ok (.putfield 47, 3) := by decide +kernel
theorem dX9_as_5 : decode cX9_as 5 = .ok (.aload_n 0, 1) := by decide +kernel
theorem dX9_as_6 : decode cX9_as 6 = .ok (.iload_n 1, 1) := by decide +kernel
theorem dX9_as_7 : decode cX9_as 7 = .ok (.invokevirtual 204, 3) := by decide +kernel
theorem dX9_as_10 : decode cX9_as 10 = .ok (.ifCond .eq 15, 3) := by decide +kernel
theorem dX9_as_13 : decode cX9_as 13 = .ok (.iload_n 2, 1) := by decide +kernel
theorem dX9_as_14 : decode cX9_as 14 = .ok (.i2l, 1) := by decide +kernel
theorem dX9_as_15 : decode cX9_as 15 = .ok (.lconst 0, 1) := by decide +kernel
theorem dX9_as_16 : decode cX9_as 16 = .ok (.ldc2_w 273, 3) := by decide +kernel
theorem dX9_as_19 : decode cX9_as 19 = .ok (.invokestatic 57, 3) := by decide +kernel
theorem dX9_as_22 : decode cX9_as 22 = .ok (.ifCond .ne 6, 3) := by decide +kernel
theorem dX9_as_25 : decode cX9_as 25 = .ok (.ldc 67, 2) := by decide +kernel
theorem dX9_as_27 : decode cX9_as 27 = .ok (.ireturn, 1) := by decide +kernel
theorem dX9_as_28 : decode cX9_as 28 = .ok (.aload_n 0, 1) := by decide +kernel
theorem dX9_as_29 : decode cX9_as 29 = .ok (.iconst 0, 1) := by decide +kernel
theorem dX9_as_30 : decode cX9_as 30 = .ok (.putfield 51, 3) := by decide +kernel
theorem dX9_as_33 : decode cX9_as 33 = .ok (.aload_n 0, 1) := by decide +kernel
theorem dX9_as_34 : decode cX9_as 34 = .ok (.iload_n 1, 1) := by decide +kernel
theorem dX9_as_35 : decode cX9_as 35 = .ok (.iconst 0, 1) := by decide +kernel
theorem dX9_as_36 : decode cX9_as 36 = .ok (.invokevirtual 189, 3) := by decide +kernel
theorem dX9_as_39 : decode cX9_as 39 = .ok (.iload_n 2, 1) := by decide +kernel
theorem dX9_as_40 : decode cX9_as 40 = .ok (.invokestatic 275, 3) := by decide +kernel
theorem dX9_as_43 : decode cX9_as 43 = .ok (.ifCond .eq 7, 3) := by decide +kernel
theorem dX9_as_46 : decode cX9_as 46 = .ok (.iload_n 1, 1) := by decide +kernel
theorem dX9_as_47 : decode cX9_as 47 = .ok (.goto 8, 3) := by decide +kernel
theorem dX9_as_50 : decode cX9_as 50 = .ok (.aload_n 0, 1) := by decide +kernel
theorem dX9_as_51 : decode cX9_as 51 = .ok (.iconst 3, 1) := by decide +kernel
theorem dX9_as_52 : decode cX9_as 52 = .ok (.invokevirtual 68, 3) := by decide +kernel
theorem dX9_as_55 : decode cX9_as 55 = .ok (.ireturn, 1) := by decide +kernel
theorem dX9_began_0 : decode cX9_began 0 = .ok (.aload_n 0, 1) := by decide +kernel
theorem dX9_began_1 : decode cX9_began 1 = .ok (.getfield 279, 3) := by decide +kernel
theorem dX9_began_4 : decode cX9_began 4 = .ok (.bipush 16, 2) := by decide +kernel
theorem dX9_began_6 : decode cX9_began 6 = .ok (.if_icmp .ge 23, 3) := by decide +kernel
theorem dX9_began_9 : decode cX9_began 9 = .ok (.aload_n 0, 1) := by decide +kernel
theorem dX9_began_10 : decode cX9_began 10 = .ok (.getfield 44, 3) := by decide +kernel
theorem dX9_began_13 : decode cX9_began 13 = .ok (.aload_n 0, 1) := by decide +kernel
theorem dX9_began_14 : decode cX9_began 14 = .ok (.getfield 279, 3) := by decide +kernel
theorem dX9_began_17 : decode cX9_began 17 = .ok (.iload_n 1, 1) := by decide +kernel
theorem dX9_began_18 : decode cX9_began 18 = .ok (.iastore, 1) := by decide +kernel
theorem dX9_began_19 : decode cX9_began 19 = .ok (.aload_n 0, 1) := by decide +kernel
theorem dX9_began_20 : decode cX9_began 20 = .ok (.dup, 1) := by decide +kernel
theorem dX9_began_21 : decode cX9_began 21 = .ok (.getfield 279, 3) := by decide +kernel
theorem dX9_began_24 : decode cX9_began 24 = .ok (.iconst 1, 1) := by decide +kernel
theorem dX9_began_25 : decode cX9_began 25 = .ok (.iadd, 1) := by decide +kernel
theorem dX9_began_26 : decode cX9_began 26 = .ok (.putfield 279, 3) := by decide +kernel
theorem dX9_began_29 : decode cX9_began 29 = .ok (.return_, 1) := by decide +kernel
set_option maxRecDepth 20000 in
theorem ggX9_plainSize_X9_began : GoodIn wsX9_plainSize wsX9_began := goodIn_r _ [5, 6, 7, 13, 14, 15, 16, 17, 18, 19, 20, 21, 22, 23, 24, 25, 26, 27, 28, 29, 30, 31, 32, 33, 34, 35, 36, 37, 38] (by decide +kernel) (by decide +kernel)
set_option maxRecDepth 20000 in
theorem gX9_plainSize_X9_began : GoodIn wsX9_plainSize (wsV RX9 282 RX9 yX9_began wsX9_began) := goodIn_app (goodIn_of _ (by decide +kernel)) ggX9_plainSize_X9_began
set_option maxRecDepth 20000 in
theorem ggX9_plainSize_X9_of : GoodIn wsX9_plainSize wsX9_of := goodIn_r _ [11, 12, 13, 14, 15, 16, 17, 18, 19, 20, 21, 22, 23, 24, 25, 26, 27, 28, 29, 30, 31, 32, 33, 34, 35, 36, 37, 38] (by decide +kernel) (by decide +kernel)
set_option maxRecDepth 20000 in
theorem gX9_plainSize_X9_of : GoodIn wsX9_plainSize (wsV RX9 189 RX9 yX9_of wsX9_of) := goodIn_app (goodIn_of _ (by decide +kernel)) ggX9_plainSize_X9_of
theorem dX9_plainSize_0 : decode cX9_plainSize 0 = .ok (.aload_n 0, 1) := by decide +kernel
theorem dX9_plainSize_1 : decode cX9_plainSize 1 = .ok (.bipush 10, 2) := by decide +kernel
theorem dX9_plainSize_3 : decode cX9_plainSize 3 = .ok (.invokevirtual 282, 3) := by decide +kernel
theorem dX9_plainSize_6 : decode cX9_plainSize 6 = .ok (.aload_n 0, 1) := by decide +kernel
theorem dX9_plainSize_7 : decode cX9_plainSize 7 = .ok (.iload_n 1, 1) := by decide +kernel
theorem dX9_plainSize_8 : decode cX9_plainSize 8 = .ok (.iconst 2, 1) := by decide +kernel
theorem dX9_plainSize_9 : decode cX9_plainSize 9 = .ok (.invokevirtual 189, 3) := by decide +kernel
theorem dX9_plainSize_12 : decode cX9_plainSize 12 = .ok (.ireturn, 1) := by decide +kernel
set_option maxRecDepth 20000 in
theorem ggX9_forgedSize_X9_began : GoodIn wsX9_forgedSize wsX9_began := goodIn_r _ [5, 6, 7, 17, 18, 19, 20, 21, 22, 23, 24, 25, 26, 27, 28, 29, 30, 31, 32, 33, 34, 35, 36, 37, 38, 39, 40, 41, 42] (by decide +kernel) (by decide +kernel)
set_option maxRecDepth 20000 in
theorem gX9_forgedSize_X9_began : GoodIn wsX9_forgedSize (wsV RX9 282 RX9 yX9_began wsX9_began) := goodIn_app (goodIn_of _ (by decide +kernel)) ggX9_forgedSize_X9_began
set_option maxRecDepth 20000 in
theorem ggX9_forgedSize_X9_plainSize : GoodIn wsX9_forgedSize wsX9_plainSize := goodIn_r _ [11, 1, 2, 3, 4, 5, 6, 7, 12, 13, 14, 15, 16, 17, 18, 19, 20, 21, 22, 23, 24, 25, 26, 27, 28, 29, 30, 31, 32, 33, 34, 35, 36, 37, 38, 39, 40, 41, 42] (by decide +kernel) (by decide +kernel)
set_option maxRecDepth 20000 in
theorem gX9_forgedSize_X9_plainSize : GoodIn wsX9_forgedSize (wsV RX9 285 RX9 yX9_plainSize wsX9_plainSize) := goodIn_app (goodIn_of _ (by decide +kernel)) ggX9_forgedSize_X9_plainSize
theorem dX9_forgedSize_0 : decode cX9_forgedSize 0 = .ok (.aload_n 0, 1) := by decide +kernel
theorem dX9_forgedSize_1 : decode cX9_forgedSize 1 = .ok (.bipush 13, 2) := by decide +kernel
theorem dX9_forgedSize_3 : decode cX9_forgedSize 3 = .ok (.invokevirtual 282, 3) := by decide +kernel
theorem dX9_forgedSize_6 : decode cX9_forgedSize 6 = .ok (.aload_n 0, 1) := by decide +kernel
theorem dX9_forgedSize_7 : decode cX9_forgedSize 7 = .ok (.iload_n 1, 1) := by decide +kernel
theorem dX9_forgedSize_8 : decode cX9_forgedSize 8 = .ok (.invokevirtual 285, 3) := by decide +kernel
theorem dX9_forgedSize_11 : decode cX9_forgedSize 11 = .ok (.bipush 100, 2) := by decide +kernel
theorem dX9_forgedSize_13 : decode cX9_forgedSize 13 = .ok (.isub, 1) := by decide +kernel
theorem dX9_forgedSize_14 : decode cX9_forgedSize 14 = .ok (.ireturn, 1) := by decide +kernel
set_option maxRecDepth 20000 in
theorem ggX9_markOf_X9_of : GoodIn wsX9_markOf wsX9_of := goodIn_r _ [5, 6, 25, 26, 27, 28, 29, 30, 31, 32, 33, 34, 35, 36, 37, 38, 39, 40, 41, 42, 43, 44, 45, 46, 47, 48, 49, 50] (by decide +kernel) (by decide +kernel)
set_option maxRecDepth 20000 in
theorem gX9_markOf_X9_of : GoodIn wsX9_markOf (wsV RX9 189 RX9 yX9_of wsX9_of) := goodIn_app (goodIn_of _ (by decide +kernel)) ggX9_markOf_X9_of
set_option maxRecDepth 20000 in
theorem ggX9_markOf_X9_began : GoodIn wsX9_markOf wsX9_began := goodIn_r _ [10, 11, 12, 25, 26, 27, 28, 29, 30, 31, 32, 33, 34, 35, 36, 37, 38, 39, 40, 41, 42, 43, 44, 45, 46, 47, 48, 49, 50] (by decide +kernel) (by decide +kernel)
set_option maxRecDepth 20000 in
theorem gX9_markOf_X9_began : GoodIn wsX9_markOf (wsV RX9 282 RX9 yX9_began wsX9_began) := goodIn_app (goodIn_of _ (by decide +kernel)) ggX9_markOf_X9_began
set_option maxRecDepth 20000 in
theorem ggX9_markOf_X9_forgedSize : GoodIn wsX9_markOf wsX9_forgedSize := goodIn_r _ [16, 7, 8, 9, 4, 10, 11, 12, 17, 18, 19, 20, 1, 2, 3, 5, 6, 25, 26, 27, 28, 29, 30, 31, 32, 33, 34, 35, 36, 37, 38, 39, 40, 41, 42, 43, 44, 45, 46, 47, 48, 49, 50] (by decide +kernel) (by decide +kernel)
set_option maxRecDepth 20000 in
theorem gX9_markOf_X9_forgedSize : GoodIn wsX9_markOf (wsV RX9 288 RX9 yX9_forgedSize wsX9_forgedSize) := goodIn_app (goodIn_of _ (by decide +kernel)) ggX9_markOf_X9_forgedSize
set_option maxRecDepth 20000 in
theorem ggX9_markOf_X9_spanOf : GoodIn wsX9_markOf wsX9_spanOf := goodIn_r _ [24, 6, 1, 2, 3, 4, 5, 25, 26, 27, 28, 29, 30, 31, 32, 33, 34, 35, 36, 37, 38, 39, 40, 41, 42, 43, 44, 45, 46, 47, 48, 49, 50] (by decide +kernel) (by decide +kernel)
set_option maxRecDepth 20000 in
theorem gX9_markOf_X9_spanOf : GoodIn wsX9_markOf (wsV RX9 192 RX9 yX9_spanOf wsX9_spanOf) := goodIn_app (goodIn_of _ (by decide +kernel)) ggX9_markOf_X9_spanOf
theorem dX9_markOf_0 : decode cX9_markOf 0 = .ok (.aload_n 0, 1) := by decide +kernel
theorem dX9_markOf_1 : decode cX9_markOf 1 = .ok (.iload_n 1, 1) := by decide +kernel
theorem dX9_markOf_2 : decode cX9_markOf 2 = .ok (.iconst 0, 1) := by decide +kernel
theorem dX9_markOf_3 : decode cX9_markOf 3 = .ok (.invokevirtual 189, 3) := by decide +kernel
theorem dX9_markOf_6 : decode cX9_markOf 6 = .ok (.istore_n 2, 1) := by decide +kernel
theorem dX9_markOf_7 : decode cX9_markOf 7 = .ok (.iload_n 2, 1) := by decide +kernel
theorem dX9_markOf_8 : decode cX9_markOf 8 = .ok (.iconst 5, 1) := by decide +kernel
theorem dX9_markOf_9 : decode cX9_markOf 9 = .ok (.if_icmp .ne 23, 3) := by decide +kernel
theorem dX9_markOf_12 : decode cX9_markOf 12 = .ok (.aload_n 0, 1) := by decide +kernel
theorem dX9_markOf_13 : decode cX9_markOf 13 = .ok (.bipush 23, 2) := by decide +kernel
theorem dX9_markOf_15 : decode cX9_markOf 15 = .ok (.invokevirtual 282, 3) := by decide +kernel
theorem dX9_markOf_18 : decode cX9_markOf 18 = .ok (.aload_n 0, 1) := by decide +kernel
theorem dX9_markOf_19 : decode cX9_markOf 19 = .ok (.bipush 20, 2) := by decide +kernel
theorem dX9_markOf_21 : decode cX9_markOf 21 = .ok (.invokevirtual 282, 3) := by decide +kernel
theorem dX9_markOf_24 : decode cX9_markOf 24 = .ok (.iload_n 1, 1) := by decide +kernel
theorem dX9_markOf_25 : decode cX9_markOf 25 = .ok (.aload_n 0, 1) := by decide +kernel
theorem dX9_markOf_26 : decode cX9_markOf 26 = .ok (.iload_n 1, 1) := by decide +kernel
theorem dX9_markOf_27 : decode cX9_markOf 27 = .ok (.invokevirtual 288, 3) := by decide +kernel
theorem dX9_markOf_30 : decode cX9_markOf 30 = .ok (.isub, 1) := by decide +kernel
theorem dX9_markOf_31 : decode cX9_markOf 31 = .ok (.ireturn, 1) := by decide +kernel
theorem dX9_markOf_32 : decode cX9_markOf 32 = .ok (.iload_n 2, 1) := by decide +kernel
theorem dX9_markOf_33 : decode cX9_markOf 33 = .ok (.iconst 4, 1) := by decide +kernel
theorem dX9_markOf_34 : decode cX9_markOf 34 = .ok (.if_icmp .ne 9, 3) := by decide +kernel
theorem dX9_markOf_37 : decode cX9_markOf 37 = .ok (.aload_n 0, 1) := by decide +kernel
theorem dX9_markOf_38 : decode cX9_markOf 38 = .ok (.bipush 24, 2) := by decide +kernel
theorem dX9_markOf_40 : decode cX9_markOf 40 = .ok (.invokevirtual 282, 3) := by decide +kernel
theorem dX9_markOf_43 : decode cX9_markOf 43 = .ok (.iload_n 2, 1) := by decide +kernel
theorem dX9_markOf_44 : decode cX9_markOf 44 = .ok (.iconst 3, 1) := by decide +kernel
theorem dX9_markOf_45 : decode cX9_markOf 45 = .ok (.if_icmp .lt 9, 3) := by decide +kernel
theorem dX9_markOf_48 : decode cX9_markOf 48 = .ok (.aload_n 0, 1) := by decide +kernel
theorem dX9_markOf_49 : decode cX9_markOf 49 = .ok (.bipush 22, 2) := by decide +kernel
theorem dX9_markOf_51 : decode cX9_markOf 51 = .ok (.invokevirtual 282, 3) := by decide +kernel
theorem dX9_markOf_54 : decode cX9_markOf 54 = .ok (.aload_n 0, 1) := by decide +kernel
theorem dX9_markOf_55 : decode cX9_markOf 55 = .ok (.bipush 21, 2) := by decide +kernel
theorem dX9_markOf_57 : decode cX9_markOf 57 = .ok (.invokevirtual 282, 3) := by decide +kernel
theorem dX9_markOf_60 : decode cX9_markOf 60 = .ok (.aload_n 0, 1) := by decide +kernel
theorem dX9_markOf_61 : decode cX9_markOf 61 = .ok (.bipush 20, 2) := by decide +kernel
theorem dX9_markOf_63 : decode cX9_markOf 63 = .ok (.invokevirtual 282, 3) := by decide +kernel
theorem dX9_markOf_66 : decode cX9_markOf 66 = .ok (.iload_n 1, 1) := by decide +kernel
theorem dX9_markOf_67 : decode cX9_markOf 67 = .ok (.aload_n 0, 1) := by decide +kernel
theorem dX9_markOf_68 : decode cX9_markOf 68 = .ok (.iload_n 1, 1) := by decide +kernel
theorem dX9_markOf_69 : decode cX9_markOf 69 = .ok (.invokevirtual 192, 3) := by decide +kernel
theorem dX9_markOf_72 : decode cX9_markOf 72 = .ok (.iadd, 1) := by decide +kernel
theorem dX9_markOf_73 : decode cX9_markOf 73 = .ok (.iload_n 2, 1) := by decide +kernel
theorem dX9_markOf_74 : decode cX9_markOf 74 = .ok (.iconst 3, 1) := by decide +kernel
theorem dX9_markOf_75 : decode cX9_markOf 75 = .ok (.if_icmp .lt 9, 3) := by decide +kernel
theorem dX9_markOf_78 : decode cX9_markOf 78 = .ok (.sipush 1000, 3) := by decide +kernel
theorem dX9_markOf_81 : decode cX9_markOf 81 = .ok (.goto 4, 3) := by decide +kernel
theorem dX9_markOf_84 : decode cX9_markOf 84 = .ok (.iconst 0, 1) := by decide +kernel
theorem dX9_markOf_85 : decode cX9_markOf 85 = .ok (.isub, 1) := by decide +kernel
theorem dX9_markOf_86 : decode cX9_markOf 86 = .ok (.istore_n 3, 1) := by decide +kernel
theorem dX9_markOf_87 : decode cX9_markOf 87 = .ok (.iload_n 2, 1) := by decide +kernel
theorem dX9_markOf_88 : decode cX9_markOf 88 = .ok (.iconst 4, 1) := by decide +kernel
theorem dX9_markOf_89 : decode cX9_markOf 89 = .ok (.if_icmp .ne 9, 3) := by decide +kernel
theorem dX9_markOf_92 : decode cX9_markOf 92 = .ok (.iconst 2, 1) := by decide +kernel
theorem dX9_markOf_93 : decode cX9_markOf 93 = .ok (.iload_n 3, 1) := by decide +kernel
theorem dX9_markOf_94 : decode cX9_markOf 94 = .ok (.imul, 1) := by decide +kernel
theorem dX9_markOf_95 : decode cX9_markOf 95 = .ok (.goto 4, 3) := by decide +kernel
theorem dX9_markOf_98 : decode cX9_markOf 98 = .ok (.iload_n 3, 1) := by decide +kernel
theorem dX9_markOf_99 : decode cX9_markOf 99 = .ok (.ireturn, 1) := by decide +kernel
set_option maxRecDepth 20000 in
theorem ggX9_sizeOf_X9_of : GoodIn wsX9_sizeOf wsX9_of := goodIn_r _ [5, 6, 29, 30, 31, 32, 33, 34, 35, 36, 37, 38, 39, 40, 41, 42, 43, 44, 45, 46, 47, 48, 49, 50, 51, 52, 53, 54] (by decide +kernel) (by decide +kernel)
set_option maxRecDepth 20000 in
theorem gX9_sizeOf_X9_of : GoodIn wsX9_sizeOf (wsV RX9 189 RX9 yX9_of wsX9_of) := goodIn_app (goodIn_of _ (by decide +kernel)) ggX9_sizeOf_X9_of
set_option maxRecDepth 20000 in
theorem ggX9_sizeOf_X9_forgedSize : GoodIn wsX9_sizeOf wsX9_forgedSize := goodIn_r _ [10, 11, 12, 13, 4, 14, 15, 16, 17, 18, 19, 20, 1, 2, 3, 5, 6, 29, 30, 31, 32, 33, 34, 35, 36, 37, 38, 39, 40, 41, 42, 43, 44, 45, 46, 47, 48, 49, 50, 51, 52, 53, 54] (by decide +kernel) (by decide +kernel)
set_option maxRecDepth 20000 in
theorem gX9_sizeOf_X9_forgedSize : GoodIn wsX9_sizeOf (wsV RX9 288 RX9 yX9_forgedSize wsX9_forgedSize) := goodIn_app (goodIn_of _ (by decide +kernel)) ggX9_sizeOf_X9_forgedSize
set_option maxRecDepth 20000 in
theorem ggX9_sizeOf_X9_began : GoodIn wsX9_sizeOf wsX9_began := goodIn_r _ [14, 15, 16, 29, 30, 31, 32, 33, 34, 35, 36, 37, 38, 39, 40, 41, 42, 43, 44, 45, 46, 47, 48, 49, 50, 51, 52, 53, 54] (by decide +kernel) (by decide +kernel)
set_option maxRecDepth 20000 in
theorem gX9_sizeOf_X9_began : GoodIn wsX9_sizeOf (wsV RX9 282 RX9 yX9_began wsX9_began) := goodIn_app (goodIn_of _ (by decide +kernel)) ggX9_sizeOf_X9_began
set_option maxRecDepth 20000 in
theorem ggX9_sizeOf_X9_plainSize : GoodIn wsX9_sizeOf wsX9_plainSize := goodIn_r _ [20, 11, 12, 13, 4, 14, 15, 16, 1, 2, 3, 5, 6, 29, 30, 31, 32, 33, 34, 35, 36, 37, 38, 39, 40, 41, 42, 43, 44, 45, 46, 47, 48, 49, 50, 51, 52, 53, 54] (by decide +kernel) (by decide +kernel)
set_option maxRecDepth 20000 in
theorem gX9_sizeOf_X9_plainSize : GoodIn wsX9_sizeOf (wsV RX9 285 RX9 yX9_plainSize wsX9_plainSize) := goodIn_app (goodIn_of _ (by decide +kernel)) ggX9_sizeOf_X9_plainSize
set_option maxRecDepth 20000 in
theorem ggX9_sizeOf_X9_markOf : GoodIn wsX9_sizeOf wsX9_markOf := goodIn_r _ [24, 1, 2, 3, 4, 5, 6, 11, 12, 13, 14, 15, 16, 7, 8, 9, 10, 17, 18, 19, 20, 25, 26, 27, 28, 29, 30, 31, 32, 33, 34, 35, 36, 37, 38, 39, 40, 41, 42, 43, 44, 45, 46, 47, 48, 49, 50, 51, 52, 53, 54] (by decide +kernel) (by decide +kernel)
set_option maxRecDepth 20000 in
theorem gX9_sizeOf_X9_markOf : GoodIn wsX9_sizeOf (wsV RX9 291 RX9 yX9_markOf wsX9_markOf) := goodIn_app (goodIn_of _ (by decide +kernel)) ggX9_sizeOf_X9_markOf
theorem dX9_sizeOf_0 : decode cX9_sizeOf 0 = .ok (.aload_n 0, 1) := by decide +kernel
theorem dX9_sizeOf_1 : decode cX9_sizeOf 1 = .ok (.iload_n 1, 1) := by decide +kernel
theorem dX9_sizeOf_2 : decode cX9_sizeOf 2 = .ok (.iconst 0, 1) := by decide +kernel
theorem dX9_sizeOf_3 : decode cX9_sizeOf 3 = .ok (.invokevirtual 189, 3) := by decide +kernel
theorem dX9_sizeOf_6 : decode cX9_sizeOf 6 = .ok (.istore_n 2, 1) := by decide +kernel
theorem dX9_sizeOf_7 : decode cX9_sizeOf 7 = .ok (.iload_n 2, 1) := by decide +kernel
theorem dX9_sizeOf_8 : decode cX9_sizeOf 8 = .ok (.iconst 5, 1) := by decide +kernel
theorem dX9_sizeOf_9 : decode cX9_sizeOf 9 = .ok (.if_icmp .ne 9, 3) := by decide +kernel
theorem dX9_sizeOf_12 : decode cX9_sizeOf 12 = .ok (.aload_n 0, 1) := by decide +kernel
theorem dX9_sizeOf_13 : decode cX9_sizeOf 13 = .ok (.iload_n 1, 1) := by decide +kernel
theorem dX9_sizeOf_14 : decode cX9_sizeOf 14 = .ok (.invokevirtual 288, 3) := by decide +kernel
theorem dX9_sizeOf_17 : decode cX9_sizeOf 17 = .ok (.ireturn, 1) := by decide +kernel
theorem dX9_sizeOf_18 : decode cX9_sizeOf 18 = .ok (.iload_n 2, 1) := by decide +kernel
theorem dX9_sizeOf_19 : decode cX9_sizeOf 19 = .ok (.iconst 2, 1) := by decide +kernel
theorem dX9_sizeOf_20 : decode cX9_sizeOf 20 = .ok (.if_icmp .eq 8, 3) := by decide +kernel
theorem dX9_sizeOf_23 : decode cX9_sizeOf 23 = .ok (.iload_n 2, 1) := by decide +kernel
theorem dX9_sizeOf_24 : decode cX9_sizeOf 24 = .ok (.iconst 4, 1) := by decide +kernel
theorem dX9_sizeOf_25 : decode cX9_sizeOf 25 = .ok (.if_icmp .ne 19, 3) := by decide +kernel
theorem dX9_sizeOf_28 : decode cX9_sizeOf 28 = .ok (.aload_n 0, 1) := by decide +kernel
theorem dX9_sizeOf_29 : decode cX9_sizeOf 29 = .ok (.iload_n 2, 1) := by decide +kernel
theorem dX9_sizeOf_30 : decode cX9_sizeOf 30 = .ok (.iconst 2, 1) := by decide +kernel
theorem dX9_sizeOf_31 : decode cX9_sizeOf 31 = .ok (.if_icmp .ne 8, 3) := by decide +kernel
theorem dX9_sizeOf_34 : decode cX9_sizeOf 34 = .ok (.bipush 12, 2) := by decide +kernel
theorem dX9_sizeOf_36 : decode cX9_sizeOf 36 = .ok (.goto 5, 3) := by decide +kernel
theorem dX9_sizeOf_39 : decode cX9_sizeOf 39 = .ok (.bipush 14, 2) := by decide +kernel
theorem dX9_sizeOf_41 : decode cX9_sizeOf 41 = .ok (.invokevirtual 282, 3) := by decide +kernel
theorem dX9_sizeOf_44 : decode cX9_sizeOf 44 = .ok (.aload_n 0, 1) := by decide +kernel
theorem dX9_sizeOf_45 : decode cX9_sizeOf 45 = .ok (.bipush 11, 2) := by decide +kernel
theorem dX9_sizeOf_47 : decode cX9_sizeOf 47 = .ok (.invokevirtual 282, 3) := by decide +kernel
theorem dX9_sizeOf_50 : decode cX9_sizeOf 50 = .ok (.aload_n 0, 1) := by decide +kernel
theorem dX9_sizeOf_51 : decode cX9_sizeOf 51 = .ok (.iload_n 1, 1) := by decide +kernel
theorem dX9_sizeOf_52 : decode cX9_sizeOf 52 = .ok (.invokevirtual 285, 3) := by decide +kernel
theorem dX9_sizeOf_55 : decode cX9_sizeOf 55 = .ok (.istore_n 3, 1) := by decide +kernel
theorem dX9_sizeOf_56 : decode cX9_sizeOf 56 = .ok (.iload_n 3, 1) := by decide +kernel
theorem dX9_sizeOf_57 : decode cX9_sizeOf 57 = .ok (.aload_n 0, 1) := by decide +kernel
theorem dX9_sizeOf_58 : decode cX9_sizeOf 58 = .ok (.iload_n 1, 1) := by decide +kernel
theorem dX9_sizeOf_59 : decode cX9_sizeOf 59 = .ok (.invokevirtual 291, 3) := by decide +kernel
theorem dX9_sizeOf_62 : decode cX9_sizeOf 62 = .ok (.iadd, 1) := by decide +kernel
theorem dX9_sizeOf_63 : decode cX9_sizeOf 63 = .ok (.istore_n 3, 1) := by decide +kernel
theorem dX9_sizeOf_64 : decode cX9_sizeOf 64 = .ok (.iload_n 2, 1) := by decide +kernel
theorem dX9_sizeOf_65 : decode cX9_sizeOf 65 = .ok (.iconst 2, 1) := by decide +kernel
theorem dX9_sizeOf_66 : decode cX9_sizeOf 66 = .ok (.if_icmp .ne 8, 3) := by decide +kernel
theorem dX9_sizeOf_69 : decode cX9_sizeOf 69 = .ok (.iload_n 3, 1) := by decide +kernel
theorem dX9_sizeOf_70 : decode cX9_sizeOf 70 = .ok (.ineg, 1) := by decide +kernel
theorem dX9_sizeOf_71 : decode cX9_sizeOf 71 = .ok (.goto 15, 3) := by decide +kernel
theorem dX9_sizeOf_74 : decode cX9_sizeOf 74 = .ok (.iload_n 2, 1) := by decide +kernel
theorem dX9_sizeOf_75 : decode cX9_sizeOf 75 = .ok (.iconst 4, 1) := by decide +kernel
theorem dX9_sizeOf_76 : decode cX9_sizeOf 76 = .ok (.if_icmp .ne 9, 3) := by decide +kernel
theorem dX9_sizeOf_79 : decode cX9_sizeOf 79 = .ok (.iconst 2, 1) := by decide +kernel
theorem dX9_sizeOf_80 : decode cX9_sizeOf 80 = .ok (.iload_n 3, 1) := by decide +kernel
theorem dX9_sizeOf_81 : decode cX9_sizeOf 81 = .ok (.imul, 1) := by decide +kernel
theorem dX9_sizeOf_82 : decode cX9_sizeOf 82 = .ok (.goto 4, 3) := by decide +kernel
theorem dX9_sizeOf_85 : decode cX9_sizeOf 85 = .ok (.iload_n 3, 1) := by decide +kernel
theorem dX9_sizeOf_86 : decode cX9_sizeOf 86 = .ok (.ireturn, 1) := by decide +kernel
set_option maxRecDepth 20000 in
theorem ggX9_ask_X9_isCoin : GoodIn wsX9_ask wsX9_isCoin := goodIn_r _ [8, 9, 10, 11, 7, 12, 42, 43, 44, 45, 46, 47, 48, 49, 50, 51, 52, 53, 54, 55, 56, 57, 58, 59, 60, 61, 62, 63, 64, 65, 66, 67] (by decide +kernel) (by decide +kernel)
set_option maxRecDepth 20000 in
theorem gX9_ask_X9_isCoin : GoodIn wsX9_ask (wsV RX9 204 RX9 yX9_isCoin wsX9_isCoin) := goodIn_app (goodIn_of _ (by decide +kernel)) ggX9_ask_X9_isCoin
set_option maxRecDepth 20000 in
theorem ggX9_ask_X9_in : GoodIn wsX9_ask wsX9_in := goodIn_r _ [12] (by decide +kernel) (by decide +kernel)
set_option maxRecDepth 20000 in
theorem gX9_ask_X9_in : GoodIn wsX9_ask (va_wsS RX9 57 yX9_in wsX9_in) := goodIn_app (goodIn_of _ (by decide +kernel)) ggX9_ask_X9_in
set_option maxRecDepth 20000 in
theorem ggX9_ask_X9_sizeOf : GoodIn wsX9_ask wsX9_sizeOf := goodIn_r _ [16, 17, 18, 19, 7, 20, 9, 21, 22, 23, 24, 25, 26, 27, 28, 3, 29, 30, 31, 32, 33, 34, 35, 36, 37, 38, 39, 40, 41, 42, 43, 44, 45, 46, 47, 48, 49, 50, 51, 52, 53, 54, 55, 56, 57, 58, 59, 60, 61, 62, 63, 64, 65, 66, 67] (by decide +kernel) (by decide +kernel)
set_option maxRecDepth 20000 in
theorem gX9_ask_X9_sizeOf : GoodIn wsX9_ask (wsV RX9 294 RX9 yX9_sizeOf wsX9_sizeOf) := goodIn_app (goodIn_of _ (by decide +kernel)) ggX9_ask_X9_sizeOf
set_option maxRecDepth 20000 in
theorem ggX9_ask_X9_markOf : GoodIn wsX9_ask wsX9_markOf := goodIn_r _ [37, 17, 18, 19, 7, 20, 9, 25, 26, 27, 28, 3, 29, 21, 22, 23, 24, 30, 31, 32, 33, 38, 39, 40, 41, 42, 43, 44, 45, 46, 47, 48, 49, 50, 51, 52, 53, 54, 55, 56, 57, 58, 59, 60, 61, 62, 63, 64, 65, 66, 67] (by decide +kernel) (by decide +kernel)
set_option maxRecDepth 20000 in
theorem gX9_ask_X9_markOf : GoodIn wsX9_ask (wsV RX9 291 RX9 yX9_markOf wsX9_markOf) := goodIn_app (goodIn_of _ (by decide +kernel)) ggX9_ask_X9_markOf
theorem dX9_ask_0 : decode cX9_ask 0 = .ok (.aload_n 0, 1) := by decide +kernel
theorem dX9_ask_1 : decode cX9_ask 1 = .ok (.iconst 0, 1) := by decide +kernel
theorem dX9_ask_2 : decode cX9_ask 2 = .ok (.putfield 47, 3) := by decide +kernel
theorem dX9_ask_5 : decode cX9_ask 5 = .ok (.aload_n 0, 1) := by decide +kernel
theorem dX9_ask_6 : decode cX9_ask 6 = .ok (.iload_n 1, 1) := by decide +kernel
theorem dX9_ask_7 : decode cX9_ask 7 = .ok (.invokevirtual 204, 3) := by decide +kernel
theorem dX9_ask_10 : decode cX9_ask 10 = .ok (.ifCond .eq 13, 3) := by decide +kernel
theorem dX9_ask_13 : decode cX9_ask 13 = .ok (.iload_n 2, 1) := by decide +kernel
theorem dX9_ask_14 : decode cX9_ask 14 = .ok (.i2l, 1) := by decide +kernel
theorem dX9_ask_15 : decode cX9_ask 15 = .ok (.lconst 0, 1) := by decide +kernel
theorem dX9_ask_16 : decode cX9_ask 16 = .ok (.lconst 1, 1) := by decide +kernel
theorem dX9_ask_17 : decode cX9_ask 17 = .ok (.invokestatic 57, 3) := by decide +kernel
theorem dX9_ask_20 : decode cX9_ask 20 = .ok (.ifCond .ne 6, 3) := by decide +kernel
theorem dX9_ask_23 : decode cX9_ask 23 = .ok (.ldc 67, 2) := by decide +kernel
theorem dX9_ask_25 : decode cX9_ask 25 = .ok (.ireturn, 1) := by decide +kernel
theorem dX9_ask_26 : decode cX9_ask 26 = .ok (.aload_n 0, 1) := by decide +kernel
theorem dX9_ask_27 : decode cX9_ask 27 = .ok (.iconst 0, 1) := by decide +kernel
theorem dX9_ask_28 : decode cX9_ask 28 = .ok (.putfield 279, 3) := by decide +kernel
theorem dX9_ask_31 : decode cX9_ask 31 = .ok (.iload_n 2, 1) := by decide +kernel
theorem dX9_ask_32 : decode cX9_ask 32 = .ok (.ifCond .ne 11, 3) := by decide +kernel
theorem dX9_ask_35 : decode cX9_ask 35 = .ok (.aload_n 0, 1) := by decide +kernel
theorem dX9_ask_36 : decode cX9_ask 36 = .ok (.iload_n 1, 1) := by decide +kernel
theorem dX9_ask_37 : decode cX9_ask 37 = .ok (.invokevirtual 294, 3) := by decide +kernel
theorem dX9_ask_40 : decode cX9_ask 40 = .ok (.goto 8, 3) := by decide +kernel
theorem dX9_ask_43 : decode cX9_ask 43 = .ok (.aload_n 0, 1) := by decide +kernel
theorem dX9_ask_44 : decode cX9_ask 44 = .ok (.iload_n 1, 1) := by decide +kernel
theorem dX9_ask_45 : decode cX9_ask 45 = .ok (.invokevirtual 291, 3) := by decide +kernel
theorem dX9_ask_48 : decode cX9_ask 48 = .ok (.ireturn, 1) := by decide +kernel
set_option maxRecDepth 20000 in
theorem ggX9_trace_X9_in : GoodIn wsX9_trace wsX9_in := goodIn_r _ [8] (by decide +kernel) (by decide +kernel)
set_option maxRecDepth 20000 in
theorem gX9_trace_X9_in : GoodIn wsX9_trace (va_wsS RX9 57 yX9_in wsX9_in) := goodIn_app (goodIn_of _ (by decide +kernel)) ggX9_trace_X9_in
theorem dX9_trace_0 : decode cX9_trace 0 = .ok (.aload_n 0, 1) := by decide +kernel
theorem dX9_trace_1 : decode cX9_trace 1 = .ok (.iconst 0, 1) := by decide +kernel
theorem dX9_trace_2 : decode cX9_trace 2 = .ok (.putfield 47, 3) := by decide +kernel
theorem dX9_trace_5 : decode cX9_trace 5 = .ok (.iload_n 1, 1) := by decide +kernel
theorem dX9_trace_6 : decode cX9_trace 6 = .ok (.i2l, 1) := by decide +kernel
theorem dX9_trace_7 : decode cX9_trace 7 = .ok (.lconst 0, 1) := by decide +kernel
theorem dX9_trace_8 : decode cX9_trace 8 = .ok (.aload_n 0, 1) := by decide +kernel
theorem dX9_trace_9 : decode cX9_trace 9 = .ok (.getfield 279, 3) := by decide +kernel
theorem dX9_trace_12 : decode cX9_trace 12 = .ok (.iconst 1, 1) := by decide +kernel
theorem dX9_trace_13 : decode cX9_trace 13 = .ok (.isub, 1) := by decide +kernel
theorem dX9_trace_14 : decode cX9_trace 14 = .ok (.i2l, 1) := by decide +kernel
theorem dX9_trace_15 : decode cX9_trace 15 = .ok (.invokestatic 57, 3) := by decide +kernel
theorem dX9_trace_18 : decode cX9_trace 18 = .ok (.ifCond .eq 12, 3) := by decide +kernel
theorem dX9_trace_21 : decode cX9_trace 21 = .ok (.aload_n 0, 1) := by decide +kernel
theorem dX9_trace_22 : decode cX9_trace 22 = .ok (.getfield 44, 3) := by decide +kernel
theorem dX9_trace_25 : decode cX9_trace 25 = .ok (.iload_n 1, 1) := by decide +kernel
theorem dX9_trace_26 : decode cX9_trace 26 = .ok (.iaload, 1) := by decide +kernel
theorem dX9_trace_27 : decode cX9_trace 27 = .ok (.goto 5, 3) := by decide +kernel
theorem dX9_trace_30 : decode cX9_trace 30 = .ok (.ldc 83, 2) := by decide +kernel
theorem dX9_trace_32 : decode cX9_trace 32 = .ok (.ireturn, 1) := by decide +kernel
set_option maxRecDepth 20000 in
theorem ggX9_count_X9_of : GoodIn wsX9_count wsX9_of := goodIn_r _ [11, 3, 12, 13, 14, 15, 16, 17, 18, 19, 20, 21, 22, 23, 24, 25, 26, 27, 28, 29, 30, 31, 32, 33, 34, 35, 36, 37] (by decide +kernel) (by decide +kernel)
set_option maxRecDepth 20000 in
theorem gX9_count_X9_of : GoodIn wsX9_count (wsV RX9 189 RX9 yX9_of wsX9_of) := goodIn_app (goodIn_of _ (by decide +kernel)) ggX9_count_X9_of
theorem dX9_count_0 : decode cX9_count 0 = .ok (.aload_n 0, 1) := by decide +kernel
theorem dX9_count_1 : decode cX9_count 1 = .ok (.iconst 0, 1) := by decide +kernel
theorem dX9_count_2 : decode cX9_count 2 = .ok (.putfield 47, 3) := by decide +kernel
theorem dX9_count_5 : decode cX9_count 5 = .ok (.iconst 0, 1) := by decide +kernel
theorem dX9_count_6 : decode cX9_count 6 = .ok (.istore_n 2, 1) := by decide +kernel
theorem dX9_count_7 : decode cX9_count 7 = .ok (.iload_n 1, 1) := by decide +kernel
theorem dX9_count_8 : decode cX9_count 8 = .ok (.tableswitch 164 0 7 #[48, 81, 88, 95, 102, 107, 107, 159], 48) := by decide +kernel
theorem dX9_count_56 : decode cX9_count 56 = .ok (.iconst 0, 1) := by decide +kernel
theorem dX9_count_57 : decode cX9_count 57 = .ok (.istore_n 3, 1) := by decide +kernel
theorem dX9_count_58 : decode cX9_count 58 = .ok (.iload_n 3, 1) := by decide +kernel
theorem dX9_count_59 : decode cX9_count 59 = .ok (.bipush 8, 2) := by decide +kernel
theorem dX9_count_61 : decode cX9_count 61 = .ok (.if_icmp .ge 26, 3) := by decide +kernel
theorem dX9_count_64 : decode cX9_count 64 = .ok (.iload_n 2, 1) := by decide +kernel
theorem dX9_count_65 : decode cX9_count 65 = .ok (.aload_n 0, 1) := by decide +kernel
theorem dX9_count_66 : decode cX9_count 66 = .ok (.getfield 7, 3) := by decide +kernel
theorem dX9_count_69 : decode cX9_count 69 = .ok (.iload_n 3, 1) := by decide +kernel
theorem dX9_count_70 : decode cX9_count 70 = .ok (.iaload, 1) := by decide +kernel
theorem dX9_count_71 : decode cX9_count 71 = .ok (.ifCond .lt 7, 3) := by decide +kernel
theorem dX9_count_74 : decode cX9_count 74 = .ok (.iconst 1, 1) := by decide +kernel
theorem dX9_count_75 : decode cX9_count 75 = .ok (.goto 4, 3) := by decide +kernel
theorem dX9_count_78 : decode cX9_count 78 = .ok (.iconst 0, 1) := by decide +kernel
theorem dX9_count_79 : decode cX9_count 79 = .ok (.iadd, 1) := by decide +kernel
theorem dX9_count_80 : decode cX9_count 80 = .ok (.istore_n 2, 1) := by decide +kernel
theorem dX9_count_81 : decode cX9_count 81 = .ok (.iinc 3 1, 3) := by decide +kernel
theorem dX9_count_84 : decode cX9_count 84 = .ok (.goto (-26), 3) := by decide +kernel
theorem dX9_count_87 : decode cX9_count 87 = .ok (.iload_n 2, 1) := by decide +kernel
theorem dX9_count_88 : decode cX9_count 88 = .ok (.ireturn, 1) := by decide +kernel
theorem dX9_count_89 : decode cX9_count 89 = .ok (.aload_n 0, 1) := by decide +kernel
theorem dX9_count_90 : decode cX9_count 90 = .ok (.getfield 19, 3) := by decide +kernel
theorem dX9_count_93 : decode cX9_count 93 = .ok (.iconst 2, 1) := by decide +kernel
theorem dX9_count_94 : decode cX9_count 94 = .ok (.iaload, 1) := by decide +kernel
theorem dX9_count_95 : decode cX9_count 95 = .ok (.ireturn, 1) := by decide +kernel
theorem dX9_count_96 : decode cX9_count 96 = .ok (.aload_n 0, 1) := by decide +kernel
theorem dX9_count_97 : decode cX9_count 97 = .ok (.getfield 19, 3) := by decide +kernel
theorem dX9_count_100 : decode cX9_count 100 = .ok (.iconst 3, 1) := by decide +kernel
theorem dX9_count_101 : decode cX9_count 101 = .ok (.iaload, 1) := by decide +kernel
theorem dX9_count_102 : decode cX9_count 102 = .ok (.ireturn, 1) := by decide +kernel
theorem dX9_count_103 : decode cX9_count 103 = .ok (.aload_n 0, 1) := by decide +kernel
theorem dX9_count_104 : decode cX9_count 104 = .ok (.getfield 19, 3) := by decide +kernel
theorem dX9_count_107 : decode cX9_count 107 = .ok (.iconst 4, 1) := by decide +kernel
theorem dX9_count_108 : decode cX9_count 108 = .ok (.iaload, 1) := by decide +kernel
theorem dX9_count_109 : decode cX9_count 109 = .ok (.ireturn, 1) := by decide +kernel
theorem dX9_count_110 : decode cX9_count 110 = .ok (.aload_n 0, 1) := by decide +kernel
theorem dX9_count_111 : decode cX9_count 111 = .ok (.getfield 183, 3) := by decide +kernel
theorem dX9_count_114 : decode cX9_count 114 = .ok (.ireturn, 1) := by decide +kernel
theorem dX9_count_115 : decode cX9_count 115 = .ok (.iconst 0, 1) := by decide +kernel
theorem dX9_count_116 : decode cX9_count 116 = .ok (.istore_n 3, 1) := by decide +kernel
theorem dX9_count_117 : decode cX9_count 117 = .ok (.iload_n 3, 1) := by decide +kernel
theorem dX9_count_118 : decode cX9_count 118 = .ok (.aload_n 0, 1) := by decide +kernel
theorem dX9_count_119 : decode cX9_count 119 = .ok (.getfield 19, 3) := by decide +kernel
theorem dX9_count_122 : decode cX9_count 122 = .ok (.iconst 3, 1) := by decide +kernel
theorem dX9_count_123 : decode cX9_count 123 = .ok (.iaload, 1) := by decide +kernel
theorem dX9_count_124 : decode cX9_count 124 = .ok (.if_icmp .ge 41, 3) := by decide +kernel
theorem dX9_count_127 : decode cX9_count 127 = .ok (.iload_n 2, 1) := by decide +kernel
theorem dX9_count_128 : decode cX9_count 128 = .ok (.iload_n 1, 1) := by decide +kernel
theorem dX9_count_129 : decode cX9_count 129 = .ok (.iconst 5, 1) := by decide +kernel
theorem dX9_count_130 : decode cX9_count 130 = .ok (.if_icmp .ne 12, 3) := by decide +kernel
theorem dX9_count_133 : decode cX9_count 133 = .ok (.aload_n 0, 1) := by decide +kernel
theorem dX9_count_134 : decode cX9_count 134 = .ok (.iload_n 3, 1) := by decide +kernel
theorem dX9_count_135 : decode cX9_count 135 = .ok (.iconst 5, 1) := by decide +kernel
theorem dX9_count_136 : decode cX9_count 136 = .ok (.invokevirtual 189, 3) := by decide +kernel
theorem dX9_count_139 : decode cX9_count 139 = .ok (.goto 18, 3) := by decide +kernel
theorem dX9_count_142 : decode cX9_count 142 = .ok (.aload_n 0, 1) := by decide +kernel
theorem dX9_count_143 : decode cX9_count 143 = .ok (.iload_n 3, 1) := by decide +kernel
theorem dX9_count_144 : decode cX9_count 144 = .ok (.iconst 3, 1) := by decide +kernel
theorem dX9_count_145 : decode cX9_count 145 = .ok (.invokevirtual 189, 3) := by decide +kernel
theorem dX9_count_148 : decode cX9_count 148 = .ok (.iconst 3, 1) := by decide +kernel
theorem dX9_count_149 : decode cX9_count 149 = .ok (.if_icmp .ne 7, 3) := by decide +kernel
theorem dX9_count_152 : decode cX9_count 152 = .ok (.iconst 1, 1) := by decide +kernel
theorem dX9_count_153 : decode cX9_count 153 = .ok (.goto 4, 3) := by decide +kernel
theorem dX9_count_156 : decode cX9_count 156 = .ok (.iconst 0, 1) := by decide +kernel
theorem dX9_count_157 : decode cX9_count 157 = .ok (.iadd, 1) := by decide +kernel
theorem dX9_count_158 : decode cX9_count 158 = .ok (.istore_n 2, 1) := by decide +kernel
theorem dX9_count_159 : decode cX9_count 159 = .ok (.iinc 3 1, 3) := by decide +kernel
theorem dX9_count_162 : decode cX9_count 162 = .ok (.goto (-45), 3) := by decide +kernel
theorem dX9_count_165 : decode cX9_count 165 = .ok (.iload_n 2, 1) := by decide +kernel
theorem dX9_count_166 : decode cX9_count 166 = .ok (.ireturn, 1) := by decide +kernel
theorem dX9_count_167 : decode cX9_count 167 = .ok (.aload_n 0, 1) := by decide +kernel
theorem dX9_count_168 : decode cX9_count 168 = .ok (.getfield 74, 3) := by decide +kernel
theorem dX9_count_171 : decode cX9_count 171 = .ok (.ireturn, 1) := by decide +kernel
theorem dX9_count_172 : decode cX9_count 172 = .ok (.ldc 67, 2) := by decide +kernel
theorem dX9_count_174 : decode cX9_count 174 = .ok (.ireturn, 1) := by decide +kernel
theorem dX9_status_0 : decode cX9_status 0 = .ok (.aload_n 0, 1) := by decide +kernel
theorem dX9_status_1 : decode cX9_status 1 = .ok (.iconst 0, 1) := by decide +kernel
theorem dX9_status_2 : decode cX9_status 2 = .ok (.putfield 47, 3) := by decide +kernel
theorem dX9_status_5 : decode cX9_status 5 = .ok (.aload_n 0, 1) := by decide +kernel
theorem dX9_status_6 : decode cX9_status 6 = .ok (.getfield 51, 3) := by decide +kernel
theorem dX9_status_9 : decode cX9_status 9 = .ok (.ireturn, 1) := by decide +kernel
