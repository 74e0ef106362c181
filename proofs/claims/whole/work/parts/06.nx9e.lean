theorem dX9_save_0 : decode cX9_save 0 = .ok (.aload_n 0, 1) := by decide +kernel
theorem dX9_save_1 : decode cX9_save 1 = .ok (.iconst 0, 1) := by decide +kernel
theorem dX9_save_2 : decode cX9_save 2 = .ok (.putfield 47, 3) := by decide +kernel
theorem dX9_save_5 : decode cX9_save 5 = .ok (.aload_n 0, 1) := by decide +kernel
theorem dX9_save_6 : decode cX9_save 6 = .ok (.getfield 179, 3) := by decide +kernel
theorem dX9_save_9 : decode cX9_save 9 = .ok (.ifCond .ne 6, 3) := by decide +kernel
theorem dX9_save_12 : decode cX9_save 12 = .ok (.ldc 210, 2) := by decide +kernel
theorem dX9_save_14 : decode cX9_save 14 = .ok (.ireturn, 1) := by decide +kernel
theorem dX9_save_15 : decode cX9_save 15 = .ok (.iload_n 1, 1) := by decide +kernel
theorem dX9_save_16 : decode cX9_save 16 = .ok (.i2l, 1) := by decide +kernel
theorem dX9_save_17 : decode cX9_save 17 = .ok (.lconst 0, 1) := by decide +kernel
theorem dX9_save_18 : decode cX9_save 18 = .ok (.ldc2_w 224, 3) := by decide +kernel
theorem dX9_save_21 : decode cX9_save 21 = .ok (.invokestatic 57, 3) := by decide +kernel
theorem dX9_save_24 : decode cX9_save 24 = .ok (.ifCond .ne 6, 3) := by decide +kernel
theorem dX9_save_27 : decode cX9_save 27 = .ok (.ldc 67, 2) := by decide +kernel
theorem dX9_save_29 : decode cX9_save 29 = .ok (.ireturn, 1) := by decide +kernel
theorem dX9_save_30 : decode cX9_save 30 = .ok (.iconst 0, 1) := by decide +kernel
theorem dX9_save_31 : decode cX9_save 31 = .ok (.istore_n 2, 1) := by decide +kernel
theorem dX9_save_32 : decode cX9_save 32 = .ok (.iconst 0, 1) := by decide +kernel
theorem dX9_save_33 : decode cX9_save 33 = .ok (.istore_n 3, 1) := by decide +kernel
theorem dX9_save_34 : decode cX9_save 34 = .ok (.iload_n 3, 1) := by decide +kernel
theorem dX9_save_35 : decode cX9_save 35 = .ok (.iload_n 1, 1) := by decide +kernel
theorem dX9_save_36 : decode cX9_save 36 = .ok (.if_icmp .ge 112, 3) := by decide +kernel
theorem dX9_save_39 : decode cX9_save 39 = .ok (.ldc 83, 2) := by decide +kernel
theorem dX9_save_41 : decode cX9_save 41 = .ok (.istore 4, 2) := by decide +kernel
theorem dX9_save_43 : decode cX9_save 43 = .ok (.iconst 0, 1) := by decide +kernel
theorem dX9_save_44 : decode cX9_save 44 = .ok (.istore 5, 2) := by decide +kernel
theorem dX9_save_46 : decode cX9_save 46 = .ok (.iload 5, 2) := by decide +kernel
theorem dX9_save_48 : decode cX9_save 48 = .ok (.aload_n 0, 1) := by decide +kernel
theorem dX9_save_49 : decode cX9_save 49 = .ok (.getfield 19, 3) := by decide +kernel
theorem dX9_save_52 : decode cX9_save 52 = .ok (.iconst 3, 1) := by decide +kernel
theorem dX9_save_53 : decode cX9_save 53 = .ok (.iaload, 1) := by decide +kernel
theorem dX9_save_54 : decode cX9_save 54 = .ok (.if_icmp .ge 70, 3) := by decide +kernel
theorem dX9_save_57 : decode cX9_save 57 = .ok (.aload_n 0, 1) := by decide +kernel
theorem dX9_save_58 : decode cX9_save 58 = .ok (.iload 5, 2) := by decide +kernel
theorem dX9_save_60 : decode cX9_save 60 = .ok (.invokevirtual 250, 3) := by decide +kernel
theorem dX9_save_63 : decode cX9_save 63 = .ok (.ifCond .eq 16, 3) := by decide +kernel
theorem dX9_save_66 : decode cX9_save 66 = .ok (.iload_n 2, 1) := by decide +kernel
theorem dX9_save_67 : decode cX9_save 67 = .ok (.iload 5, 2) := by decide +kernel
theorem dX9_save_69 : decode cX9_save 69 = .ok (.ishr, 1) := by decide +kernel
theorem dX9_save_70 : decode cX9_save 70 = .ok (.iconst 1, 1) := by decide +kernel
theorem dX9_save_71 : decode cX9_save 71 = .ok (.iand, 1) := by decide +kernel
theorem dX9_save_72 : decode cX9_save 72 = .ok (.ifCond .ne 7, 3) := by decide +kernel
theorem dX9_save_75 : decode cX9_save 75 = .ok (.iconst 1, 1) := by decide +kernel
theorem dX9_save_76 : decode cX9_save 76 = .ok (.goto 4, 3) := by decide +kernel
theorem dX9_save_79 : decode cX9_save 79 = .ok (.iconst 0, 1) := by decide +kernel
theorem dX9_save_80 : decode cX9_save 80 = .ok (.istore 6, 2) := by decide +kernel
theorem dX9_save_82 : decode cX9_save 82 = .ok (.iload 6, 2) := by decide +kernel
theorem dX9_save_84 : decode cX9_save 84 = .ok (.ifCond .eq 30, 3) := by decide +kernel
theorem dX9_save_87 : decode cX9_save 87 = .ok (.iload 4, 2) := by decide +kernel
theorem dX9_save_89 : decode cX9_save 89 = .ok (.ldc 83, 2) := by decide +kernel
theorem dX9_save_91 : decode cX9_save 91 = .ok (.if_icmp .eq 18, 3) := by decide +kernel
theorem dX9_save_94 : decode cX9_save 94 = .ok (.aload_n 0, 1) := by decide +kernel
theorem dX9_save_95 : decode cX9_save 95 = .ok (.iload 5, 2) := by decide +kernel
theorem dX9_save_97 : decode cX9_save 97 = .ok (.invokevirtual 242, 3) := by decide +kernel
theorem dX9_save_100 : decode cX9_save 100 = .ok (.aload_n 0, 1) := by decide +kernel
theorem dX9_save_101 : decode cX9_save 101 = .ok (.iload 4, 2) := by decide +kernel
theorem dX9_save_103 : decode cX9_save 103 = .ok (.invokevirtual 242, 3) := by decide +kernel
theorem dX9_save_106 : decode cX9_save 106 = .ok (.if_icmp .ge 8, 3) := by decide +kernel
theorem dX9_save_109 : decode cX9_save 109 = .ok (.iload 5, 2) := by decide +kernel
theorem dX9_save_111 : decode cX9_save 111 = .ok (.goto 5, 3) := by decide +kernel
theorem dX9_save_114 : decode cX9_save 114 = .ok (.iload 4, 2) := by decide +kernel
theorem dX9_save_116 : decode cX9_save 116 = .ok (.istore 4, 2) := by decide +kernel
theorem dX9_save_118 : decode cX9_save 118 = .ok (.iinc 5 1, 3) := by decide +kernel
theorem dX9_save_121 : decode cX9_save 121 = .ok (.goto (-75), 3) := by decide +kernel
theorem dX9_save_124 : decode cX9_save 124 = .ok (.iload_n 2, 1) := by decide +kernel
theorem dX9_save_125 : decode cX9_save 125 = .ok (.iload 4, 2) := by decide +kernel
theorem dX9_save_127 : decode cX9_save 127 = .ok (.ldc 83, 2) := by decide +kernel
theorem dX9_save_129 : decode cX9_save 129 = .ok (.if_icmp .ne 7, 3) := by decide +kernel
theorem dX9_save_132 : decode cX9_save 132 = .ok (.iconst 0, 1) := by decide +kernel
theorem dX9_save_133 : decode cX9_save 133 = .ok (.goto 7, 3) := by decide +kernel
theorem dX9_save_136 : decode cX9_save 136 = .ok (.iconst 1, 1) := by decide +kernel
theorem dX9_save_137 : decode cX9_save 137 = .ok (.iload 4, 2) := by decide +kernel
theorem dX9_save_139 : decode cX9_save 139 = .ok (.ishl, 1) := by decide +kernel
theorem dX9_save_140 : decode cX9_save 140 = .ok (.ior, 1) := by decide +kernel
theorem dX9_save_141 : decode cX9_save 141 = .ok (.istore_n 2, 1) := by decide +kernel
theorem dX9_save_142 : decode cX9_save 142 = .ok (.iinc 3 1, 3) := by decide +kernel
theorem dX9_save_145 : decode cX9_save 145 = .ok (.goto (-111), 3) := by decide +kernel
theorem dX9_save_148 : decode cX9_save 148 = .ok (.iload_n 2, 1) := by decide +kernel
theorem dX9_save_149 : decode cX9_save 149 = .ok (.ireturn, 1) := by decide +kernel
set_option maxRecDepth 20000 in
theorem ggX9_daysOf_X9_farOf : GoodIn wsX9_daysOf wsX9_farOf := goodIn_r _ [7, 1, 8, 9, 10, 11, 12, 13, 14, 15, 16, 17, 18, 19, 20, 21, 22, 23, 24, 25, 26, 27, 28, 29, 30, 31, 32, 33] (by decide +kernel) (by decide +kernel)
set_option maxRecDepth 20000 in
theorem gX9_daysOf_X9_farOf : GoodIn wsX9_daysOf (wsV RX9 198 RX9 yX9_farOf wsX9_farOf) := goodIn_app (goodIn_of _ (by decide +kernel)) ggX9_daysOf_X9_farOf
theorem dX9_daysOf_0 : decode cX9_daysOf 0 = .ok (.iconst 0, 1) := by decide +kernel
theorem dX9_daysOf_1 : decode cX9_daysOf 1 = .ok (.istore_n 2, 1) := by decide +kernel
theorem dX9_daysOf_2 : decode cX9_daysOf 2 = .ok (.iconst 0, 1) := by decide +kernel
theorem dX9_daysOf_3 : decode cX9_daysOf 3 = .ok (.istore_n 3, 1) := by decide +kernel
theorem dX9_daysOf_4 : decode cX9_daysOf 4 = .ok (.iconst 0, 1) := by decide +kernel
theorem dX9_daysOf_5 : decode cX9_daysOf 5 = .ok (.istore 4, 2) := by decide +kernel
theorem dX9_daysOf_7 : decode cX9_daysOf 7 = .ok (.iload 4, 2) := by decide +kernel
theorem dX9_daysOf_9 : decode cX9_daysOf 9 = .ok (.iload_n 1, 1) := by decide +kernel
theorem dX9_daysOf_10 : decode cX9_daysOf 10 = .ok (.if_icmp .ge 48, 3) := by decide +kernel
theorem dX9_daysOf_13 : decode cX9_daysOf 13 = .ok (.iload_n 3, 1) := by decide +kernel
theorem dX9_daysOf_14 : decode cX9_daysOf 14 = .ok (.aload_n 0, 1) := by decide +kernel
theorem dX9_daysOf_15 : decode cX9_daysOf 15 = .ok (.iload_n 2, 1) := by decide +kernel
theorem dX9_daysOf_16 : decode cX9_daysOf 16 = .ok (.aload_n 0, 1) := by decide +kernel
theorem dX9_daysOf_17 : decode cX9_daysOf 17 = .ok (.getfield 19, 3) := by decide +kernel
theorem dX9_daysOf_20 : decode cX9_daysOf 20 = .ok (.bipush 69, 2) := by decide +kernel
theorem dX9_daysOf_22 : decode cX9_daysOf 22 = .ok (.aload_n 0, 1) := by decide +kernel
theorem dX9_daysOf_23 : decode cX9_daysOf 23 = .ok (.getfield 31, 3) := by decide +kernel
theorem dX9_daysOf_26 : decode cX9_daysOf 26 = .ok (.iload 4, 2) := by decide +kernel
theorem dX9_daysOf_28 : decode cX9_daysOf 28 = .ok (.iaload, 1) := by decide +kernel
theorem dX9_daysOf_29 : decode cX9_daysOf 29 = .ok (.iadd, 1) := by decide +kernel
theorem dX9_daysOf_30 : decode cX9_daysOf 30 = .ok (.iaload, 1) := by decide +kernel
theorem dX9_daysOf_31 : decode cX9_daysOf 31 = .ok (.invokevirtual 198, 3) := by decide +kernel
theorem dX9_daysOf_34 : decode cX9_daysOf 34 = .ok (.iadd, 1) := by decide +kernel
theorem dX9_daysOf_35 : decode cX9_daysOf 35 = .ok (.istore_n 3, 1) := by decide +kernel
theorem dX9_daysOf_36 : decode cX9_daysOf 36 = .ok (.aload_n 0, 1) := by decide +kernel
theorem dX9_daysOf_37 : decode cX9_daysOf 37 = .ok (.getfield 19, 3) := by decide +kernel
theorem dX9_daysOf_40 : decode cX9_daysOf 40 = .ok (.bipush 69, 2) := by decide +kernel
theorem dX9_daysOf_42 : decode cX9_daysOf 42 = .ok (.aload_n 0, 1) := by decide +kernel
theorem dX9_daysOf_43 : decode cX9_daysOf 43 = .ok (.getfield 31, 3) := by decide +kernel
theorem dX9_daysOf_46 : decode cX9_daysOf 46 = .ok (.iload 4, 2) := by decide +kernel
theorem dX9_daysOf_48 : decode cX9_daysOf 48 = .ok (.iaload, 1) := by decide +kernel
theorem dX9_daysOf_49 : decode cX9_daysOf 49 = .ok (.iadd, 1) := by decide +kernel
theorem dX9_daysOf_50 : decode cX9_daysOf 50 = .ok (.iaload, 1) := by decide +kernel
theorem dX9_daysOf_51 : decode cX9_daysOf 51 = .ok (.istore_n 2, 1) := by decide +kernel
theorem dX9_daysOf_52 : decode cX9_daysOf 52 = .ok (.iinc 4 1, 3) := by decide +kernel
theorem dX9_daysOf_55 : decode cX9_daysOf 55 = .ok (.goto (-48), 3) := by decide +kernel
theorem dX9_daysOf_58 : decode cX9_daysOf 58 = .ok (.iload_n 3, 1) := by decide +kernel
theorem dX9_daysOf_59 : decode cX9_daysOf 59 = .ok (.aload_n 0, 1) := by decide +kernel
theorem dX9_daysOf_60 : decode cX9_daysOf 60 = .ok (.iload_n 2, 1) := by decide +kernel
theorem dX9_daysOf_61 : decode cX9_daysOf 61 = .ok (.iconst 0, 1) := by decide +kernel
theorem dX9_daysOf_62 : decode cX9_daysOf 62 = .ok (.invokevirtual 198, 3) := by decide +kernel
theorem dX9_daysOf_65 : decode cX9_daysOf 65 = .ok (.iadd, 1) := by decide +kernel
theorem dX9_daysOf_66 : decode cX9_daysOf 66 = .ok (.istore_n 3, 1) := by decide +kernel
theorem dX9_daysOf_67 : decode cX9_daysOf 67 = .ok (.iload_n 3, 1) := by decide +kernel
theorem dX9_daysOf_68 : decode cX9_daysOf 68 = .ok (.sipush 10000, 3) := by decide +kernel
theorem dX9_daysOf_71 : decode cX9_daysOf 71 = .ok (.if_icmp .ge 7, 3) := by decide +kernel
theorem dX9_daysOf_74 : decode cX9_daysOf 74 = .ok (.iload_n 3, 1) := by decide +kernel
theorem dX9_daysOf_75 : decode cX9_daysOf 75 = .ok (.goto 6, 3) := by decide +kernel
theorem dX9_daysOf_78 : decode cX9_daysOf 78 = .ok (.sipush 10000, 3) := by decide +kernel
theorem dX9_daysOf_81 : decode cX9_daysOf 81 = .ok (.ireturn, 1) := by decide +kernel
theorem dX9_nextOrder_0 : decode cX9_nextOrder 0 = .ok (.iload_n 1, 1) := by decide +kernel
theorem dX9_nextOrder_1 : decode cX9_nextOrder 1 = .ok (.iconst 2, 1) := by decide +kernel
theorem dX9_nextOrder_2 : decode cX9_nextOrder 2 = .ok (.isub, 1) := by decide +kernel
theorem dX9_nextOrder_3 : decode cX9_nextOrder 3 = .ok (.istore_n 2, 1) := by decide +kernel
theorem dX9_nextOrder_4 : decode cX9_nextOrder 4 = .ok (.iload_n 2, 1) := by decide +kernel
theorem dX9_nextOrder_5 : decode cX9_nextOrder 5 = .ok (.ifCond .lt 26, 3) := by decide +kernel
theorem dX9_nextOrder_8 : decode cX9_nextOrder 8 = .ok (.aload_n 0, 1) := by decide +kernel
theorem dX9_nextOrder_9 : decode cX9_nextOrder 9 = .ok (.getfield 31, 3) := by decide +kernel
theorem dX9_nextOrder_12 : decode cX9_nextOrder 12 = .ok (.iload_n 2, 1) := by decide +kernel
theorem dX9_nextOrder_13 : decode cX9_nextOrder 13 = .ok (.iaload, 1) := by decide +kernel
theorem dX9_nextOrder_14 : decode cX9_nextOrder 14 = .ok (.aload_n 0, 1) := by decide +kernel
theorem dX9_nextOrder_15 : decode cX9_nextOrder 15 = .ok (.getfield 31, 3) := by decide +kernel
theorem dX9_nextOrder_18 : decode cX9_nextOrder 18 = .ok (.iload_n 2, 1) := by decide +kernel
theorem dX9_nextOrder_19 : decode cX9_nextOrder 19 = .ok (.iconst 1, 1) := by decide +kernel
theorem dX9_nextOrder_20 : decode cX9_nextOrder 20 = .ok (.iadd, 1) := by decide +kernel
theorem dX9_nextOrder_21 : decode cX9_nextOrder 21 = .ok (.iaload, 1) := by decide +kernel
theorem dX9_nextOrder_22 : decode cX9_nextOrder 22 = .ok (.if_icmp .le 9, 3) := by decide +kernel
theorem dX9_nextOrder_25 : decode cX9_nextOrder 25 = .ok (.iinc 2 (-1), 3) := by decide +kernel
theorem dX9_nextOrder_28 : decode cX9_nextOrder 28 = .ok (.goto (-24), 3) := by decide +kernel
theorem dX9_nextOrder_31 : decode cX9_nextOrder 31 = .ok (.iload_n 2, 1) := by decide +kernel
theorem dX9_nextOrder_32 : decode cX9_nextOrder 32 = .ok (.ifCond .ge 5, 3) := by decide +kernel
theorem dX9_nextOrder_35 : decode cX9_nextOrder 35 = .ok (.iconst 0, 1) := by decide +kernel
theorem dX9_nextOrder_36 : decode cX9_nextOrder 36 = .ok (.ireturn, 1) := by decide +kernel
theorem dX9_nextOrder_37 : decode cX9_nextOrder 37 = .ok (.iload_n 1, 1) := by decide +kernel
theorem dX9_nextOrder_38 : decode cX9_nextOrder 38 = .ok (.iconst 1, 1) := by decide +kernel
theorem dX9_nextOrder_39 : decode cX9_nextOrder 39 = .ok (.isub, 1) := by decide +kernel
theorem dX9_nextOrder_40 : decode cX9_nextOrder 40 = .ok (.istore_n 3, 1) := by decide +kernel
theorem dX9_nextOrder_41 : decode cX9_nextOrder 41 = .ok (.aload_n 0, 1) := by decide +kernel
theorem dX9_nextOrder_42 : decode cX9_nextOrder 42 = .ok (.getfield 31, 3) := by decide +kernel
theorem dX9_nextOrder_45 : decode cX9_nextOrder 45 = .ok (.iload_n 3, 1) := by decide +kernel
theorem dX9_nextOrder_46 : decode cX9_nextOrder 46 = .ok (.iaload, 1) := by decide +kernel
theorem dX9_nextOrder_47 : decode cX9_nextOrder 47 = .ok (.aload_n 0, 1) := by decide +kernel
theorem dX9_nextOrder_48 : decode cX9_nextOrder 48 = .ok (.getfield 31, 3) := by decide +kernel
theorem dX9_nextOrder_51 : decode cX9_nextOrder 51 = .ok (.iload_n 2, 1) := by decide +kernel
theorem dX9_nextOrder_52 : decode cX9_nextOrder 52 = .ok (.iaload, 1) := by decide +kernel
theorem dX9_nextOrder_53 : decode cX9_nextOrder 53 = .ok (.if_icmp .ge 9, 3) := by decide +kernel
theorem dX9_nextOrder_56 : decode cX9_nextOrder 56 = .ok (.iinc 3 (-1), 3) := by decide +kernel
theorem dX9_nextOrder_59 : decode cX9_nextOrder 59 = .ok (.goto (-18), 3) := by decide +kernel
theorem dX9_nextOrder_62 : decode cX9_nextOrder 62 = .ok (.aload_n 0, 1) := by decide +kernel
theorem dX9_nextOrder_63 : decode cX9_nextOrder 63 = .ok (.getfield 31, 3) := by decide +kernel
theorem dX9_nextOrder_66 : decode cX9_nextOrder 66 = .ok (.iload_n 2, 1) := by decide +kernel
theorem dX9_nextOrder_67 : decode cX9_nextOrder 67 = .ok (.iaload, 1) := by decide +kernel
theorem dX9_nextOrder_68 : decode cX9_nextOrder 68 = .ok (.istore 4, 2) := by decide +kernel
theorem dX9_nextOrder_70 : decode cX9_nextOrder 70 = .ok (.aload_n 0, 1) := by decide +kernel
theorem dX9_nextOrder_71 : decode cX9_nextOrder 71 = .ok (.getfield 31, 3) := by decide +kernel
theorem dX9_nextOrder_74 : decode cX9_nextOrder 74 = .ok (.iload_n 2, 1) := by decide +kernel
theorem dX9_nextOrder_75 : decode cX9_nextOrder 75 = .ok (.aload_n 0, 1) := by decide +kernel
theorem dX9_nextOrder_76 : decode cX9_nextOrder 76 = .ok (.getfield 31, 3) := by decide +kernel
theorem dX9_nextOrder_79 : decode cX9_nextOrder 79 = .ok (.iload_n 3, 1) := by decide +kernel
theorem dX9_nextOrder_80 : decode cX9_nextOrder 80 = .ok (.iaload, 1) := by decide +kernel
theorem dX9_nextOrder_81 : decode cX9_nextOrder 81 = .ok (.iastore, 1) := by decide +kernel
theorem dX9_nextOrder_82 : decode cX9_nextOrder 82 = .ok (.aload_n 0, 1) := by decide +kernel
theorem dX9_nextOrder_83 : decode cX9_nextOrder 83 = .ok (.getfield 31, 3) := by decide +kernel
theorem dX9_nextOrder_86 : decode cX9_nextOrder 86 = .ok (.iload_n 3, 1) := by decide +kernel
theorem dX9_nextOrder_87 : decode cX9_nextOrder 87 = .ok (.iload 4, 2) := by decide +kernel
theorem dX9_nextOrder_89 : decode cX9_nextOrder 89 = .ok (.iastore, 1) := by decide +kernel
theorem dX9_nextOrder_90 : decode cX9_nextOrder 90 = .ok (.iload_n 1, 1) := by decide +kernel
theorem dX9_nextOrder_91 : decode cX9_nextOrder 91 = .ok (.iconst 1, 1) := by decide +kernel
theorem dX9_nextOrder_92 : decode cX9_nextOrder 92 = .ok (.isub, 1) := by decide +kernel
theorem dX9_nextOrder_93 : decode cX9_nextOrder 93 = .ok (.istore 5, 2) := by decide +kernel
theorem dX9_nextOrder_95 : decode cX9_nextOrder 95 = .ok (.iload_n 2, 1) := by decide +kernel
theorem dX9_nextOrder_96 : decode cX9_nextOrder 96 = .ok (.iconst 1, 1) := by decide +kernel
theorem dX9_nextOrder_97 : decode cX9_nextOrder 97 = .ok (.iadd, 1) := by decide +kernel
theorem dX9_nextOrder_98 : decode cX9_nextOrder 98 = .ok (.istore 6, 2) := by decide +kernel
theorem dX9_nextOrder_100 : decode cX9_nextOrder 100 = .ok (.iload 6, 2) := by decide +kernel
theorem dX9_nextOrder_102 : decode cX9_nextOrder 102 = .ok (.iload 5, 2) := by decide +kernel
theorem dX9_nextOrder_104 : decode cX9_nextOrder 104 = .ok (.if_icmp .ge 44, 3) := by decide +kernel
theorem dX9_nextOrder_107 : decode cX9_nextOrder 107 = .ok (.aload_n 0, 1) := by decide +kernel
theorem dX9_nextOrder_108 : decode cX9_nextOrder 108 = .ok (.getfield 31, 3) := by decide +kernel
theorem dX9_nextOrder_111 : decode cX9_nextOrder 111 = .ok (.iload 6, 2) := by decide +kernel
theorem dX9_nextOrder_113 : decode cX9_nextOrder 113 = .ok (.iaload, 1) := by decide +kernel
theorem dX9_nextOrder_114 : decode cX9_nextOrder 114 = .ok (.istore 4, 2) := by decide +kernel
theorem dX9_nextOrder_116 : decode cX9_nextOrder 116 = .ok (.aload_n 0, 1) := by decide +kernel
theorem dX9_nextOrder_117 : decode cX9_nextOrder 117 = .ok (.getfield 31, 3) := by decide +kernel
theorem dX9_nextOrder_120 : decode cX9_nextOrder 120 = .ok (.iload 6, 2) := by decide +kernel
theorem dX9_nextOrder_122 : decode cX9_nextOrder 122 = .ok (.aload_n 0, 1) := by decide +kernel
theorem dX9_nextOrder_123 : decode cX9_nextOrder 123 = .ok (.getfield 31, 3) := by decide +kernel
theorem dX9_nextOrder_126 : decode cX9_nextOrder 126 = .ok (.iload 5, 2) := by decide +kernel
theorem dX9_nextOrder_128 : decode cX9_nextOrder 128 = .ok (.iaload, 1) := by decide +kernel
theorem dX9_nextOrder_129 : decode cX9_nextOrder 129 = .ok (.iastore, 1) := by decide +kernel
theorem dX9_nextOrder_130 : decode cX9_nextOrder 130 = .ok (.aload_n 0, 1) := by decide +kernel
theorem dX9_nextOrder_131 : decode cX9_nextOrder 131 = .ok (.getfield 31, 3) := by decide +kernel
theorem dX9_nextOrder_134 : decode cX9_nextOrder 134 = .ok (.iload 5, 2) := by decide +kernel
theorem dX9_nextOrder_136 : decode cX9_nextOrder 136 = .ok (.iload 4, 2) := by decide +kernel
theorem dX9_nextOrder_138 : decode cX9_nextOrder 138 = .ok (.iastore, 1) := by decide +kernel
theorem dX9_nextOrder_139 : decode cX9_nextOrder 139 = .ok (.iinc 5 (-1), 3) := by decide +kernel
theorem dX9_nextOrder_142 : decode cX9_nextOrder 142 = .ok (.iinc 6 1, 3) := by decide +kernel
theorem dX9_nextOrder_145 : decode cX9_nextOrder 145 = .ok (.goto (-45), 3) := by decide +kernel
theorem dX9_nextOrder_148 : decode cX9_nextOrder 148 = .ok (.iconst 1, 1) := by decide +kernel
theorem dX9_nextOrder_149 : decode cX9_nextOrder 149 = .ok (.ireturn, 1) := by decide +kernel
set_option maxRecDepth 20000 in
theorem ggX9_layTour_X9_daysOf : GoodIn wsX9_layTour wsX9_daysOf := goodIn_r _ [7, 8, 1, 9, 10, 11, 6, 12, 17, 18, 19, 20, 21, 22, 23, 24, 25, 26, 27, 28, 29, 30, 31, 32, 33, 34, 35, 36, 37, 38, 39, 40, 41, 42] (by decide +kernel) (by decide +kernel)
set_option maxRecDepth 20000 in
theorem gX9_layTour_X9_daysOf : GoodIn wsX9_layTour (wsV RX9 253 RX9 yX9_daysOf wsX9_daysOf) := goodIn_app (goodIn_of _ (by decide +kernel)) ggX9_layTour_X9_daysOf
set_option maxRecDepth 20000 in
theorem ggX9_layTour_X9_nextOrder : GoodIn wsX9_layTour wsX9_nextOrder := goodIn_r _ [16, 1, 17, 18, 19, 20, 21, 22, 23, 24, 25, 26, 27, 28, 29, 30, 31, 32, 33, 34, 35, 36, 37, 38, 39, 40, 41, 42] (by decide +kernel) (by decide +kernel)
set_option maxRecDepth 20000 in
theorem gX9_layTour_X9_nextOrder : GoodIn wsX9_layTour (wsV RX9 256 RX9 yX9_nextOrder wsX9_nextOrder) := goodIn_app (goodIn_of _ (by decide +kernel)) ggX9_layTour_X9_nextOrder
theorem dX9_layTour_0 : decode cX9_layTour 0 = .ok (.iconst 0, 1) := by decide +kernel
theorem dX9_layTour_1 : decode cX9_layTour 1 = .ok (.istore_n 2, 1) := by decide +kernel
theorem dX9_layTour_2 : decode cX9_layTour 2 = .ok (.iconst 0, 1) := by decide +kernel
theorem dX9_layTour_3 : decode cX9_layTour 3 = .ok (.istore_n 3, 1) := by decide +kernel
theorem dX9_layTour_4 : decode cX9_layTour 4 = .ok (.iload_n 3, 1) := by decide +kernel
theorem dX9_layTour_5 : decode cX9_layTour 5 = .ok (.bipush 6, 2) := by decide +kernel
theorem dX9_layTour_7 : decode cX9_layTour 7 = .ok (.if_icmp .ge 28, 3) := by decide +kernel
theorem dX9_layTour_10 : decode cX9_layTour 10 = .ok (.iload_n 1, 1) := by decide +kernel
theorem dX9_layTour_11 : decode cX9_layTour 11 = .ok (.iload_n 3, 1) := by decide +kernel
theorem dX9_layTour_12 : decode cX9_layTour 12 = .ok (.ishr, 1) := by decide +kernel
theorem dX9_layTour_13 : decode cX9_layTour 13 = .ok (.iconst 1, 1) := by decide +kernel
theorem dX9_layTour_14 : decode cX9_layTour 14 = .ok (.iand, 1) := by decide +kernel
theorem dX9_layTour_15 : decode cX9_layTour 15 = .ok (.iconst 1, 1) := by decide +kernel
theorem dX9_layTour_16 : decode cX9_layTour 16 = .ok (.if_icmp .ne 13, 3) := by decide +kernel
theorem dX9_layTour_19 : decode cX9_layTour 19 = .ok (.aload_n 0, 1) := by decide +kernel
theorem dX9_layTour_20 : decode cX9_layTour 20 = .ok (.getfield 31, 3) := by decide +kernel
theorem dX9_layTour_23 : decode cX9_layTour 23 = .ok (.iload_n 2, 1) := by decide +kernel
theorem dX9_layTour_24 : decode cX9_layTour 24 = .ok (.iload_n 3, 1) := by decide +kernel
theorem dX9_layTour_25 : decode cX9_layTour 25 = .ok (.iastore, 1) := by decide +kernel
theorem dX9_layTour_26 : decode cX9_layTour 26 = .ok (.iinc 2 1, 3) := by decide +kernel
theorem dX9_layTour_29 : decode cX9_layTour 29 = .ok (.iinc 3 1, 3) := by decide +kernel
theorem dX9_layTour_32 : decode cX9_layTour 32 = .ok (.goto (-28), 3) := by decide +kernel
theorem dX9_layTour_35 : decode cX9_layTour 35 = .ok (.sipush 10000, 3) := by decide +kernel
theorem dX9_layTour_38 : decode cX9_layTour 38 = .ok (.istore_n 3, 1) := by decide +kernel
theorem dX9_layTour_39 : decode cX9_layTour 39 = .ok (.iconst 1, 1) := by decide +kernel
theorem dX9_layTour_40 : decode cX9_layTour 40 = .ok (.istore 4, 2) := by decide +kernel
theorem dX9_layTour_42 : decode cX9_layTour 42 = .ok (.iload 4, 2) := by decide +kernel
theorem dX9_layTour_44 : decode cX9_layTour 44 = .ok (.ifCond .eq 58, 3) := by decide +kernel
theorem dX9_layTour_47 : decode cX9_layTour 47 = .ok (.aload_n 0, 1) := by decide +kernel
theorem dX9_layTour_48 : decode cX9_layTour 48 = .ok (.iload_n 2, 1) := by decide +kernel
theorem dX9_layTour_49 : decode cX9_layTour 49 = .ok (.invokevirtual 253, 3) := by decide +kernel
theorem dX9_layTour_52 : decode cX9_layTour 52 = .ok (.istore 5, 2) := by decide +kernel
theorem dX9_layTour_54 : decode cX9_layTour 54 = .ok (.iload 5, 2) := by decide +kernel
theorem dX9_layTour_56 : decode cX9_layTour 56 = .ok (.iload_n 3, 1) := by decide +kernel
theorem dX9_layTour_57 : decode cX9_layTour 57 = .ok (.if_icmp .ge 35, 3) := by decide +kernel
theorem dX9_layTour_60 : decode cX9_layTour 60 = .ok (.iload 5, 2) := by decide +kernel
theorem dX9_layTour_62 : decode cX9_layTour 62 = .ok (.istore_n 3, 1) := by decide +kernel
theorem dX9_layTour_63 : decode cX9_layTour 63 = .ok (.iconst 0, 1) := by decide +kernel
theorem dX9_layTour_64 : decode cX9_layTour 64 = .ok (.istore 6, 2) := by decide +kernel
theorem dX9_layTour_66 : decode cX9_layTour 66 = .ok (.iload 6, 2) := by decide +kernel
theorem dX9_layTour_68 : decode cX9_layTour 68 = .ok (.iload_n 2, 1) := by decide +kernel
theorem dX9_layTour_69 : decode cX9_layTour 69 = .ok (.if_icmp .ge 23, 3) := by decide +kernel
theorem dX9_layTour_72 : decode cX9_layTour 72 = .ok (.aload_n 0, 1) := by decide +kernel
theorem dX9_layTour_73 : decode cX9_layTour 73 = .ok (.getfield 34, 3) := by decide +kernel
theorem dX9_layTour_76 : decode cX9_layTour 76 = .ok (.iload 6, 2) := by decide +kernel
theorem dX9_layTour_78 : decode cX9_layTour 78 = .ok (.aload_n 0, 1) := by decide +kernel
theorem dX9_layTour_79 : decode cX9_layTour 79 = .ok (.getfield 31, 3) := by decide +kernel
theorem dX9_layTour_82 : decode cX9_layTour 82 = .ok (.iload 6, 2) := by decide +kernel
theorem dX9_layTour_84 : decode cX9_layTour 84 = .ok (.iaload, 1) := by decide +kernel
theorem dX9_layTour_85 : decode cX9_layTour 85 = .ok (.iastore, 1) := by decide +kernel
theorem dX9_layTour_86 : decode cX9_layTour 86 = .ok (.iinc 6 1, 3) := by decide +kernel
theorem dX9_layTour_89 : decode cX9_layTour 89 = .ok (.goto (-23), 3) := by decide +kernel
theorem dX9_layTour_92 : decode cX9_layTour 92 = .ok (.aload_n 0, 1) := by decide +kernel
theorem dX9_layTour_93 : decode cX9_layTour 93 = .ok (.iload_n 2, 1) := by decide +kernel
theorem dX9_layTour_94 : decode cX9_layTour 94 = .ok (.invokevirtual 256, 3) := by decide +kernel
theorem dX9_layTour_97 : decode cX9_layTour 97 = .ok (.istore 4, 2) := by decide +kernel
theorem dX9_layTour_99 : decode cX9_layTour 99 = .ok (.goto (-57), 3) := by decide +kernel
theorem dX9_layTour_102 : decode cX9_layTour 102 = .ok (.iload_n 3, 1) := by decide +kernel
theorem dX9_layTour_103 : decode cX9_layTour 103 = .ok (.ireturn, 1) := by decide +kernel
set_option maxRecDepth 20000 in
theorem ggX9_savedBy_X9_of : GoodIn wsX9_savedBy wsX9_of := goodIn_r _ [6, 1, 11, 12, 13, 14, 15, 16, 17, 18, 19, 20, 21, 22, 23, 24, 25, 26, 27, 28, 29, 30, 31, 32, 33, 34, 35, 36] (by decide +kernel) (by decide +kernel)
set_option maxRecDepth 20000 in
theorem gX9_savedBy_X9_of : GoodIn wsX9_savedBy (wsV RX9 189 RX9 yX9_of wsX9_of) := goodIn_app (goodIn_of _ (by decide +kernel)) ggX9_savedBy_X9_of
set_option maxRecDepth 20000 in
theorem ggX9_savedBy_X9_spanOf : GoodIn wsX9_savedBy wsX9_spanOf := goodIn_r _ [10, 1, 2, 3, 4, 5, 6, 11, 12, 13, 14, 15, 16, 17, 18, 19, 20, 21, 22, 23, 24, 25, 26, 27, 28, 29, 30, 31, 32, 33, 34, 35, 36] (by decide +kernel) (by decide +kernel)
set_option maxRecDepth 20000 in
theorem gX9_savedBy_X9_spanOf : GoodIn wsX9_savedBy (wsV RX9 192 RX9 yX9_spanOf wsX9_spanOf) := goodIn_app (goodIn_of _ (by decide +kernel)) ggX9_savedBy_X9_spanOf
theorem dX9_savedBy_0 : decode cX9_savedBy 0 = .ok (.iconst 0, 1) := by decide +kernel
theorem dX9_savedBy_1 : decode cX9_savedBy 1 = .ok (.istore_n 3, 1) := by decide +kernel
theorem dX9_savedBy_2 : decode cX9_savedBy 2 = .ok (.iconst 0, 1) := by decide +kernel
theorem dX9_savedBy_3 : decode cX9_savedBy 3 = .ok (.istore 4, 2) := by decide +kernel
theorem dX9_savedBy_5 : decode cX9_savedBy 5 = .ok (.iload 4, 2) := by decide +kernel
theorem dX9_savedBy_7 : decode cX9_savedBy 7 = .ok (.aload_n 0, 1) := by decide +kernel
theorem dX9_savedBy_8 : decode cX9_savedBy 8 = .ok (.getfield 19, 3) := by decide +kernel
theorem dX9_savedBy_11 : decode cX9_savedBy 11 = .ok (.iconst 3, 1) := by decide +kernel
theorem dX9_savedBy_12 : decode cX9_savedBy 12 = .ok (.iaload, 1) := by decide +kernel
theorem dX9_savedBy_13 : decode cX9_savedBy 13 = .ok (.if_icmp .ge 105, 3) := by decide +kernel
theorem dX9_savedBy_16 : decode cX9_savedBy 16 = .ok (.aload_n 0, 1) := by decide +kernel
theorem dX9_savedBy_17 : decode cX9_savedBy 17 = .ok (.iload 4, 2) := by decide +kernel
theorem dX9_savedBy_19 : decode cX9_savedBy 19 = .ok (.iconst 3, 1) := by decide +kernel
theorem dX9_savedBy_20 : decode cX9_savedBy 20 = .ok (.invokevirtual 189, 3) := by decide +kernel
theorem dX9_savedBy_23 : decode cX9_savedBy 23 = .ok (.ifCond .ne 22, 3) := by decide +kernel
theorem dX9_savedBy_26 : decode cX9_savedBy 26 = .ok (.iload_n 1, 1) := by decide +kernel
theorem dX9_savedBy_27 : decode cX9_savedBy 27 = .ok (.aload_n 0, 1) := by decide +kernel
theorem dX9_savedBy_28 : decode cX9_savedBy 28 = .ok (.iload 4, 2) := by decide +kernel
theorem dX9_savedBy_30 : decode cX9_savedBy 30 = .ok (.iconst 1, 1) := by decide +kernel
theorem dX9_savedBy_31 : decode cX9_savedBy 31 = .ok (.invokevirtual 189, 3) := by decide +kernel
theorem dX9_savedBy_34 : decode cX9_savedBy 34 = .ok (.ishr, 1) := by decide +kernel
theorem dX9_savedBy_35 : decode cX9_savedBy 35 = .ok (.iconst 1, 1) := by decide +kernel
theorem dX9_savedBy_36 : decode cX9_savedBy 36 = .ok (.iand, 1) := by decide +kernel
theorem dX9_savedBy_37 : decode cX9_savedBy 37 = .ok (.iconst 1, 1) := by decide +kernel
theorem dX9_savedBy_38 : decode cX9_savedBy 38 = .ok (.if_icmp .ne 7, 3) := by decide +kernel
theorem dX9_savedBy_41 : decode cX9_savedBy 41 = .ok (.iconst 1, 1) := by decide +kernel
theorem dX9_savedBy_42 : decode cX9_savedBy 42 = .ok (.goto 4, 3) := by decide +kernel
theorem dX9_savedBy_45 : decode cX9_savedBy 45 = .ok (.iconst 0, 1) := by decide +kernel
theorem dX9_savedBy_46 : decode cX9_savedBy 46 = .ok (.istore 5, 2) := by decide +kernel
theorem dX9_savedBy_48 : decode cX9_savedBy 48 = .ok (.aload_n 0, 1) := by decide +kernel
theorem dX9_savedBy_49 : decode cX9_savedBy 49 = .ok (.iload 4, 2) := by decide +kernel
theorem dX9_savedBy_51 : decode cX9_savedBy 51 = .ok (.iconst 0, 1) := by decide +kernel
theorem dX9_savedBy_52 : decode cX9_savedBy 52 = .ok (.invokevirtual 189, 3) := by decide +kernel
theorem dX9_savedBy_55 : decode cX9_savedBy 55 = .ok (.iconst 5, 1) := by decide +kernel
theorem dX9_savedBy_56 : decode cX9_savedBy 56 = .ok (.if_icmp .eq 35, 3) := by decide +kernel
theorem dX9_savedBy_59 : decode cX9_savedBy 59 = .ok (.aload_n 0, 1) := by decide +kernel
theorem dX9_savedBy_60 : decode cX9_savedBy 60 = .ok (.iload 4, 2) := by decide +kernel
theorem dX9_savedBy_62 : decode cX9_savedBy 62 = .ok (.iconst 5, 1) := by decide +kernel
theorem dX9_savedBy_63 : decode cX9_savedBy 63 = .ok (.invokevirtual 189, 3) := by decide +kernel
theorem dX9_savedBy_66 : decode cX9_savedBy 66 = .ok (.ifCond .ne 25, 3) := by decide +kernel
theorem dX9_savedBy_69 : decode cX9_savedBy 69 = .ok (.aload_n 0, 1) := by decide +kernel
theorem dX9_savedBy_70 : decode cX9_savedBy 70 = .ok (.iload 4, 2) := by decide +kernel
theorem dX9_savedBy_72 : decode cX9_savedBy 72 = .ok (.iconst 2, 1) := by decide +kernel
theorem dX9_savedBy_73 : decode cX9_savedBy 73 = .ok (.invokevirtual 189, 3) := by decide +kernel
theorem dX9_savedBy_76 : decode cX9_savedBy 76 = .ok (.iload_n 2, 1) := by decide +kernel
theorem dX9_savedBy_77 : decode cX9_savedBy 77 = .ok (.iadd, 1) := by decide +kernel
theorem dX9_savedBy_78 : decode cX9_savedBy 78 = .ok (.aload_n 0, 1) := by decide +kernel
theorem dX9_savedBy_79 : decode cX9_savedBy 79 = .ok (.iload 4, 2) := by decide +kernel
theorem dX9_savedBy_81 : decode cX9_savedBy 81 = .ok (.invokevirtual 192, 3) := by decide +kernel
theorem dX9_savedBy_84 : decode cX9_savedBy 84 = .ok (.if_icmp .gt 7, 3) := by decide +kernel
theorem dX9_savedBy_87 : decode cX9_savedBy 87 = .ok (.iconst 1, 1) := by decide +kernel
theorem dX9_savedBy_88 : decode cX9_savedBy 88 = .ok (.goto 4, 3) := by decide +kernel
theorem dX9_savedBy_91 : decode cX9_savedBy 91 = .ok (.iconst 0, 1) := by decide +kernel
theorem dX9_savedBy_92 : decode cX9_savedBy 92 = .ok (.istore 6, 2) := by decide +kernel
theorem dX9_savedBy_94 : decode cX9_savedBy 94 = .ok (.iload_n 3, 1) := by decide +kernel
theorem dX9_savedBy_95 : decode cX9_savedBy 95 = .ok (.iload 5, 2) := by decide +kernel
theorem dX9_savedBy_97 : decode cX9_savedBy 97 = .ok (.ifCond .eq 12, 3) := by decide +kernel
theorem dX9_savedBy_100 : decode cX9_savedBy 100 = .ok (.iload 6, 2) := by decide +kernel
theorem dX9_savedBy_102 : decode cX9_savedBy 102 = .ok (.ifCond .eq 7, 3) := by decide +kernel
theorem dX9_savedBy_105 : decode cX9_savedBy 105 = .ok (.iconst 1, 1) := by decide +kernel
theorem dX9_savedBy_106 : decode cX9_savedBy 106 = .ok (.goto 4, 3) := by decide +kernel
theorem dX9_savedBy_109 : decode cX9_savedBy 109 = .ok (.iconst 0, 1) := by decide +kernel
theorem dX9_savedBy_110 : decode cX9_savedBy 110 = .ok (.iadd, 1) := by decide +kernel
theorem dX9_savedBy_111 : decode cX9_savedBy 111 = .ok (.istore_n 3, 1) := by decide +kernel
theorem dX9_savedBy_112 : decode cX9_savedBy 112 = .ok (.iinc 4 1, 3) := by decide +kernel
theorem dX9_savedBy_115 : decode cX9_savedBy 115 = .ok (.goto (-110), 3) := by decide +kernel
theorem dX9_savedBy_118 : decode cX9_savedBy 118 = .ok (.iload_n 3, 1) := by decide +kernel
theorem dX9_savedBy_119 : decode cX9_savedBy 119 = .ok (.ireturn, 1) := by decide +kernel
set_option maxRecDepth 20000 in
theorem ggX9_tour_X9_in : GoodIn wsX9_tour wsX9_in := goodIn_r _ [11] (by decide +kernel) (by decide +kernel)
set_option maxRecDepth 20000 in
theorem gX9_tour_X9_in : GoodIn wsX9_tour (va_wsS RX9 57 yX9_in wsX9_in) := goodIn_app (goodIn_of _ (by decide +kernel)) ggX9_tour_X9_in
set_option maxRecDepth 20000 in
theorem ggX9_tour_X9_layTour : GoodIn wsX9_tour wsX9_layTour := goodIn_r _ [15, 16, 7, 17, 18, 19, 10, 20, 4, 21, 22, 23, 24, 25, 26, 27, 28, 41, 42, 43, 44, 45, 46, 47, 48, 49, 50, 51, 52, 53, 54, 55, 56, 57, 58, 59, 60, 61, 62, 63, 64, 65, 66] (by decide +kernel) (by decide +kernel)
set_option maxRecDepth 20000 in
theorem gX9_tour_X9_layTour : GoodIn wsX9_tour (wsV RX9 259 RX9 yX9_layTour wsX9_layTour) := goodIn_app (goodIn_of _ (by decide +kernel)) ggX9_tour_X9_layTour
set_option maxRecDepth 20000 in
theorem ggX9_tour_X9_savedBy : GoodIn wsX9_tour wsX9_savedBy := goodIn_r _ [32, 4, 33, 34, 35, 10, 36, 37, 38, 39, 40, 41, 42, 43, 44, 45, 46, 47, 48, 49, 50, 51, 52, 53, 54, 55, 56, 57, 58, 59, 60, 61, 62, 63, 64, 65, 66] (by decide +kernel) (by decide +kernel)
set_option maxRecDepth 20000 in
theorem gX9_tour_X9_savedBy : GoodIn wsX9_tour (wsV RX9 262 RX9 yX9_savedBy wsX9_savedBy) := goodIn_app (goodIn_of _ (by decide +kernel)) ggX9_tour_X9_savedBy
theorem dX9_tour_0 : decode cX9_tour 0 = .ok (.aload_n 0, 1) := by decide +kernel
theorem dX9_tour_1 : decode cX9_tour 1 = .ok (.iconst 0, 1) := by decide +kernel
theorem dX9_tour_2 : decode cX9_tour 2 = .ok (.putfield 47, 3) := by decide +kernel
theorem dX9_tour_5 : decode cX9_tour 5 = .ok (.aload_n 0, 1) := by decide +kernel
theorem dX9_tour_6 : decode cX9_tour 6 = .ok (.getfield 179, 3) := by decide +kernel
theorem dX9_tour_9 : decode cX9_tour 9 = .ok (.ifCond .ne 6, 3) := by decide +kernel
theorem dX9_tour_12 : decode cX9_tour 12 = .ok (.ldc 210, 2) := by decide +kernel
theorem dX9_tour_14 : decode cX9_tour 14 = .ok (.ireturn, 1) := by decide +kernel
theorem dX9_tour_15 : decode cX9_tour 15 = .ok (.iload_n 1, 1) := by decide +kernel
theorem dX9_tour_16 : decode cX9_tour 16 = .ok (.i2l, 1) := by decide +kernel
theorem dX9_tour_17 : decode cX9_tour 17 = .ok (.lconst 1, 1) := by decide +kernel
theorem dX9_tour_18 : decode cX9_tour 18 = .ok (.iconst 1, 1) := by decide +kernel
theorem dX9_tour_19 : decode cX9_tour 19 = .ok (.aload_n 0, 1) := by decide +kernel
theorem dX9_tour_20 : decode cX9_tour 20 = .ok (.getfield 19, 3) := by decide +kernel
theorem dX9_tour_23 : decode cX9_tour 23 = .ok (.iconst 2, 1) := by decide +kernel
theorem dX9_tour_24 : decode cX9_tour 24 = .ok (.iaload, 1) := by decide +kernel
theorem dX9_tour_25 : decode cX9_tour 25 = .ok (.ishl, 1) := by decide +kernel
theorem dX9_tour_26 : decode cX9_tour 26 = .ok (.iconst 1, 1) := by decide +kernel
theorem dX9_tour_27 : decode cX9_tour 27 = .ok (.isub, 1) := by decide +kernel
theorem dX9_tour_28 : decode cX9_tour 28 = .ok (.i2l, 1) := by decide +kernel
theorem dX9_tour_29 : decode cX9_tour 29 = .ok (.invokestatic 57, 3) := by decide +kernel
theorem dX9_tour_32 : decode cX9_tour 32 = .ok (.ifCond .eq 9, 3) := by decide +kernel
theorem dX9_tour_35 : decode cX9_tour 35 = .ok (.iload_n 2, 1) := by decide +kernel
theorem dX9_tour_36 : decode cX9_tour 36 = .ok (.bipush (-2), 2) := by decide +kernel
theorem dX9_tour_38 : decode cX9_tour 38 = .ok (.if_icmp .ge 6, 3) := by decide +kernel
theorem dX9_tour_41 : decode cX9_tour 41 = .ok (.ldc 67, 2) := by decide +kernel
theorem dX9_tour_43 : decode cX9_tour 43 = .ok (.ireturn, 1) := by decide +kernel
theorem dX9_tour_44 : decode cX9_tour 44 = .ok (.aload_n 0, 1) := by decide +kernel
theorem dX9_tour_45 : decode cX9_tour 45 = .ok (.iload_n 1, 1) := by decide +kernel
theorem dX9_tour_46 : decode cX9_tour 46 = .ok (.invokevirtual 259, 3) := by decide +kernel
theorem dX9_tour_49 : decode cX9_tour 49 = .ok (.istore_n 3, 1) := by decide +kernel
theorem dX9_tour_50 : decode cX9_tour 50 = .ok (.iload_n 3, 1) := by decide +kernel
theorem dX9_tour_51 : decode cX9_tour 51 = .ok (.sipush 10000, 3) := by decide +kernel
theorem dX9_tour_54 : decode cX9_tour 54 = .ok (.if_icmp .ne 6, 3) := by decide +kernel
theorem dX9_tour_57 : decode cX9_tour 57 = .ok (.ldc 83, 2) := by decide +kernel
theorem dX9_tour_59 : decode cX9_tour 59 = .ok (.ireturn, 1) := by decide +kernel
theorem dX9_tour_60 : decode cX9_tour 60 = .ok (.iconst 0, 1) := by decide +kernel
theorem dX9_tour_61 : decode cX9_tour 61 = .ok (.istore 4, 2) := by decide +kernel
theorem dX9_tour_63 : decode cX9_tour 63 = .ok (.iconst 0, 1) := by decide +kernel
theorem dX9_tour_64 : decode cX9_tour 64 = .ok (.istore 5, 2) := by decide +kernel
theorem dX9_tour_66 : decode cX9_tour 66 = .ok (.iload 5, 2) := by decide +kernel
theorem dX9_tour_68 : decode cX9_tour 68 = .ok (.bipush 6, 2) := by decide +kernel
theorem dX9_tour_70 : decode cX9_tour 70 = .ok (.if_icmp .ge 20, 3) := by decide +kernel
theorem dX9_tour_73 : decode cX9_tour 73 = .ok (.iload 4, 2) := by decide +kernel
theorem dX9_tour_75 : decode cX9_tour 75 = .ok (.iload_n 1, 1) := by decide +kernel
theorem dX9_tour_76 : decode cX9_tour 76 = .ok (.iload 5, 2) := by decide +kernel
theorem dX9_tour_78 : decode cX9_tour 78 = .ok (.ishr, 1) := by decide +kernel
theorem dX9_tour_79 : decode cX9_tour 79 = .ok (.iconst 1, 1) := by decide +kernel
theorem dX9_tour_80 : decode cX9_tour 80 = .ok (.iand, 1) := by decide +kernel
theorem dX9_tour_81 : decode cX9_tour 81 = .ok (.iadd, 1) := by decide +kernel
theorem dX9_tour_82 : decode cX9_tour 82 = .ok (.istore 4, 2) := by decide +kernel
theorem dX9_tour_84 : decode cX9_tour 84 = .ok (.iinc 5 1, 3) := by decide +kernel
theorem dX9_tour_87 : decode cX9_tour 87 = .ok (.goto (-21), 3) := by decide +kernel
theorem dX9_tour_90 : decode cX9_tour 90 = .ok (.iload_n 2, 1) := by decide +kernel
theorem dX9_tour_91 : decode cX9_tour 91 = .ok (.bipush (-2), 2) := by decide +kernel
theorem dX9_tour_93 : decode cX9_tour 93 = .ok (.if_icmp .ne 12, 3) := by decide +kernel
theorem dX9_tour_96 : decode cX9_tour 96 = .ok (.aload_n 0, 1) := by decide +kernel
theorem dX9_tour_97 : decode cX9_tour 97 = .ok (.iload_n 1, 1) := by decide +kernel
theorem dX9_tour_98 : decode cX9_tour 98 = .ok (.iload_n 3, 1) := by decide +kernel
theorem dX9_tour_99 : decode cX9_tour 99 = .ok (.invokevirtual 262, 3) := by decide +kernel
theorem dX9_tour_102 : decode cX9_tour 102 = .ok (.goto 29, 3) := by decide +kernel
theorem dX9_tour_105 : decode cX9_tour 105 = .ok (.iload_n 2, 1) := by decide +kernel
theorem dX9_tour_106 : decode cX9_tour 106 = .ok (.iconst (-1), 1) := by decide +kernel
theorem dX9_tour_107 : decode cX9_tour 107 = .ok (.if_icmp .ne 7, 3) := by decide +kernel
theorem dX9_tour_110 : decode cX9_tour 110 = .ok (.iload_n 3, 1) := by decide +kernel
theorem dX9_tour_111 : decode cX9_tour 111 = .ok (.goto 20, 3) := by decide +kernel
theorem dX9_tour_114 : decode cX9_tour 114 = .ok (.iload_n 2, 1) := by decide +kernel
theorem dX9_tour_115 : decode cX9_tour 115 = .ok (.iload 4, 2) := by decide +kernel
theorem dX9_tour_117 : decode cX9_tour 117 = .ok (.if_icmp .ge 12, 3) := by decide +kernel
theorem dX9_tour_120 : decode cX9_tour 120 = .ok (.aload_n 0, 1) := by decide +kernel
theorem dX9_tour_121 : decode cX9_tour 121 = .ok (.getfield 34, 3) := by decide +kernel
theorem dX9_tour_124 : decode cX9_tour 124 = .ok (.iload_n 2, 1) := by decide +kernel
theorem dX9_tour_125 : decode cX9_tour 125 = .ok (.iaload, 1) := by decide +kernel
theorem dX9_tour_126 : decode cX9_tour 126 = .ok (.goto 5, 3) := by decide +kernel
theorem dX9_tour_129 : decode cX9_tour 129 = .ok (.ldc 83, 2) := by decide +kernel
theorem dX9_tour_131 : decode cX9_tour 131 = .ok (.ireturn, 1) := by decide +kernel
set_option maxRecDepth 20000 in
theorem ggX9_lateWith_X9_townOf : GoodIn wsX9_lateWith wsX9_townOf := goodIn_r _ [7, 1, 8, 9, 10, 6, 11, 24, 25, 26, 27, 28, 29, 30, 31, 32, 33, 34, 35, 36, 37, 38, 39, 40, 41, 42, 43, 44, 45, 46, 47, 48, 49] (by decide +kernel) (by decide +kernel)
set_option maxRecDepth 20000 in
theorem gX9_lateWith_X9_townOf : GoodIn wsX9_lateWith (wsV RX9 195 RX9 yX9_townOf wsX9_townOf) := goodIn_app (goodIn_of _ (by decide +kernel)) ggX9_lateWith_X9_townOf
set_option maxRecDepth 20000 in
theorem ggX9_lateWith_X9_farOf : GoodIn wsX9_lateWith wsX9_farOf := goodIn_r _ [15, 1, 24, 25, 26, 27, 28, 29, 30, 31, 32, 33, 34, 35, 36, 37, 38, 39, 40, 41, 42, 43, 44, 45, 46, 47, 48, 49] (by decide +kernel) (by decide +kernel)
set_option maxRecDepth 20000 in
theorem gX9_lateWith_X9_farOf : GoodIn wsX9_lateWith (wsV RX9 198 RX9 yX9_farOf wsX9_farOf) := goodIn_app (goodIn_of _ (by decide +kernel)) ggX9_lateWith_X9_farOf
set_option maxRecDepth 20000 in
theorem ggX9_lateWith_X9_of : GoodIn wsX9_lateWith wsX9_of := goodIn_r _ [11, 1, 24, 25, 26, 27, 28, 29, 30, 31, 32, 33, 34, 35, 36, 37, 38, 39, 40, 41, 42, 43, 44, 45, 46, 47, 48, 49] (by decide +kernel) (by decide +kernel)
set_option maxRecDepth 20000 in
theorem gX9_lateWith_X9_of : GoodIn wsX9_lateWith (wsV RX9 189 RX9 yX9_of wsX9_of) := goodIn_app (goodIn_of _ (by decide +kernel)) ggX9_lateWith_X9_of
set_option maxRecDepth 20000 in
theorem ggX9_lateWith_X9_slackBy : GoodIn wsX9_lateWith wsX9_slackBy := goodIn_r _ [19, 2, 8, 9, 10, 6, 11, 1, 20, 21, 22, 23, 24, 25, 26, 27, 28, 29, 30, 31, 32, 33, 34, 35, 36, 37, 38, 39, 40, 41, 42, 43, 44, 45, 46, 47, 48, 49] (by decide +kernel) (by decide +kernel)
set_option maxRecDepth 20000 in
theorem gX9_lateWith_X9_slackBy : GoodIn wsX9_lateWith (wsV RX9 201 RX9 yX9_slackBy wsX9_slackBy) := goodIn_app (goodIn_of _ (by decide +kernel)) ggX9_lateWith_X9_slackBy
theorem dX9_lateWith_0 : decode cX9_lateWith 0 = .ok (.iconst 0, 1) := by decide +kernel
theorem dX9_lateWith_1 : decode cX9_lateWith 1 = .ok (.istore_n 2, 1) := by decide +kernel
theorem dX9_lateWith_2 : decode cX9_lateWith 2 = .ok (.iconst 0, 1) := by decide +kernel
theorem dX9_lateWith_3 : decode cX9_lateWith 3 = .ok (.istore_n 3, 1) := by decide +kernel
theorem dX9_lateWith_4 : decode cX9_lateWith 4 = .ok (.iload_n 3, 1) := by decide +kernel
theorem dX9_lateWith_5 : decode cX9_lateWith 5 = .ok (.aload_n 0, 1) := by decide +kernel
theorem dX9_lateWith_6 : decode cX9_lateWith 6 = .ok (.getfield 19, 3) := by decide +kernel
theorem dX9_lateWith_9 : decode cX9_lateWith 9 = .ok (.iconst 3, 1) := by decide +kernel
theorem dX9_lateWith_10 : decode cX9_lateWith 10 = .ok (.iaload, 1) := by decide +kernel
theorem dX9_lateWith_11 : decode cX9_lateWith 11 = .ok (.if_icmp .ge 83, 3) := by decide +kernel
theorem dX9_lateWith_14 : decode cX9_lateWith 14 = .ok (.aload_n 0, 1) := by decide +kernel
theorem dX9_lateWith_15 : decode cX9_lateWith 15 = .ok (.aload_n 0, 1) := by decide +kernel
theorem dX9_lateWith_16 : decode cX9_lateWith 16 = .ok (.iload_n 3, 1) := by decide +kernel
theorem dX9_lateWith_17 : decode cX9_lateWith 17 = .ok (.invokevirtual 195, 3) := by decide +kernel
theorem dX9_lateWith_20 : decode cX9_lateWith 20 = .ok (.iconst 0, 1) := by decide +kernel
theorem dX9_lateWith_21 : decode cX9_lateWith 21 = .ok (.invokevirtual 198, 3) := by decide +kernel
theorem dX9_lateWith_24 : decode cX9_lateWith 24 = .ok (.istore 4, 2) := by decide +kernel
theorem dX9_lateWith_26 : decode cX9_lateWith 26 = .ok (.aload_n 0, 1) := by decide +kernel
theorem dX9_lateWith_27 : decode cX9_lateWith 27 = .ok (.aload_n 0, 1) := by decide +kernel
theorem dX9_lateWith_28 : decode cX9_lateWith 28 = .ok (.iload_n 3, 1) := by decide +kernel
theorem dX9_lateWith_29 : decode cX9_lateWith 29 = .ok (.invokevirtual 195, 3) := by decide +kernel
theorem dX9_lateWith_32 : decode cX9_lateWith 32 = .ok (.iload_n 1, 1) := by decide +kernel
theorem dX9_lateWith_33 : decode cX9_lateWith 33 = .ok (.invokevirtual 198, 3) := by decide +kernel
theorem dX9_lateWith_36 : decode cX9_lateWith 36 = .ok (.istore 5, 2) := by decide +kernel
theorem dX9_lateWith_38 : decode cX9_lateWith 38 = .ok (.aload_n 0, 1) := by decide +kernel
theorem dX9_lateWith_39 : decode cX9_lateWith 39 = .ok (.iload_n 3, 1) := by decide +kernel
theorem dX9_lateWith_40 : decode cX9_lateWith 40 = .ok (.aload_n 0, 1) := by decide +kernel
theorem dX9_lateWith_41 : decode cX9_lateWith 41 = .ok (.iload_n 3, 1) := by decide +kernel
theorem dX9_lateWith_42 : decode cX9_lateWith 42 = .ok (.iconst 3, 1) := by decide +kernel
theorem dX9_lateWith_43 : decode cX9_lateWith 43 = .ok (.invokevirtual 189, 3) := by decide +kernel
theorem dX9_lateWith_46 : decode cX9_lateWith 46 = .ok (.ifCond .ne 15, 3) := by decide +kernel
theorem dX9_lateWith_49 : decode cX9_lateWith 49 = .ok (.iload 5, 2) := by decide +kernel
theorem dX9_lateWith_51 : decode cX9_lateWith 51 = .ok (.iload 4, 2) := by decide +kernel
theorem dX9_lateWith_53 : decode cX9_lateWith 53 = .ok (.if_icmp .ge 8, 3) := by decide +kernel
theorem dX9_lateWith_56 : decode cX9_lateWith 56 = .ok (.iload 5, 2) := by decide +kernel
theorem dX9_lateWith_58 : decode cX9_lateWith 58 = .ok (.goto 5, 3) := by decide +kernel
theorem dX9_lateWith_61 : decode cX9_lateWith 61 = .ok (.iload 4, 2) := by decide +kernel
theorem dX9_lateWith_63 : decode cX9_lateWith 63 = .ok (.invokevirtual 201, 3) := by decide +kernel
theorem dX9_lateWith_66 : decode cX9_lateWith 66 = .ok (.istore 6, 2) := by decide +kernel
theorem dX9_lateWith_68 : decode cX9_lateWith 68 = .ok (.iload_n 2, 1) := by decide +kernel
theorem dX9_lateWith_69 : decode cX9_lateWith 69 = .ok (.iload 6, 2) := by decide +kernel
theorem dX9_lateWith_71 : decode cX9_lateWith 71 = .ok (.ldc 83, 2) := by decide +kernel
theorem dX9_lateWith_73 : decode cX9_lateWith 73 = .ok (.if_icmp .eq 12, 3) := by decide +kernel
theorem dX9_lateWith_76 : decode cX9_lateWith 76 = .ok (.iload 6, 2) := by decide +kernel
theorem dX9_lateWith_78 : decode cX9_lateWith 78 = .ok (.ifCond .ge 7, 3) := by decide +kernel
theorem dX9_lateWith_81 : decode cX9_lateWith 81 = .ok (.iconst 1, 1) := by decide +kernel
theorem dX9_lateWith_82 : decode cX9_lateWith 82 = .ok (.goto 4, 3) := by decide +kernel
theorem dX9_lateWith_85 : decode cX9_lateWith 85 = .ok (.iconst 0, 1) := by decide +kernel
theorem dX9_lateWith_86 : decode cX9_lateWith 86 = .ok (.iadd, 1) := by decide +kernel
theorem dX9_lateWith_87 : decode cX9_lateWith 87 = .ok (.istore_n 2, 1) := by decide +kernel
theorem dX9_lateWith_88 : decode cX9_lateWith 88 = .ok (.iinc 3 1, 3) := by decide +kernel
theorem dX9_lateWith_91 : decode cX9_lateWith 91 = .ok (.goto (-87), 3) := by decide +kernel
theorem dX9_lateWith_94 : decode cX9_lateWith 94 = .ok (.iload_n 2, 1) := by decide +kernel
theorem dX9_lateWith_95 : decode cX9_lateWith 95 = .ok (.ireturn, 1) := by decide +kernel
set_option maxRecDepth 20000 in
theorem ggX9_mint_X9_in : GoodIn wsX9_mint wsX9_in := goodIn_r _ [8] (by decide +kernel) (by decide +kernel)
set_option maxRecDepth 20000 in
theorem gX9_mint_X9_in : GoodIn wsX9_mint (va_wsS RX9 57 yX9_in wsX9_in) := goodIn_app (goodIn_of _ (by decide +kernel)) ggX9_mint_X9_in
set_option maxRecDepth 20000 in
theorem ggX9_mint_X9_lateWith : GoodIn wsX9_mint wsX9_lateWith := goodIn_r _ [12, 13, 14, 15, 16, 17, 7, 18, 19, 20, 21, 22, 23, 24, 25, 26, 27, 28, 29, 30, 31, 32, 33, 34, 35, 36, 37, 38, 39, 40, 41, 42, 43, 44, 45, 46, 47, 48, 49, 50, 51, 52, 53, 54, 55, 56, 57, 58, 59, 60] (by decide +kernel) (by decide +kernel)
set_option maxRecDepth 20000 in
theorem gX9_mint_X9_lateWith : GoodIn wsX9_mint (wsV RX9 265 RX9 yX9_lateWith wsX9_lateWith) := goodIn_app (goodIn_of _ (by decide +kernel)) ggX9_mint_X9_lateWith
theorem dX9_mint_0 : decode cX9_mint 0 = .ok (.aload_n 0, 1) := by decide +kernel
theorem dX9_mint_1 : decode cX9_mint 1 = .ok (.iconst 0, 1) := by decide +kernel
theorem dX9_mint_2 : decode cX9_mint 2 = .ok (.putfield 47, 3) := by decide +kernel
theorem dX9_mint_5 : decode cX9_mint 5 = .ok (.aload_n 0, 1) := by decide +kernel
theorem dX9_mint_6 : decode cX9_mint 6 = .ok (.getfield 179, 3) := by decide +kernel
theorem dX9_mint_9 : decode cX9_mint 9 = .ok (.ifCond .ne 6, 3) := by decide +kernel
theorem dX9_mint_12 : decode cX9_mint 12 = .ok (.ldc 210, 2) := by decide +kernel
theorem dX9_mint_14 : decode cX9_mint 14 = .ok (.ireturn, 1) := by decide +kernel
theorem dX9_mint_15 : decode cX9_mint 15 = .ok (.iload_n 1, 1) := by decide +kernel
theorem dX9_mint_16 : decode cX9_mint 16 = .ok (.i2l, 1) := by decide +kernel
theorem dX9_mint_17 : decode cX9_mint 17 = .ok (.lconst 0, 1) := by decide +kernel
theorem dX9_mint_18 : decode cX9_mint 18 = .ok (.lconst 1, 1) := by decide +kernel
theorem dX9_mint_19 : decode cX9_mint 19 = .ok (.invokestatic 57, 3) := by decide +kernel
theorem dX9_mint_22 : decode cX9_mint 22 = .ok (.ifCond .ne 6, 3) := by decide +kernel
theorem dX9_mint_25 : decode cX9_mint 25 = .ok (.ldc 67, 2) := by decide +kernel
theorem dX9_mint_27 : decode cX9_mint 27 = .ok (.ireturn, 1) := by decide +kernel
theorem dX9_mint_28 : decode cX9_mint 28 = .ok (.iconst 1, 1) := by decide +kernel
theorem dX9_mint_29 : decode cX9_mint 29 = .ok (.istore_n 2, 1) := by decide +kernel
theorem dX9_mint_30 : decode cX9_mint 30 = .ok (.iconst 2, 1) := by decide +kernel
theorem dX9_mint_31 : decode cX9_mint 31 = .ok (.istore_n 3, 1) := by decide +kernel
theorem dX9_mint_32 : decode cX9_mint 32 = .ok (.iload_n 3, 1) := by decide +kernel
theorem dX9_mint_33 : decode cX9_mint 33 = .ok (.bipush 8, 2) := by decide +kernel
theorem dX9_mint_35 : decode cX9_mint 35 = .ok (.if_icmp .ge 28, 3) := by decide +kernel
theorem dX9_mint_38 : decode cX9_mint 38 = .ok (.aload_n 0, 1) := by decide +kernel
theorem dX9_mint_39 : decode cX9_mint 39 = .ok (.iload_n 3, 1) := by decide +kernel
theorem dX9_mint_40 : decode cX9_mint 40 = .ok (.invokevirtual 265, 3) := by decide +kernel
theorem dX9_mint_43 : decode cX9_mint 43 = .ok (.aload_n 0, 1) := by decide +kernel
theorem dX9_mint_44 : decode cX9_mint 44 = .ok (.iload_n 2, 1) := by decide +kernel
theorem dX9_mint_45 : decode cX9_mint 45 = .ok (.invokevirtual 265, 3) := by decide +kernel
theorem dX9_mint_48 : decode cX9_mint 48 = .ok (.if_icmp .ge 7, 3) := by decide +kernel
theorem dX9_mint_51 : decode cX9_mint 51 = .ok (.iload_n 3, 1) := by decide +kernel
theorem dX9_mint_52 : decode cX9_mint 52 = .ok (.goto 4, 3) := by decide +kernel
theorem dX9_mint_55 : decode cX9_mint 55 = .ok (.iload_n 2, 1) := by decide +kernel
theorem dX9_mint_56 : decode cX9_mint 56 = .ok (.istore_n 2, 1) := by decide +kernel
theorem dX9_mint_57 : decode cX9_mint 57 = .ok (.iinc 3 1, 3) := by decide +kernel
theorem dX9_mint_60 : decode cX9_mint 60 = .ok (.goto (-28), 3) := by decide +kernel
theorem dX9_mint_63 : decode cX9_mint 63 = .ok (.iload_n 1, 1) := by decide +kernel
theorem dX9_mint_64 : decode cX9_mint 64 = .ok (.ifCond .ne 7, 3) := by decide +kernel
theorem dX9_mint_67 : decode cX9_mint 67 = .ok (.iload_n 2, 1) := by decide +kernel
theorem dX9_mint_68 : decode cX9_mint 68 = .ok (.goto 8, 3) := by decide +kernel
theorem dX9_mint_71 : decode cX9_mint 71 = .ok (.aload_n 0, 1) := by decide +kernel
theorem dX9_mint_72 : decode cX9_mint 72 = .ok (.iload_n 2, 1) := by decide +kernel
theorem dX9_mint_73 : decode cX9_mint 73 = .ok (.invokevirtual 265, 3) := by decide +kernel
theorem dX9_mint_76 : decode cX9_mint 76 = .ok (.ireturn, 1) := by decide +kernel
set_option maxRecDepth 20000 in
theorem ggX9_sounds_X9_in : GoodIn wsX9_sounds wsX9_in := goodIn_r _ [11] (by decide +kernel) (by decide +kernel)
set_option maxRecDepth 20000 in
theorem gX9_sounds_X9_in : GoodIn wsX9_sounds (va_wsS RX9 57 yX9_in wsX9_in) := goodIn_app (goodIn_of _ (by decide +kernel)) ggX9_sounds_X9_in
set_option maxRecDepth 20000 in
theorem ggX9_sounds_X9_of : GoodIn wsX9_sounds wsX9_of := goodIn_r _ [15, 7, 24, 25, 26, 27, 28, 29, 30, 31, 32, 33, 34, 35, 36, 37, 38, 39, 40, 41, 42, 43, 44, 45, 46, 47, 48, 49] (by decide +kernel) (by decide +kernel)
set_option maxRecDepth 20000 in
theorem gX9_sounds_X9_of : GoodIn wsX9_sounds (wsV RX9 189 RX9 yX9_of wsX9_of) := goodIn_app (goodIn_of _ (by decide +kernel)) ggX9_sounds_X9_of
set_option maxRecDepth 20000 in
theorem ggX9_sounds_X9_townOf : GoodIn wsX9_sounds wsX9_townOf := goodIn_r _ [19, 7, 12, 13, 14, 10, 15, 24, 25, 26, 27, 28, 29, 30, 31, 32, 33, 34, 35, 36, 37, 38, 39, 40, 41, 42, 43, 44, 45, 46, 47, 48, 49] (by decide +kernel) (by decide +kernel)
set_option maxRecDepth 20000 in
theorem gX9_sounds_X9_townOf : GoodIn wsX9_sounds (wsV RX9 195 RX9 yX9_townOf wsX9_townOf) := goodIn_app (goodIn_of _ (by decide +kernel)) ggX9_sounds_X9_townOf
set_option maxRecDepth 20000 in
theorem ggX9_sounds_X9_spanOf : GoodIn wsX9_sounds wsX9_spanOf := goodIn_r _ [23, 7, 12, 13, 14, 10, 15, 24, 25, 26, 27, 28, 29, 30, 31, 32, 33, 34, 35, 36, 37, 38, 39, 40, 41, 42, 43, 44, 45, 46, 47, 48, 49] (by decide +kernel) (by decide +kernel)
set_option maxRecDepth 20000 in
theorem gX9_sounds_X9_spanOf : GoodIn wsX9_sounds (wsV RX9 192 RX9 yX9_spanOf wsX9_spanOf) := goodIn_app (goodIn_of _ (by decide +kernel)) ggX9_sounds_X9_spanOf
theorem dX9_sounds_0 : decode cX9_sounds 0 = .ok (.aload_n 0, 1) := by decide +kernel
theorem dX9_sounds_1 : decode cX9_sounds 1 = .ok (.iconst 0, 1) := by decide +kernel
theorem dX9_sounds_2 : decode cX9_sounds 2 = .ok (.putfield 47, 3) := by decide +kernel
theorem dX9_sounds_5 : decode cX9_sounds 5 = .ok (.aload_n 0, 1) := by decide +kernel
theorem dX9_sounds_6 : decode cX9_sounds 6 = .ok (.getfield 179, 3) := by decide +kernel
theorem dX9_sounds_9 : decode cX9_sounds 9 = .ok (.ifCond .ne 6, 3) := by decide +kernel
theorem dX9_sounds_12 : decode cX9_sounds 12 = .ok (.ldc 210, 2) := by decide +kernel
theorem dX9_sounds_14 : decode cX9_sounds 14 = .ok (.ireturn, 1) := by decide +kernel
theorem dX9_sounds_15 : decode cX9_sounds 15 = .ok (.iload_n 1, 1) := by decide +kernel
theorem dX9_sounds_16 : decode cX9_sounds 16 = .ok (.i2l, 1) := by decide +kernel
theorem dX9_sounds_17 : decode cX9_sounds 17 = .ok (.lconst 0, 1) := by decide +kernel
theorem dX9_sounds_18 : decode cX9_sounds 18 = .ok (.ldc2_w 55, 3) := by decide +kernel
theorem dX9_sounds_21 : decode cX9_sounds 21 = .ok (.invokestatic 57, 3) := by decide +kernel
theorem dX9_sounds_24 : decode cX9_sounds 24 = .ok (.ifCond .eq 15, 3) := by decide +kernel
theorem dX9_sounds_27 : decode cX9_sounds 27 = .ok (.iload_n 2, 1) := by decide +kernel
theorem dX9_sounds_28 : decode cX9_sounds 28 = .ok (.i2l, 1) := by decide +kernel
theorem dX9_sounds_29 : decode cX9_sounds 29 = .ok (.lconst 0, 1) := by decide +kernel
theorem dX9_sounds_30 : decode cX9_sounds 30 = .ok (.ldc2_w 248, 3) := by decide +kernel
theorem dX9_sounds_33 : decode cX9_sounds 33 = .ok (.invokestatic 57, 3) := by decide +kernel
theorem dX9_sounds_36 : decode cX9_sounds 36 = .ok (.ifCond .ne 6, 3) := by decide +kernel
theorem dX9_sounds_39 : decode cX9_sounds 39 = .ok (.ldc 67, 2) := by decide +kernel
theorem dX9_sounds_41 : decode cX9_sounds 41 = .ok (.ireturn, 1) := by decide +kernel
theorem dX9_sounds_42 : decode cX9_sounds 42 = .ok (.iconst 0, 1) := by decide +kernel
theorem dX9_sounds_43 : decode cX9_sounds 43 = .ok (.istore_n 3, 1) := by decide +kernel
theorem dX9_sounds_44 : decode cX9_sounds 44 = .ok (.iconst 0, 1) := by decide +kernel
theorem dX9_sounds_45 : decode cX9_sounds 45 = .ok (.istore 4, 2) := by decide +kernel
theorem dX9_sounds_47 : decode cX9_sounds 47 = .ok (.iload 4, 2) := by decide +kernel
theorem dX9_sounds_49 : decode cX9_sounds 49 = .ok (.aload_n 0, 1) := by decide +kernel
theorem dX9_sounds_50 : decode cX9_sounds 50 = .ok (.getfield 19, 3) := by decide +kernel
theorem dX9_sounds_53 : decode cX9_sounds 53 = .ok (.iconst 3, 1) := by decide +kernel
theorem dX9_sounds_54 : decode cX9_sounds 54 = .ok (.iaload, 1) := by decide +kernel
theorem dX9_sounds_55 : decode cX9_sounds 55 = .ok (.if_icmp .ge 104, 3) := by decide +kernel
theorem dX9_sounds_58 : decode cX9_sounds 58 = .ok (.aload_n 0, 1) := by decide +kernel
theorem dX9_sounds_59 : decode cX9_sounds 59 = .ok (.iload 4, 2) := by decide +kernel
theorem dX9_sounds_61 : decode cX9_sounds 61 = .ok (.iconst 3, 1) := by decide +kernel
theorem dX9_sounds_62 : decode cX9_sounds 62 = .ok (.invokevirtual 189, 3) := by decide +kernel
theorem dX9_sounds_65 : decode cX9_sounds 65 = .ok (.ifCond .ne 27, 3) := by decide +kernel
theorem dX9_sounds_68 : decode cX9_sounds 68 = .ok (.aload_n 0, 1) := by decide +kernel
theorem dX9_sounds_69 : decode cX9_sounds 69 = .ok (.iload 4, 2) := by decide +kernel
theorem dX9_sounds_71 : decode cX9_sounds 71 = .ok (.invokevirtual 195, 3) := by decide +kernel
theorem dX9_sounds_74 : decode cX9_sounds 74 = .ok (.iload_n 1, 1) := by decide +kernel
theorem dX9_sounds_75 : decode cX9_sounds 75 = .ok (.if_icmp .ne 17, 3) := by decide +kernel
theorem dX9_sounds_78 : decode cX9_sounds 78 = .ok (.aload_n 0, 1) := by decide +kernel
theorem dX9_sounds_79 : decode cX9_sounds 79 = .ok (.iload 4, 2) := by decide +kernel
theorem dX9_sounds_81 : decode cX9_sounds 81 = .ok (.iconst 5, 1) := by decide +kernel
theorem dX9_sounds_82 : decode cX9_sounds 82 = .ok (.invokevirtual 189, 3) := by decide +kernel
theorem dX9_sounds_85 : decode cX9_sounds 85 = .ok (.ifCond .ne 7, 3) := by decide +kernel
theorem dX9_sounds_88 : decode cX9_sounds 88 = .ok (.iconst 1, 1) := by decide +kernel
theorem dX9_sounds_89 : decode cX9_sounds 89 = .ok (.goto 4, 3) := by decide +kernel
theorem dX9_sounds_92 : decode cX9_sounds 92 = .ok (.iconst 0, 1) := by decide +kernel
theorem dX9_sounds_93 : decode cX9_sounds 93 = .ok (.istore 5, 2) := by decide +kernel
theorem dX9_sounds_95 : decode cX9_sounds 95 = .ok (.iload_n 2, 1) := by decide +kernel
theorem dX9_sounds_96 : decode cX9_sounds 96 = .ok (.ifCond .eq 32, 3) := by decide +kernel
theorem dX9_sounds_99 : decode cX9_sounds 99 = .ok (.aload_n 0, 1) := by decide +kernel
theorem dX9_sounds_100 : decode cX9_sounds 100 = .ok (.iload 4, 2) := by decide +kernel
theorem dX9_sounds_102 : decode cX9_sounds 102 = .ok (.iconst 0, 1) := by decide +kernel
theorem dX9_sounds_103 : decode cX9_sounds 103 = .ok (.invokevirtual 189, 3) := by decide +kernel
theorem dX9_sounds_106 : decode cX9_sounds 106 = .ok (.iconst 5, 1) := by decide +kernel
theorem dX9_sounds_107 : decode cX9_sounds 107 = .ok (.if_icmp .eq 21, 3) := by decide +kernel
theorem dX9_sounds_110 : decode cX9_sounds 110 = .ok (.aload_n 0, 1) := by decide +kernel
theorem dX9_sounds_111 : decode cX9_sounds 111 = .ok (.iload 4, 2) := by decide +kernel
theorem dX9_sounds_113 : decode cX9_sounds 113 = .ok (.iconst 2, 1) := by decide +kernel
theorem dX9_sounds_114 : decode cX9_sounds 114 = .ok (.invokevirtual 189, 3) := by decide +kernel
theorem dX9_sounds_117 : decode cX9_sounds 117 = .ok (.iload_n 2, 1) := by decide +kernel
theorem dX9_sounds_118 : decode cX9_sounds 118 = .ok (.iadd, 1) := by decide +kernel
theorem dX9_sounds_119 : decode cX9_sounds 119 = .ok (.aload_n 0, 1) := by decide +kernel
theorem dX9_sounds_120 : decode cX9_sounds 120 = .ok (.iload 4, 2) := by decide +kernel
theorem dX9_sounds_122 : decode cX9_sounds 122 = .ok (.invokevirtual 192, 3) := by decide +kernel
theorem dX9_sounds_125 : decode cX9_sounds 125 = .ok (.if_icmp .gt 7, 3) := by decide +kernel
theorem dX9_sounds_128 : decode cX9_sounds 128 = .ok (.iconst 1, 1) := by decide +kernel
theorem dX9_sounds_129 : decode cX9_sounds 129 = .ok (.goto 4, 3) := by decide +kernel
theorem dX9_sounds_132 : decode cX9_sounds 132 = .ok (.iconst 0, 1) := by decide +kernel
theorem dX9_sounds_133 : decode cX9_sounds 133 = .ok (.istore 6, 2) := by decide +kernel
theorem dX9_sounds_135 : decode cX9_sounds 135 = .ok (.iload_n 3, 1) := by decide +kernel
theorem dX9_sounds_136 : decode cX9_sounds 136 = .ok (.iload 5, 2) := by decide +kernel
theorem dX9_sounds_138 : decode cX9_sounds 138 = .ok (.ifCond .eq 12, 3) := by decide +kernel
theorem dX9_sounds_141 : decode cX9_sounds 141 = .ok (.iload 6, 2) := by decide +kernel
theorem dX9_sounds_143 : decode cX9_sounds 143 = .ok (.ifCond .eq 7, 3) := by decide +kernel
theorem dX9_sounds_146 : decode cX9_sounds 146 = .ok (.iconst 1, 1) := by decide +kernel
theorem dX9_sounds_147 : decode cX9_sounds 147 = .ok (.goto 4, 3) := by decide +kernel
theorem dX9_sounds_150 : decode cX9_sounds 150 = .ok (.iconst 0, 1) := by decide +kernel
theorem dX9_sounds_151 : decode cX9_sounds 151 = .ok (.iadd, 1) := by decide +kernel
theorem dX9_sounds_152 : decode cX9_sounds 152 = .ok (.istore_n 3, 1) := by decide +kernel
theorem dX9_sounds_153 : decode cX9_sounds 153 = .ok (.iinc 4 1, 3) := by decide +kernel
theorem dX9_sounds_156 : decode cX9_sounds 156 = .ok (.goto (-109), 3) := by decide +kernel
theorem dX9_sounds_159 : decode cX9_sounds 159 = .ok (.iload_n 3, 1) := by decide +kernel
theorem dX9_sounds_160 : decode cX9_sounds 160 = .ok (.ireturn, 1) := by decide +kernel
