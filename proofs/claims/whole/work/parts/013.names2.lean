theorem dX1_firstSet_15 : decode cX1_firstSet 15 = .ok (.if_icmp .ge 39, 3) := by decide +kernel
theorem dX1_firstSet_18 : decode cX1_firstSet 18 = .ok (.aload_n 0, 1) := by decide +kernel
theorem dX1_firstSet_19 : decode cX1_firstSet 19 = .ok (.iload 4, 2) := by decide +kernel
theorem dX1_firstSet_21 : decode cX1_firstSet 21 = .ok (.iload_n 1, 1) := by decide +kernel
theorem dX1_firstSet_22 : decode cX1_firstSet 22 = .ok (.invokevirtual 82, 3) := by decide +kernel
theorem dX1_firstSet_25 : decode cX1_firstSet 25 = .ok (.lconst 0, 1) := by decide +kernel
theorem dX1_firstSet_26 : decode cX1_firstSet 26 = .ok (.lcmp, 1) := by decide +kernel
theorem dX1_firstSet_27 : decode cX1_firstSet 27 = .ok (.ifCond .le 21, 3) := by decide +kernel
theorem dX1_firstSet_30 : decode cX1_firstSet 30 = .ok (.iload 4, 2) := by decide +kernel
theorem dX1_firstSet_32 : decode cX1_firstSet 32 = .ok (.invokestatic 93, 3) := by decide +kernel
theorem dX1_firstSet_35 : decode cX1_firstSet 35 = .ok (.iload_n 3, 1) := by decide +kernel
theorem dX1_firstSet_36 : decode cX1_firstSet 36 = .ok (.if_icmp .ge 12, 3) := by decide +kernel
theorem dX1_firstSet_39 : decode cX1_firstSet 39 = .ok (.iload 4, 2) := by decide +kernel
theorem dX1_firstSet_41 : decode cX1_firstSet 41 = .ok (.istore_n 2, 1) := by decide +kernel
theorem dX1_firstSet_42 : decode cX1_firstSet 42 = .ok (.iload 4, 2) := by decide +kernel
theorem dX1_firstSet_44 : decode cX1_firstSet 44 = .ok (.invokestatic 93, 3) := by decide +kernel
theorem dX1_firstSet_47 : decode cX1_firstSet 47 = .ok (.istore_n 3, 1) := by decide +kernel
theorem dX1_firstSet_48 : decode cX1_firstSet 48 = .ok (.iinc 4 1, 3) := by decide +kernel
theorem dX1_firstSet_51 : decode cX1_firstSet 51 = .ok (.goto (-43), 3) := by decide +kernel
theorem dX1_firstSet_54 : decode cX1_firstSet 54 = .ok (.iload_n 2, 1) := by decide +kernel
theorem dX1_firstSet_55 : decode cX1_firstSet 55 = .ok (.ireturn, 1) := by decide +kernel
set_option maxRecDepth 20000 in
theorem ggX1_nearest_X1_reaches : GoodIn wsX1_nearest wsX1_reaches := goodIn_r _ [5, 6, 7, 8, 9, 10, 11, 12, 13, 14] (by decide +kernel) (by decide +kernel)
set_option maxRecDepth 20000 in
theorem gX1_nearest_X1_reaches : GoodIn wsX1_nearest (wsV RX1 86 RX1 yX1_reaches wsX1_reaches) := goodIn_app (goodIn_of _ (by decide +kernel)) ggX1_nearest_X1_reaches
theorem dX1_nearest_0 : decode cX1_nearest 0 = .ok (.iconst 0, 1) := by decide +kernel
theorem dX1_nearest_1 : decode cX1_nearest 1 = .ok (.istore_n 2, 1) := by decide +kernel
theorem dX1_nearest_2 : decode cX1_nearest 2 = .ok (.iload_n 2, 1) := by decide +kernel
theorem dX1_nearest_3 : decode cX1_nearest 3 = .ok (.sipush 3000, 3) := by decide +kernel
theorem dX1_nearest_6 : decode cX1_nearest 6 = .ok (.if_icmp .gt 37, 3) := by decide +kernel
theorem dX1_nearest_9 : decode cX1_nearest 9 = .ok (.aload_n 0, 1) := by decide +kernel
theorem dX1_nearest_10 : decode cX1_nearest 10 = .ok (.iload_n 1, 1) := by decide +kernel
theorem dX1_nearest_11 : decode cX1_nearest 11 = .ok (.iload_n 2, 1) := by decide +kernel
theorem dX1_nearest_12 : decode cX1_nearest 12 = .ok (.isub, 1) := by decide +kernel
theorem dX1_nearest_13 : decode cX1_nearest 13 = .ok (.invokevirtual 86, 3) := by decide +kernel
theorem dX1_nearest_16 : decode cX1_nearest 16 = .ok (.ifCond .eq 7, 3) := by decide +kernel
theorem dX1_nearest_19 : decode cX1_nearest 19 = .ok (.iload_n 1, 1) := by decide +kernel
theorem dX1_nearest_20 : decode cX1_nearest 20 = .ok (.iload_n 2, 1) := by decide +kernel
theorem dX1_nearest_21 : decode cX1_nearest 21 = .ok (.isub, 1) := by decide +kernel
theorem dX1_nearest_22 : decode cX1_nearest 22 = .ok (.ireturn, 1) := by decide +kernel
theorem dX1_nearest_23 : decode cX1_nearest 23 = .ok (.aload_n 0, 1) := by decide +kernel
theorem dX1_nearest_24 : decode cX1_nearest 24 = .ok (.iload_n 1, 1) := by decide +kernel
theorem dX1_nearest_25 : decode cX1_nearest 25 = .ok (.iload_n 2, 1) := by decide +kernel
theorem dX1_nearest_26 : decode cX1_nearest 26 = .ok (.iadd, 1) := by decide +kernel
theorem dX1_nearest_27 : decode cX1_nearest 27 = .ok (.invokevirtual 86, 3) := by decide +kernel
theorem dX1_nearest_30 : decode cX1_nearest 30 = .ok (.ifCond .eq 7, 3) := by decide +kernel
theorem dX1_nearest_33 : decode cX1_nearest 33 = .ok (.iload_n 1, 1) := by decide +kernel
theorem dX1_nearest_34 : decode cX1_nearest 34 = .ok (.iload_n 2, 1) := by decide +kernel
theorem dX1_nearest_35 : decode cX1_nearest 35 = .ok (.iadd, 1) := by decide +kernel
theorem dX1_nearest_36 : decode cX1_nearest 36 = .ok (.ireturn, 1) := by decide +kernel
theorem dX1_nearest_37 : decode cX1_nearest 37 = .ok (.iinc 2 1, 3) := by decide +kernel
theorem dX1_nearest_40 : decode cX1_nearest 40 = .ok (.goto (-38), 3) := by decide +kernel
theorem dX1_nearest_43 : decode cX1_nearest 43 = .ok (.iconst (-1), 1) := by decide +kernel
theorem dX1_nearest_44 : decode cX1_nearest 44 = .ok (.ireturn, 1) := by decide +kernel
set_option maxRecDepth 20000 in
theorem ggX1_leastLeftNumber_X3_allow : GoodIn wsX1_leastLeftNumber wsX3_allow := goodIn_r _ [8, 9, 27, 28] (by decide +kernel) (by decide +kernel)
set_option maxRecDepth 20000 in
theorem gX1_leastLeftNumber_X3_allow : GoodIn wsX1_leastLeftNumber (wsV RX1 70 RX3 yX3_allow wsX3_allow) := goodIn_app (goodIn_of _ (by decide +kernel)) ggX1_leastLeftNumber_X3_allow
set_option maxRecDepth 20000 in
theorem ggX1_leastLeftNumber_X5_rightNumber : GoodIn wsX1_leastLeftNumber wsX5_rightNumber := goodIn_r _ [12] (by decide +kernel) (by decide +kernel)
set_option maxRecDepth 20000 in
theorem gX1_leastLeftNumber_X5_rightNumber_n98 : GoodIn wsX1_leastLeftNumber (wsX5_rightNumber) := ggX1_leastLeftNumber_X5_rightNumber
set_option maxRecDepth 20000 in
theorem ggX1_leastLeftNumber_X1_countOf : GoodIn wsX1_leastLeftNumber wsX1_countOf := goodIn_r _ [17, 18, 19, 20, 21, 22, 23, 24, 25, 26] (by decide +kernel) (by decide +kernel)
set_option maxRecDepth 20000 in
theorem gX1_leastLeftNumber_X1_countOf : GoodIn wsX1_leastLeftNumber (wsV RX1 82 RX1 yX1_countOf wsX1_countOf) := goodIn_app (goodIn_of _ (by decide +kernel)) ggX1_leastLeftNumber_X1_countOf
theorem dX1_leastLeftNumber_0 : decode cX1_leastLeftNumber 0 = .ok (.iload_n 2, 1) := by decide +kernel
theorem dX1_leastLeftNumber_1 : decode cX1_leastLeftNumber 1 = .ok (.iload_n 1, 1) := by decide +kernel
theorem dX1_leastLeftNumber_2 : decode cX1_leastLeftNumber 2 = .ok (.iand, 1) := by decide +kernel
theorem dX1_leastLeftNumber_3 : decode cX1_leastLeftNumber 3 = .ok (.iload_n 1, 1) := by decide +kernel
theorem dX1_leastLeftNumber_4 : decode cX1_leastLeftNumber 4 = .ok (.ineg, 1) := by decide +kernel
theorem dX1_leastLeftNumber_5 : decode cX1_leastLeftNumber 5 = .ok (.iand, 1) := by decide +kernel
theorem dX1_leastLeftNumber_6 : decode cX1_leastLeftNumber 6 = .ok (.ifCond .eq 7, 3) := by decide +kernel
theorem dX1_leastLeftNumber_9 : decode cX1_leastLeftNumber 9 = .ok (.iconst 1, 1) := by decide +kernel
theorem dX1_leastLeftNumber_10 : decode cX1_leastLeftNumber 10 = .ok (.goto 4, 3) := by decide +kernel
theorem dX1_leastLeftNumber_13 : decode cX1_leastLeftNumber 13 = .ok (.iconst 0, 1) := by decide +kernel
theorem dX1_leastLeftNumber_14 : decode cX1_leastLeftNumber 14 = .ok (.istore 5, 2) := by decide +kernel
theorem dX1_leastLeftNumber_16 : decode cX1_leastLeftNumber 16 = .ok (.iload_n 3, 1) := by decide +kernel
theorem dX1_leastLeftNumber_17 : decode cX1_leastLeftNumber 17 = .ok (.ifCond .eq 8, 3) := by decide +kernel
theorem dX1_leastLeftNumber_20 : decode cX1_leastLeftNumber 20 = .ok (.iload_n 3, 1) := by decide +kernel
theorem dX1_leastLeftNumber_21 : decode cX1_leastLeftNumber 21 = .ok (.iconst 2, 1) := by decide +kernel
theorem dX1_leastLeftNumber_22 : decode cX1_leastLeftNumber 22 = .ok (.if_icmp .ne 7, 3) := by decide +kernel
theorem dX1_leastLeftNumber_25 : decode cX1_leastLeftNumber 25 = .ok (.iconst 1, 1) := by decide +kernel
theorem dX1_leastLeftNumber_26 : decode cX1_leastLeftNumber 26 = .ok (.goto 4, 3) := by decide +kernel
theorem dX1_leastLeftNumber_29 : decode cX1_leastLeftNumber 29 = .ok (.iconst 0, 1) := by decide +kernel
theorem dX1_leastLeftNumber_30 : decode cX1_leastLeftNumber 30 = .ok (.istore 6, 2) := by decide +kernel
theorem dX1_leastLeftNumber_32 : decode cX1_leastLeftNumber 32 = .ok (.iload_n 2, 1) := by decide +kernel
theorem dX1_leastLeftNumber_33 : decode cX1_leastLeftNumber 33 = .ok (.iload_n 1, 1) := by decide +kernel
theorem dX1_leastLeftNumber_34 : decode cX1_leastLeftNumber 34 = .ok (.iand, 1) := by decide +kernel
theorem dX1_leastLeftNumber_35 : decode cX1_leastLeftNumber 35 = .ok (.iload_n 2, 1) := by decide +kernel
theorem dX1_leastLeftNumber_36 : decode cX1_leastLeftNumber 36 = .ok (.if_icmp .ne 24, 3) := by decide +kernel
theorem dX1_leastLeftNumber_39 : decode cX1_leastLeftNumber 39 = .ok (.iload 6, 2) := by decide +kernel
theorem dX1_leastLeftNumber_41 : decode cX1_leastLeftNumber 41 = .ok (.ifCond .eq 8, 3) := by decide +kernel
theorem dX1_leastLeftNumber_44 : decode cX1_leastLeftNumber 44 = .ok (.iload 5, 2) := by decide +kernel
theorem dX1_leastLeftNumber_46 : decode cX1_leastLeftNumber 46 = .ok (.ifCond .eq 14, 3) := by decide +kernel
theorem dX1_leastLeftNumber_49 : decode cX1_leastLeftNumber 49 = .ok (.aload_n 0, 1) := by decide +kernel
theorem dX1_leastLeftNumber_50 : decode cX1_leastLeftNumber 50 = .ok (.getfield 18, 3) := by decide +kernel
theorem dX1_leastLeftNumber_53 : decode cX1_leastLeftNumber 53 = .ok (.iload_n 3, 1) := by decide +kernel
theorem dX1_leastLeftNumber_54 : decode cX1_leastLeftNumber 54 = .ok (.invokevirtual 70, 3) := by decide +kernel
theorem dX1_leastLeftNumber_57 : decode cX1_leastLeftNumber 57 = .ok (.ifCond .ne 5, 3) := by decide +kernel
theorem dX1_leastLeftNumber_60 : decode cX1_leastLeftNumber 60 = .ok (.iconst (-1), 1) := by decide +kernel
theorem dX1_leastLeftNumber_61 : decode cX1_leastLeftNumber 61 = .ok (.ireturn, 1) := by decide +kernel
theorem dX1_leastLeftNumber_62 : decode cX1_leastLeftNumber 62 = .ok (.iload_n 2, 1) := by decide +kernel
theorem dX1_leastLeftNumber_63 : decode cX1_leastLeftNumber 63 = .ok (.iconst 1, 1) := by decide +kernel
theorem dX1_leastLeftNumber_64 : decode cX1_leastLeftNumber 64 = .ok (.if_icmp .lt 12, 3) := by decide +kernel
theorem dX1_leastLeftNumber_67 : decode cX1_leastLeftNumber 67 = .ok (.iload_n 2, 1) := by decide +kernel
theorem dX1_leastLeftNumber_68 : decode cX1_leastLeftNumber 68 = .ok (.aload_n 0, 1) := by decide +kernel
theorem dX1_leastLeftNumber_69 : decode cX1_leastLeftNumber 69 = .ok (.getfield 36, 3) := by decide +kernel
theorem dX1_leastLeftNumber_72 : decode cX1_leastLeftNumber 72 = .ok (.arraylength, 1) := by decide +kernel
theorem dX1_leastLeftNumber_73 : decode cX1_leastLeftNumber 73 = .ok (.if_icmp .lt 5, 3) := by decide +kernel
theorem dX1_leastLeftNumber_76 : decode cX1_leastLeftNumber 76 = .ok (.iconst (-1), 1) := by decide +kernel
theorem dX1_leastLeftNumber_77 : decode cX1_leastLeftNumber 77 = .ok (.ireturn, 1) := by decide +kernel
theorem dX1_leastLeftNumber_78 : decode cX1_leastLeftNumber 78 = .ok (.iconst (-1), 1) := by decide +kernel
theorem dX1_leastLeftNumber_79 : decode cX1_leastLeftNumber 79 = .ok (.istore 7, 2) := by decide +kernel
theorem dX1_leastLeftNumber_81 : decode cX1_leastLeftNumber 81 = .ok (.iconst 0, 1) := by decide +kernel
theorem dX1_leastLeftNumber_82 : decode cX1_leastLeftNumber 82 = .ok (.istore 8, 2) := by decide +kernel
theorem dX1_leastLeftNumber_84 : decode cX1_leastLeftNumber 84 = .ok (.iload 8, 2) := by decide +kernel
theorem dX1_leastLeftNumber_86 : decode cX1_leastLeftNumber 86 = .ok (.aload_n 0, 1) := by decide +kernel
theorem dX1_leastLeftNumber_87 : decode cX1_leastLeftNumber 87 = .ok (.getfield 36, 3) := by decide +kernel
theorem dX1_leastLeftNumber_90 : decode cX1_leastLeftNumber 90 = .ok (.iload_n 2, 1) := by decide +kernel
theorem dX1_leastLeftNumber_91 : decode cX1_leastLeftNumber 91 = .ok (.iaload, 1) := by decide +kernel
theorem dX1_leastLeftNumber_92 : decode cX1_leastLeftNumber 92 = .ok (.if_icmp .ge 69, 3) := by decide +kernel
theorem dX1_leastLeftNumber_95 : decode cX1_leastLeftNumber 95 = .ok (.aload_n 0, 1) := by decide +kernel
theorem dX1_leastLeftNumber_96 : decode cX1_leastLeftNumber 96 = .ok (.getfield 33, 3) := by decide +kernel
theorem dX1_leastLeftNumber_99 : decode cX1_leastLeftNumber 99 = .ok (.iload_n 2, 1) := by decide +kernel
theorem dX1_leastLeftNumber_100 : decode cX1_leastLeftNumber 100 = .ok (.aaload, 1) := by decide +kernel
theorem dX1_leastLeftNumber_101 : decode cX1_leastLeftNumber 101 = .ok (.iload 8, 2) := by decide +kernel
theorem dX1_leastLeftNumber_103 : decode cX1_leastLeftNumber 103 = .ok (.iaload, 1) := by decide +kernel
theorem dX1_leastLeftNumber_104 : decode cX1_leastLeftNumber 104 = .ok (.istore 9, 2) := by decide +kernel
theorem dX1_leastLeftNumber_106 : decode cX1_leastLeftNumber 106 = .ok (.aload_n 0, 1) := by decide +kernel
theorem dX1_leastLeftNumber_107 : decode cX1_leastLeftNumber 107 = .ok (.iload_n 1, 1) := by decide +kernel
theorem dX1_leastLeftNumber_108 : decode cX1_leastLeftNumber 108 = .ok (.iload_n 2, 1) := by decide +kernel
theorem dX1_leastLeftNumber_109 : decode cX1_leastLeftNumber 109 = .ok (.ixor, 1) := by decide +kernel
theorem dX1_leastLeftNumber_110 : decode cX1_leastLeftNumber 110 = .ok (.iload_n 3, 1) := by decide +kernel
theorem dX1_leastLeftNumber_111 : decode cX1_leastLeftNumber 111 = .ok (.iload 9, 2) := by decide +kernel
theorem dX1_leastLeftNumber_113 : decode cX1_leastLeftNumber 113 = .ok (.iload 4, 2) := by decide +kernel
theorem dX1_leastLeftNumber_115 : decode cX1_leastLeftNumber 115 = .ok (.invokestatic 98, 3) := by decide +kernel
theorem dX1_leastLeftNumber_118 : decode cX1_leastLeftNumber 118 = .ok (.invokevirtual 82, 3) := by decide +kernel
theorem dX1_leastLeftNumber_121 : decode cX1_leastLeftNumber 121 = .ok (.lconst 0, 1) := by decide +kernel
theorem dX1_leastLeftNumber_122 : decode cX1_leastLeftNumber 122 = .ok (.lcmp, 1) := by decide +kernel
theorem dX1_leastLeftNumber_123 : decode cX1_leastLeftNumber 123 = .ok (.ifCond .le 7, 3) := by decide +kernel
theorem dX1_leastLeftNumber_126 : decode cX1_leastLeftNumber 126 = .ok (.iconst 1, 1) := by decide +kernel
theorem dX1_leastLeftNumber_127 : decode cX1_leastLeftNumber 127 = .ok (.goto 4, 3) := by decide +kernel
theorem dX1_leastLeftNumber_130 : decode cX1_leastLeftNumber 130 = .ok (.iconst 0, 1) := by decide +kernel
theorem dX1_leastLeftNumber_131 : decode cX1_leastLeftNumber 131 = .ok (.istore 10, 2) := by decide +kernel
theorem dX1_leastLeftNumber_133 : decode cX1_leastLeftNumber 133 = .ok (.iload 10, 2) := by decide +kernel
theorem dX1_leastLeftNumber_135 : decode cX1_leastLeftNumber 135 = .ok (.ifCond .eq 20, 3) := by decide +kernel
theorem dX1_leastLeftNumber_138 : decode cX1_leastLeftNumber 138 = .ok (.iload 7, 2) := by decide +kernel
theorem dX1_leastLeftNumber_140 : decode cX1_leastLeftNumber 140 = .ok (.iconst (-1), 1) := by decide +kernel
theorem dX1_leastLeftNumber_141 : decode cX1_leastLeftNumber 141 = .ok (.if_icmp .eq 10, 3) := by decide +kernel
theorem dX1_leastLeftNumber_144 : decode cX1_leastLeftNumber 144 = .ok (.iload 9, 2) := by decide +kernel
theorem dX1_leastLeftNumber_146 : decode cX1_leastLeftNumber 146 = .ok (.iload 7, 2) := by decide +kernel
theorem dX1_leastLeftNumber_148 : decode cX1_leastLeftNumber 148 = .ok (.if_icmp .ge 7, 3) := by decide +kernel
theorem dX1_leastLeftNumber_151 : decode cX1_leastLeftNumber 151 = .ok (.iload 9, 2) := by decide +kernel
theorem dX1_leastLeftNumber_153 : decode cX1_leastLeftNumber 153 = .ok (.istore 7, 2) := by decide +kernel
theorem dX1_leastLeftNumber_155 : decode cX1_leastLeftNumber 155 = .ok (.iinc 8 1, 3) := by decide +kernel
theorem dX1_leastLeftNumber_158 : decode cX1_leastLeftNumber 158 = .ok (.goto (-74), 3) := by decide +kernel
theorem dX1_leastLeftNumber_161 : decode cX1_leastLeftNumber 161 = .ok (.iload 7, 2) := by decide +kernel
theorem dX1_leastLeftNumber_163 : decode cX1_leastLeftNumber 163 = .ok (.ireturn, 1) := by decide +kernel
theorem dX2_init_0 : decode cX2_init 0 = .ok (.aload_n 0, 1) := by decide +kernel
theorem dX2_init_1 : decode cX2_init 1 = .ok (.invokespecial 3, 3) := by decide +kernel
theorem dX2_init_4 : decode cX2_init 4 = .ok (.aload_n 0, 1) := by decide +kernel
theorem dX2_init_5 : decode cX2_init 5 = .ok (.bipush 33, 2) := by decide +kernel
theorem dX2_init_7 : decode cX2_init 7 = .ok (.newarray .char, 2) := by decide +kernel
theorem dX2_init_9 : decode cX2_init 9 = .ok (.putfield 9, 3) := by decide +kernel
theorem dX2_init_12 : decode cX2_init 12 = .ok (.aload_n 0, 1) := by decide +kernel
theorem dX2_init_13 : decode cX2_init 13 = .ok (.iconst 0, 1) := by decide +kernel
theorem dX2_init_14 : decode cX2_init 14 = .ok (.putfield 15, 3) := by decide +kernel
theorem dX2_init_17 : decode cX2_init 17 = .ok (.return_, 1) := by decide +kernel
theorem dX2_add_0 : decode cX2_add 0 = .ok (.aload_n 0, 1) := by decide +kernel
theorem dX2_add_1 : decode cX2_add 1 = .ok (.getfield 15, 3) := by decide +kernel
theorem dX2_add_4 : decode cX2_add 4 = .ok (.ifCond .lt 35, 3) := by decide +kernel
theorem dX2_add_7 : decode cX2_add 7 = .ok (.aload_n 0, 1) := by decide +kernel
theorem dX2_add_8 : decode cX2_add 8 = .ok (.getfield 15, 3) := by decide +kernel
theorem dX2_add_11 : decode cX2_add 11 = .ok (.aload_n 0, 1) := by decide +kernel
theorem dX2_add_12 : decode cX2_add 12 = .ok (.getfield 9, 3) := by decide +kernel
theorem dX2_add_15 : decode cX2_add 15 = .ok (.arraylength, 1) := by decide +kernel
theorem dX2_add_16 : decode cX2_add 16 = .ok (.if_icmp .ge 23, 3) := by decide +kernel
theorem dX2_add_19 : decode cX2_add 19 = .ok (.aload_n 0, 1) := by decide +kernel
theorem dX2_add_20 : decode cX2_add 20 = .ok (.getfield 9, 3) := by decide +kernel
theorem dX2_add_23 : decode cX2_add 23 = .ok (.aload_n 0, 1) := by decide +kernel
theorem dX2_add_24 : decode cX2_add 24 = .ok (.getfield 15, 3) := by decide +kernel
theorem dX2_add_27 : decode cX2_add 27 = .ok (.iload_n 1, 1) := by decide +kernel
theorem dX2_add_28 : decode cX2_add 28 = .ok (.castore, 1) := by decide +kernel
theorem dX2_add_29 : decode cX2_add 29 = .ok (.aload_n 0, 1) := by decide +kernel
theorem dX2_add_30 : decode cX2_add 30 = .ok (.dup, 1) := by decide +kernel
theorem dX2_add_31 : decode cX2_add 31 = .ok (.getfield 15, 3) := by decide +kernel
theorem dX2_add_34 : decode cX2_add 34 = .ok (.iconst 1, 1) := by decide +kernel
theorem dX2_add_35 : decode cX2_add 35 = .ok (.iadd, 1) := by decide +kernel
theorem dX2_add_36 : decode cX2_add 36 = .ok (.putfield 15, 3) := by decide +kernel
theorem dX2_add_39 : decode cX2_add 39 = .ok (.return_, 1) := by decide +kernel
set_option maxRecDepth 20000 in
theorem ggX2_addNumber_X2_add : GoodIn wsX2_addNumber wsX2_add := goodIn_r _ [5, 6, 7, 8, 9] (by decide +kernel) (by decide +kernel)
set_option maxRecDepth 20000 in
theorem gX2_addNumber_X2_add : GoodIn wsX2_addNumber (wsV RX2 19 RX2 yX2_add wsX2_add) := goodIn_app (goodIn_of _ (by decide +kernel)) ggX2_addNumber_X2_add
theorem dX2_addNumber_0 : decode cX2_addNumber 0 = .ok (.sipush 1000, 3) := by decide +kernel
theorem dX2_addNumber_3 : decode cX2_addNumber 3 = .ok (.istore_n 2, 1) := by decide +kernel
theorem dX2_addNumber_4 : decode cX2_addNumber 4 = .ok (.iload_n 2, 1) := by decide +kernel
theorem dX2_addNumber_5 : decode cX2_addNumber 5 = .ok (.ifCond .le 30, 3) := by decide +kernel
theorem dX2_addNumber_8 : decode cX2_addNumber 8 = .ok (.iload_n 1, 1) := by decide +kernel
theorem dX2_addNumber_9 : decode cX2_addNumber 9 = .ok (.iload_n 2, 1) := by decide +kernel
theorem dX2_addNumber_10 : decode cX2_addNumber 10 = .ok (.if_icmp .lt 17, 3) := by decide +kernel
theorem dX2_addNumber_13 : decode cX2_addNumber 13 = .ok (.aload_n 0, 1) := by decide +kernel
theorem dX2_addNumber_14 : decode cX2_addNumber 14 = .ok (.bipush 48, 2) := by decide +kernel
theorem dX2_addNumber_16 : decode cX2_addNumber 16 = .ok (.iload_n 1, 1) := by decide +kernel
theorem dX2_addNumber_17 : decode cX2_addNumber 17 = .ok (.iload_n 2, 1) := by decide +kernel
theorem dX2_addNumber_18 : decode cX2_addNumber 18 = .ok (.idiv, 1) := by decide +kernel
theorem dX2_addNumber_19 : decode cX2_addNumber 19 = .ok (.bipush 10, 2) := by decide +kernel
theorem dX2_addNumber_21 : decode cX2_addNumber 21 = .ok (.irem, 1) := by decide +kernel
theorem dX2_addNumber_22 : decode cX2_addNumber 22 = .ok (.iadd, 1) := by decide +kernel
theorem dX2_addNumber_23 : decode cX2_addNumber 23 = .ok (.i2c, 1) := by decide +kernel
theorem dX2_addNumber_24 : decode cX2_addNumber 24 = .ok (.invokevirtual 19, 3) := by decide +kernel
theorem dX2_addNumber_27 : decode cX2_addNumber 27 = .ok (.iload_n 2, 1) := by decide +kernel
theorem dX2_addNumber_28 : decode cX2_addNumber 28 = .ok (.bipush 10, 2) := by decide +kernel
theorem dX2_addNumber_30 : decode cX2_addNumber 30 = .ok (.idiv, 1) := by decide +kernel
theorem dX2_addNumber_31 : decode cX2_addNumber 31 = .ok (.istore_n 2, 1) := by decide +kernel
theorem dX2_addNumber_32 : decode cX2_addNumber 32 = .ok (.goto (-28), 3) := by decide +kernel
theorem dX2_addNumber_35 : decode cX2_addNumber 35 = .ok (.return_, 1) := by decide +kernel
theorem dX2_byteAt_0 : decode cX2_byteAt 0 = .ok (.iload_n 1, 1) := by decide +kernel
theorem dX2_byteAt_1 : decode cX2_byteAt 1 = .ok (.ifCond .lt 20, 3) := by decide +kernel
theorem dX2_byteAt_4 : decode cX2_byteAt 4 = .ok (.iload_n 1, 1) := by decide +kernel
theorem dX2_byteAt_5 : decode cX2_byteAt 5 = .ok (.aload_n 0, 1) := by decide +kernel
theorem dX2_byteAt_6 : decode cX2_byteAt 6 = .ok (.getfield 15, 3) := by decide +kernel
theorem dX2_byteAt_9 : decode cX2_byteAt 9 = .ok (.if_icmp .ge 12, 3) := by decide +kernel
theorem dX2_byteAt_12 : decode cX2_byteAt 12 = .ok (.iload_n 1, 1) := by decide +kernel
theorem dX2_byteAt_13 : decode cX2_byteAt 13 = .ok (.aload_n 0, 1) := by decide +kernel
theorem dX2_byteAt_14 : decode cX2_byteAt 14 = .ok (.getfield 9, 3) := by decide +kernel
theorem dX2_byteAt_17 : decode cX2_byteAt 17 = .ok (.arraylength, 1) := by decide +kernel
theorem dX2_byteAt_18 : decode cX2_byteAt 18 = .ok (.if_icmp .lt 7, 3) := by decide +kernel
theorem dX2_byteAt_21 : decode cX2_byteAt 21 = .ok (.iconst (-1), 1) := by decide +kernel
theorem dX2_byteAt_22 : decode cX2_byteAt 22 = .ok (.goto 9, 3) := by decide +kernel
theorem dX2_byteAt_25 : decode cX2_byteAt 25 = .ok (.aload_n 0, 1) := by decide +kernel
theorem dX2_byteAt_26 : decode cX2_byteAt 26 = .ok (.getfield 9, 3) := by decide +kernel
theorem dX2_byteAt_29 : decode cX2_byteAt 29 = .ok (.iload_n 1, 1) := by decide +kernel
theorem dX2_byteAt_30 : decode cX2_byteAt 30 = .ok (.caload, 1) := by decide +kernel
theorem dX2_byteAt_31 : decode cX2_byteAt 31 = .ok (.ireturn, 1) := by decide +kernel
theorem dX3_init_0 : decode cX3_init 0 = .ok (.aload_n 0, 1) := by decide +kernel
theorem dX3_init_1 : decode cX3_init 1 = .ok (.invokespecial 3, 3) := by decide +kernel
theorem dX3_init_4 : decode cX3_init 4 = .ok (.aload_n 0, 1) := by decide +kernel
theorem dX3_init_5 : decode cX3_init 5 = .ok (.bipush 15, 2) := by decide +kernel
theorem dX3_init_7 : decode cX3_init 7 = .ok (.putfield 9, 3) := by decide +kernel
theorem dX3_init_10 : decode cX3_init 10 = .ok (.aload_n 0, 1) := by decide +kernel
theorem dX3_init_11 : decode cX3_init 11 = .ok (.sipush 3000, 3) := by decide +kernel
theorem dX3_init_14 : decode cX3_init 14 = .ok (.putfield 15, 3) := by decide +kernel
theorem dX3_init_17 : decode cX3_init 17 = .ok (.return_, 1) := by decide +kernel
theorem dX3_allow_0 : decode cX3_allow 0 = .ok (.aload_n 0, 1) := by decide +kernel
theorem dX3_allow_1 : decode cX3_allow 1 = .ok (.getfield 9, 3) := by decide +kernel
theorem dX3_allow_4 : decode cX3_allow 4 = .ok (.iconst 1, 1) := by decide +kernel
theorem dX3_allow_5 : decode cX3_allow 5 = .ok (.iload_n 1, 1) := by decide +kernel
theorem dX3_allow_6 : decode cX3_allow 6 = .ok (.ishl, 1) := by decide +kernel
theorem dX3_allow_7 : decode cX3_allow 7 = .ok (.iand, 1) := by decide +kernel
theorem dX3_allow_8 : decode cX3_allow 8 = .ok (.ifCond .eq 7, 3) := by decide +kernel
theorem dX3_allow_11 : decode cX3_allow 11 = .ok (.iconst 1, 1) := by decide +kernel
theorem dX3_allow_12 : decode cX3_allow 12 = .ok (.goto 4, 3) := by decide +kernel
theorem dX3_allow_15 : decode cX3_allow 15 = .ok (.iconst 0, 1) := by decide +kernel
theorem dX3_allow_16 : decode cX3_allow 16 = .ok (.ireturn, 1) := by decide +kernel
theorem dX4_init_0 : decode cX4_init 0 = .ok (.aload_n 0, 1) := by decide +kernel
theorem dX4_init_1 : decode cX4_init 1 = .ok (.invokespecial 3, 3) := by decide +kernel
theorem dX4_init_4 : decode cX4_init 4 = .ok (.aload_n 0, 1) := by decide +kernel
theorem dX4_init_5 : decode cX4_init 5 = .ok (.sipush 5041, 3) := by decide +kernel
theorem dX4_init_8 : decode cX4_init 8 = .ok (.newarray .int, 2) := by decide +kernel
theorem dX4_init_10 : decode cX4_init 10 = .ok (.putfield 9, 3) := by decide +kernel
theorem dX4_init_13 : decode cX4_init 13 = .ok (.aload_n 0, 1) := by decide +kernel
theorem dX4_init_14 : decode cX4_init 14 = .ok (.sipush 5041, 3) := by decide +kernel
theorem dX4_init_17 : decode cX4_init 17 = .ok (.newarray .int, 2) := by decide +kernel
theorem dX4_init_19 : decode cX4_init 19 = .ok (.putfield 15, 3) := by decide +kernel
theorem dX4_init_22 : decode cX4_init 22 = .ok (.aload_n 0, 1) := by decide +kernel
theorem dX4_init_23 : decode cX4_init 23 = .ok (.iconst 0, 1) := by decide +kernel
theorem dX4_init_24 : decode cX4_init 24 = .ok (.putfield 18, 3) := by decide +kernel
theorem dX4_init_27 : decode cX4_init 27 = .ok (.aload_n 0, 1) := by decide +kernel
theorem dX4_init_28 : decode cX4_init 28 = .ok (.iconst (-1), 1) := by decide +kernel
theorem dX4_init_29 : decode cX4_init 29 = .ok (.putfield 22, 3) := by decide +kernel
theorem dX4_init_32 : decode cX4_init 32 = .ok (.return_, 1) := by decide +kernel
set_option maxRecDepth 20000 in
theorem ggX4_stepsBetween_X5_isOutside : GoodIn wsX4_stepsBetween wsX5_isOutside := goodIn_r _ [5] (by decide +kernel) (by decide +kernel)
set_option maxRecDepth 20000 in
theorem gX4_stepsBetween_X5_isOutside_n25 : GoodIn wsX4_stepsBetween (wsX5_isOutside) := ggX4_stepsBetween_X5_isOutside
set_option maxRecDepth 20000 in
theorem ggX4_stepsBetween_X4_walkFrom : GoodIn wsX4_stepsBetween wsX4_walkFrom := goodIn_r _ [10, 1, 11, 2, 12, 13, 14, 15, 9, 16, 3, 4, 5, 17, 18, 19, 20, 21, 22, 23, 24, 25, 26, 27, 28, 29] (by decide +kernel) (by decide +kernel)
set_option maxRecDepth 20000 in
theorem gX4_stepsBetween_X4_walkFrom : GoodIn wsX4_stepsBetween (wsV RX4 29 RX4 yX4_walkFrom wsX4_walkFrom) := goodIn_app (goodIn_of _ (by decide +kernel)) ggX4_stepsBetween_X4_walkFrom
theorem dX4_stepsBetween_0 : decode cX4_stepsBetween 0 = .ok (.iload_n 2, 1) := by decide +kernel
theorem dX4_stepsBetween_1 : decode cX4_stepsBetween 1 = .ok (.iconst 0, 1) := by decide +kernel
theorem dX4_stepsBetween_2 : decode cX4_stepsBetween 2 = .ok (.sipush 5040, 3) := by decide +kernel
theorem dX4_stepsBetween_5 : decode cX4_stepsBetween 5 = .ok (.invokestatic 25, 3) := by decide +kernel
theorem dX4_stepsBetween_8 : decode cX4_stepsBetween 8 = .ok (.ifCond .eq 5, 3) := by decide +kernel
theorem dX4_stepsBetween_11 : decode cX4_stepsBetween 11 = .ok (.iconst (-1), 1) := by decide +kernel
theorem dX4_stepsBetween_12 : decode cX4_stepsBetween 12 = .ok (.ireturn, 1) := by decide +kernel
theorem dX4_stepsBetween_13 : decode cX4_stepsBetween 13 = .ok (.iload_n 1, 1) := by decide +kernel
theorem dX4_stepsBetween_14 : decode cX4_stepsBetween 14 = .ok (.aload_n 0, 1) := by decide +kernel
theorem dX4_stepsBetween_15 : decode cX4_stepsBetween 15 = .ok (.getfield 22, 3) := by decide +kernel
theorem dX4_stepsBetween_18 : decode cX4_stepsBetween 18 = .ok (.if_icmp .eq 8, 3) := by decide +kernel
theorem dX4_stepsBetween_21 : decode cX4_stepsBetween 21 = .ok (.aload_n 0, 1) := by decide +kernel
theorem dX4_stepsBetween_22 : decode cX4_stepsBetween 22 = .ok (.iload_n 1, 1) := by decide +kernel
theorem dX4_stepsBetween_23 : decode cX4_stepsBetween 23 = .ok (.invokevirtual 29, 3) := by decide +kernel
theorem dX4_stepsBetween_26 : decode cX4_stepsBetween 26 = .ok (.aload_n 0, 1) := by decide +kernel
theorem dX4_stepsBetween_27 : decode cX4_stepsBetween 27 = .ok (.getfield 9, 3) := by decide +kernel
theorem dX4_stepsBetween_30 : decode cX4_stepsBetween 30 = .ok (.iload_n 2, 1) := by decide +kernel
theorem dX4_stepsBetween_31 : decode cX4_stepsBetween 31 = .ok (.iaload, 1) := by decide +kernel
theorem dX4_stepsBetween_32 : decode cX4_stepsBetween 32 = .ok (.ireturn, 1) := by decide +kernel
set_option maxRecDepth 20000 in
theorem ggX4_walkFrom_X4_arrive : GoodIn wsX4_walkFrom wsX4_arrive := goodIn_r _ [9, 3, 2, 4, 10, 11, 12, 22, 23, 24, 25] (by decide +kernel) (by decide +kernel)
set_option maxRecDepth 20000 in
theorem gX4_walkFrom_X4_arrive : GoodIn wsX4_walkFrom (wsV RX4 33 RX4 yX4_arrive wsX4_arrive) := goodIn_app (goodIn_of _ (by decide +kernel)) ggX4_walkFrom_X4_arrive
set_option maxRecDepth 20000 in
theorem ggX4_walkFrom_X4_signed : GoodIn wsX4_walkFrom wsX4_signed := goodIn_r _ [15, 16, 17, 8, 18, 19, 20, 21] (by decide +kernel) (by decide +kernel)
set_option maxRecDepth 20000 in
theorem gX4_walkFrom_X4_signed : GoodIn wsX4_walkFrom (va_wsS RX4 37 yX4_signed wsX4_signed) := goodIn_app (goodIn_of _ (by decide +kernel)) ggX4_walkFrom_X4_signed
theorem dX4_walkFrom_0 : decode cX4_walkFrom 0 = .ok (.aload_n 0, 1) := by decide +kernel
theorem dX4_walkFrom_1 : decode cX4_walkFrom 1 = .ok (.iload_n 1, 1) := by decide +kernel
theorem dX4_walkFrom_2 : decode cX4_walkFrom 2 = .ok (.putfield 22, 3) := by decide +kernel
theorem dX4_walkFrom_5 : decode cX4_walkFrom 5 = .ok (.aload_n 0, 1) := by decide +kernel
theorem dX4_walkFrom_6 : decode cX4_walkFrom 6 = .ok (.iconst 0, 1) := by decide +kernel
theorem dX4_walkFrom_7 : decode cX4_walkFrom 7 = .ok (.putfield 18, 3) := by decide +kernel
theorem dX4_walkFrom_10 : decode cX4_walkFrom 10 = .ok (.iconst 0, 1) := by decide +kernel
theorem dX4_walkFrom_11 : decode cX4_walkFrom 11 = .ok (.istore_n 2, 1) := by decide +kernel
theorem dX4_walkFrom_12 : decode cX4_walkFrom 12 = .ok (.iload_n 2, 1) := by decide +kernel
theorem dX4_walkFrom_13 : decode cX4_walkFrom 13 = .ok (.aload_n 0, 1) := by decide +kernel
theorem dX4_walkFrom_14 : decode cX4_walkFrom 14 = .ok (.getfield 9, 3) := by decide +kernel
theorem dX4_walkFrom_17 : decode cX4_walkFrom 17 = .ok (.arraylength, 1) := by decide +kernel
theorem dX4_walkFrom_18 : decode cX4_walkFrom 18 = .ok (.if_icmp .ge 16, 3) := by decide +kernel
theorem dX4_walkFrom_21 : decode cX4_walkFrom 21 = .ok (.aload_n 0, 1) := by decide +kernel
theorem dX4_walkFrom_22 : decode cX4_walkFrom 22 = .ok (.getfield 9, 3) := by decide +kernel
theorem dX4_walkFrom_25 : decode cX4_walkFrom 25 = .ok (.iload_n 2, 1) := by decide +kernel
theorem dX4_walkFrom_26 : decode cX4_walkFrom 26 = .ok (.iconst (-1), 1) := by decide +kernel
theorem dX4_walkFrom_27 : decode cX4_walkFrom 27 = .ok (.iastore, 1) := by decide +kernel
theorem dX4_walkFrom_28 : decode cX4_walkFrom 28 = .ok (.iinc 2 1, 3) := by decide +kernel
theorem dX4_walkFrom_31 : decode cX4_walkFrom 31 = .ok (.goto (-19), 3) := by decide +kernel
theorem dX4_walkFrom_34 : decode cX4_walkFrom 34 = .ok (.aload_n 0, 1) := by decide +kernel
theorem dX4_walkFrom_35 : decode cX4_walkFrom 35 = .ok (.iload_n 1, 1) := by decide +kernel
theorem dX4_walkFrom_36 : decode cX4_walkFrom 36 = .ok (.iconst 0, 1) := by decide +kernel
theorem dX4_walkFrom_37 : decode cX4_walkFrom 37 = .ok (.invokevirtual 33, 3) := by decide +kernel
theorem dX4_walkFrom_40 : decode cX4_walkFrom 40 = .ok (.iconst 0, 1) := by decide +kernel
theorem dX4_walkFrom_41 : decode cX4_walkFrom 41 = .ok (.istore_n 2, 1) := by decide +kernel
theorem dX4_walkFrom_42 : decode cX4_walkFrom 42 = .ok (.iload_n 2, 1) := by decide +kernel
theorem dX4_walkFrom_43 : decode cX4_walkFrom 43 = .ok (.aload_n 0, 1) := by decide +kernel
theorem dX4_walkFrom_44 : decode cX4_walkFrom 44 = .ok (.getfield 18, 3) := by decide +kernel
theorem dX4_walkFrom_47 : decode cX4_walkFrom 47 = .ok (.if_icmp .ge 58, 3) := by decide +kernel
theorem dX4_walkFrom_50 : decode cX4_walkFrom 50 = .ok (.iload_n 2, 1) := by decide +kernel
theorem dX4_walkFrom_51 : decode cX4_walkFrom 51 = .ok (.aload_n 0, 1) := by decide +kernel
theorem dX4_walkFrom_52 : decode cX4_walkFrom 52 = .ok (.getfield 15, 3) := by decide +kernel
theorem dX4_walkFrom_55 : decode cX4_walkFrom 55 = .ok (.arraylength, 1) := by decide +kernel
theorem dX4_walkFrom_56 : decode cX4_walkFrom 56 = .ok (.if_icmp .ge 49, 3) := by decide +kernel
theorem dX4_walkFrom_59 : decode cX4_walkFrom 59 = .ok (.aload_n 0, 1) := by decide +kernel
theorem dX4_walkFrom_60 : decode cX4_walkFrom 60 = .ok (.getfield 15, 3) := by decide +kernel
theorem dX4_walkFrom_63 : decode cX4_walkFrom 63 = .ok (.iload_n 2, 1) := by decide +kernel
theorem dX4_walkFrom_64 : decode cX4_walkFrom 64 = .ok (.iaload, 1) := by decide +kernel
theorem dX4_walkFrom_65 : decode cX4_walkFrom 65 = .ok (.istore_n 3, 1) := by decide +kernel
theorem dX4_walkFrom_66 : decode cX4_walkFrom 66 = .ok (.iconst 0, 1) := by decide +kernel
theorem dX4_walkFrom_67 : decode cX4_walkFrom 67 = .ok (.istore 4, 2) := by decide +kernel
theorem dX4_walkFrom_69 : decode cX4_walkFrom 69 = .ok (.iload 4, 2) := by decide +kernel
theorem dX4_walkFrom_71 : decode cX4_walkFrom 71 = .ok (.iconst 4, 1) := by decide +kernel
theorem dX4_walkFrom_72 : decode cX4_walkFrom 72 = .ok (.if_icmp .ge 27, 3) := by decide +kernel
theorem dX4_walkFrom_75 : decode cX4_walkFrom 75 = .ok (.aload_n 0, 1) := by decide +kernel
theorem dX4_walkFrom_76 : decode cX4_walkFrom 76 = .ok (.iload 4, 2) := by decide +kernel
theorem dX4_walkFrom_78 : decode cX4_walkFrom 78 = .ok (.iload_n 3, 1) := by decide +kernel
theorem dX4_walkFrom_79 : decode cX4_walkFrom 79 = .ok (.invokestatic 37, 3) := by decide +kernel
theorem dX4_walkFrom_82 : decode cX4_walkFrom 82 = .ok (.aload_n 0, 1) := by decide +kernel
theorem dX4_walkFrom_83 : decode cX4_walkFrom 83 = .ok (.getfield 9, 3) := by decide +kernel
theorem dX4_walkFrom_86 : decode cX4_walkFrom 86 = .ok (.iload_n 3, 1) := by decide +kernel
theorem dX4_walkFrom_87 : decode cX4_walkFrom 87 = .ok (.iaload, 1) := by decide +kernel
theorem dX4_walkFrom_88 : decode cX4_walkFrom 88 = .ok (.iconst 1, 1) := by decide +kernel
theorem dX4_walkFrom_89 : decode cX4_walkFrom 89 = .ok (.iadd, 1) := by decide +kernel
theorem dX4_walkFrom_90 : decode cX4_walkFrom 90 = .ok (.invokevirtual 33, 3) := by decide +kernel
theorem dX4_walkFrom_93 : decode cX4_walkFrom 93 = .ok (.iinc 4 1, 3) := by decide +kernel
theorem dX4_walkFrom_96 : decode cX4_walkFrom 96 = .ok (.goto (-27), 3) := by decide +kernel
theorem dX4_walkFrom_99 : decode cX4_walkFrom 99 = .ok (.iinc 2 1, 3) := by decide +kernel
theorem dX4_walkFrom_102 : decode cX4_walkFrom 102 = .ok (.goto (-60), 3) := by decide +kernel
theorem dX4_walkFrom_105 : decode cX4_walkFrom 105 = .ok (.return_, 1) := by decide +kernel
set_option maxRecDepth 20000 in
theorem ggX4_arrive_X5_isOutside : GoodIn wsX4_arrive wsX5_isOutside := goodIn_r _ [6] (by decide +kernel) (by decide +kernel)
set_option maxRecDepth 20000 in
theorem gX4_arrive_X5_isOutside_n25 : GoodIn wsX4_arrive (wsX5_isOutside) := ggX4_arrive_X5_isOutside
theorem dX4_arrive_0 : decode cX4_arrive 0 = .ok (.iload_n 1, 1) := by decide +kernel
theorem dX4_arrive_1 : decode cX4_arrive 1 = .ok (.iconst 0, 1) := by decide +kernel
theorem dX4_arrive_2 : decode cX4_arrive 2 = .ok (.sipush 5040, 3) := by decide +kernel
theorem dX4_arrive_5 : decode cX4_arrive 5 = .ok (.invokestatic 25, 3) := by decide +kernel
theorem dX4_arrive_8 : decode cX4_arrive 8 = .ok (.ifCond .ne 25, 3) := by decide +kernel
theorem dX4_arrive_11 : decode cX4_arrive 11 = .ok (.aload_n 0, 1) := by decide +kernel
theorem dX4_arrive_12 : decode cX4_arrive 12 = .ok (.getfield 9, 3) := by decide +kernel
theorem dX4_arrive_15 : decode cX4_arrive 15 = .ok (.iload_n 1, 1) := by decide +kernel
theorem dX4_arrive_16 : decode cX4_arrive 16 = .ok (.iaload, 1) := by decide +kernel
theorem dX4_arrive_17 : decode cX4_arrive 17 = .ok (.iconst (-1), 1) := by decide +kernel
theorem dX4_arrive_18 : decode cX4_arrive 18 = .ok (.if_icmp .ne 15, 3) := by decide +kernel
theorem dX4_arrive_21 : decode cX4_arrive 21 = .ok (.aload_n 0, 1) := by decide +kernel
theorem dX4_arrive_22 : decode cX4_arrive 22 = .ok (.getfield 18, 3) := by decide +kernel
theorem dX4_arrive_25 : decode cX4_arrive 25 = .ok (.aload_n 0, 1) := by decide +kernel
theorem dX4_arrive_26 : decode cX4_arrive 26 = .ok (.getfield 15, 3) := by decide +kernel
theorem dX4_arrive_29 : decode cX4_arrive 29 = .ok (.arraylength, 1) := by decide +kernel
theorem dX4_arrive_30 : decode cX4_arrive 30 = .ok (.if_icmp .lt 4, 3) := by decide +kernel
theorem dX4_arrive_33 : decode cX4_arrive 33 = .ok (.return_, 1) := by decide +kernel
theorem dX4_arrive_34 : decode cX4_arrive 34 = .ok (.aload_n 0, 1) := by decide +kernel
theorem dX4_arrive_35 : decode cX4_arrive 35 = .ok (.getfield 9, 3) := by decide +kernel
theorem dX4_arrive_38 : decode cX4_arrive 38 = .ok (.iload_n 1, 1) := by decide +kernel
theorem dX4_arrive_39 : decode cX4_arrive 39 = .ok (.iload_n 2, 1) := by decide +kernel
theorem dX4_arrive_40 : decode cX4_arrive 40 = .ok (.iastore, 1) := by decide +kernel
theorem dX4_arrive_41 : decode cX4_arrive 41 = .ok (.aload_n 0, 1) := by decide +kernel
theorem dX4_arrive_42 : decode cX4_arrive 42 = .ok (.getfield 15, 3) := by decide +kernel
theorem dX4_arrive_45 : decode cX4_arrive 45 = .ok (.aload_n 0, 1) := by decide +kernel
theorem dX4_arrive_46 : decode cX4_arrive 46 = .ok (.getfield 18, 3) := by decide +kernel
theorem dX4_arrive_49 : decode cX4_arrive 49 = .ok (.iload_n 1, 1) := by decide +kernel
theorem dX4_arrive_50 : decode cX4_arrive 50 = .ok (.iastore, 1) := by decide +kernel
theorem dX4_arrive_51 : decode cX4_arrive 51 = .ok (.aload_n 0, 1) := by decide +kernel
theorem dX4_arrive_52 : decode cX4_arrive 52 = .ok (.dup, 1) := by decide +kernel
theorem dX4_arrive_53 : decode cX4_arrive 53 = .ok (.getfield 18, 3) := by decide +kernel
theorem dX4_arrive_56 : decode cX4_arrive 56 = .ok (.iconst 1, 1) := by decide +kernel
theorem dX4_arrive_57 : decode cX4_arrive 57 = .ok (.iadd, 1) := by decide +kernel
theorem dX4_arrive_58 : decode cX4_arrive 58 = .ok (.putfield 18, 3) := by decide +kernel
theorem dX4_arrive_61 : decode cX4_arrive 61 = .ok (.return_, 1) := by decide +kernel
set_option maxRecDepth 20000 in
theorem ggX4_signed_X4_rootOf : GoodIn wsX4_signed wsX4_rootOf := goodIn_r _ [4] (by decide +kernel) (by decide +kernel)
set_option maxRecDepth 20000 in
theorem gX4_signed_X4_rootOf : GoodIn wsX4_signed (va_wsS RX4 41 yX4_rootOf wsX4_rootOf) := goodIn_app (goodIn_of _ (by decide +kernel)) ggX4_signed_X4_rootOf
set_option maxRecDepth 20000 in
theorem ggX4_signed_X4_productTo : GoodIn wsX4_signed wsX4_productTo := goodIn_r _ [7] (by decide +kernel) (by decide +kernel)
set_option maxRecDepth 20000 in
theorem gX4_signed_X4_productTo : GoodIn wsX4_signed (va_wsS RX4 45 yX4_productTo wsX4_productTo) := goodIn_app (goodIn_of _ (by decide +kernel)) ggX4_signed_X4_productTo
theorem dX4_signed_0 : decode cX4_signed 0 = .ok (.iload_n 0, 1) := by decide +kernel
theorem dX4_signed_1 : decode cX4_signed 1 = .ok (.tableswitch 65 0 2 #[27, 32, 47], 27) := by decide +kernel
theorem dX4_signed_28 : decode cX4_signed 28 = .ok (.iload_n 1, 1) := by decide +kernel
theorem dX4_signed_29 : decode cX4_signed 29 = .ok (.invokestatic 41, 3) := by decide +kernel
theorem dX4_signed_32 : decode cX4_signed 32 = .ok (.ireturn, 1) := by decide +kernel
theorem dX4_signed_33 : decode cX4_signed 33 = .ok (.iload_n 1, 1) := by decide +kernel
theorem dX4_signed_34 : decode cX4_signed 34 = .ok (.bipush 7, 2) := by decide +kernel
theorem dX4_signed_36 : decode cX4_signed 36 = .ok (.if_icmp .gt 10, 3) := by decide +kernel
theorem dX4_signed_39 : decode cX4_signed 39 = .ok (.iload_n 1, 1) := by decide +kernel
theorem dX4_signed_40 : decode cX4_signed 40 = .ok (.invokestatic 45, 3) := by decide +kernel
theorem dX4_signed_43 : decode cX4_signed 43 = .ok (.goto 4, 3) := by decide +kernel
theorem dX4_signed_46 : decode cX4_signed 46 = .ok (.iconst (-1), 1) := by decide +kernel
theorem dX4_signed_47 : decode cX4_signed 47 = .ok (.ireturn, 1) := by decide +kernel
theorem dX4_signed_48 : decode cX4_signed 48 = .ok (.iload_n 1, 1) := by decide +kernel
theorem dX4_signed_49 : decode cX4_signed 49 = .ok (.bipush 70, 2) := by decide +kernel
theorem dX4_signed_51 : decode cX4_signed 51 = .ok (.if_icmp .gt 13, 3) := by decide +kernel
theorem dX4_signed_54 : decode cX4_signed 54 = .ok (.iload_n 1, 1) := by decide +kernel
theorem dX4_signed_55 : decode cX4_signed 55 = .ok (.iload_n 1, 1) := by decide +kernel
theorem dX4_signed_56 : decode cX4_signed 56 = .ok (.iconst 1, 1) := by decide +kernel
theorem dX4_signed_57 : decode cX4_signed 57 = .ok (.iadd, 1) := by decide +kernel
theorem dX4_signed_58 : decode cX4_signed 58 = .ok (.imul, 1) := by decide +kernel
theorem dX4_signed_59 : decode cX4_signed 59 = .ok (.iconst 2, 1) := by decide +kernel
theorem dX4_signed_60 : decode cX4_signed 60 = .ok (.idiv, 1) := by decide +kernel
theorem dX4_signed_61 : decode cX4_signed 61 = .ok (.goto 4, 3) := by decide +kernel
theorem dX4_signed_64 : decode cX4_signed 64 = .ok (.iconst (-1), 1) := by decide +kernel
theorem dX4_signed_65 : decode cX4_signed 65 = .ok (.ireturn, 1) := by decide +kernel
theorem dX4_signed_66 : decode cX4_signed 66 = .ok (.iload_n 1, 1) := by decide +kernel
theorem dX4_signed_67 : decode cX4_signed 67 = .ok (.iconst 1, 1) := by decide +kernel
theorem dX4_signed_68 : decode cX4_signed 68 = .ok (.isub, 1) := by decide +kernel
theorem dX4_signed_69 : decode cX4_signed 69 = .ok (.ireturn, 1) := by decide +kernel
theorem dX4_rootOf_0 : decode cX4_rootOf 0 = .ok (.iconst 0, 1) := by decide +kernel
theorem dX4_rootOf_1 : decode cX4_rootOf 1 = .ok (.istore_n 1, 1) := by decide +kernel
theorem dX4_rootOf_2 : decode cX4_rootOf 2 = .ok (.bipush 64, 2) := by decide +kernel
theorem dX4_rootOf_4 : decode cX4_rootOf 4 = .ok (.istore_n 2, 1) := by decide +kernel
theorem dX4_rootOf_5 : decode cX4_rootOf 5 = .ok (.iload_n 2, 1) := by decide +kernel
theorem dX4_rootOf_6 : decode cX4_rootOf 6 = .ok (.ifCond .le 25, 3) := by decide +kernel
theorem dX4_rootOf_9 : decode cX4_rootOf 9 = .ok (.iload_n 1, 1) := by decide +kernel
theorem dX4_rootOf_10 : decode cX4_rootOf 10 = .ok (.iload_n 2, 1) := by decide +kernel
theorem dX4_rootOf_11 : decode cX4_rootOf 11 = .ok (.iadd, 1) := by decide +kernel
theorem dX4_rootOf_12 : decode cX4_rootOf 12 = .ok (.iload_n 1, 1) := by decide +kernel
theorem dX4_rootOf_13 : decode cX4_rootOf 13 = .ok (.iload_n 2, 1) := by decide +kernel
theorem dX4_rootOf_14 : decode cX4_rootOf 14 = .ok (.iadd, 1) := by decide +kernel
theorem dX4_rootOf_15 : decode cX4_rootOf 15 = .ok (.imul, 1) := by decide +kernel
theorem dX4_rootOf_16 : decode cX4_rootOf 16 = .ok (.iload_n 0, 1) := by decide +kernel
theorem dX4_rootOf_17 : decode cX4_rootOf 17 = .ok (.if_icmp .gt 7, 3) := by decide +kernel
theorem dX4_rootOf_20 : decode cX4_rootOf 20 = .ok (.iload_n 1, 1) := by decide +kernel
theorem dX4_rootOf_21 : decode cX4_rootOf 21 = .ok (.iload_n 2, 1) := by decide +kernel
theorem dX4_rootOf_22 : decode cX4_rootOf 22 = .ok (.iadd, 1) := by decide +kernel
theorem dX4_rootOf_23 : decode cX4_rootOf 23 = .ok (.istore_n 1, 1) := by decide +kernel
theorem dX4_rootOf_24 : decode cX4_rootOf 24 = .ok (.iload_n 2, 1) := by decide +kernel
theorem dX4_rootOf_25 : decode cX4_rootOf 25 = .ok (.iconst 2, 1) := by decide +kernel
theorem dX4_rootOf_26 : decode cX4_rootOf 26 = .ok (.idiv, 1) := by decide +kernel
theorem dX4_rootOf_27 : decode cX4_rootOf 27 = .ok (.istore_n 2, 1) := by decide +kernel
theorem dX4_rootOf_28 : decode cX4_rootOf 28 = .ok (.goto (-23), 3) := by decide +kernel
theorem dX4_rootOf_31 : decode cX4_rootOf 31 = .ok (.iload_n 1, 1) := by decide +kernel
theorem dX4_rootOf_32 : decode cX4_rootOf 32 = .ok (.ireturn, 1) := by decide +kernel
theorem dX4_productTo_0 : decode cX4_productTo 0 = .ok (.iconst 1, 1) := by decide +kernel
theorem dX4_productTo_1 : decode cX4_productTo 1 = .ok (.istore_n 1, 1) := by decide +kernel
theorem dX4_productTo_2 : decode cX4_productTo 2 = .ok (.iconst 2, 1) := by decide +kernel
theorem dX4_productTo_3 : decode cX4_productTo 3 = .ok (.istore_n 2, 1) := by decide +kernel
theorem dX4_productTo_4 : decode cX4_productTo 4 = .ok (.iload_n 2, 1) := by decide +kernel
theorem dX4_productTo_5 : decode cX4_productTo 5 = .ok (.iload_n 0, 1) := by decide +kernel
theorem dX4_productTo_6 : decode cX4_productTo 6 = .ok (.if_icmp .gt 13, 3) := by decide +kernel
theorem dX4_productTo_9 : decode cX4_productTo 9 = .ok (.iload_n 1, 1) := by decide +kernel
theorem dX4_productTo_10 : decode cX4_productTo 10 = .ok (.iload_n 2, 1) := by decide +kernel
theorem dX4_productTo_11 : decode cX4_productTo 11 = .ok (.imul, 1) := by decide +kernel
theorem dX4_productTo_12 : decode cX4_productTo 12 = .ok (.istore_n 1, 1) := by decide +kernel
theorem dX4_productTo_13 : decode cX4_productTo 13 = .ok (.iinc 2 1, 3) := by decide +kernel
theorem dX4_productTo_16 : decode cX4_productTo 16 = .ok (.goto (-12), 3) := by decide +kernel
theorem dX4_productTo_19 : decode cX4_productTo 19 = .ok (.iload_n 1, 1) := by decide +kernel
theorem dX4_productTo_20 : decode cX4_productTo 20 = .ok (.ireturn, 1) := by decide +kernel
set_option maxRecDepth 20000 in
theorem ggX5_init_X3_init : GoodIn wsX5_init wsX3_init := goodIn_r _ [26, 27, 2, 3, 28, 29, 70, 71] (by decide +kernel) (by decide +kernel)
set_option maxRecDepth 20000 in
theorem gX5_init_X3_init_n9 : GoodIn wsX5_init (wsX3_init) := ggX5_init_X3_init
set_option maxRecDepth 20000 in
theorem ggX5_init_X1_init : GoodIn wsX5_init wsX1_init := goodIn_r _ [32, 33, 2, 3, 34, 35, 36, 37, 38, 39, 40, 41, 42, 43, 44, 45, 78, 79, 80, 81, 82, 83, 84, 85] (by decide +kernel) (by decide +kernel)
set_option maxRecDepth 20000 in
theorem gX5_init_X1_init : GoodIn wsX5_init (wsX1_init) := ggX5_init_X1_init
set_option maxRecDepth 20000 in
theorem ggX5_init_X0_init : GoodIn wsX5_init wsX0_init := goodIn_r _ [48, 49, 2, 3, 37, 50, 51, 52, 53, 54, 55, 56, 86, 87, 88, 89, 90, 91] (by decide +kernel) (by decide +kernel)
set_option maxRecDepth 20000 in
theorem gX5_init_X0_init : GoodIn wsX5_init (wsX0_init) := ggX5_init_X0_init
set_option maxRecDepth 20000 in
theorem ggX5_init_X2_init : GoodIn wsX5_init wsX2_init := goodIn_r _ [58, 59, 2, 3, 60, 61, 62, 92, 93] (by decide +kernel) (by decide +kernel)
set_option maxRecDepth 20000 in
theorem gX5_init_X2_init_n39 : GoodIn wsX5_init (wsX2_init) := ggX5_init_X2_init
set_option maxRecDepth 20000 in
theorem ggX5_init_X4_init : GoodIn wsX5_init wsX4_init := goodIn_r _ [64, 65, 2, 3, 37, 66, 67, 68, 69, 94, 95, 96, 97] (by decide +kernel) (by decide +kernel)
set_option maxRecDepth 20000 in
theorem gX5_init_X4_init_n46 : GoodIn wsX5_init (wsX4_init) := ggX5_init_X4_init
theorem dX5_init_0 : decode cX5_init 0 = .ok (.aload_n 0, 1) := by decide +kernel
theorem dX5_init_1 : decode cX5_init 1 = .ok (.invokespecial 1, 3) := by decide +kernel
theorem dX5_init_4 : decode cX5_init 4 = .ok (.aload_n 0, 1) := by decide +kernel
theorem dX5_init_5 : decode cX5_init 5 = .ok (.new 7, 3) := by decide +kernel
theorem dX5_init_8 : decode cX5_init 8 = .ok (.dup, 1) := by decide +kernel
theorem dX5_init_9 : decode cX5_init 9 = .ok (.invokespecial 9, 3) := by decide +kernel
theorem dX5_init_12 : decode cX5_init 12 = .ok (.putfield 10, 3) := by decide +kernel
theorem dX5_init_15 : decode cX5_init 15 = .ok (.aload_n 0, 1) := by decide +kernel
theorem dX5_init_16 : decode cX5_init 16 = .ok (.new 16, 3) := by decide +kernel
theorem dX5_init_19 : decode cX5_init 19 = .ok (.dup, 1) := by decide +kernel
theorem dX5_init_20 : decode cX5_init 20 = .ok (.aload_n 0, 1) := by decide +kernel
theorem dX5_init_21 : decode cX5_init 21 = .ok (.getfield 10, 3) := by decide +kernel
theorem dX5_init_24 : decode cX5_init 24 = .ok (.bipush 6, 2) := by decide +kernel
theorem dX5_init_26 : decode cX5_init 26 = .ok (.invokespecial 18, 3) := by decide +kernel
theorem dX5_init_29 : decode cX5_init 29 = .ok (.putfield 21, 3) := by decide +kernel
theorem dX5_init_32 : decode cX5_init 32 = .ok (.aload_n 0, 1) := by decide +kernel
theorem dX5_init_33 : decode cX5_init 33 = .ok (.new 16, 3) := by decide +kernel
theorem dX5_init_36 : decode cX5_init 36 = .ok (.dup, 1) := by decide +kernel
theorem dX5_init_37 : decode cX5_init 37 = .ok (.aload_n 0, 1) := by decide +kernel
theorem dX5_init_38 : decode cX5_init 38 = .ok (.getfield 10, 3) := by decide +kernel
theorem dX5_init_41 : decode cX5_init 41 = .ok (.iconst 4, 1) := by decide +kernel
theorem dX5_init_42 : decode cX5_init 42 = .ok (.invokespecial 18, 3) := by decide +kernel
theorem dX5_init_45 : decode cX5_init 45 = .ok (.putfield 25, 3) := by decide +kernel
theorem dX5_init_48 : decode cX5_init 48 = .ok (.aload_n 0, 1) := by decide +kernel
theorem dX5_init_49 : decode cX5_init 49 = .ok (.new 28, 3) := by decide +kernel
theorem dX5_init_52 : decode cX5_init 52 = .ok (.dup, 1) := by decide +kernel
theorem dX5_init_53 : decode cX5_init 53 = .ok (.aload_n 0, 1) := by decide +kernel
theorem dX5_init_54 : decode cX5_init 54 = .ok (.getfield 25, 3) := by decide +kernel
theorem dX5_init_57 : decode cX5_init 57 = .ok (.invokespecial 30, 3) := by decide +kernel
theorem dX5_init_60 : decode cX5_init 60 = .ok (.putfield 33, 3) := by decide +kernel
theorem dX5_init_63 : decode cX5_init 63 = .ok (.aload_n 0, 1) := by decide +kernel
theorem dX5_init_64 : decode cX5_init 64 = .ok (.new 37, 3) := by decide +kernel
theorem dX5_init_67 : decode cX5_init 67 = .ok (.dup, 1) := by decide +kernel
theorem dX5_init_68 : decode cX5_init 68 = .ok (.invokespecial 39, 3) := by decide +kernel
theorem dX5_init_71 : decode cX5_init 71 = .ok (.putfield 40, 3) := by decide +kernel
theorem dX5_init_74 : decode cX5_init 74 = .ok (.aload_n 0, 1) := by decide +kernel
theorem dX5_init_75 : decode cX5_init 75 = .ok (.new 44, 3) := by decide +kernel
theorem dX5_init_78 : decode cX5_init 78 = .ok (.dup, 1) := by decide +kernel
theorem dX5_init_79 : decode cX5_init 79 = .ok (.invokespecial 46, 3) := by decide +kernel
theorem dX5_init_82 : decode cX5_init 82 = .ok (.putfield 47, 3) := by decide +kernel
theorem dX5_init_85 : decode cX5_init 85 = .ok (.return_, 1) := by decide +kernel
set_option maxRecDepth 20000 in
theorem ggX5_item_X5_isOutside : GoodIn wsX5_item wsX5_isOutside := goodIn_r _ [5] (by decide +kernel) (by decide +kernel)
set_option maxRecDepth 20000 in
theorem gX5_item_X5_isOutside : GoodIn wsX5_item (va_wsS RX5 51 yX5_isOutside wsX5_isOutside) := goodIn_app (goodIn_of _ (by decide +kernel)) ggX5_item_X5_isOutside
set_option maxRecDepth 20000 in
theorem ggX5_item_X1_place : GoodIn wsX5_item wsX1_place := goodIn_r _ [10, 11, 12, 13, 14, 15, 16, 17, 24, 25, 26, 27, 28, 29, 30, 31] (by decide +kernel) (by decide +kernel)
set_option maxRecDepth 20000 in
theorem gX5_item_X1_place : GoodIn wsX5_item (wsV RX5 59 RX1 yX1_place wsX1_place) := goodIn_app (goodIn_of _ (by decide +kernel)) ggX5_item_X1_place
theorem dX5_item_0 : decode cX5_item 0 = .ok (.iload_n 1, 1) := by decide +kernel
theorem dX5_item_1 : decode cX5_item 1 = .ok (.iconst 1, 1) := by decide +kernel
theorem dX5_item_2 : decode cX5_item 2 = .ok (.bipush 100, 2) := by decide +kernel
theorem dX5_item_4 : decode cX5_item 4 = .ok (.invokestatic 51, 3) := by decide +kernel
theorem dX5_item_7 : decode cX5_item 7 = .ok (.ifCond .eq 7, 3) := by decide +kernel
theorem dX5_item_10 : decode cX5_item 10 = .ok (.sipush (-1002), 3) := by decide +kernel
theorem dX5_item_13 : decode cX5_item 13 = .ok (.ireturn, 1) := by decide +kernel
theorem dX5_item_14 : decode cX5_item 14 = .ok (.aload_n 0, 1) := by decide +kernel
theorem dX5_item_15 : decode cX5_item 15 = .ok (.getfield 21, 3) := by decide +kernel
theorem dX5_item_18 : decode cX5_item 18 = .ok (.getfield 55, 3) := by decide +kernel
theorem dX5_item_21 : decode cX5_item 21 = .ok (.bipush 6, 2) := by decide +kernel
theorem dX5_item_23 : decode cX5_item 23 = .ok (.if_icmp .lt 7, 3) := by decide +kernel
theorem dX5_item_26 : decode cX5_item 26 = .ok (.sipush (-1004), 3) := by decide +kernel
theorem dX5_item_29 : decode cX5_item 29 = .ok (.ireturn, 1) := by decide +kernel
theorem dX5_item_30 : decode cX5_item 30 = .ok (.aload_n 0, 1) := by decide +kernel
theorem dX5_item_31 : decode cX5_item 31 = .ok (.getfield 21, 3) := by decide +kernel
theorem dX5_item_34 : decode cX5_item 34 = .ok (.getfield 55, 3) := by decide +kernel
theorem dX5_item_37 : decode cX5_item 37 = .ok (.istore_n 2, 1) := by decide +kernel
theorem dX5_item_38 : decode cX5_item 38 = .ok (.aload_n 0, 1) := by decide +kernel
theorem dX5_item_39 : decode cX5_item 39 = .ok (.getfield 21, 3) := by decide +kernel
theorem dX5_item_42 : decode cX5_item 42 = .ok (.iload_n 2, 1) := by decide +kernel
theorem dX5_item_43 : decode cX5_item 43 = .ok (.iload_n 1, 1) := by decide +kernel
theorem dX5_item_44 : decode cX5_item 44 = .ok (.invokevirtual 59, 3) := by decide +kernel
theorem dX5_item_47 : decode cX5_item 47 = .ok (.iload_n 2, 1) := by decide +kernel
theorem dX5_item_48 : decode cX5_item 48 = .ok (.ireturn, 1) := by decide +kernel
set_option maxRecDepth 20000 in
theorem ggX5_set_X5_isOutside : GoodIn wsX5_set wsX5_isOutside := goodIn_r _ [5] (by decide +kernel) (by decide +kernel)
set_option maxRecDepth 20000 in
theorem gX5_set_X5_isOutside : GoodIn wsX5_set (va_wsS RX5 51 yX5_isOutside wsX5_isOutside) := goodIn_app (goodIn_of _ (by decide +kernel)) ggX5_set_X5_isOutside
set_option maxRecDepth 20000 in
theorem ggX5_set_X1_itemAt : GoodIn wsX5_set wsX1_itemAt := goodIn_r _ [10, 11, 12, 28, 29, 30, 31, 32, 33, 34, 35] (by decide +kernel) (by decide +kernel)
set_option maxRecDepth 20000 in
theorem gX5_set_X1_itemAt : GoodIn wsX5_set (wsV RX5 63 RX1 yX1_itemAt wsX1_itemAt) := goodIn_app (goodIn_of _ (by decide +kernel)) ggX5_set_X1_itemAt
set_option maxRecDepth 20000 in
theorem ggX5_set_X1_place : GoodIn wsX5_set wsX1_place := goodIn_r _ [16, 11, 12, 17, 18, 19, 20, 21, 28, 29, 30, 31, 32, 33, 34, 35] (by decide +kernel) (by decide +kernel)
set_option maxRecDepth 20000 in
theorem gX5_set_X1_place : GoodIn wsX5_set (wsV RX5 59 RX1 yX1_place wsX1_place) := goodIn_app (goodIn_of _ (by decide +kernel)) ggX5_set_X1_place
theorem dX5_set_0 : decode cX5_set 0 = .ok (.iload_n 1, 1) := by decide +kernel
theorem dX5_set_1 : decode cX5_set 1 = .ok (.iconst 0, 1) := by decide +kernel
theorem dX5_set_2 : decode cX5_set 2 = .ok (.aload_n 0, 1) := by decide +kernel
theorem dX5_set_3 : decode cX5_set 3 = .ok (.getfield 21, 3) := by decide +kernel
theorem dX5_set_6 : decode cX5_set 6 = .ok (.getfield 55, 3) := by decide +kernel
theorem dX5_set_9 : decode cX5_set 9 = .ok (.iconst 1, 1) := by decide +kernel
theorem dX5_set_10 : decode cX5_set 10 = .ok (.isub, 1) := by decide +kernel
theorem dX5_set_11 : decode cX5_set 11 = .ok (.invokestatic 51, 3) := by decide +kernel
theorem dX5_set_14 : decode cX5_set 14 = .ok (.ifCond .eq 7, 3) := by decide +kernel
theorem dX5_set_17 : decode cX5_set 17 = .ok (.sipush (-1001), 3) := by decide +kernel
theorem dX5_set_20 : decode cX5_set 20 = .ok (.ireturn, 1) := by decide +kernel
theorem dX5_set_21 : decode cX5_set 21 = .ok (.iload_n 2, 1) := by decide +kernel
theorem dX5_set_22 : decode cX5_set 22 = .ok (.iconst 1, 1) := by decide +kernel
theorem dX5_set_23 : decode cX5_set 23 = .ok (.bipush 100, 2) := by decide +kernel
theorem dX5_set_25 : decode cX5_set 25 = .ok (.invokestatic 51, 3) := by decide +kernel
theorem dX5_set_28 : decode cX5_set 28 = .ok (.ifCond .eq 7, 3) := by decide +kernel
theorem dX5_set_31 : decode cX5_set 31 = .ok (.sipush (-1002), 3) := by decide +kernel
theorem dX5_set_34 : decode cX5_set 34 = .ok (.ireturn, 1) := by decide +kernel
theorem dX5_set_35 : decode cX5_set 35 = .ok (.aload_n 0, 1) := by decide +kernel
theorem dX5_set_36 : decode cX5_set 36 = .ok (.getfield 21, 3) := by decide +kernel
theorem dX5_set_39 : decode cX5_set 39 = .ok (.iload_n 1, 1) := by decide +kernel
theorem dX5_set_40 : decode cX5_set 40 = .ok (.invokevirtual 63, 3) := by decide +kernel
theorem dX5_set_43 : decode cX5_set 43 = .ok (.istore_n 3, 1) := by decide +kernel
theorem dX5_set_44 : decode cX5_set 44 = .ok (.aload_n 0, 1) := by decide +kernel
theorem dX5_set_45 : decode cX5_set 45 = .ok (.getfield 21, 3) := by decide +kernel
theorem dX5_set_48 : decode cX5_set 48 = .ok (.iload_n 1, 1) := by decide +kernel
theorem dX5_set_49 : decode cX5_set 49 = .ok (.iload_n 2, 1) := by decide +kernel
theorem dX5_set_50 : decode cX5_set 50 = .ok (.invokevirtual 59, 3) := by decide +kernel
theorem dX5_set_53 : decode cX5_set 53 = .ok (.iload_n 3, 1) := by decide +kernel
theorem dX5_set_54 : decode cX5_set 54 = .ok (.ireturn, 1) := by decide +kernel
set_option maxRecDepth 20000 in
theorem ggX5_cut_X5_isOutside : GoodIn wsX5_cut wsX5_isOutside := goodIn_r _ [5] (by decide +kernel) (by decide +kernel)
set_option maxRecDepth 20000 in
theorem gX5_cut_X5_isOutside : GoodIn wsX5_cut (va_wsS RX5 51 yX5_isOutside wsX5_isOutside) := goodIn_app (goodIn_of _ (by decide +kernel)) ggX5_cut_X5_isOutside
set_option maxRecDepth 20000 in
theorem ggX5_cut_X1_shorten : GoodIn wsX5_cut wsX1_shorten := goodIn_r _ [10, 11, 12, 13, 14, 15, 16, 23, 24, 25, 26, 27, 28, 29, 30] (by decide +kernel) (by decide +kernel)
set_option maxRecDepth 20000 in
theorem gX5_cut_X1_shorten : GoodIn wsX5_cut (wsV RX5 67 RX1 yX1_shorten wsX1_shorten) := goodIn_app (goodIn_of _ (by decide +kernel)) ggX5_cut_X1_shorten
theorem dX5_cut_0 : decode cX5_cut 0 = .ok (.iload_n 1, 1) := by decide +kernel
theorem dX5_cut_1 : decode cX5_cut 1 = .ok (.iconst 0, 1) := by decide +kernel
theorem dX5_cut_2 : decode cX5_cut 2 = .ok (.aload_n 0, 1) := by decide +kernel
theorem dX5_cut_3 : decode cX5_cut 3 = .ok (.getfield 21, 3) := by decide +kernel
theorem dX5_cut_6 : decode cX5_cut 6 = .ok (.getfield 55, 3) := by decide +kernel
theorem dX5_cut_9 : decode cX5_cut 9 = .ok (.invokestatic 51, 3) := by decide +kernel
theorem dX5_cut_12 : decode cX5_cut 12 = .ok (.ifCond .eq 7, 3) := by decide +kernel
theorem dX5_cut_15 : decode cX5_cut 15 = .ok (.sipush (-1002), 3) := by decide +kernel
theorem dX5_cut_18 : decode cX5_cut 18 = .ok (.ireturn, 1) := by decide +kernel
theorem dX5_cut_19 : decode cX5_cut 19 = .ok (.aload_n 0, 1) := by decide +kernel
theorem dX5_cut_20 : decode cX5_cut 20 = .ok (.getfield 21, 3) := by decide +kernel
theorem dX5_cut_23 : decode cX5_cut 23 = .ok (.getfield 55, 3) := by decide +kernel
theorem dX5_cut_26 : decode cX5_cut 26 = .ok (.iload_n 1, 1) := by decide +kernel
theorem dX5_cut_27 : decode cX5_cut 27 = .ok (.isub, 1) := by decide +kernel
theorem dX5_cut_28 : decode cX5_cut 28 = .ok (.istore_n 2, 1) := by decide +kernel
theorem dX5_cut_29 : decode cX5_cut 29 = .ok (.aload_n 0, 1) := by decide +kernel
theorem dX5_cut_30 : decode cX5_cut 30 = .ok (.getfield 21, 3) := by decide +kernel
theorem dX5_cut_33 : decode cX5_cut 33 = .ok (.iload_n 1, 1) := by decide +kernel
theorem dX5_cut_34 : decode cX5_cut 34 = .ok (.invokevirtual 67, 3) := by decide +kernel
theorem dX5_cut_37 : decode cX5_cut 37 = .ok (.iload_n 2, 1) := by decide +kernel
theorem dX5_cut_38 : decode cX5_cut 38 = .ok (.ireturn, 1) := by decide +kernel
set_option maxRecDepth 20000 in
theorem ggX5_rule_X5_isOutside : GoodIn wsX5_rule wsX5_isOutside := goodIn_r _ [8] (by decide +kernel) (by decide +kernel)
set_option maxRecDepth 20000 in
theorem gX5_rule_X5_isOutside : GoodIn wsX5_rule (va_wsS RX5 51 yX5_isOutside wsX5_isOutside) := goodIn_app (goodIn_of _ (by decide +kernel)) ggX5_rule_X5_isOutside
set_option maxRecDepth 20000 in
theorem ggX5_rule_X1_changeEverySet : GoodIn wsX5_rule wsX1_changeEverySet := goodIn_r _ [13, 14, 15, 30, 31, 32, 33, 34, 35, 36, 37] (by decide +kernel) (by decide +kernel)
set_option maxRecDepth 20000 in
theorem gX5_rule_X1_changeEverySet : GoodIn wsX5_rule (wsV RX5 77 RX1 yX1_changeEverySet wsX1_changeEverySet) := goodIn_app (goodIn_of _ (by decide +kernel)) ggX5_rule_X1_changeEverySet
set_option maxRecDepth 20000 in
theorem ggX5_rule_X0_forgetTallies : GoodIn wsX5_rule wsX0_forgetTallies := goodIn_r _ [20, 21, 38, 39, 40, 41, 42, 43] (by decide +kernel) (by decide +kernel)
set_option maxRecDepth 20000 in
theorem gX5_rule_X0_forgetTallies : GoodIn wsX5_rule (wsV RX5 80 RX0 yX0_forgetTallies wsX0_forgetTallies) := goodIn_app (goodIn_of _ (by decide +kernel)) ggX5_rule_X0_forgetTallies
theorem dX5_rule_0 : decode cX5_rule 0 = .ok (.iload_n 1, 1) := by decide +kernel
theorem dX5_rule_1 : decode cX5_rule 1 = .ok (.ifCond .ne 13, 3) := by decide +kernel
theorem dX5_rule_4 : decode cX5_rule 4 = .ok (.iload_n 2, 1) := by decide +kernel
theorem dX5_rule_5 : decode cX5_rule 5 = .ok (.iconst 0, 1) := by decide +kernel
theorem dX5_rule_6 : decode cX5_rule 6 = .ok (.bipush 15, 2) := by decide +kernel
theorem dX5_rule_8 : decode cX5_rule 8 = .ok (.invokestatic 51, 3) := by decide +kernel
theorem dX5_rule_11 : decode cX5_rule 11 = .ok (.goto 11, 3) := by decide +kernel
theorem dX5_rule_14 : decode cX5_rule 14 = .ok (.iload_n 2, 1) := by decide +kernel
theorem dX5_rule_15 : decode cX5_rule 15 = .ok (.iconst 1, 1) := by decide +kernel
theorem dX5_rule_16 : decode cX5_rule 16 = .ok (.sipush 3000, 3) := by decide +kernel
theorem dX5_rule_19 : decode cX5_rule 19 = .ok (.invokestatic 51, 3) := by decide +kernel
theorem dX5_rule_22 : decode cX5_rule 22 = .ok (.istore_n 3, 1) := by decide +kernel
theorem dX5_rule_23 : decode cX5_rule 23 = .ok (.iload_n 1, 1) := by decide +kernel
theorem dX5_rule_24 : decode cX5_rule 24 = .ok (.iconst 0, 1) := by decide +kernel
theorem dX5_rule_25 : decode cX5_rule 25 = .ok (.iconst 1, 1) := by decide +kernel
theorem dX5_rule_26 : decode cX5_rule 26 = .ok (.invokestatic 51, 3) := by decide +kernel
theorem dX5_rule_29 : decode cX5_rule 29 = .ok (.ifCond .ne 7, 3) := by decide +kernel
theorem dX5_rule_32 : decode cX5_rule 32 = .ok (.iload_n 3, 1) := by decide +kernel
theorem dX5_rule_33 : decode cX5_rule 33 = .ok (.ifCond .eq 7, 3) := by decide +kernel
theorem dX5_rule_36 : decode cX5_rule 36 = .ok (.sipush (-1002), 3) := by decide +kernel
theorem dX5_rule_39 : decode cX5_rule 39 = .ok (.ireturn, 1) := by decide +kernel
theorem dX5_rule_40 : decode cX5_rule 40 = .ok (.iload_n 1, 1) := by decide +kernel
theorem dX5_rule_41 : decode cX5_rule 41 = .ok (.ifCond .ne 13, 3) := by decide +kernel
theorem dX5_rule_44 : decode cX5_rule 44 = .ok (.aload_n 0, 1) := by decide +kernel
theorem dX5_rule_45 : decode cX5_rule 45 = .ok (.getfield 10, 3) := by decide +kernel
theorem dX5_rule_48 : decode cX5_rule 48 = .ok (.getfield 71, 3) := by decide +kernel
theorem dX5_rule_51 : decode cX5_rule 51 = .ok (.goto 10, 3) := by decide +kernel
theorem dX5_rule_54 : decode cX5_rule 54 = .ok (.aload_n 0, 1) := by decide +kernel
theorem dX5_rule_55 : decode cX5_rule 55 = .ok (.getfield 10, 3) := by decide +kernel
theorem dX5_rule_58 : decode cX5_rule 58 = .ok (.getfield 74, 3) := by decide +kernel
theorem dX5_rule_61 : decode cX5_rule 61 = .ok (.istore 4, 2) := by decide +kernel
theorem dX5_rule_63 : decode cX5_rule 63 = .ok (.iload_n 1, 1) := by decide +kernel
theorem dX5_rule_64 : decode cX5_rule 64 = .ok (.ifCond .ne 14, 3) := by decide +kernel
theorem dX5_rule_67 : decode cX5_rule 67 = .ok (.aload_n 0, 1) := by decide +kernel
theorem dX5_rule_68 : decode cX5_rule 68 = .ok (.getfield 10, 3) := by decide +kernel
theorem dX5_rule_71 : decode cX5_rule 71 = .ok (.iload_n 2, 1) := by decide +kernel
theorem dX5_rule_72 : decode cX5_rule 72 = .ok (.putfield 71, 3) := by decide +kernel
theorem dX5_rule_75 : decode cX5_rule 75 = .ok (.goto 11, 3) := by decide +kernel
theorem dX5_rule_78 : decode cX5_rule 78 = .ok (.aload_n 0, 1) := by decide +kernel
theorem dX5_rule_79 : decode cX5_rule 79 = .ok (.getfield 10, 3) := by decide +kernel
theorem dX5_rule_82 : decode cX5_rule 82 = .ok (.iload_n 2, 1) := by decide +kernel
theorem dX5_rule_83 : decode cX5_rule 83 = .ok (.putfield 74, 3) := by decide +kernel
theorem dX5_rule_86 : decode cX5_rule 86 = .ok (.aload_n 0, 1) := by decide +kernel
theorem dX5_rule_87 : decode cX5_rule 87 = .ok (.getfield 21, 3) := by decide +kernel
theorem dX5_rule_90 : decode cX5_rule 90 = .ok (.invokevirtual 77, 3) := by decide +kernel
theorem dX5_rule_93 : decode cX5_rule 93 = .ok (.aload_n 0, 1) := by decide +kernel
theorem dX5_rule_94 : decode cX5_rule 94 = .ok (.getfield 25, 3) := by decide +kernel
theorem dX5_rule_97 : decode cX5_rule 97 = .ok (.invokevirtual 77, 3) := by decide +kernel
theorem dX5_rule_100 : decode cX5_rule 100 = .ok (.aload_n 0, 1) := by decide +kernel
theorem dX5_rule_101 : decode cX5_rule 101 = .ok (.getfield 33, 3) := by decide +kernel
theorem dX5_rule_104 : decode cX5_rule 104 = .ok (.invokevirtual 80, 3) := by decide +kernel
theorem dX5_rule_107 : decode cX5_rule 107 = .ok (.iload 4, 2) := by decide +kernel
theorem dX5_rule_109 : decode cX5_rule 109 = .ok (.ireturn, 1) := by decide +kernel
set_option maxRecDepth 20000 in
theorem ggX5_told_X5_isOutside : GoodIn wsX5_told wsX5_isOutside := goodIn_r _ [8] (by decide +kernel) (by decide +kernel)
set_option maxRecDepth 20000 in
theorem gX5_told_X5_isOutside : GoodIn wsX5_told (va_wsS RX5 51 yX5_isOutside wsX5_isOutside) := goodIn_app (goodIn_of _ (by decide +kernel)) ggX5_told_X5_isOutside
set_option maxRecDepth 20000 in
theorem ggX5_told_X1_itemAt : GoodIn wsX5_told wsX1_itemAt := goodIn_r _ [13, 14, 15, 29, 30, 31, 32, 33, 34, 35, 36] (by decide +kernel) (by decide +kernel)
set_option maxRecDepth 20000 in
theorem gX5_told_X1_itemAt : GoodIn wsX5_told (wsV RX5 63 RX1 yX1_itemAt wsX1_itemAt) := goodIn_app (goodIn_of _ (by decide +kernel)) ggX5_told_X1_itemAt
set_option maxRecDepth 20000 in
theorem ggX5_told_X0_cardAt : GoodIn wsX5_told wsX0_cardAt := goodIn_r _ [20, 21, 22, 39, 40, 41, 42, 43, 44] (by decide +kernel) (by decide +kernel)
set_option maxRecDepth 20000 in
theorem gX5_told_X0_cardAt : GoodIn wsX5_told (wsV RX5 87 RX0 yX0_cardAt wsX0_cardAt) := goodIn_app (goodIn_of _ (by decide +kernel)) ggX5_told_X0_cardAt
theorem dX5_told_0 : decode cX5_told 0 = .ok (.iload_n 1, 1) := by decide +kernel
theorem dX5_told_1 : decode cX5_told 1 = .ok (.tableswitch 75 0 4 #[35, 43, 51, 59, 67], 35) := by decide +kernel
theorem dX5_told_36 : decode cX5_told 36 = .ok (.aload_n 0, 1) := by decide +kernel
theorem dX5_told_37 : decode cX5_told 37 = .ok (.getfield 21, 3) := by decide +kernel
theorem dX5_told_40 : decode cX5_told 40 = .ok (.getfield 55, 3) := by decide +kernel
theorem dX5_told_43 : decode cX5_told 43 = .ok (.ireturn, 1) := by decide +kernel
theorem dX5_told_44 : decode cX5_told 44 = .ok (.aload_n 0, 1) := by decide +kernel
theorem dX5_told_45 : decode cX5_told 45 = .ok (.getfield 10, 3) := by decide +kernel
theorem dX5_told_48 : decode cX5_told 48 = .ok (.getfield 71, 3) := by decide +kernel
theorem dX5_told_51 : decode cX5_told 51 = .ok (.ireturn, 1) := by decide +kernel
theorem dX5_told_52 : decode cX5_told 52 = .ok (.aload_n 0, 1) := by decide +kernel
theorem dX5_told_53 : decode cX5_told 53 = .ok (.getfield 10, 3) := by decide +kernel
theorem dX5_told_56 : decode cX5_told 56 = .ok (.getfield 74, 3) := by decide +kernel
theorem dX5_told_59 : decode cX5_told 59 = .ok (.ireturn, 1) := by decide +kernel
theorem dX5_told_60 : decode cX5_told 60 = .ok (.aload_n 0, 1) := by decide +kernel
theorem dX5_told_61 : decode cX5_told 61 = .ok (.getfield 33, 3) := by decide +kernel
theorem dX5_told_64 : decode cX5_told 64 = .ok (.getfield 83, 3) := by decide +kernel
theorem dX5_told_67 : decode cX5_told 67 = .ok (.ireturn, 1) := by decide +kernel
theorem dX5_told_68 : decode cX5_told 68 = .ok (.aload_n 0, 1) := by decide +kernel
theorem dX5_told_69 : decode cX5_told 69 = .ok (.getfield 40, 3) := by decide +kernel
theorem dX5_told_72 : decode cX5_told 72 = .ok (.getfield 84, 3) := by decide +kernel
theorem dX5_told_75 : decode cX5_told 75 = .ok (.ireturn, 1) := by decide +kernel
theorem dX5_told_76 : decode cX5_told 76 = .ok (.iload_n 1, 1) := by decide +kernel
theorem dX5_told_77 : decode cX5_told 77 = .ok (.bipush 10, 2) := by decide +kernel
theorem dX5_told_79 : decode cX5_told 79 = .ok (.bipush 15, 2) := by decide +kernel
theorem dX5_told_81 : decode cX5_told 81 = .ok (.invokestatic 51, 3) := by decide +kernel
theorem dX5_told_84 : decode cX5_told 84 = .ok (.ifCond .ne 15, 3) := by decide +kernel
theorem dX5_told_87 : decode cX5_told 87 = .ok (.aload_n 0, 1) := by decide +kernel
theorem dX5_told_88 : decode cX5_told 88 = .ok (.getfield 21, 3) := by decide +kernel
theorem dX5_told_91 : decode cX5_told 91 = .ok (.iload_n 1, 1) := by decide +kernel
theorem dX5_told_92 : decode cX5_told 92 = .ok (.bipush 10, 2) := by decide +kernel
theorem dX5_told_94 : decode cX5_told 94 = .ok (.isub, 1) := by decide +kernel
theorem dX5_told_95 : decode cX5_told 95 = .ok (.invokevirtual 63, 3) := by decide +kernel
theorem dX5_told_98 : decode cX5_told 98 = .ok (.ireturn, 1) := by decide +kernel
theorem dX5_told_99 : decode cX5_told 99 = .ok (.iload_n 1, 1) := by decide +kernel
theorem dX5_told_100 : decode cX5_told 100 = .ok (.bipush 20, 2) := by decide +kernel
theorem dX5_told_102 : decode cX5_told 102 = .ok (.bipush 29, 2) := by decide +kernel
theorem dX5_told_104 : decode cX5_told 104 = .ok (.invokestatic 51, 3) := by decide +kernel
theorem dX5_told_107 : decode cX5_told 107 = .ok (.ifCond .ne 15, 3) := by decide +kernel
theorem dX5_told_110 : decode cX5_told 110 = .ok (.aload_n 0, 1) := by decide +kernel
theorem dX5_told_111 : decode cX5_told 111 = .ok (.getfield 33, 3) := by decide +kernel
theorem dX5_told_114 : decode cX5_told 114 = .ok (.iload_n 1, 1) := by decide +kernel
theorem dX5_told_115 : decode cX5_told 115 = .ok (.bipush 20, 2) := by decide +kernel
theorem dX5_told_117 : decode cX5_told 117 = .ok (.isub, 1) := by decide +kernel
theorem dX5_told_118 : decode cX5_told 118 = .ok (.invokevirtual 87, 3) := by decide +kernel
theorem dX5_told_121 : decode cX5_told 121 = .ok (.ireturn, 1) := by decide +kernel
theorem dX5_told_122 : decode cX5_told 122 = .ok (.sipush (-1002), 3) := by decide +kernel
theorem dX5_told_125 : decode cX5_told 125 = .ok (.ireturn, 1) := by decide +kernel
set_option maxRecDepth 20000 in
theorem ggX5_ways_X5_isNoWholeSet : GoodIn wsX5_ways wsX5_isNoWholeSet := goodIn_r _ [7, 2, 8, 9, 10, 11, 12, 13, 59, 60, 61, 62, 63, 64, 65, 66, 67, 68, 69, 70, 71, 72] (by decide +kernel) (by decide +kernel)
set_option maxRecDepth 20000 in
theorem gX5_ways_X5_isNoWholeSet : GoodIn wsX5_ways (wsV RX5 90 RX5 yX5_isNoWholeSet wsX5_isNoWholeSet) := goodIn_app (goodIn_of _ (by decide +kernel)) ggX5_ways_X5_isNoWholeSet
set_option maxRecDepth 20000 in
theorem ggX5_ways_X5_isOutside : GoodIn wsX5_ways wsX5_isOutside := goodIn_r _ [16] (by decide +kernel) (by decide +kernel)
set_option maxRecDepth 20000 in
theorem gX5_ways_X5_isOutside : GoodIn wsX5_ways (va_wsS RX5 51 yX5_isOutside wsX5_isOutside) := goodIn_app (goodIn_of _ (by decide +kernel)) ggX5_ways_X5_isOutside
set_option maxRecDepth 20000 in
theorem ggX5_ways_X1_refresh : GoodIn wsX5_ways wsX1_refresh := goodIn_r _ [20, 21, 22, 23, 24, 25, 11, 26, 27, 28, 29, 30, 9, 10, 12, 13, 31, 32, 33, 34, 35, 36, 37, 38, 39, 40, 41, 42, 43, 44, 45, 46, 47, 48, 49, 50, 51, 52, 53, 54, 65, 66, 67, 68, 69, 70, 71, 72, 73, 74] (by decide +kernel) (by decide +kernel)
set_option maxRecDepth 20000 in
theorem gX5_ways_X1_refresh : GoodIn wsX5_ways (wsV RX5 96 RX1 yX1_refresh wsX1_refresh) := goodIn_app (goodIn_of _ (by decide +kernel)) ggX5_ways_X1_refresh
set_option maxRecDepth 20000 in
theorem ggX5_ways_X1_countOf : GoodIn wsX5_ways wsX1_countOf := goodIn_r _ [58, 28, 65, 66, 67, 68, 69, 70, 71, 72] (by decide +kernel) (by decide +kernel)
set_option maxRecDepth 20000 in
theorem gX5_ways_X1_countOf : GoodIn wsX5_ways (wsV RX5 99 RX1 yX1_countOf wsX1_countOf) := goodIn_app (goodIn_of _ (by decide +kernel)) ggX5_ways_X1_countOf
theorem dX5_ways_0 : decode cX5_ways 0 = .ok (.aload_n 0, 1) := by decide +kernel
theorem dX5_ways_1 : decode cX5_ways 1 = .ok (.iload_n 1, 1) := by decide +kernel
theorem dX5_ways_2 : decode cX5_ways 2 = .ok (.invokevirtual 90, 3) := by decide +kernel
theorem dX5_ways_5 : decode cX5_ways 5 = .ok (.ifCond .ne 14, 3) := by decide +kernel
theorem dX5_ways_8 : decode cX5_ways 8 = .ok (.iload_n 2, 1) := by decide +kernel
theorem dX5_ways_9 : decode cX5_ways 9 = .ok (.iconst 1, 1) := by decide +kernel
theorem dX5_ways_10 : decode cX5_ways 10 = .ok (.sipush 3000, 3) := by decide +kernel
theorem dX5_ways_13 : decode cX5_ways 13 = .ok (.invokestatic 51, 3) := by decide +kernel
theorem dX5_ways_16 : decode cX5_ways 16 = .ok (.ifCond .eq 7, 3) := by decide +kernel
theorem dX5_ways_19 : decode cX5_ways 19 = .ok (.ldc2_w 94, 3) := by decide +kernel
theorem dX5_ways_22 : decode cX5_ways 22 = .ok (.lreturn, 1) := by decide +kernel
theorem dX5_ways_23 : decode cX5_ways 23 = .ok (.aload_n 0, 1) := by decide +kernel
theorem dX5_ways_24 : decode cX5_ways 24 = .ok (.getfield 21, 3) := by decide +kernel
theorem dX5_ways_27 : decode cX5_ways 27 = .ok (.invokevirtual 96, 3) := by decide +kernel
theorem dX5_ways_30 : decode cX5_ways 30 = .ok (.aload_n 0, 1) := by decide +kernel
theorem dX5_ways_31 : decode cX5_ways 31 = .ok (.getfield 21, 3) := by decide +kernel
theorem dX5_ways_34 : decode cX5_ways 34 = .ok (.iload_n 1, 1) := by decide +kernel
theorem dX5_ways_35 : decode cX5_ways 35 = .ok (.iload_n 2, 1) := by decide +kernel
theorem dX5_ways_36 : decode cX5_ways 36 = .ok (.invokevirtual 99, 3) := by decide +kernel
theorem dX5_ways_39 : decode cX5_ways 39 = .ok (.lreturn, 1) := by decide +kernel
set_option maxRecDepth 20000 in
theorem ggX5_all_X5_isOutside : GoodIn wsX5_all wsX5_isOutside := goodIn_r _ [6] (by decide +kernel) (by decide +kernel)
set_option maxRecDepth 20000 in
theorem gX5_all_X5_isOutside : GoodIn wsX5_all (va_wsS RX5 51 yX5_isOutside wsX5_isOutside) := goodIn_app (goodIn_of _ (by decide +kernel)) ggX5_all_X5_isOutside
set_option maxRecDepth 20000 in
theorem ggX5_all_X1_refresh : GoodIn wsX5_all wsX1_refresh := goodIn_r _ [11, 12, 13, 14, 15, 16, 10, 17, 18, 19, 20, 21, 22, 23, 24, 25, 26, 27, 28, 29, 30, 31, 32, 33, 34, 35, 36, 37, 38, 39, 40, 41, 42, 43, 44, 45, 46, 47, 48, 49, 64, 65, 66, 67, 68, 69, 70, 71, 72, 73] (by decide +kernel) (by decide +kernel)
set_option maxRecDepth 20000 in
theorem gX5_all_X1_refresh : GoodIn wsX5_all (wsV RX5 96 RX1 yX1_refresh wsX1_refresh) := goodIn_app (goodIn_of _ (by decide +kernel)) ggX5_all_X1_refresh
set_option maxRecDepth 20000 in
theorem ggX5_all_X1_countOfAllSets : GoodIn wsX5_all wsX1_countOfAllSets := goodIn_r _ [53, 19, 54, 55, 56, 10, 57, 64, 65, 66, 67, 68, 69, 70, 71] (by decide +kernel) (by decide +kernel)
set_option maxRecDepth 20000 in
theorem gX5_all_X1_countOfAllSets : GoodIn wsX5_all (wsV RX5 103 RX1 yX1_countOfAllSets wsX1_countOfAllSets) := goodIn_app (goodIn_of _ (by decide +kernel)) ggX5_all_X1_countOfAllSets
theorem dX5_all_0 : decode cX5_all 0 = .ok (.iload_n 1, 1) := by decide +kernel
theorem dX5_all_1 : decode cX5_all 1 = .ok (.iconst 1, 1) := by decide +kernel
theorem dX5_all_2 : decode cX5_all 2 = .ok (.sipush 3000, 3) := by decide +kernel
theorem dX5_all_5 : decode cX5_all 5 = .ok (.invokestatic 51, 3) := by decide +kernel
theorem dX5_all_8 : decode cX5_all 8 = .ok (.ifCond .eq 7, 3) := by decide +kernel
theorem dX5_all_11 : decode cX5_all 11 = .ok (.ldc2_w 94, 3) := by decide +kernel
theorem dX5_all_14 : decode cX5_all 14 = .ok (.lreturn, 1) := by decide +kernel
theorem dX5_all_15 : decode cX5_all 15 = .ok (.aload_n 0, 1) := by decide +kernel
theorem dX5_all_16 : decode cX5_all 16 = .ok (.getfield 21, 3) := by decide +kernel
theorem dX5_all_19 : decode cX5_all 19 = .ok (.invokevirtual 96, 3) := by decide +kernel
theorem dX5_all_22 : decode cX5_all 22 = .ok (.aload_n 0, 1) := by decide +kernel
theorem dX5_all_23 : decode cX5_all 23 = .ok (.getfield 21, 3) := by decide +kernel
theorem dX5_all_26 : decode cX5_all 26 = .ok (.iload_n 1, 1) := by decide +kernel
theorem dX5_all_27 : decode cX5_all 27 = .ok (.invokevirtual 103, 3) := by decide +kernel
theorem dX5_all_30 : decode cX5_all 30 = .ok (.lreturn, 1) := by decide +kernel
set_option maxRecDepth 20000 in
theorem ggX5_reached_X1_knows : GoodIn wsX5_reached wsX1_knows := goodIn_r _ [6, 7, 68, 69, 70, 71, 72, 73, 74, 75] (by decide +kernel) (by decide +kernel)
set_option maxRecDepth 20000 in
theorem gX5_reached_X1_knows : GoodIn wsX5_reached (wsV RX5 107 RX1 yX1_knows wsX1_knows) := goodIn_app (goodIn_of _ (by decide +kernel)) ggX5_reached_X1_knows
set_option maxRecDepth 20000 in
theorem ggX5_reached_X1_refresh : GoodIn wsX5_reached wsX1_refresh := goodIn_r _ [11, 12, 13, 14, 15, 16, 5, 17, 18, 19, 20, 21, 3, 4, 6, 7, 22, 23, 24, 25, 26, 27, 28, 29, 30, 31, 32, 33, 34, 35, 36, 37, 38, 39, 40, 41, 42, 43, 44, 45, 68, 69, 70, 71, 72, 73, 74, 75, 76, 77] (by decide +kernel) (by decide +kernel)
set_option maxRecDepth 20000 in
theorem gX5_reached_X1_refresh : GoodIn wsX5_reached (wsV RX5 96 RX1 yX1_refresh wsX1_refresh) := goodIn_app (goodIn_of _ (by decide +kernel)) ggX5_reached_X1_refresh
set_option maxRecDepth 20000 in
theorem ggX5_reached_X1_numbersOf : GoodIn wsX5_reached wsX1_numbersOf := goodIn_r _ [49, 50, 51, 52, 5, 53, 54, 55, 56, 57, 20, 58, 59, 60, 61, 19, 68, 69, 70, 71, 72, 73, 74, 75] (by decide +kernel) (by decide +kernel)
set_option maxRecDepth 20000 in
theorem gX5_reached_X1_numbersOf : GoodIn wsX5_reached (wsV RX5 110 RX1 yX1_numbersOf wsX1_numbersOf) := goodIn_app (goodIn_of _ (by decide +kernel)) ggX5_reached_X1_numbersOf
theorem dX5_reached_0 : decode cX5_reached 0 = .ok (.aload_n 0, 1) := by decide +kernel
theorem dX5_reached_1 : decode cX5_reached 1 = .ok (.getfield 21, 3) := by decide +kernel
theorem dX5_reached_4 : decode cX5_reached 4 = .ok (.iload_n 1, 1) := by decide +kernel
theorem dX5_reached_5 : decode cX5_reached 5 = .ok (.invokevirtual 107, 3) := by decide +kernel
theorem dX5_reached_8 : decode cX5_reached 8 = .ok (.ifCond .ne 7, 3) := by decide +kernel
theorem dX5_reached_11 : decode cX5_reached 11 = .ok (.sipush (-1002), 3) := by decide +kernel
theorem dX5_reached_14 : decode cX5_reached 14 = .ok (.ireturn, 1) := by decide +kernel
theorem dX5_reached_15 : decode cX5_reached 15 = .ok (.aload_n 0, 1) := by decide +kernel
theorem dX5_reached_16 : decode cX5_reached 16 = .ok (.getfield 21, 3) := by decide +kernel
theorem dX5_reached_19 : decode cX5_reached 19 = .ok (.invokevirtual 96, 3) := by decide +kernel
theorem dX5_reached_22 : decode cX5_reached 22 = .ok (.aload_n 0, 1) := by decide +kernel
theorem dX5_reached_23 : decode cX5_reached 23 = .ok (.getfield 21, 3) := by decide +kernel
theorem dX5_reached_26 : decode cX5_reached 26 = .ok (.iload_n 1, 1) := by decide +kernel
theorem dX5_reached_27 : decode cX5_reached 27 = .ok (.invokevirtual 110, 3) := by decide +kernel
theorem dX5_reached_30 : decode cX5_reached 30 = .ok (.ireturn, 1) := by decide +kernel
set_option maxRecDepth 20000 in
theorem ggX5_value_X1_knows : GoodIn wsX5_value wsX1_knows := goodIn_r _ [6, 7, 68, 69, 70, 71, 72, 73, 74, 75] (by decide +kernel) (by decide +kernel)
set_option maxRecDepth 20000 in
theorem gX5_value_X1_knows : GoodIn wsX5_value (wsV RX5 107 RX1 yX1_knows wsX1_knows) := goodIn_app (goodIn_of _ (by decide +kernel)) ggX5_value_X1_knows
set_option maxRecDepth 20000 in
theorem ggX5_value_X1_refresh : GoodIn wsX5_value wsX1_refresh := goodIn_r _ [11, 12, 13, 14, 15, 16, 5, 17, 18, 19, 20, 21, 3, 4, 6, 7, 22, 23, 24, 25, 26, 27, 28, 29, 30, 31, 32, 33, 34, 35, 36, 37, 38, 39, 40, 41, 42, 43, 44, 45, 68, 69, 70, 71, 72, 73, 74, 75, 76, 77] (by decide +kernel) (by decide +kernel)
set_option maxRecDepth 20000 in
theorem gX5_value_X1_refresh : GoodIn wsX5_value (wsV RX5 96 RX1 yX1_refresh wsX1_refresh) := goodIn_app (goodIn_of _ (by decide +kernel)) ggX5_value_X1_refresh
set_option maxRecDepth 20000 in
theorem ggX5_value_X1_numberAt : GoodIn wsX5_value wsX1_numberAt := goodIn_r _ [49, 50, 51, 52, 5, 53, 54, 55, 56, 57, 20, 58, 59, 60, 61, 19, 68, 69, 70, 71, 72, 73, 74, 75] (by decide +kernel) (by decide +kernel)
set_option maxRecDepth 20000 in
theorem gX5_value_X1_numberAt : GoodIn wsX5_value (wsV RX5 113 RX1 yX1_numberAt wsX1_numberAt) := goodIn_app (goodIn_of _ (by decide +kernel)) ggX5_value_X1_numberAt
theorem dX5_value_0 : decode cX5_value 0 = .ok (.aload_n 0, 1) := by decide +kernel
theorem dX5_value_1 : decode cX5_value 1 = .ok (.getfield 21, 3) := by decide +kernel
theorem dX5_value_4 : decode cX5_value 4 = .ok (.iload_n 1, 1) := by decide +kernel
theorem dX5_value_5 : decode cX5_value 5 = .ok (.invokevirtual 107, 3) := by decide +kernel
theorem dX5_value_8 : decode cX5_value 8 = .ok (.ifCond .ne 7, 3) := by decide +kernel
theorem dX5_value_11 : decode cX5_value 11 = .ok (.sipush (-1002), 3) := by decide +kernel
theorem dX5_value_14 : decode cX5_value 14 = .ok (.ireturn, 1) := by decide +kernel
theorem dX5_value_15 : decode cX5_value 15 = .ok (.aload_n 0, 1) := by decide +kernel
theorem dX5_value_16 : decode cX5_value 16 = .ok (.getfield 21, 3) := by decide +kernel
theorem dX5_value_19 : decode cX5_value 19 = .ok (.invokevirtual 96, 3) := by decide +kernel
theorem dX5_value_22 : decode cX5_value 22 = .ok (.aload_n 0, 1) := by decide +kernel
theorem dX5_value_23 : decode cX5_value 23 = .ok (.getfield 21, 3) := by decide +kernel
theorem dX5_value_26 : decode cX5_value 26 = .ok (.iload_n 1, 1) := by decide +kernel
theorem dX5_value_27 : decode cX5_value 27 = .ok (.iload_n 2, 1) := by decide +kernel
theorem dX5_value_28 : decode cX5_value 28 = .ok (.invokevirtual 113, 3) := by decide +kernel
theorem dX5_value_31 : decode cX5_value 31 = .ok (.ireturn, 1) := by decide +kernel
set_option maxRecDepth 20000 in
theorem ggX5_missing_X1_refresh : GoodIn wsX5_missing wsX1_refresh := goodIn_r _ [6, 7, 8, 9, 10, 11, 5, 12, 13, 14, 15, 16, 17, 18, 19, 20, 21, 22, 23, 24, 25, 26, 27, 28, 29, 30, 31, 32, 33, 34, 35, 36, 37, 38, 39, 40, 41, 42, 43, 44, 59, 60, 61, 62, 63, 64, 65, 66, 67, 68] (by decide +kernel) (by decide +kernel)
set_option maxRecDepth 20000 in
theorem gX5_missing_X1_refresh : GoodIn wsX5_missing (wsV RX5 96 RX1 yX1_refresh wsX1_refresh) := goodIn_app (goodIn_of _ (by decide +kernel)) ggX5_missing_X1_refresh
set_option maxRecDepth 20000 in
theorem ggX5_missing_X1_leastNotReached : GoodIn wsX5_missing wsX1_leastNotReached := goodIn_r _ [48, 49, 50, 51, 5, 52, 15, 59, 60, 61, 62, 63, 64, 65, 66] (by decide +kernel) (by decide +kernel)
set_option maxRecDepth 20000 in
theorem gX5_missing_X1_leastNotReached : GoodIn wsX5_missing (wsV RX5 117 RX1 yX1_leastNotReached wsX1_leastNotReached) := goodIn_app (goodIn_of _ (by decide +kernel)) ggX5_missing_X1_leastNotReached
theorem dX5_missing_0 : decode cX5_missing 0 = .ok (.aload_n 0, 1) := by decide +kernel
theorem dX5_missing_1 : decode cX5_missing 1 = .ok (.getfield 21, 3) := by decide +kernel
theorem dX5_missing_4 : decode cX5_missing 4 = .ok (.invokevirtual 96, 3) := by decide +kernel
theorem dX5_missing_7 : decode cX5_missing 7 = .ok (.aload_n 0, 1) := by decide +kernel
theorem dX5_missing_8 : decode cX5_missing 8 = .ok (.getfield 21, 3) := by decide +kernel
theorem dX5_missing_11 : decode cX5_missing 11 = .ok (.invokevirtual 117, 3) := by decide +kernel
theorem dX5_missing_14 : decode cX5_missing 14 = .ok (.ireturn, 1) := by decide +kernel
set_option maxRecDepth 20000 in
theorem ggX5_aim_X5_isOutside : GoodIn wsX5_aim wsX5_isOutside := goodIn_r _ [5] (by decide +kernel) (by decide +kernel)
set_option maxRecDepth 20000 in
theorem gX5_aim_X5_isOutside : GoodIn wsX5_aim (va_wsS RX5 51 yX5_isOutside wsX5_isOutside) := goodIn_app (goodIn_of _ (by decide +kernel)) ggX5_aim_X5_isOutside
set_option maxRecDepth 20000 in
theorem ggX5_aim_X1_refresh : GoodIn wsX5_aim wsX1_refresh := goodIn_r _ [10, 11, 12, 13, 14, 15, 9, 16, 17, 18, 19, 20, 21, 22, 23, 24, 25, 26, 27, 28, 29, 30, 31, 32, 33, 34, 35, 36, 37, 38, 39, 40, 41, 42, 43, 44, 45, 46, 47, 48, 80, 81, 82, 83, 84, 85, 86, 87, 88, 89] (by decide +kernel) (by decide +kernel)
set_option maxRecDepth 20000 in
theorem gX5_aim_X1_refresh : GoodIn wsX5_aim (wsV RX5 96 RX1 yX1_refresh wsX1_refresh) := goodIn_app (goodIn_of _ (by decide +kernel)) ggX5_aim_X1_refresh
set_option maxRecDepth 20000 in
theorem ggX5_aim_X1_reaches : GoodIn wsX5_aim wsX1_reaches := goodIn_r _ [52, 19, 80, 81, 82, 83, 84, 85, 86, 87] (by decide +kernel) (by decide +kernel)
set_option maxRecDepth 20000 in
theorem gX5_aim_X1_reaches : GoodIn wsX5_aim (wsV RX5 121 RX1 yX1_reaches wsX1_reaches) := goodIn_app (goodIn_of _ (by decide +kernel)) ggX5_aim_X1_reaches
set_option maxRecDepth 20000 in
theorem ggX5_aim_X1_firstSet : GoodIn wsX5_aim wsX1_firstSet := goodIn_r _ [56, 18, 57, 58, 59, 9, 60, 61, 62, 63, 64, 65, 66, 67, 80, 81, 82, 83, 84, 85, 86, 87] (by decide +kernel) (by decide +kernel)
set_option maxRecDepth 20000 in
theorem gX5_aim_X1_firstSet : GoodIn wsX5_aim (wsV RX5 124 RX1 yX1_firstSet wsX1_firstSet) := goodIn_app (goodIn_of _ (by decide +kernel)) ggX5_aim_X1_firstSet
set_option maxRecDepth 20000 in
theorem ggX5_aim_J6_bitCount_0f7a4 : GoodIn wsX5_aim wsJ6_bitCount_0f7a4 := goodIn_r _ [64, 65, 66, 67] (by decide +kernel) (by decide +kernel)
set_option maxRecDepth 20000 in
theorem gX5_aim_J6_bitCount_0f7a4 : GoodIn wsX5_aim (va_wsS RX5 127 yJ6_bitCount_0f7a4 wsJ6_bitCount_0f7a4) := goodIn_app (goodIn_of _ (by decide +kernel)) ggX5_aim_J6_bitCount_0f7a4
set_option maxRecDepth 20000 in
theorem ggX5_aim_X1_nearest : GoodIn wsX5_aim wsX1_nearest := goodIn_r _ [72, 73, 50, 51, 9, 52, 19, 80, 81, 82, 83, 84, 85, 86, 87] (by decide +kernel) (by decide +kernel)
set_option maxRecDepth 20000 in
theorem gX5_aim_X1_nearest : GoodIn wsX5_aim (wsV RX5 132 RX1 yX1_nearest wsX1_nearest) := goodIn_app (goodIn_of _ (by decide +kernel)) ggX5_aim_X1_nearest
theorem dX5_aim_0 : decode cX5_aim 0 = .ok (.iload_n 1, 1) := by decide +kernel
theorem dX5_aim_1 : decode cX5_aim 1 = .ok (.iconst 1, 1) := by decide +kernel
theorem dX5_aim_2 : decode cX5_aim 2 = .ok (.sipush 3000, 3) := by decide +kernel
theorem dX5_aim_5 : decode cX5_aim 5 = .ok (.invokestatic 51, 3) := by decide +kernel
theorem dX5_aim_8 : decode cX5_aim 8 = .ok (.ifCond .ne 12, 3) := by decide +kernel
theorem dX5_aim_11 : decode cX5_aim 11 = .ok (.iload_n 2, 1) := by decide +kernel
theorem dX5_aim_12 : decode cX5_aim 12 = .ok (.iconst 0, 1) := by decide +kernel
theorem dX5_aim_13 : decode cX5_aim 13 = .ok (.iconst 3, 1) := by decide +kernel
theorem dX5_aim_14 : decode cX5_aim 14 = .ok (.invokestatic 51, 3) := by decide +kernel
theorem dX5_aim_17 : decode cX5_aim 17 = .ok (.ifCond .eq 7, 3) := by decide +kernel
theorem dX5_aim_20 : decode cX5_aim 20 = .ok (.sipush (-1002), 3) := by decide +kernel
theorem dX5_aim_23 : decode cX5_aim 23 = .ok (.ireturn, 1) := by decide +kernel
theorem dX5_aim_24 : decode cX5_aim 24 = .ok (.aload_n 0, 1) := by decide +kernel
theorem dX5_aim_25 : decode cX5_aim 25 = .ok (.getfield 21, 3) := by decide +kernel
theorem dX5_aim_28 : decode cX5_aim 28 = .ok (.invokevirtual 96, 3) := by decide +kernel
