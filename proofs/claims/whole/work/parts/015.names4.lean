theorem dX6_told_17 : decode cX6_told 17 = .ok (.isub, 1) := by decide +kernel
theorem dX6_told_18 : decode cX6_told 18 = .ok (.aload_n 0, 1) := by decide +kernel
theorem dX6_told_19 : decode cX6_told 19 = .ok (.getfield 61, 3) := by decide +kernel
theorem dX6_told_22 : decode cX6_told 22 = .ok (.if_icmp .ge 15, 3) := by decide +kernel
theorem dX6_told_25 : decode cX6_told 25 = .ok (.aload_n 0, 1) := by decide +kernel
theorem dX6_told_26 : decode cX6_told 26 = .ok (.getfield 7, 3) := by decide +kernel
theorem dX6_told_29 : decode cX6_told 29 = .ok (.iload_n 1, 1) := by decide +kernel
theorem dX6_told_30 : decode cX6_told 30 = .ok (.bipush 10, 2) := by decide +kernel
theorem dX6_told_32 : decode cX6_told 32 = .ok (.isub, 1) := by decide +kernel
theorem dX6_told_33 : decode cX6_told 33 = .ok (.iaload, 1) := by decide +kernel
theorem dX6_told_34 : decode cX6_told 34 = .ok (.goto 4, 3) := by decide +kernel
theorem dX6_told_37 : decode cX6_told 37 = .ok (.iconst (-1), 1) := by decide +kernel
theorem dX6_told_38 : decode cX6_told 38 = .ok (.ireturn, 1) := by decide +kernel
theorem dX6_told_39 : decode cX6_told 39 = .ok (.iload_n 1, 1) := by decide +kernel
theorem dX6_told_40 : decode cX6_told 40 = .ok (.i2l, 1) := by decide +kernel
theorem dX6_told_41 : decode cX6_told 41 = .ok (.ldc2_w 74, 3) := by decide +kernel
theorem dX6_told_44 : decode cX6_told 44 = .ok (.ldc2_w 76, 3) := by decide +kernel
theorem dX6_told_47 : decode cX6_told 47 = .ok (.invokestatic 57, 3) := by decide +kernel
theorem dX6_told_50 : decode cX6_told 50 = .ok (.ifCond .eq 28, 3) := by decide +kernel
theorem dX6_told_53 : decode cX6_told 53 = .ok (.iload_n 1, 1) := by decide +kernel
theorem dX6_told_54 : decode cX6_told 54 = .ok (.bipush 20, 2) := by decide +kernel
theorem dX6_told_56 : decode cX6_told 56 = .ok (.isub, 1) := by decide +kernel
theorem dX6_told_57 : decode cX6_told 57 = .ok (.aload_n 0, 1) := by decide +kernel
theorem dX6_told_58 : decode cX6_told 58 = .ok (.getfield 78, 3) := by decide +kernel
theorem dX6_told_61 : decode cX6_told 61 = .ok (.if_icmp .ge 15, 3) := by decide +kernel
theorem dX6_told_64 : decode cX6_told 64 = .ok (.aload_n 0, 1) := by decide +kernel
theorem dX6_told_65 : decode cX6_told 65 = .ok (.getfield 20, 3) := by decide +kernel
theorem dX6_told_68 : decode cX6_told 68 = .ok (.iload_n 1, 1) := by decide +kernel
theorem dX6_told_69 : decode cX6_told 69 = .ok (.bipush 20, 2) := by decide +kernel
theorem dX6_told_71 : decode cX6_told 71 = .ok (.isub, 1) := by decide +kernel
theorem dX6_told_72 : decode cX6_told 72 = .ok (.iaload, 1) := by decide +kernel
theorem dX6_told_73 : decode cX6_told 73 = .ok (.goto 4, 3) := by decide +kernel
theorem dX6_told_76 : decode cX6_told 76 = .ok (.iconst (-1), 1) := by decide +kernel
theorem dX6_told_77 : decode cX6_told 77 = .ok (.ireturn, 1) := by decide +kernel
theorem dX6_told_78 : decode cX6_told 78 = .ok (.iload_n 1, 1) := by decide +kernel
theorem dX6_told_79 : decode cX6_told 79 = .ok (.tableswitch 58 0 4 #[33, 38, 43, 48, 53], 33) := by decide +kernel
theorem dX6_told_112 : decode cX6_told 112 = .ok (.aload_n 0, 1) := by decide +kernel
theorem dX6_told_113 : decode cX6_told 113 = .ok (.getfield 61, 3) := by decide +kernel
theorem dX6_told_116 : decode cX6_told 116 = .ok (.ireturn, 1) := by decide +kernel
theorem dX6_told_117 : decode cX6_told 117 = .ok (.aload_n 0, 1) := by decide +kernel
theorem dX6_told_118 : decode cX6_told 118 = .ok (.getfield 13, 3) := by decide +kernel
theorem dX6_told_121 : decode cX6_told 121 = .ok (.ireturn, 1) := by decide +kernel
theorem dX6_told_122 : decode cX6_told 122 = .ok (.aload_n 0, 1) := by decide +kernel
theorem dX6_told_123 : decode cX6_told 123 = .ok (.getfield 17, 3) := by decide +kernel
theorem dX6_told_126 : decode cX6_told 126 = .ok (.ireturn, 1) := by decide +kernel
theorem dX6_told_127 : decode cX6_told 127 = .ok (.aload_n 0, 1) := by decide +kernel
theorem dX6_told_128 : decode cX6_told 128 = .ok (.getfield 78, 3) := by decide +kernel
theorem dX6_told_131 : decode cX6_told 131 = .ok (.ireturn, 1) := by decide +kernel
theorem dX6_told_132 : decode cX6_told 132 = .ok (.aload_n 0, 1) := by decide +kernel
theorem dX6_told_133 : decode cX6_told 133 = .ok (.getfield 81, 3) := by decide +kernel
theorem dX6_told_136 : decode cX6_told 136 = .ok (.ireturn, 1) := by decide +kernel
theorem dX6_told_137 : decode cX6_told 137 = .ok (.sipush (-1002), 3) := by decide +kernel
theorem dX6_told_140 : decode cX6_told 140 = .ok (.ireturn, 1) := by decide +kernel
theorem dX6_may_0 : decode cX6_may 0 = .ok (.aload_n 0, 1) := by decide +kernel
theorem dX6_may_1 : decode cX6_may 1 = .ok (.getfield 13, 3) := by decide +kernel
theorem dX6_may_4 : decode cX6_may 4 = .ok (.iload_n 1, 1) := by decide +kernel
theorem dX6_may_5 : decode cX6_may 5 = .ok (.ishr, 1) := by decide +kernel
theorem dX6_may_6 : decode cX6_may 6 = .ok (.iconst 1, 1) := by decide +kernel
theorem dX6_may_7 : decode cX6_may 7 = .ok (.iand, 1) := by decide +kernel
theorem dX6_may_8 : decode cX6_may 8 = .ok (.iconst 1, 1) := by decide +kernel
theorem dX6_may_9 : decode cX6_may 9 = .ok (.if_icmp .ne 7, 3) := by decide +kernel
theorem dX6_may_12 : decode cX6_may 12 = .ok (.iconst 1, 1) := by decide +kernel
theorem dX6_may_13 : decode cX6_may 13 = .ok (.goto 4, 3) := by decide +kernel
theorem dX6_may_16 : decode cX6_may 16 = .ok (.iconst 0, 1) := by decide +kernel
theorem dX6_may_17 : decode cX6_may 17 = .ok (.ireturn, 1) := by decide +kernel
theorem dX6_listOf_0 : decode cX6_listOf 0 = .ok (.iconst 0, 1) := by decide +kernel
theorem dX6_listOf_1 : decode cX6_listOf 1 = .ok (.istore_n 3, 1) := by decide +kernel
theorem dX6_listOf_2 : decode cX6_listOf 2 = .ok (.iconst 1, 1) := by decide +kernel
theorem dX6_listOf_3 : decode cX6_listOf 3 = .ok (.istore 4, 2) := by decide +kernel
theorem dX6_listOf_5 : decode cX6_listOf 5 = .ok (.iload 4, 2) := by decide +kernel
theorem dX6_listOf_7 : decode cX6_listOf 7 = .ok (.sipush 3000, 3) := by decide +kernel
theorem dX6_listOf_10 : decode cX6_listOf 10 = .ok (.if_icmp .gt 35, 3) := by decide +kernel
theorem dX6_listOf_13 : decode cX6_listOf 13 = .ok (.aload_n 0, 1) := by decide +kernel
theorem dX6_listOf_14 : decode cX6_listOf 14 = .ok (.getfield 30, 3) := by decide +kernel
theorem dX6_listOf_17 : decode cX6_listOf 17 = .ok (.sipush 3001, 3) := by decide +kernel
theorem dX6_listOf_20 : decode cX6_listOf 20 = .ok (.iload_n 1, 1) := by decide +kernel
theorem dX6_listOf_21 : decode cX6_listOf 21 = .ok (.imul, 1) := by decide +kernel
theorem dX6_listOf_22 : decode cX6_listOf 22 = .ok (.iload 4, 2) := by decide +kernel
theorem dX6_listOf_24 : decode cX6_listOf 24 = .ok (.iadd, 1) := by decide +kernel
theorem dX6_listOf_25 : decode cX6_listOf 25 = .ok (.laload, 1) := by decide +kernel
theorem dX6_listOf_26 : decode cX6_listOf 26 = .ok (.lconst 0, 1) := by decide +kernel
theorem dX6_listOf_27 : decode cX6_listOf 27 = .ok (.lcmp, 1) := by decide +kernel
theorem dX6_listOf_28 : decode cX6_listOf 28 = .ok (.ifCond .le 11, 3) := by decide +kernel
theorem dX6_listOf_31 : decode cX6_listOf 31 = .ok (.aload_n 2, 1) := by decide +kernel
theorem dX6_listOf_32 : decode cX6_listOf 32 = .ok (.iload_n 3, 1) := by decide +kernel
theorem dX6_listOf_33 : decode cX6_listOf 33 = .ok (.iload 4, 2) := by decide +kernel
theorem dX6_listOf_35 : decode cX6_listOf 35 = .ok (.iastore, 1) := by decide +kernel
theorem dX6_listOf_36 : decode cX6_listOf 36 = .ok (.iinc 3 1, 3) := by decide +kernel
theorem dX6_listOf_39 : decode cX6_listOf 39 = .ok (.iinc 4 1, 3) := by decide +kernel
theorem dX6_listOf_42 : decode cX6_listOf 42 = .ok (.goto (-37), 3) := by decide +kernel
theorem dX6_listOf_45 : decode cX6_listOf 45 = .ok (.iload_n 3, 1) := by decide +kernel
theorem dX6_listOf_46 : decode cX6_listOf 46 = .ok (.ireturn, 1) := by decide +kernel
theorem dX6_add_0 : decode cX6_add 0 = .ok (.lload_n 2, 1) := by decide +kernel
theorem dX6_add_1 : decode cX6_add 1 = .ok (.aload_n 0, 1) := by decide +kernel
theorem dX6_add_2 : decode cX6_add 2 = .ok (.getfield 17, 3) := by decide +kernel
theorem dX6_add_5 : decode cX6_add 5 = .ok (.i2l, 1) := by decide +kernel
theorem dX6_add_6 : decode cX6_add 6 = .ok (.lcmp, 1) := by decide +kernel
theorem dX6_add_7 : decode cX6_add 7 = .ok (.ifCond .gt 21, 3) := by decide +kernel
theorem dX6_add_10 : decode cX6_add 10 = .ok (.aload_n 0, 1) := by decide +kernel
theorem dX6_add_11 : decode cX6_add 11 = .ok (.getfield 30, 3) := by decide +kernel
theorem dX6_add_14 : decode cX6_add 14 = .ok (.sipush 3001, 3) := by decide +kernel
theorem dX6_add_17 : decode cX6_add 17 = .ok (.iload_n 1, 1) := by decide +kernel
theorem dX6_add_18 : decode cX6_add 18 = .ok (.imul, 1) := by decide +kernel
theorem dX6_add_19 : decode cX6_add 19 = .ok (.lload_n 2, 1) := by decide +kernel
theorem dX6_add_20 : decode cX6_add 20 = .ok (.l2i, 1) := by decide +kernel
theorem dX6_add_21 : decode cX6_add 21 = .ok (.iadd, 1) := by decide +kernel
theorem dX6_add_22 : decode cX6_add 22 = .ok (.dup2, 1) := by decide +kernel
theorem dX6_add_23 : decode cX6_add 23 = .ok (.laload, 1) := by decide +kernel
theorem dX6_add_24 : decode cX6_add 24 = .ok (.lload 4, 2) := by decide +kernel
theorem dX6_add_26 : decode cX6_add 26 = .ok (.ladd, 1) := by decide +kernel
theorem dX6_add_27 : decode cX6_add 27 = .ok (.lastore, 1) := by decide +kernel
theorem dX6_add_28 : decode cX6_add 28 = .ok (.return_, 1) := by decide +kernel
set_option maxRecDepth 20000 in
theorem ggX6_join_X6_listOf : GoodIn wsX6_join wsX6_listOf := goodIn_r _ [8, 3, 19, 20, 21, 22, 23, 24, 25, 26, 27, 28, 29, 30, 31, 32, 33, 34, 35, 36, 37, 38] (by decide +kernel) (by decide +kernel)
set_option maxRecDepth 20000 in
theorem gX6_join_X6_listOf : GoodIn wsX6_join (wsV RX6 84 RX6 yX6_listOf wsX6_listOf) := goodIn_app (goodIn_of _ (by decide +kernel)) ggX6_join_X6_listOf
set_option maxRecDepth 20000 in
theorem ggX6_join_X6_may : GoodIn wsX6_join wsX6_may := goodIn_r _ [12, 13, 19, 20, 21, 22, 23, 24, 25, 26, 27, 28, 29, 30, 31, 32, 33, 34, 35, 36, 37, 38] (by decide +kernel) (by decide +kernel)
set_option maxRecDepth 20000 in
theorem gX6_join_X6_may : GoodIn wsX6_join (wsV RX6 88 RX6 yX6_may wsX6_may) := goodIn_app (goodIn_of _ (by decide +kernel)) ggX6_join_X6_may
set_option maxRecDepth 20000 in
theorem ggX6_join_X6_add : GoodIn wsX6_join wsX6_add := goodIn_r _ [17, 18, 3, 19, 20, 21, 22, 23, 24, 25, 26, 27, 28, 29, 30, 31, 32, 33, 34, 35, 36, 37, 38] (by decide +kernel) (by decide +kernel)
set_option maxRecDepth 20000 in
theorem gX6_join_X6_add : GoodIn wsX6_join (wsV RX6 92 RX6 yX6_add wsX6_add) := goodIn_app (goodIn_of _ (by decide +kernel)) ggX6_join_X6_add
theorem dX6_join_0 : decode cX6_join 0 = .ok (.iload_n 1, 1) := by decide +kernel
theorem dX6_join_1 : decode cX6_join 1 = .ok (.iload_n 2, 1) := by decide +kernel
theorem dX6_join_2 : decode cX6_join 2 = .ok (.iconst (-1), 1) := by decide +kernel
theorem dX6_join_3 : decode cX6_join 3 = .ok (.ixor, 1) := by decide +kernel
theorem dX6_join_4 : decode cX6_join 4 = .ok (.iand, 1) := by decide +kernel
theorem dX6_join_5 : decode cX6_join 5 = .ok (.istore_n 3, 1) := by decide +kernel
theorem dX6_join_6 : decode cX6_join 6 = .ok (.iload_n 2, 1) := by decide +kernel
theorem dX6_join_7 : decode cX6_join 7 = .ok (.iload_n 1, 1) := by decide +kernel
theorem dX6_join_8 : decode cX6_join 8 = .ok (.iand, 1) := by decide +kernel
theorem dX6_join_9 : decode cX6_join 9 = .ok (.iload_n 1, 1) := by decide +kernel
theorem dX6_join_10 : decode cX6_join 10 = .ok (.ineg, 1) := by decide +kernel
theorem dX6_join_11 : decode cX6_join 11 = .ok (.iand, 1) := by decide +kernel
theorem dX6_join_12 : decode cX6_join 12 = .ok (.ifCond .eq 7, 3) := by decide +kernel
theorem dX6_join_15 : decode cX6_join 15 = .ok (.iconst 1, 1) := by decide +kernel
theorem dX6_join_16 : decode cX6_join 16 = .ok (.goto 4, 3) := by decide +kernel
theorem dX6_join_19 : decode cX6_join 19 = .ok (.iconst 0, 1) := by decide +kernel
theorem dX6_join_20 : decode cX6_join 20 = .ok (.istore 4, 2) := by decide +kernel
theorem dX6_join_22 : decode cX6_join 22 = .ok (.aload_n 0, 1) := by decide +kernel
theorem dX6_join_23 : decode cX6_join 23 = .ok (.iload_n 2, 1) := by decide +kernel
theorem dX6_join_24 : decode cX6_join 24 = .ok (.aload_n 0, 1) := by decide +kernel
theorem dX6_join_25 : decode cX6_join 25 = .ok (.getfield 34, 3) := by decide +kernel
theorem dX6_join_28 : decode cX6_join 28 = .ok (.invokevirtual 84, 3) := by decide +kernel
theorem dX6_join_31 : decode cX6_join 31 = .ok (.istore 5, 2) := by decide +kernel
theorem dX6_join_33 : decode cX6_join 33 = .ok (.aload_n 0, 1) := by decide +kernel
theorem dX6_join_34 : decode cX6_join 34 = .ok (.iload_n 3, 1) := by decide +kernel
theorem dX6_join_35 : decode cX6_join 35 = .ok (.aload_n 0, 1) := by decide +kernel
theorem dX6_join_36 : decode cX6_join 36 = .ok (.getfield 37, 3) := by decide +kernel
theorem dX6_join_39 : decode cX6_join 39 = .ok (.invokevirtual 84, 3) := by decide +kernel
theorem dX6_join_42 : decode cX6_join 42 = .ok (.istore 6, 2) := by decide +kernel
theorem dX6_join_44 : decode cX6_join 44 = .ok (.iconst 0, 1) := by decide +kernel
theorem dX6_join_45 : decode cX6_join 45 = .ok (.istore 7, 2) := by decide +kernel
theorem dX6_join_47 : decode cX6_join 47 = .ok (.iload 7, 2) := by decide +kernel
theorem dX6_join_49 : decode cX6_join 49 = .ok (.iload 5, 2) := by decide +kernel
theorem dX6_join_51 : decode cX6_join 51 = .ok (.if_icmp .ge 182, 3) := by decide +kernel
theorem dX6_join_54 : decode cX6_join 54 = .ok (.iconst 0, 1) := by decide +kernel
theorem dX6_join_55 : decode cX6_join 55 = .ok (.istore 8, 2) := by decide +kernel
theorem dX6_join_57 : decode cX6_join 57 = .ok (.iload 8, 2) := by decide +kernel
theorem dX6_join_59 : decode cX6_join 59 = .ok (.iload 6, 2) := by decide +kernel
theorem dX6_join_61 : decode cX6_join 61 = .ok (.if_icmp .ge 166, 3) := by decide +kernel
theorem dX6_join_64 : decode cX6_join 64 = .ok (.aload_n 0, 1) := by decide +kernel
theorem dX6_join_65 : decode cX6_join 65 = .ok (.getfield 34, 3) := by decide +kernel
theorem dX6_join_68 : decode cX6_join 68 = .ok (.iload 7, 2) := by decide +kernel
theorem dX6_join_70 : decode cX6_join 70 = .ok (.iaload, 1) := by decide +kernel
theorem dX6_join_71 : decode cX6_join 71 = .ok (.istore 9, 2) := by decide +kernel
theorem dX6_join_73 : decode cX6_join 73 = .ok (.aload_n 0, 1) := by decide +kernel
theorem dX6_join_74 : decode cX6_join 74 = .ok (.getfield 37, 3) := by decide +kernel
theorem dX6_join_77 : decode cX6_join 77 = .ok (.iload 8, 2) := by decide +kernel
theorem dX6_join_79 : decode cX6_join 79 = .ok (.iaload, 1) := by decide +kernel
theorem dX6_join_80 : decode cX6_join 80 = .ok (.istore 10, 2) := by decide +kernel
theorem dX6_join_82 : decode cX6_join 82 = .ok (.aload_n 0, 1) := by decide +kernel
theorem dX6_join_83 : decode cX6_join 83 = .ok (.getfield 30, 3) := by decide +kernel
theorem dX6_join_86 : decode cX6_join 86 = .ok (.sipush 3001, 3) := by decide +kernel
theorem dX6_join_89 : decode cX6_join 89 = .ok (.iload_n 2, 1) := by decide +kernel
theorem dX6_join_90 : decode cX6_join 90 = .ok (.imul, 1) := by decide +kernel
theorem dX6_join_91 : decode cX6_join 91 = .ok (.iload 9, 2) := by decide +kernel
theorem dX6_join_93 : decode cX6_join 93 = .ok (.iadd, 1) := by decide +kernel
theorem dX6_join_94 : decode cX6_join 94 = .ok (.laload, 1) := by decide +kernel
theorem dX6_join_95 : decode cX6_join 95 = .ok (.aload_n 0, 1) := by decide +kernel
theorem dX6_join_96 : decode cX6_join 96 = .ok (.getfield 30, 3) := by decide +kernel
theorem dX6_join_99 : decode cX6_join 99 = .ok (.sipush 3001, 3) := by decide +kernel
theorem dX6_join_102 : decode cX6_join 102 = .ok (.iload_n 3, 1) := by decide +kernel
theorem dX6_join_103 : decode cX6_join 103 = .ok (.imul, 1) := by decide +kernel
theorem dX6_join_104 : decode cX6_join 104 = .ok (.iload 10, 2) := by decide +kernel
theorem dX6_join_106 : decode cX6_join 106 = .ok (.iadd, 1) := by decide +kernel
theorem dX6_join_107 : decode cX6_join 107 = .ok (.laload, 1) := by decide +kernel
theorem dX6_join_108 : decode cX6_join 108 = .ok (.lmul, 1) := by decide +kernel
theorem dX6_join_109 : decode cX6_join 109 = .ok (.lstore 11, 2) := by decide +kernel
theorem dX6_join_111 : decode cX6_join 111 = .ok (.iload 4, 2) := by decide +kernel
theorem dX6_join_113 : decode cX6_join 113 = .ok (.ifCond .eq 24, 3) := by decide +kernel
theorem dX6_join_116 : decode cX6_join 116 = .ok (.aload_n 0, 1) := by decide +kernel
theorem dX6_join_117 : decode cX6_join 117 = .ok (.iconst 0, 1) := by decide +kernel
theorem dX6_join_118 : decode cX6_join 118 = .ok (.invokevirtual 88, 3) := by decide +kernel
theorem dX6_join_121 : decode cX6_join 121 = .ok (.ifCond .eq 16, 3) := by decide +kernel
theorem dX6_join_124 : decode cX6_join 124 = .ok (.aload_n 0, 1) := by decide +kernel
theorem dX6_join_125 : decode cX6_join 125 = .ok (.iload_n 1, 1) := by decide +kernel
theorem dX6_join_126 : decode cX6_join 126 = .ok (.iload 9, 2) := by decide +kernel
theorem dX6_join_128 : decode cX6_join 128 = .ok (.iload 10, 2) := by decide +kernel
theorem dX6_join_130 : decode cX6_join 130 = .ok (.iadd, 1) := by decide +kernel
theorem dX6_join_131 : decode cX6_join 131 = .ok (.i2l, 1) := by decide +kernel
theorem dX6_join_132 : decode cX6_join 132 = .ok (.lload 11, 2) := by decide +kernel
theorem dX6_join_134 : decode cX6_join 134 = .ok (.invokevirtual 92, 3) := by decide +kernel
theorem dX6_join_137 : decode cX6_join 137 = .ok (.aload_n 0, 1) := by decide +kernel
theorem dX6_join_138 : decode cX6_join 138 = .ok (.iconst 1, 1) := by decide +kernel
theorem dX6_join_139 : decode cX6_join 139 = .ok (.invokevirtual 88, 3) := by decide +kernel
theorem dX6_join_142 : decode cX6_join 142 = .ok (.ifCond .eq 23, 3) := by decide +kernel
theorem dX6_join_145 : decode cX6_join 145 = .ok (.iload 9, 2) := by decide +kernel
theorem dX6_join_147 : decode cX6_join 147 = .ok (.iload 10, 2) := by decide +kernel
theorem dX6_join_149 : decode cX6_join 149 = .ok (.if_icmp .le 16, 3) := by decide +kernel
theorem dX6_join_152 : decode cX6_join 152 = .ok (.aload_n 0, 1) := by decide +kernel
theorem dX6_join_153 : decode cX6_join 153 = .ok (.iload_n 1, 1) := by decide +kernel
theorem dX6_join_154 : decode cX6_join 154 = .ok (.iload 9, 2) := by decide +kernel
theorem dX6_join_156 : decode cX6_join 156 = .ok (.iload 10, 2) := by decide +kernel
theorem dX6_join_158 : decode cX6_join 158 = .ok (.isub, 1) := by decide +kernel
theorem dX6_join_159 : decode cX6_join 159 = .ok (.i2l, 1) := by decide +kernel
theorem dX6_join_160 : decode cX6_join 160 = .ok (.lload 11, 2) := by decide +kernel
theorem dX6_join_162 : decode cX6_join 162 = .ok (.invokevirtual 92, 3) := by decide +kernel
theorem dX6_join_165 : decode cX6_join 165 = .ok (.iload 4, 2) := by decide +kernel
theorem dX6_join_167 : decode cX6_join 167 = .ok (.ifCond .eq 25, 3) := by decide +kernel
theorem dX6_join_170 : decode cX6_join 170 = .ok (.aload_n 0, 1) := by decide +kernel
theorem dX6_join_171 : decode cX6_join 171 = .ok (.iconst 2, 1) := by decide +kernel
theorem dX6_join_172 : decode cX6_join 172 = .ok (.invokevirtual 88, 3) := by decide +kernel
theorem dX6_join_175 : decode cX6_join 175 = .ok (.ifCond .eq 17, 3) := by decide +kernel
theorem dX6_join_178 : decode cX6_join 178 = .ok (.aload_n 0, 1) := by decide +kernel
theorem dX6_join_179 : decode cX6_join 179 = .ok (.iload_n 1, 1) := by decide +kernel
theorem dX6_join_180 : decode cX6_join 180 = .ok (.iload 9, 2) := by decide +kernel
theorem dX6_join_182 : decode cX6_join 182 = .ok (.i2l, 1) := by decide +kernel
theorem dX6_join_183 : decode cX6_join 183 = .ok (.iload 10, 2) := by decide +kernel
theorem dX6_join_185 : decode cX6_join 185 = .ok (.i2l, 1) := by decide +kernel
theorem dX6_join_186 : decode cX6_join 186 = .ok (.lmul, 1) := by decide +kernel
theorem dX6_join_187 : decode cX6_join 187 = .ok (.lload 11, 2) := by decide +kernel
theorem dX6_join_189 : decode cX6_join 189 = .ok (.invokevirtual 92, 3) := by decide +kernel
theorem dX6_join_192 : decode cX6_join 192 = .ok (.aload_n 0, 1) := by decide +kernel
theorem dX6_join_193 : decode cX6_join 193 = .ok (.iconst 3, 1) := by decide +kernel
theorem dX6_join_194 : decode cX6_join 194 = .ok (.invokevirtual 88, 3) := by decide +kernel
theorem dX6_join_197 : decode cX6_join 197 = .ok (.ifCond .eq 24, 3) := by decide +kernel
theorem dX6_join_200 : decode cX6_join 200 = .ok (.iload 9, 2) := by decide +kernel
theorem dX6_join_202 : decode cX6_join 202 = .ok (.iload 10, 2) := by decide +kernel
theorem dX6_join_204 : decode cX6_join 204 = .ok (.irem, 1) := by decide +kernel
theorem dX6_join_205 : decode cX6_join 205 = .ok (.ifCond .ne 16, 3) := by decide +kernel
theorem dX6_join_208 : decode cX6_join 208 = .ok (.aload_n 0, 1) := by decide +kernel
theorem dX6_join_209 : decode cX6_join 209 = .ok (.iload_n 1, 1) := by decide +kernel
theorem dX6_join_210 : decode cX6_join 210 = .ok (.iload 9, 2) := by decide +kernel
theorem dX6_join_212 : decode cX6_join 212 = .ok (.iload 10, 2) := by decide +kernel
theorem dX6_join_214 : decode cX6_join 214 = .ok (.idiv, 1) := by decide +kernel
theorem dX6_join_215 : decode cX6_join 215 = .ok (.i2l, 1) := by decide +kernel
theorem dX6_join_216 : decode cX6_join 216 = .ok (.lload 11, 2) := by decide +kernel
theorem dX6_join_218 : decode cX6_join 218 = .ok (.invokevirtual 92, 3) := by decide +kernel
theorem dX6_join_221 : decode cX6_join 221 = .ok (.iinc 8 1, 3) := by decide +kernel
theorem dX6_join_224 : decode cX6_join 224 = .ok (.goto (-167), 3) := by decide +kernel
theorem dX6_join_227 : decode cX6_join 227 = .ok (.iinc 7 1, 3) := by decide +kernel
theorem dX6_join_230 : decode cX6_join 230 = .ok (.goto (-183), 3) := by decide +kernel
theorem dX6_join_233 : decode cX6_join 233 = .ok (.return_, 1) := by decide +kernel
set_option maxRecDepth 20000 in
theorem ggX6_fill_X6_bits : GoodIn wsX6_fill wsX6_bits := goodIn_r _ [8] (by decide +kernel) (by decide +kernel)
set_option maxRecDepth 20000 in
theorem gX6_fill_X6_bits : GoodIn wsX6_fill (va_wsS RX6 99 yX6_bits wsX6_bits) := goodIn_app (goodIn_of _ (by decide +kernel)) ggX6_fill_X6_bits
set_option maxRecDepth 20000 in
theorem ggX6_fill_X6_join : GoodIn wsX6_fill wsX6_join := goodIn_r _ [12, 13, 14, 2, 15, 16, 17, 7, 18, 19, 20, 21, 22, 23, 24, 25, 26, 27, 28, 29, 30, 31, 32, 33, 34, 35, 36, 37, 38, 39, 40, 41, 42, 43, 44, 45, 46, 47, 48] (by decide +kernel) (by decide +kernel)
set_option maxRecDepth 20000 in
theorem gX6_fill_X6_join : GoodIn wsX6_fill (wsV RX6 103 RX6 yX6_join wsX6_join) := goodIn_app (goodIn_of _ (by decide +kernel)) ggX6_fill_X6_join
theorem dX6_fill_0 : decode cX6_fill 0 = .ok (.iconst 0, 1) := by decide +kernel
theorem dX6_fill_1 : decode cX6_fill 1 = .ok (.istore_n 1, 1) := by decide +kernel
theorem dX6_fill_2 : decode cX6_fill 2 = .ok (.iload_n 1, 1) := by decide +kernel
theorem dX6_fill_3 : decode cX6_fill 3 = .ok (.sipush 3001, 3) := by decide +kernel
theorem dX6_fill_6 : decode cX6_fill 6 = .ok (.aload_n 0, 1) := by decide +kernel
theorem dX6_fill_7 : decode cX6_fill 7 = .ok (.getfield 96, 3) := by decide +kernel
theorem dX6_fill_10 : decode cX6_fill 10 = .ok (.ishl, 1) := by decide +kernel
theorem dX6_fill_11 : decode cX6_fill 11 = .ok (.if_icmp .ge 16, 3) := by decide +kernel
theorem dX6_fill_14 : decode cX6_fill 14 = .ok (.aload_n 0, 1) := by decide +kernel
theorem dX6_fill_15 : decode cX6_fill 15 = .ok (.getfield 30, 3) := by decide +kernel
theorem dX6_fill_18 : decode cX6_fill 18 = .ok (.iload_n 1, 1) := by decide +kernel
theorem dX6_fill_19 : decode cX6_fill 19 = .ok (.lconst 0, 1) := by decide +kernel
theorem dX6_fill_20 : decode cX6_fill 20 = .ok (.lastore, 1) := by decide +kernel
theorem dX6_fill_21 : decode cX6_fill 21 = .ok (.iinc 1 1, 3) := by decide +kernel
theorem dX6_fill_24 : decode cX6_fill 24 = .ok (.goto (-22), 3) := by decide +kernel
theorem dX6_fill_27 : decode cX6_fill 27 = .ok (.iconst 1, 1) := by decide +kernel
theorem dX6_fill_28 : decode cX6_fill 28 = .ok (.istore_n 1, 1) := by decide +kernel
theorem dX6_fill_29 : decode cX6_fill 29 = .ok (.iload_n 1, 1) := by decide +kernel
theorem dX6_fill_30 : decode cX6_fill 30 = .ok (.iconst 1, 1) := by decide +kernel
theorem dX6_fill_31 : decode cX6_fill 31 = .ok (.aload_n 0, 1) := by decide +kernel
theorem dX6_fill_32 : decode cX6_fill 32 = .ok (.getfield 96, 3) := by decide +kernel
theorem dX6_fill_35 : decode cX6_fill 35 = .ok (.ishl, 1) := by decide +kernel
theorem dX6_fill_36 : decode cX6_fill 36 = .ok (.if_icmp .ge 81, 3) := by decide +kernel
theorem dX6_fill_39 : decode cX6_fill 39 = .ok (.iload_n 1, 1) := by decide +kernel
theorem dX6_fill_40 : decode cX6_fill 40 = .ok (.invokestatic 99, 3) := by decide +kernel
theorem dX6_fill_43 : decode cX6_fill 43 = .ok (.iconst 1, 1) := by decide +kernel
theorem dX6_fill_44 : decode cX6_fill 44 = .ok (.if_icmp .ne 40, 3) := by decide +kernel
theorem dX6_fill_47 : decode cX6_fill 47 = .ok (.iconst 0, 1) := by decide +kernel
theorem dX6_fill_48 : decode cX6_fill 48 = .ok (.istore_n 2, 1) := by decide +kernel
theorem dX6_fill_49 : decode cX6_fill 49 = .ok (.iload_n 1, 1) := by decide +kernel
theorem dX6_fill_50 : decode cX6_fill 50 = .ok (.iload_n 2, 1) := by decide +kernel
theorem dX6_fill_51 : decode cX6_fill 51 = .ok (.ishr, 1) := by decide +kernel
theorem dX6_fill_52 : decode cX6_fill 52 = .ok (.iconst 1, 1) := by decide +kernel
theorem dX6_fill_53 : decode cX6_fill 53 = .ok (.iand, 1) := by decide +kernel
theorem dX6_fill_54 : decode cX6_fill 54 = .ok (.ifCond .ne 9, 3) := by decide +kernel
theorem dX6_fill_57 : decode cX6_fill 57 = .ok (.iinc 2 1, 3) := by decide +kernel
theorem dX6_fill_60 : decode cX6_fill 60 = .ok (.goto (-11), 3) := by decide +kernel
theorem dX6_fill_63 : decode cX6_fill 63 = .ok (.aload_n 0, 1) := by decide +kernel
theorem dX6_fill_64 : decode cX6_fill 64 = .ok (.getfield 30, 3) := by decide +kernel
theorem dX6_fill_67 : decode cX6_fill 67 = .ok (.sipush 3001, 3) := by decide +kernel
theorem dX6_fill_70 : decode cX6_fill 70 = .ok (.iload_n 1, 1) := by decide +kernel
theorem dX6_fill_71 : decode cX6_fill 71 = .ok (.imul, 1) := by decide +kernel
theorem dX6_fill_72 : decode cX6_fill 72 = .ok (.aload_n 0, 1) := by decide +kernel
theorem dX6_fill_73 : decode cX6_fill 73 = .ok (.getfield 26, 3) := by decide +kernel
theorem dX6_fill_76 : decode cX6_fill 76 = .ok (.iload_n 2, 1) := by decide +kernel
theorem dX6_fill_77 : decode cX6_fill 77 = .ok (.iaload, 1) := by decide +kernel
theorem dX6_fill_78 : decode cX6_fill 78 = .ok (.iadd, 1) := by decide +kernel
theorem dX6_fill_79 : decode cX6_fill 79 = .ok (.lconst 1, 1) := by decide +kernel
theorem dX6_fill_80 : decode cX6_fill 80 = .ok (.lastore, 1) := by decide +kernel
theorem dX6_fill_81 : decode cX6_fill 81 = .ok (.goto 30, 3) := by decide +kernel
theorem dX6_fill_84 : decode cX6_fill 84 = .ok (.iconst 1, 1) := by decide +kernel
theorem dX6_fill_85 : decode cX6_fill 85 = .ok (.istore_n 2, 1) := by decide +kernel
theorem dX6_fill_86 : decode cX6_fill 86 = .ok (.iload_n 2, 1) := by decide +kernel
theorem dX6_fill_87 : decode cX6_fill 87 = .ok (.iload_n 1, 1) := by decide +kernel
theorem dX6_fill_88 : decode cX6_fill 88 = .ok (.if_icmp .ge 23, 3) := by decide +kernel
theorem dX6_fill_91 : decode cX6_fill 91 = .ok (.iload_n 2, 1) := by decide +kernel
theorem dX6_fill_92 : decode cX6_fill 92 = .ok (.iload_n 1, 1) := by decide +kernel
theorem dX6_fill_93 : decode cX6_fill 93 = .ok (.iconst (-1), 1) := by decide +kernel
theorem dX6_fill_94 : decode cX6_fill 94 = .ok (.ixor, 1) := by decide +kernel
theorem dX6_fill_95 : decode cX6_fill 95 = .ok (.iand, 1) := by decide +kernel
theorem dX6_fill_96 : decode cX6_fill 96 = .ok (.ifCond .ne 9, 3) := by decide +kernel
theorem dX6_fill_99 : decode cX6_fill 99 = .ok (.aload_n 0, 1) := by decide +kernel
theorem dX6_fill_100 : decode cX6_fill 100 = .ok (.iload_n 1, 1) := by decide +kernel
theorem dX6_fill_101 : decode cX6_fill 101 = .ok (.iload_n 2, 1) := by decide +kernel
theorem dX6_fill_102 : decode cX6_fill 102 = .ok (.invokevirtual 103, 3) := by decide +kernel
theorem dX6_fill_105 : decode cX6_fill 105 = .ok (.iinc 2 1, 3) := by decide +kernel
theorem dX6_fill_108 : decode cX6_fill 108 = .ok (.goto (-22), 3) := by decide +kernel
theorem dX6_fill_111 : decode cX6_fill 111 = .ok (.iinc 1 1, 3) := by decide +kernel
theorem dX6_fill_114 : decode cX6_fill 114 = .ok (.goto (-85), 3) := by decide +kernel
theorem dX6_fill_117 : decode cX6_fill 117 = .ok (.aload_n 0, 1) := by decide +kernel
theorem dX6_fill_118 : decode cX6_fill 118 = .ok (.iconst 0, 1) := by decide +kernel
theorem dX6_fill_119 : decode cX6_fill 119 = .ok (.putfield 64, 3) := by decide +kernel
theorem dX6_fill_122 : decode cX6_fill 122 = .ok (.return_, 1) := by decide +kernel
set_option maxRecDepth 20000 in
theorem ggX6_heap_X6_fill : GoodIn wsX6_heap wsX6_fill := goodIn_r _ [10, 3, 11, 4, 1, 12, 13, 9, 14, 15, 16, 17, 18, 19, 20, 21, 22, 23, 24, 25, 26, 27, 28, 29, 30, 31, 32, 33, 34, 35, 36, 37, 38, 39, 40, 41, 42, 43, 44, 45, 46, 47, 48, 49, 50, 51, 52, 53, 54] (by decide +kernel) (by decide +kernel)
set_option maxRecDepth 20000 in
theorem gX6_heap_X6_fill : GoodIn wsX6_heap (wsV RX6 107 RX6 yX6_fill wsX6_fill) := goodIn_app (goodIn_of _ (by decide +kernel)) ggX6_heap_X6_fill
theorem dX6_heap_0 : decode cX6_heap 0 = .ok (.aload_n 0, 1) := by decide +kernel
theorem dX6_heap_1 : decode cX6_heap 1 = .ok (.getfield 64, 3) := by decide +kernel
theorem dX6_heap_4 : decode cX6_heap 4 = .ok (.ifCond .ne 48, 3) := by decide +kernel
theorem dX6_heap_7 : decode cX6_heap 7 = .ok (.aload_n 0, 1) := by decide +kernel
theorem dX6_heap_8 : decode cX6_heap 8 = .ok (.aload_n 0, 1) := by decide +kernel
theorem dX6_heap_9 : decode cX6_heap 9 = .ok (.getfield 61, 3) := by decide +kernel
theorem dX6_heap_12 : decode cX6_heap 12 = .ok (.putfield 96, 3) := by decide +kernel
theorem dX6_heap_15 : decode cX6_heap 15 = .ok (.iconst 0, 1) := by decide +kernel
theorem dX6_heap_16 : decode cX6_heap 16 = .ok (.istore_n 1, 1) := by decide +kernel
theorem dX6_heap_17 : decode cX6_heap 17 = .ok (.iload_n 1, 1) := by decide +kernel
theorem dX6_heap_18 : decode cX6_heap 18 = .ok (.aload_n 0, 1) := by decide +kernel
theorem dX6_heap_19 : decode cX6_heap 19 = .ok (.getfield 61, 3) := by decide +kernel
theorem dX6_heap_22 : decode cX6_heap 22 = .ok (.if_icmp .ge 21, 3) := by decide +kernel
theorem dX6_heap_25 : decode cX6_heap 25 = .ok (.aload_n 0, 1) := by decide +kernel
theorem dX6_heap_26 : decode cX6_heap 26 = .ok (.getfield 26, 3) := by decide +kernel
theorem dX6_heap_29 : decode cX6_heap 29 = .ok (.iload_n 1, 1) := by decide +kernel
theorem dX6_heap_30 : decode cX6_heap 30 = .ok (.aload_n 0, 1) := by decide +kernel
theorem dX6_heap_31 : decode cX6_heap 31 = .ok (.getfield 7, 3) := by decide +kernel
theorem dX6_heap_34 : decode cX6_heap 34 = .ok (.iload_n 1, 1) := by decide +kernel
theorem dX6_heap_35 : decode cX6_heap 35 = .ok (.iaload, 1) := by decide +kernel
theorem dX6_heap_36 : decode cX6_heap 36 = .ok (.iastore, 1) := by decide +kernel
theorem dX6_heap_37 : decode cX6_heap 37 = .ok (.iinc 1 1, 3) := by decide +kernel
theorem dX6_heap_40 : decode cX6_heap 40 = .ok (.goto (-23), 3) := by decide +kernel
theorem dX6_heap_43 : decode cX6_heap 43 = .ok (.aload_n 0, 1) := by decide +kernel
theorem dX6_heap_44 : decode cX6_heap 44 = .ok (.invokevirtual 107, 3) := by decide +kernel
theorem dX6_heap_47 : decode cX6_heap 47 = .ok (.aload_n 0, 1) := by decide +kernel
theorem dX6_heap_48 : decode cX6_heap 48 = .ok (.iconst 1, 1) := by decide +kernel
theorem dX6_heap_49 : decode cX6_heap 49 = .ok (.putfield 64, 3) := by decide +kernel
theorem dX6_heap_52 : decode cX6_heap 52 = .ok (.return_, 1) := by decide +kernel
set_option maxRecDepth 20000 in
theorem ggX6_isSet_X6_in : GoodIn wsX6_isSet wsX6_in := goodIn_r _ [5] (by decide +kernel) (by decide +kernel)
set_option maxRecDepth 20000 in
theorem gX6_isSet_X6_in : GoodIn wsX6_isSet (va_wsS RX6 57 yX6_in wsX6_in) := goodIn_app (goodIn_of _ (by decide +kernel)) ggX6_isSet_X6_in
theorem dX6_isSet_0 : decode cX6_isSet 0 = .ok (.iload_n 1, 1) := by decide +kernel
theorem dX6_isSet_1 : decode cX6_isSet 1 = .ok (.i2l, 1) := by decide +kernel
theorem dX6_isSet_2 : decode cX6_isSet 2 = .ok (.lconst 1, 1) := by decide +kernel
theorem dX6_isSet_3 : decode cX6_isSet 3 = .ok (.iconst 1, 1) := by decide +kernel
theorem dX6_isSet_4 : decode cX6_isSet 4 = .ok (.aload_n 0, 1) := by decide +kernel
theorem dX6_isSet_5 : decode cX6_isSet 5 = .ok (.getfield 61, 3) := by decide +kernel
theorem dX6_isSet_8 : decode cX6_isSet 8 = .ok (.ishl, 1) := by decide +kernel
theorem dX6_isSet_9 : decode cX6_isSet 9 = .ok (.iconst 1, 1) := by decide +kernel
theorem dX6_isSet_10 : decode cX6_isSet 10 = .ok (.isub, 1) := by decide +kernel
theorem dX6_isSet_11 : decode cX6_isSet 11 = .ok (.i2l, 1) := by decide +kernel
theorem dX6_isSet_12 : decode cX6_isSet 12 = .ok (.invokestatic 57, 3) := by decide +kernel
theorem dX6_isSet_15 : decode cX6_isSet 15 = .ok (.ireturn, 1) := by decide +kernel
theorem dX6_allOf_0 : decode cX6_allOf 0 = .ok (.lconst 0, 1) := by decide +kernel
theorem dX6_allOf_1 : decode cX6_allOf 1 = .ok (.lstore_n 2, 1) := by decide +kernel
theorem dX6_allOf_2 : decode cX6_allOf 2 = .ok (.iconst 1, 1) := by decide +kernel
theorem dX6_allOf_3 : decode cX6_allOf 3 = .ok (.istore 4, 2) := by decide +kernel
theorem dX6_allOf_5 : decode cX6_allOf 5 = .ok (.iload 4, 2) := by decide +kernel
theorem dX6_allOf_7 : decode cX6_allOf 7 = .ok (.iconst 1, 1) := by decide +kernel
theorem dX6_allOf_8 : decode cX6_allOf 8 = .ok (.aload_n 0, 1) := by decide +kernel
theorem dX6_allOf_9 : decode cX6_allOf 9 = .ok (.getfield 96, 3) := by decide +kernel
theorem dX6_allOf_12 : decode cX6_allOf 12 = .ok (.ishl, 1) := by decide +kernel
theorem dX6_allOf_13 : decode cX6_allOf 13 = .ok (.if_icmp .ge 25, 3) := by decide +kernel
theorem dX6_allOf_16 : decode cX6_allOf 16 = .ok (.lload_n 2, 1) := by decide +kernel
theorem dX6_allOf_17 : decode cX6_allOf 17 = .ok (.aload_n 0, 1) := by decide +kernel
theorem dX6_allOf_18 : decode cX6_allOf 18 = .ok (.getfield 30, 3) := by decide +kernel
theorem dX6_allOf_21 : decode cX6_allOf 21 = .ok (.sipush 3001, 3) := by decide +kernel
theorem dX6_allOf_24 : decode cX6_allOf 24 = .ok (.iload 4, 2) := by decide +kernel
theorem dX6_allOf_26 : decode cX6_allOf 26 = .ok (.imul, 1) := by decide +kernel
theorem dX6_allOf_27 : decode cX6_allOf 27 = .ok (.iload_n 1, 1) := by decide +kernel
theorem dX6_allOf_28 : decode cX6_allOf 28 = .ok (.iadd, 1) := by decide +kernel
theorem dX6_allOf_29 : decode cX6_allOf 29 = .ok (.laload, 1) := by decide +kernel
theorem dX6_allOf_30 : decode cX6_allOf 30 = .ok (.ladd, 1) := by decide +kernel
theorem dX6_allOf_31 : decode cX6_allOf 31 = .ok (.lstore_n 2, 1) := by decide +kernel
theorem dX6_allOf_32 : decode cX6_allOf 32 = .ok (.iinc 4 1, 3) := by decide +kernel
theorem dX6_allOf_35 : decode cX6_allOf 35 = .ok (.goto (-30), 3) := by decide +kernel
theorem dX6_allOf_38 : decode cX6_allOf 38 = .ok (.lload_n 2, 1) := by decide +kernel
theorem dX6_allOf_39 : decode cX6_allOf 39 = .ok (.lreturn, 1) := by decide +kernel
set_option maxRecDepth 20000 in
theorem ggX6_isReached_X6_allOf : GoodIn wsX6_isReached wsX6_allOf := goodIn_r _ [5, 6, 7, 8, 9, 10, 11, 12, 13, 14, 15, 16, 17, 18, 19, 20, 21, 22, 23, 24, 25, 26, 27] (by decide +kernel) (by decide +kernel)
set_option maxRecDepth 20000 in
theorem gX6_isReached_X6_allOf : GoodIn wsX6_isReached (wsV RX6 110 RX6 yX6_allOf wsX6_allOf) := goodIn_app (goodIn_of _ (by decide +kernel)) ggX6_isReached_X6_allOf
theorem dX6_isReached_0 : decode cX6_isReached 0 = .ok (.aload_n 0, 1) := by decide +kernel
theorem dX6_isReached_1 : decode cX6_isReached 1 = .ok (.iload_n 1, 1) := by decide +kernel
theorem dX6_isReached_2 : decode cX6_isReached 2 = .ok (.invokevirtual 110, 3) := by decide +kernel
theorem dX6_isReached_5 : decode cX6_isReached 5 = .ok (.lconst 0, 1) := by decide +kernel
theorem dX6_isReached_6 : decode cX6_isReached 6 = .ok (.lcmp, 1) := by decide +kernel
theorem dX6_isReached_7 : decode cX6_isReached 7 = .ok (.ifCond .le 7, 3) := by decide +kernel
theorem dX6_isReached_10 : decode cX6_isReached 10 = .ok (.iconst 1, 1) := by decide +kernel
theorem dX6_isReached_11 : decode cX6_isReached 11 = .ok (.goto 4, 3) := by decide +kernel
theorem dX6_isReached_14 : decode cX6_isReached 14 = .ok (.iconst 0, 1) := by decide +kernel
theorem dX6_isReached_15 : decode cX6_isReached 15 = .ok (.ireturn, 1) := by decide +kernel
set_option maxRecDepth 20000 in
theorem ggX6_ways_X6_isSet : GoodIn wsX6_ways wsX6_isSet := goodIn_r _ [8, 9, 10, 11, 7, 12, 48, 49, 50, 51, 52, 53, 54, 55, 56, 57, 58, 59, 60, 61, 62, 63, 64, 65, 66, 67] (by decide +kernel) (by decide +kernel)
set_option maxRecDepth 20000 in
theorem gX6_ways_X6_isSet : GoodIn wsX6_ways (wsV RX6 114 RX6 yX6_isSet wsX6_isSet) := goodIn_app (goodIn_of _ (by decide +kernel)) ggX6_ways_X6_isSet
set_option maxRecDepth 20000 in
theorem ggX6_ways_X6_in : GoodIn wsX6_ways wsX6_in := goodIn_r _ [12] (by decide +kernel) (by decide +kernel)
set_option maxRecDepth 20000 in
theorem gX6_ways_X6_in : GoodIn wsX6_ways (va_wsS RX6 57 yX6_in wsX6_in) := goodIn_app (goodIn_of _ (by decide +kernel)) ggX6_ways_X6_in
set_option maxRecDepth 20000 in
theorem ggX6_ways_X6_heap : GoodIn wsX6_ways wsX6_heap := goodIn_r _ [16, 17, 9, 18, 19, 20, 21, 22, 23, 7, 24, 3, 25, 26, 27, 28, 29, 30, 31, 32, 33, 34, 35, 36, 37, 38, 39, 40, 41, 42, 43, 44, 45, 46, 47, 48, 49, 50, 51, 52, 53, 54, 55, 56, 57, 58, 59, 60, 61, 62, 63, 64, 65, 66, 67] (by decide +kernel) (by decide +kernel)
set_option maxRecDepth 20000 in
theorem gX6_ways_X6_heap : GoodIn wsX6_ways (wsV RX6 119 RX6 yX6_heap wsX6_heap) := goodIn_app (goodIn_of _ (by decide +kernel)) ggX6_ways_X6_heap
theorem dX6_ways_0 : decode cX6_ways 0 = .ok (.aload_n 0, 1) := by decide +kernel
theorem dX6_ways_1 : decode cX6_ways 1 = .ok (.iload_n 1, 1) := by decide +kernel
theorem dX6_ways_2 : decode cX6_ways 2 = .ok (.invokevirtual 114, 3) := by decide +kernel
theorem dX6_ways_5 : decode cX6_ways 5 = .ok (.ifCond .eq 15, 3) := by decide +kernel
theorem dX6_ways_8 : decode cX6_ways 8 = .ok (.iload_n 2, 1) := by decide +kernel
theorem dX6_ways_9 : decode cX6_ways 9 = .ok (.i2l, 1) := by decide +kernel
theorem dX6_ways_10 : decode cX6_ways 10 = .ok (.lconst 1, 1) := by decide +kernel
theorem dX6_ways_11 : decode cX6_ways 11 = .ok (.ldc2_w 70, 3) := by decide +kernel
theorem dX6_ways_14 : decode cX6_ways 14 = .ok (.invokestatic 57, 3) := by decide +kernel
theorem dX6_ways_17 : decode cX6_ways 17 = .ok (.ifCond .ne 7, 3) := by decide +kernel
theorem dX6_ways_20 : decode cX6_ways 20 = .ok (.ldc2_w 117, 3) := by decide +kernel
theorem dX6_ways_23 : decode cX6_ways 23 = .ok (.lreturn, 1) := by decide +kernel
theorem dX6_ways_24 : decode cX6_ways 24 = .ok (.aload_n 0, 1) := by decide +kernel
theorem dX6_ways_25 : decode cX6_ways 25 = .ok (.invokevirtual 119, 3) := by decide +kernel
theorem dX6_ways_28 : decode cX6_ways 28 = .ok (.aload_n 0, 1) := by decide +kernel
theorem dX6_ways_29 : decode cX6_ways 29 = .ok (.getfield 30, 3) := by decide +kernel
theorem dX6_ways_32 : decode cX6_ways 32 = .ok (.sipush 3001, 3) := by decide +kernel
theorem dX6_ways_35 : decode cX6_ways 35 = .ok (.iload_n 1, 1) := by decide +kernel
theorem dX6_ways_36 : decode cX6_ways 36 = .ok (.imul, 1) := by decide +kernel
theorem dX6_ways_37 : decode cX6_ways 37 = .ok (.iload_n 2, 1) := by decide +kernel
theorem dX6_ways_38 : decode cX6_ways 38 = .ok (.iadd, 1) := by decide +kernel
theorem dX6_ways_39 : decode cX6_ways 39 = .ok (.laload, 1) := by decide +kernel
theorem dX6_ways_40 : decode cX6_ways 40 = .ok (.lreturn, 1) := by decide +kernel
set_option maxRecDepth 20000 in
theorem ggX6_all_X6_in : GoodIn wsX6_all wsX6_in := goodIn_r _ [6] (by decide +kernel) (by decide +kernel)
set_option maxRecDepth 20000 in
theorem gX6_all_X6_in : GoodIn wsX6_all (va_wsS RX6 57 yX6_in wsX6_in) := goodIn_app (goodIn_of _ (by decide +kernel)) ggX6_all_X6_in
set_option maxRecDepth 20000 in
theorem ggX6_all_X6_heap : GoodIn wsX6_all wsX6_heap := goodIn_r _ [10, 11, 12, 13, 14, 15, 16, 17, 18, 5, 19, 20, 21, 22, 23, 24, 25, 26, 27, 28, 29, 30, 31, 32, 33, 34, 35, 36, 37, 38, 39, 40, 41, 42, 43, 48, 49, 50, 51, 52, 53, 54, 55, 56, 57, 58, 59, 60, 61, 62, 63, 64, 65, 66, 67] (by decide +kernel) (by decide +kernel)
set_option maxRecDepth 20000 in
theorem gX6_all_X6_heap : GoodIn wsX6_all (wsV RX6 119 RX6 yX6_heap wsX6_heap) := goodIn_app (goodIn_of _ (by decide +kernel)) ggX6_all_X6_heap
set_option maxRecDepth 20000 in
theorem ggX6_all_X6_allOf : GoodIn wsX6_all wsX6_allOf := goodIn_r _ [47, 13, 20, 48, 49, 50, 51, 52, 53, 54, 55, 56, 57, 58, 59, 60, 61, 62, 63, 64, 65, 66, 67] (by decide +kernel) (by decide +kernel)
set_option maxRecDepth 20000 in
theorem gX6_all_X6_allOf : GoodIn wsX6_all (wsV RX6 110 RX6 yX6_allOf wsX6_allOf) := goodIn_app (goodIn_of _ (by decide +kernel)) ggX6_all_X6_allOf
theorem dX6_all_0 : decode cX6_all 0 = .ok (.iload_n 1, 1) := by decide +kernel
theorem dX6_all_1 : decode cX6_all 1 = .ok (.i2l, 1) := by decide +kernel
theorem dX6_all_2 : decode cX6_all 2 = .ok (.lconst 1, 1) := by decide +kernel
theorem dX6_all_3 : decode cX6_all 3 = .ok (.ldc2_w 70, 3) := by decide +kernel
theorem dX6_all_6 : decode cX6_all 6 = .ok (.invokestatic 57, 3) := by decide +kernel
theorem dX6_all_9 : decode cX6_all 9 = .ok (.ifCond .ne 7, 3) := by decide +kernel
theorem dX6_all_12 : decode cX6_all 12 = .ok (.ldc2_w 117, 3) := by decide +kernel
theorem dX6_all_15 : decode cX6_all 15 = .ok (.lreturn, 1) := by decide +kernel
theorem dX6_all_16 : decode cX6_all 16 = .ok (.aload_n 0, 1) := by decide +kernel
theorem dX6_all_17 : decode cX6_all 17 = .ok (.invokevirtual 119, 3) := by decide +kernel
theorem dX6_all_20 : decode cX6_all 20 = .ok (.aload_n 0, 1) := by decide +kernel
theorem dX6_all_21 : decode cX6_all 21 = .ok (.iload_n 1, 1) := by decide +kernel
theorem dX6_all_22 : decode cX6_all 22 = .ok (.invokevirtual 110, 3) := by decide +kernel
theorem dX6_all_25 : decode cX6_all 25 = .ok (.lreturn, 1) := by decide +kernel
set_option maxRecDepth 20000 in
theorem ggX6_has_X6_isReached : GoodIn wsX6_has wsX6_isReached := goodIn_r _ [6, 7, 8, 9, 5, 10, 11, 1, 12, 13, 14, 15, 16, 17, 18, 19, 20, 21, 22, 23, 24, 25, 26, 27, 28, 29, 30, 31] (by decide +kernel) (by decide +kernel)
set_option maxRecDepth 20000 in
theorem gX6_has_X6_isReached : GoodIn wsX6_has (wsV RX6 122 RX6 yX6_isReached wsX6_isReached) := goodIn_app (goodIn_of _ (by decide +kernel)) ggX6_has_X6_isReached
theorem dX6_has_0 : decode cX6_has 0 = .ok (.iload_n 1, 1) := by decide +kernel
theorem dX6_has_1 : decode cX6_has 1 = .ok (.ifCond .ne 11, 3) := by decide +kernel
theorem dX6_has_4 : decode cX6_has 4 = .ok (.aload_n 0, 1) := by decide +kernel
theorem dX6_has_5 : decode cX6_has 5 = .ok (.iload_n 2, 1) := by decide +kernel
theorem dX6_has_6 : decode cX6_has 6 = .ok (.invokevirtual 122, 3) := by decide +kernel
theorem dX6_has_9 : decode cX6_has 9 = .ok (.goto 25, 3) := by decide +kernel
theorem dX6_has_12 : decode cX6_has 12 = .ok (.aload_n 0, 1) := by decide +kernel
theorem dX6_has_13 : decode cX6_has 13 = .ok (.getfield 30, 3) := by decide +kernel
theorem dX6_has_16 : decode cX6_has 16 = .ok (.sipush 3001, 3) := by decide +kernel
theorem dX6_has_19 : decode cX6_has 19 = .ok (.iload_n 1, 1) := by decide +kernel
theorem dX6_has_20 : decode cX6_has 20 = .ok (.imul, 1) := by decide +kernel
theorem dX6_has_21 : decode cX6_has 21 = .ok (.iload_n 2, 1) := by decide +kernel
theorem dX6_has_22 : decode cX6_has 22 = .ok (.iadd, 1) := by decide +kernel
theorem dX6_has_23 : decode cX6_has 23 = .ok (.laload, 1) := by decide +kernel
theorem dX6_has_24 : decode cX6_has 24 = .ok (.lconst 0, 1) := by decide +kernel
theorem dX6_has_25 : decode cX6_has 25 = .ok (.lcmp, 1) := by decide +kernel
theorem dX6_has_26 : decode cX6_has 26 = .ok (.ifCond .le 7, 3) := by decide +kernel
theorem dX6_has_29 : decode cX6_has 29 = .ok (.iconst 1, 1) := by decide +kernel
theorem dX6_has_30 : decode cX6_has 30 = .ok (.goto 4, 3) := by decide +kernel
theorem dX6_has_33 : decode cX6_has 33 = .ok (.iconst 0, 1) := by decide +kernel
theorem dX6_has_34 : decode cX6_has 34 = .ok (.ireturn, 1) := by decide +kernel
set_option maxRecDepth 20000 in
theorem ggX6_reached_X6_isSet : GoodIn wsX6_reached wsX6_isSet := goodIn_r _ [5, 6, 7, 8, 4, 9, 58, 59, 60, 61, 62, 63, 64, 65, 66, 67, 68, 69, 70, 71, 72, 73, 74, 75, 76, 77] (by decide +kernel) (by decide +kernel)
set_option maxRecDepth 20000 in
theorem gX6_reached_X6_isSet : GoodIn wsX6_reached (wsV RX6 114 RX6 yX6_isSet wsX6_isSet) := goodIn_app (goodIn_of _ (by decide +kernel)) ggX6_reached_X6_isSet
set_option maxRecDepth 20000 in
theorem ggX6_reached_X6_heap : GoodIn wsX6_reached wsX6_heap := goodIn_r _ [13, 14, 6, 15, 16, 17, 18, 19, 20, 4, 21, 22, 23, 24, 25, 26, 27, 28, 29, 30, 31, 32, 33, 34, 35, 36, 37, 38, 39, 40, 41, 42, 43, 44, 45, 58, 59, 60, 61, 62, 63, 64, 65, 66, 67, 68, 69, 70, 71, 72, 73, 74, 75, 76, 77] (by decide +kernel) (by decide +kernel)
set_option maxRecDepth 20000 in
theorem gX6_reached_X6_heap : GoodIn wsX6_reached (wsV RX6 119 RX6 yX6_heap wsX6_heap) := goodIn_app (goodIn_of _ (by decide +kernel)) ggX6_reached_X6_heap
set_option maxRecDepth 20000 in
theorem ggX6_reached_X6_has : GoodIn wsX6_reached wsX6_has := goodIn_r _ [49, 22, 50, 51, 52, 4, 53, 54, 55, 56, 57, 15, 58, 59, 60, 61, 62, 63, 64, 65, 66, 67, 68, 69, 70, 71, 72, 73, 74, 75, 76, 77] (by decide +kernel) (by decide +kernel)
set_option maxRecDepth 20000 in
theorem gX6_reached_X6_has : GoodIn wsX6_reached (wsV RX6 125 RX6 yX6_has wsX6_has) := goodIn_app (goodIn_of _ (by decide +kernel)) ggX6_reached_X6_has
theorem dX6_reached_0 : decode cX6_reached 0 = .ok (.iload_n 1, 1) := by decide +kernel
theorem dX6_reached_1 : decode cX6_reached 1 = .ok (.ifCond .eq 15, 3) := by decide +kernel
theorem dX6_reached_4 : decode cX6_reached 4 = .ok (.aload_n 0, 1) := by decide +kernel
theorem dX6_reached_5 : decode cX6_reached 5 = .ok (.iload_n 1, 1) := by decide +kernel
theorem dX6_reached_6 : decode cX6_reached 6 = .ok (.invokevirtual 114, 3) := by decide +kernel
theorem dX6_reached_9 : decode cX6_reached 9 = .ok (.ifCond .ne 7, 3) := by decide +kernel
theorem dX6_reached_12 : decode cX6_reached 12 = .ok (.sipush (-1002), 3) := by decide +kernel
theorem dX6_reached_15 : decode cX6_reached 15 = .ok (.ireturn, 1) := by decide +kernel
theorem dX6_reached_16 : decode cX6_reached 16 = .ok (.aload_n 0, 1) := by decide +kernel
theorem dX6_reached_17 : decode cX6_reached 17 = .ok (.invokevirtual 119, 3) := by decide +kernel
theorem dX6_reached_20 : decode cX6_reached 20 = .ok (.iconst 0, 1) := by decide +kernel
theorem dX6_reached_21 : decode cX6_reached 21 = .ok (.istore_n 2, 1) := by decide +kernel
theorem dX6_reached_22 : decode cX6_reached 22 = .ok (.iconst 1, 1) := by decide +kernel
theorem dX6_reached_23 : decode cX6_reached 23 = .ok (.istore_n 3, 1) := by decide +kernel
theorem dX6_reached_24 : decode cX6_reached 24 = .ok (.iload_n 3, 1) := by decide +kernel
theorem dX6_reached_25 : decode cX6_reached 25 = .ok (.sipush 3000, 3) := by decide +kernel
theorem dX6_reached_28 : decode cX6_reached 28 = .ok (.if_icmp .gt 26, 3) := by decide +kernel
theorem dX6_reached_31 : decode cX6_reached 31 = .ok (.iload_n 2, 1) := by decide +kernel
theorem dX6_reached_32 : decode cX6_reached 32 = .ok (.aload_n 0, 1) := by decide +kernel
theorem dX6_reached_33 : decode cX6_reached 33 = .ok (.iload_n 1, 1) := by decide +kernel
theorem dX6_reached_34 : decode cX6_reached 34 = .ok (.iload_n 3, 1) := by decide +kernel
theorem dX6_reached_35 : decode cX6_reached 35 = .ok (.invokevirtual 125, 3) := by decide +kernel
theorem dX6_reached_38 : decode cX6_reached 38 = .ok (.ifCond .eq 7, 3) := by decide +kernel
theorem dX6_reached_41 : decode cX6_reached 41 = .ok (.iconst 1, 1) := by decide +kernel
theorem dX6_reached_42 : decode cX6_reached 42 = .ok (.goto 4, 3) := by decide +kernel
theorem dX6_reached_45 : decode cX6_reached 45 = .ok (.iconst 0, 1) := by decide +kernel
theorem dX6_reached_46 : decode cX6_reached 46 = .ok (.iadd, 1) := by decide +kernel
theorem dX6_reached_47 : decode cX6_reached 47 = .ok (.istore_n 2, 1) := by decide +kernel
theorem dX6_reached_48 : decode cX6_reached 48 = .ok (.iinc 3 1, 3) := by decide +kernel
theorem dX6_reached_51 : decode cX6_reached 51 = .ok (.goto (-27), 3) := by decide +kernel
theorem dX6_reached_54 : decode cX6_reached 54 = .ok (.iload_n 2, 1) := by decide +kernel
theorem dX6_reached_55 : decode cX6_reached 55 = .ok (.ireturn, 1) := by decide +kernel
set_option maxRecDepth 20000 in
theorem ggX6_value_X6_isSet : GoodIn wsX6_value wsX6_isSet := goodIn_r _ [5, 6, 7, 8, 4, 9, 58, 59, 60, 61, 62, 63, 64, 65, 66, 67, 68, 69, 70, 71, 72, 73, 74, 75, 76, 77] (by decide +kernel) (by decide +kernel)
set_option maxRecDepth 20000 in
theorem gX6_value_X6_isSet : GoodIn wsX6_value (wsV RX6 114 RX6 yX6_isSet wsX6_isSet) := goodIn_app (goodIn_of _ (by decide +kernel)) ggX6_value_X6_isSet
set_option maxRecDepth 20000 in
theorem ggX6_value_X6_heap : GoodIn wsX6_value wsX6_heap := goodIn_r _ [13, 14, 6, 15, 16, 17, 18, 19, 20, 4, 21, 22, 23, 24, 25, 26, 27, 28, 29, 30, 31, 32, 33, 34, 35, 36, 37, 38, 39, 40, 41, 42, 43, 44, 45, 58, 59, 60, 61, 62, 63, 64, 65, 66, 67, 68, 69, 70, 71, 72, 73, 74, 75, 76, 77] (by decide +kernel) (by decide +kernel)
set_option maxRecDepth 20000 in
theorem gX6_value_X6_heap : GoodIn wsX6_value (wsV RX6 119 RX6 yX6_heap wsX6_heap) := goodIn_app (goodIn_of _ (by decide +kernel)) ggX6_value_X6_heap
set_option maxRecDepth 20000 in
theorem ggX6_value_X6_has : GoodIn wsX6_value wsX6_has := goodIn_r _ [49, 22, 50, 51, 52, 4, 53, 54, 55, 56, 57, 15, 58, 59, 60, 61, 62, 63, 64, 65, 66, 67, 68, 69, 70, 71, 72, 73, 74, 75, 76, 77] (by decide +kernel) (by decide +kernel)
set_option maxRecDepth 20000 in
theorem gX6_value_X6_has : GoodIn wsX6_value (wsV RX6 125 RX6 yX6_has wsX6_has) := goodIn_app (goodIn_of _ (by decide +kernel)) ggX6_value_X6_has
theorem dX6_value_0 : decode cX6_value 0 = .ok (.iload_n 1, 1) := by decide +kernel
theorem dX6_value_1 : decode cX6_value 1 = .ok (.ifCond .eq 15, 3) := by decide +kernel
theorem dX6_value_4 : decode cX6_value 4 = .ok (.aload_n 0, 1) := by decide +kernel
theorem dX6_value_5 : decode cX6_value 5 = .ok (.iload_n 1, 1) := by decide +kernel
theorem dX6_value_6 : decode cX6_value 6 = .ok (.invokevirtual 114, 3) := by decide +kernel
theorem dX6_value_9 : decode cX6_value 9 = .ok (.ifCond .ne 7, 3) := by decide +kernel
theorem dX6_value_12 : decode cX6_value 12 = .ok (.sipush (-1002), 3) := by decide +kernel
theorem dX6_value_15 : decode cX6_value 15 = .ok (.ireturn, 1) := by decide +kernel
theorem dX6_value_16 : decode cX6_value 16 = .ok (.aload_n 0, 1) := by decide +kernel
theorem dX6_value_17 : decode cX6_value 17 = .ok (.invokevirtual 119, 3) := by decide +kernel
theorem dX6_value_20 : decode cX6_value 20 = .ok (.iconst 0, 1) := by decide +kernel
theorem dX6_value_21 : decode cX6_value 21 = .ok (.istore_n 3, 1) := by decide +kernel
theorem dX6_value_22 : decode cX6_value 22 = .ok (.iconst 1, 1) := by decide +kernel
theorem dX6_value_23 : decode cX6_value 23 = .ok (.istore 4, 2) := by decide +kernel
theorem dX6_value_25 : decode cX6_value 25 = .ok (.iload 4, 2) := by decide +kernel
theorem dX6_value_27 : decode cX6_value 27 = .ok (.sipush 3000, 3) := by decide +kernel
theorem dX6_value_30 : decode cX6_value 30 = .ok (.if_icmp .gt 30, 3) := by decide +kernel
theorem dX6_value_33 : decode cX6_value 33 = .ok (.aload_n 0, 1) := by decide +kernel
theorem dX6_value_34 : decode cX6_value 34 = .ok (.iload_n 1, 1) := by decide +kernel
theorem dX6_value_35 : decode cX6_value 35 = .ok (.iload 4, 2) := by decide +kernel
theorem dX6_value_37 : decode cX6_value 37 = .ok (.invokevirtual 125, 3) := by decide +kernel
theorem dX6_value_40 : decode cX6_value 40 = .ok (.ifCond .eq 14, 3) := by decide +kernel
theorem dX6_value_43 : decode cX6_value 43 = .ok (.iload_n 3, 1) := by decide +kernel
theorem dX6_value_44 : decode cX6_value 44 = .ok (.iload_n 2, 1) := by decide +kernel
theorem dX6_value_45 : decode cX6_value 45 = .ok (.if_icmp .ne 6, 3) := by decide +kernel
theorem dX6_value_48 : decode cX6_value 48 = .ok (.iload 4, 2) := by decide +kernel
theorem dX6_value_50 : decode cX6_value 50 = .ok (.ireturn, 1) := by decide +kernel
theorem dX6_value_51 : decode cX6_value 51 = .ok (.iinc 3 1, 3) := by decide +kernel
theorem dX6_value_54 : decode cX6_value 54 = .ok (.iinc 4 1, 3) := by decide +kernel
theorem dX6_value_57 : decode cX6_value 57 = .ok (.goto (-32), 3) := by decide +kernel
theorem dX6_value_60 : decode cX6_value 60 = .ok (.iconst (-1), 1) := by decide +kernel
theorem dX6_value_61 : decode cX6_value 61 = .ok (.ireturn, 1) := by decide +kernel
set_option maxRecDepth 20000 in
theorem ggX6_missing_X6_heap : GoodIn wsX6_missing wsX6_heap := goodIn_r _ [5, 6, 7, 8, 9, 10, 11, 12, 13, 4, 14, 15, 16, 17, 18, 19, 20, 21, 22, 23, 24, 25, 26, 27, 28, 29, 30, 31, 32, 33, 34, 35, 36, 37, 38, 47, 48, 49, 50, 51, 52, 53, 54, 55, 56, 57, 58, 59, 60, 61, 62, 63, 64, 65, 66] (by decide +kernel) (by decide +kernel)
set_option maxRecDepth 20000 in
theorem gX6_missing_X6_heap : GoodIn wsX6_missing (wsV RX6 119 RX6 yX6_heap wsX6_heap) := goodIn_app (goodIn_of _ (by decide +kernel)) ggX6_missing_X6_heap
set_option maxRecDepth 20000 in
theorem ggX6_missing_X6_isReached : GoodIn wsX6_missing wsX6_isReached := goodIn_r _ [42, 43, 44, 45, 4, 46, 8, 15, 47, 48, 49, 50, 51, 52, 53, 54, 55, 56, 57, 58, 59, 60, 61, 62, 63, 64, 65, 66] (by decide +kernel) (by decide +kernel)
set_option maxRecDepth 20000 in
theorem gX6_missing_X6_isReached : GoodIn wsX6_missing (wsV RX6 122 RX6 yX6_isReached wsX6_isReached) := goodIn_app (goodIn_of _ (by decide +kernel)) ggX6_missing_X6_isReached
theorem dX6_missing_0 : decode cX6_missing 0 = .ok (.aload_n 0, 1) := by decide +kernel
theorem dX6_missing_1 : decode cX6_missing 1 = .ok (.invokevirtual 119, 3) := by decide +kernel
theorem dX6_missing_4 : decode cX6_missing 4 = .ok (.iconst 1, 1) := by decide +kernel
theorem dX6_missing_5 : decode cX6_missing 5 = .ok (.istore_n 1, 1) := by decide +kernel
theorem dX6_missing_6 : decode cX6_missing 6 = .ok (.iload_n 1, 1) := by decide +kernel
theorem dX6_missing_7 : decode cX6_missing 7 = .ok (.sipush 3000, 3) := by decide +kernel
theorem dX6_missing_10 : decode cX6_missing 10 = .ok (.if_icmp .gt 17, 3) := by decide +kernel
theorem dX6_missing_13 : decode cX6_missing 13 = .ok (.aload_n 0, 1) := by decide +kernel
theorem dX6_missing_14 : decode cX6_missing 14 = .ok (.iload_n 1, 1) := by decide +kernel
theorem dX6_missing_15 : decode cX6_missing 15 = .ok (.invokevirtual 122, 3) := by decide +kernel
theorem dX6_missing_18 : decode cX6_missing 18 = .ok (.ifCond .eq 9, 3) := by decide +kernel
theorem dX6_missing_21 : decode cX6_missing 21 = .ok (.iinc 1 1, 3) := by decide +kernel
theorem dX6_missing_24 : decode cX6_missing 24 = .ok (.goto (-18), 3) := by decide +kernel
theorem dX6_missing_27 : decode cX6_missing 27 = .ok (.iload_n 1, 1) := by decide +kernel
theorem dX6_missing_28 : decode cX6_missing 28 = .ok (.ireturn, 1) := by decide +kernel
set_option maxRecDepth 20000 in
theorem ggX6_firstSet_X6_bits : GoodIn wsX6_firstSet wsX6_bits := goodIn_r _ [6] (by decide +kernel) (by decide +kernel)
set_option maxRecDepth 20000 in
theorem gX6_firstSet_X6_bits : GoodIn wsX6_firstSet (va_wsS RX6 99 yX6_bits wsX6_bits) := goodIn_app (goodIn_of _ (by decide +kernel)) ggX6_firstSet_X6_bits
theorem dX6_firstSet_0 : decode cX6_firstSet 0 = .ok (.iconst (-1), 1) := by decide +kernel
theorem dX6_firstSet_1 : decode cX6_firstSet 1 = .ok (.istore_n 2, 1) := by decide +kernel
theorem dX6_firstSet_2 : decode cX6_firstSet 2 = .ok (.iconst 1, 1) := by decide +kernel
theorem dX6_firstSet_3 : decode cX6_firstSet 3 = .ok (.istore_n 3, 1) := by decide +kernel
theorem dX6_firstSet_4 : decode cX6_firstSet 4 = .ok (.iload_n 3, 1) := by decide +kernel
theorem dX6_firstSet_5 : decode cX6_firstSet 5 = .ok (.iconst 1, 1) := by decide +kernel
theorem dX6_firstSet_6 : decode cX6_firstSet 6 = .ok (.aload_n 0, 1) := by decide +kernel
theorem dX6_firstSet_7 : decode cX6_firstSet 7 = .ok (.getfield 96, 3) := by decide +kernel
theorem dX6_firstSet_10 : decode cX6_firstSet 10 = .ok (.ishl, 1) := by decide +kernel
theorem dX6_firstSet_11 : decode cX6_firstSet 11 = .ok (.if_icmp .ge 43, 3) := by decide +kernel
theorem dX6_firstSet_14 : decode cX6_firstSet 14 = .ok (.aload_n 0, 1) := by decide +kernel
theorem dX6_firstSet_15 : decode cX6_firstSet 15 = .ok (.getfield 30, 3) := by decide +kernel
theorem dX6_firstSet_18 : decode cX6_firstSet 18 = .ok (.sipush 3001, 3) := by decide +kernel
theorem dX6_firstSet_21 : decode cX6_firstSet 21 = .ok (.iload_n 3, 1) := by decide +kernel
theorem dX6_firstSet_22 : decode cX6_firstSet 22 = .ok (.imul, 1) := by decide +kernel
theorem dX6_firstSet_23 : decode cX6_firstSet 23 = .ok (.iload_n 1, 1) := by decide +kernel
theorem dX6_firstSet_24 : decode cX6_firstSet 24 = .ok (.iadd, 1) := by decide +kernel
theorem dX6_firstSet_25 : decode cX6_firstSet 25 = .ok (.laload, 1) := by decide +kernel
theorem dX6_firstSet_26 : decode cX6_firstSet 26 = .ok (.lconst 0, 1) := by decide +kernel
theorem dX6_firstSet_27 : decode cX6_firstSet 27 = .ok (.lcmp, 1) := by decide +kernel
theorem dX6_firstSet_28 : decode cX6_firstSet 28 = .ok (.ifCond .le 20, 3) := by decide +kernel
theorem dX6_firstSet_31 : decode cX6_firstSet 31 = .ok (.iload_n 2, 1) := by decide +kernel
theorem dX6_firstSet_32 : decode cX6_firstSet 32 = .ok (.ifCond .lt 14, 3) := by decide +kernel
theorem dX6_firstSet_35 : decode cX6_firstSet 35 = .ok (.iload_n 3, 1) := by decide +kernel
theorem dX6_firstSet_36 : decode cX6_firstSet 36 = .ok (.invokestatic 99, 3) := by decide +kernel
theorem dX6_firstSet_39 : decode cX6_firstSet 39 = .ok (.iload_n 2, 1) := by decide +kernel
theorem dX6_firstSet_40 : decode cX6_firstSet 40 = .ok (.invokestatic 99, 3) := by decide +kernel
theorem dX6_firstSet_43 : decode cX6_firstSet 43 = .ok (.if_icmp .ge 5, 3) := by decide +kernel
theorem dX6_firstSet_46 : decode cX6_firstSet 46 = .ok (.iload_n 3, 1) := by decide +kernel
theorem dX6_firstSet_47 : decode cX6_firstSet 47 = .ok (.istore_n 2, 1) := by decide +kernel
theorem dX6_firstSet_48 : decode cX6_firstSet 48 = .ok (.iinc 3 1, 3) := by decide +kernel
theorem dX6_firstSet_51 : decode cX6_firstSet 51 = .ok (.goto (-47), 3) := by decide +kernel
theorem dX6_firstSet_54 : decode cX6_firstSet 54 = .ok (.iload_n 2, 1) := by decide +kernel
theorem dX6_firstSet_55 : decode cX6_firstSet 55 = .ok (.ireturn, 1) := by decide +kernel
set_option maxRecDepth 20000 in
theorem ggX6_nearest_X6_isReached : GoodIn wsX6_nearest wsX6_isReached := goodIn_r _ [5, 6, 7, 8, 4, 9, 10, 11, 12, 13, 14, 15, 16, 17, 18, 19, 20, 21, 22, 23, 24, 25, 26, 27, 28, 29, 30, 31] (by decide +kernel) (by decide +kernel)
set_option maxRecDepth 20000 in
theorem gX6_nearest_X6_isReached : GoodIn wsX6_nearest (wsV RX6 122 RX6 yX6_isReached wsX6_isReached) := goodIn_app (goodIn_of _ (by decide +kernel)) ggX6_nearest_X6_isReached
theorem dX6_nearest_0 : decode cX6_nearest 0 = .ok (.iconst (-1), 1) := by decide +kernel
theorem dX6_nearest_1 : decode cX6_nearest 1 = .ok (.istore_n 2, 1) := by decide +kernel
theorem dX6_nearest_2 : decode cX6_nearest 2 = .ok (.iconst 0, 1) := by decide +kernel
theorem dX6_nearest_3 : decode cX6_nearest 3 = .ok (.istore_n 3, 1) := by decide +kernel
theorem dX6_nearest_4 : decode cX6_nearest 4 = .ok (.iconst 1, 1) := by decide +kernel
theorem dX6_nearest_5 : decode cX6_nearest 5 = .ok (.istore 4, 2) := by decide +kernel
theorem dX6_nearest_7 : decode cX6_nearest 7 = .ok (.iload 4, 2) := by decide +kernel
theorem dX6_nearest_9 : decode cX6_nearest 9 = .ok (.sipush 3000, 3) := by decide +kernel
theorem dX6_nearest_12 : decode cX6_nearest 12 = .ok (.if_icmp .gt 53, 3) := by decide +kernel
theorem dX6_nearest_15 : decode cX6_nearest 15 = .ok (.iload 4, 2) := by decide +kernel
theorem dX6_nearest_17 : decode cX6_nearest 17 = .ok (.iload_n 1, 1) := by decide +kernel
theorem dX6_nearest_18 : decode cX6_nearest 18 = .ok (.if_icmp .le 10, 3) := by decide +kernel
theorem dX6_nearest_21 : decode cX6_nearest 21 = .ok (.iload 4, 2) := by decide +kernel
theorem dX6_nearest_23 : decode cX6_nearest 23 = .ok (.iload_n 1, 1) := by decide +kernel
theorem dX6_nearest_24 : decode cX6_nearest 24 = .ok (.isub, 1) := by decide +kernel
theorem dX6_nearest_25 : decode cX6_nearest 25 = .ok (.goto 7, 3) := by decide +kernel
theorem dX6_nearest_28 : decode cX6_nearest 28 = .ok (.iload_n 1, 1) := by decide +kernel
theorem dX6_nearest_29 : decode cX6_nearest 29 = .ok (.iload 4, 2) := by decide +kernel
theorem dX6_nearest_31 : decode cX6_nearest 31 = .ok (.isub, 1) := by decide +kernel
theorem dX6_nearest_32 : decode cX6_nearest 32 = .ok (.istore 5, 2) := by decide +kernel
theorem dX6_nearest_34 : decode cX6_nearest 34 = .ok (.aload_n 0, 1) := by decide +kernel
theorem dX6_nearest_35 : decode cX6_nearest 35 = .ok (.iload 4, 2) := by decide +kernel
theorem dX6_nearest_37 : decode cX6_nearest 37 = .ok (.invokevirtual 122, 3) := by decide +kernel
theorem dX6_nearest_40 : decode cX6_nearest 40 = .ok (.ifCond .eq 19, 3) := by decide +kernel
theorem dX6_nearest_43 : decode cX6_nearest 43 = .ok (.iload_n 2, 1) := by decide +kernel
theorem dX6_nearest_44 : decode cX6_nearest 44 = .ok (.ifCond .lt 9, 3) := by decide +kernel
theorem dX6_nearest_47 : decode cX6_nearest 47 = .ok (.iload 5, 2) := by decide +kernel
theorem dX6_nearest_49 : decode cX6_nearest 49 = .ok (.iload_n 3, 1) := by decide +kernel
theorem dX6_nearest_50 : decode cX6_nearest 50 = .ok (.if_icmp .ge 9, 3) := by decide +kernel
theorem dX6_nearest_53 : decode cX6_nearest 53 = .ok (.iload 4, 2) := by decide +kernel
theorem dX6_nearest_55 : decode cX6_nearest 55 = .ok (.istore_n 2, 1) := by decide +kernel
theorem dX6_nearest_56 : decode cX6_nearest 56 = .ok (.iload 5, 2) := by decide +kernel
theorem dX6_nearest_58 : decode cX6_nearest 58 = .ok (.istore_n 3, 1) := by decide +kernel
theorem dX6_nearest_59 : decode cX6_nearest 59 = .ok (.iinc 4 1, 3) := by decide +kernel
theorem dX6_nearest_62 : decode cX6_nearest 62 = .ok (.goto (-55), 3) := by decide +kernel
theorem dX6_nearest_65 : decode cX6_nearest 65 = .ok (.iload_n 2, 1) := by decide +kernel
theorem dX6_nearest_66 : decode cX6_nearest 66 = .ok (.ireturn, 1) := by decide +kernel
set_option maxRecDepth 20000 in
theorem ggX6_aim_X6_in : GoodIn wsX6_aim wsX6_in := goodIn_r _ [6] (by decide +kernel) (by decide +kernel)
set_option maxRecDepth 20000 in
theorem gX6_aim_X6_in : GoodIn wsX6_aim (va_wsS RX6 57 yX6_in wsX6_in) := goodIn_app (goodIn_of _ (by decide +kernel)) ggX6_aim_X6_in
set_option maxRecDepth 20000 in
theorem ggX6_aim_X6_heap : GoodIn wsX6_aim wsX6_heap := goodIn_r _ [10, 11, 12, 13, 14, 15, 16, 17, 18, 5, 19, 20, 21, 22, 23, 24, 25, 26, 27, 28, 29, 30, 31, 32, 33, 34, 35, 36, 37, 38, 39, 40, 41, 42, 43, 60, 61, 62, 63, 64, 65, 66, 67, 68, 69, 70, 71, 72, 73, 74, 75, 76, 77, 78, 79] (by decide +kernel) (by decide +kernel)
set_option maxRecDepth 20000 in
theorem gX6_aim_X6_heap : GoodIn wsX6_aim (wsV RX6 119 RX6 yX6_heap wsX6_heap) := goodIn_app (goodIn_of _ (by decide +kernel)) ggX6_aim_X6_heap
set_option maxRecDepth 20000 in
theorem ggX6_aim_X6_firstSet : GoodIn wsX6_aim wsX6_firstSet := goodIn_r _ [47, 13, 20, 21, 22, 5, 23, 60, 61, 62, 63, 64, 65, 66, 67, 68, 69, 70, 71, 72, 73, 74, 75, 76, 77, 78, 79] (by decide +kernel) (by decide +kernel)
set_option maxRecDepth 20000 in
theorem gX6_aim_X6_firstSet : GoodIn wsX6_aim (wsV RX6 131 RX6 yX6_firstSet wsX6_firstSet) := goodIn_app (goodIn_of _ (by decide +kernel)) ggX6_aim_X6_firstSet
set_option maxRecDepth 20000 in
theorem ggX6_aim_X6_bits : GoodIn wsX6_aim wsX6_bits := goodIn_r _ [23] (by decide +kernel) (by decide +kernel)
set_option maxRecDepth 20000 in
theorem gX6_aim_X6_bits : GoodIn wsX6_aim (va_wsS RX6 99 yX6_bits wsX6_bits) := goodIn_app (goodIn_of _ (by decide +kernel)) ggX6_aim_X6_bits
set_option maxRecDepth 20000 in
theorem ggX6_aim_X6_nearest : GoodIn wsX6_aim wsX6_nearest := goodIn_r _ [51, 52, 53, 54, 5, 55, 56, 57, 58, 59, 13, 20, 60, 61, 62, 63, 64, 65, 66, 67, 68, 69, 70, 71, 72, 73, 74, 75, 76, 77, 78, 79] (by decide +kernel) (by decide +kernel)
set_option maxRecDepth 20000 in
theorem gX6_aim_X6_nearest : GoodIn wsX6_aim (wsV RX6 134 RX6 yX6_nearest wsX6_nearest) := goodIn_app (goodIn_of _ (by decide +kernel)) ggX6_aim_X6_nearest
theorem dX6_aim_0 : decode cX6_aim 0 = .ok (.iload_n 1, 1) := by decide +kernel
theorem dX6_aim_1 : decode cX6_aim 1 = .ok (.i2l, 1) := by decide +kernel
theorem dX6_aim_2 : decode cX6_aim 2 = .ok (.lconst 1, 1) := by decide +kernel
theorem dX6_aim_3 : decode cX6_aim 3 = .ok (.ldc2_w 70, 3) := by decide +kernel
theorem dX6_aim_6 : decode cX6_aim 6 = .ok (.invokestatic 57, 3) := by decide +kernel
theorem dX6_aim_9 : decode cX6_aim 9 = .ok (.ifCond .eq 15, 3) := by decide +kernel
theorem dX6_aim_12 : decode cX6_aim 12 = .ok (.iload_n 2, 1) := by decide +kernel
theorem dX6_aim_13 : decode cX6_aim 13 = .ok (.i2l, 1) := by decide +kernel
theorem dX6_aim_14 : decode cX6_aim 14 = .ok (.lconst 0, 1) := by decide +kernel
theorem dX6_aim_15 : decode cX6_aim 15 = .ok (.ldc2_w 129, 3) := by decide +kernel
theorem dX6_aim_18 : decode cX6_aim 18 = .ok (.invokestatic 57, 3) := by decide +kernel
theorem dX6_aim_21 : decode cX6_aim 21 = .ok (.ifCond .ne 7, 3) := by decide +kernel
theorem dX6_aim_24 : decode cX6_aim 24 = .ok (.sipush (-1002), 3) := by decide +kernel
theorem dX6_aim_27 : decode cX6_aim 27 = .ok (.ireturn, 1) := by decide +kernel
theorem dX6_aim_28 : decode cX6_aim 28 = .ok (.aload_n 0, 1) := by decide +kernel
theorem dX6_aim_29 : decode cX6_aim 29 = .ok (.invokevirtual 119, 3) := by decide +kernel
theorem dX6_aim_32 : decode cX6_aim 32 = .ok (.aload_n 0, 1) := by decide +kernel
theorem dX6_aim_33 : decode cX6_aim 33 = .ok (.iload_n 1, 1) := by decide +kernel
theorem dX6_aim_34 : decode cX6_aim 34 = .ok (.invokevirtual 131, 3) := by decide +kernel
theorem dX6_aim_37 : decode cX6_aim 37 = .ok (.istore_n 3, 1) := by decide +kernel
theorem dX6_aim_38 : decode cX6_aim 38 = .ok (.iload_n 2, 1) := by decide +kernel
theorem dX6_aim_39 : decode cX6_aim 39 = .ok (.tableswitch 50 0 2 #[25, 35, 48], 25) := by decide +kernel
theorem dX6_aim_64 : decode cX6_aim 64 = .ok (.iload_n 3, 1) := by decide +kernel
theorem dX6_aim_65 : decode cX6_aim 65 = .ok (.ifCond .lt 7, 3) := by decide +kernel
theorem dX6_aim_68 : decode cX6_aim 68 = .ok (.iconst 1, 1) := by decide +kernel
theorem dX6_aim_69 : decode cX6_aim 69 = .ok (.goto 4, 3) := by decide +kernel
theorem dX6_aim_72 : decode cX6_aim 72 = .ok (.iconst 0, 1) := by decide +kernel
theorem dX6_aim_73 : decode cX6_aim 73 = .ok (.ireturn, 1) := by decide +kernel
theorem dX6_aim_74 : decode cX6_aim 74 = .ok (.iload_n 3, 1) := by decide +kernel
theorem dX6_aim_75 : decode cX6_aim 75 = .ok (.ifCond .lt 10, 3) := by decide +kernel
theorem dX6_aim_78 : decode cX6_aim 78 = .ok (.iload_n 3, 1) := by decide +kernel
theorem dX6_aim_79 : decode cX6_aim 79 = .ok (.invokestatic 99, 3) := by decide +kernel
theorem dX6_aim_82 : decode cX6_aim 82 = .ok (.goto 4, 3) := by decide +kernel
theorem dX6_aim_85 : decode cX6_aim 85 = .ok (.iconst (-1), 1) := by decide +kernel
theorem dX6_aim_86 : decode cX6_aim 86 = .ok (.ireturn, 1) := by decide +kernel
theorem dX6_aim_87 : decode cX6_aim 87 = .ok (.iload_n 3, 1) := by decide +kernel
theorem dX6_aim_88 : decode cX6_aim 88 = .ok (.ireturn, 1) := by decide +kernel
theorem dX6_aim_89 : decode cX6_aim 89 = .ok (.aload_n 0, 1) := by decide +kernel
theorem dX6_aim_90 : decode cX6_aim 90 = .ok (.iload_n 1, 1) := by decide +kernel
theorem dX6_aim_91 : decode cX6_aim 91 = .ok (.invokevirtual 134, 3) := by decide +kernel
theorem dX6_aim_94 : decode cX6_aim 94 = .ok (.ireturn, 1) := by decide +kernel
theorem dX6_later_0 : decode cX6_later 0 = .ok (.aload_n 0, 1) := by decide +kernel
theorem dX6_later_1 : decode cX6_later 1 = .ok (.getfield 40, 3) := by decide +kernel
theorem dX6_later_4 : decode cX6_later 4 = .ok (.aload_n 0, 1) := by decide +kernel
theorem dX6_later_5 : decode cX6_later 5 = .ok (.getfield 137, 3) := by decide +kernel
theorem dX6_later_8 : decode cX6_later 8 = .ok (.iload_n 1, 1) := by decide +kernel
theorem dX6_later_9 : decode cX6_later 9 = .ok (.iastore, 1) := by decide +kernel
theorem dX6_later_10 : decode cX6_later 10 = .ok (.aload_n 0, 1) := by decide +kernel
theorem dX6_later_11 : decode cX6_later 11 = .ok (.getfield 43, 3) := by decide +kernel
theorem dX6_later_14 : decode cX6_later 14 = .ok (.aload_n 0, 1) := by decide +kernel
theorem dX6_later_15 : decode cX6_later 15 = .ok (.getfield 137, 3) := by decide +kernel
theorem dX6_later_18 : decode cX6_later 18 = .ok (.iload_n 2, 1) := by decide +kernel
theorem dX6_later_19 : decode cX6_later 19 = .ok (.iastore, 1) := by decide +kernel
theorem dX6_later_20 : decode cX6_later 20 = .ok (.aload_n 0, 1) := by decide +kernel
theorem dX6_later_21 : decode cX6_later 21 = .ok (.dup, 1) := by decide +kernel
theorem dX6_later_22 : decode cX6_later 22 = .ok (.getfield 137, 3) := by decide +kernel
theorem dX6_later_25 : decode cX6_later 25 = .ok (.iconst 1, 1) := by decide +kernel
theorem dX6_later_26 : decode cX6_later 26 = .ok (.iadd, 1) := by decide +kernel
theorem dX6_later_27 : decode cX6_later 27 = .ok (.putfield 137, 3) := by decide +kernel
theorem dX6_later_30 : decode cX6_later 30 = .ok (.return_, 1) := by decide +kernel
theorem dX6_put_0 : decode cX6_put 0 = .ok (.aload_n 0, 1) := by decide +kernel
theorem dX6_put_1 : decode cX6_put 1 = .ok (.getfield 23, 3) := by decide +kernel
theorem dX6_put_4 : decode cX6_put 4 = .ok (.aload_n 0, 1) := by decide +kernel
theorem dX6_put_5 : decode cX6_put 5 = .ok (.getfield 81, 3) := by decide +kernel
theorem dX6_put_8 : decode cX6_put 8 = .ok (.iload_n 1, 1) := by decide +kernel
theorem dX6_put_9 : decode cX6_put 9 = .ok (.iastore, 1) := by decide +kernel
theorem dX6_put_10 : decode cX6_put 10 = .ok (.aload_n 0, 1) := by decide +kernel
theorem dX6_put_11 : decode cX6_put 11 = .ok (.dup, 1) := by decide +kernel
theorem dX6_put_12 : decode cX6_put 12 = .ok (.getfield 81, 3) := by decide +kernel
theorem dX6_put_15 : decode cX6_put 15 = .ok (.iconst 1, 1) := by decide +kernel
theorem dX6_put_16 : decode cX6_put 16 = .ok (.iadd, 1) := by decide +kernel
theorem dX6_put_17 : decode cX6_put 17 = .ok (.putfield 81, 3) := by decide +kernel
theorem dX6_put_20 : decode cX6_put 20 = .ok (.return_, 1) := by decide +kernel
set_option maxRecDepth 20000 in
theorem ggX6_putNumber_X6_put : GoodIn wsX6_putNumber wsX6_put := goodIn_r _ [5, 6, 7, 8, 9, 10, 11, 12, 13, 14, 15, 16, 17, 18, 19, 20, 21, 22, 23, 24, 25, 26, 27] (by decide +kernel) (by decide +kernel)
set_option maxRecDepth 20000 in
theorem gX6_putNumber_X6_put : GoodIn wsX6_putNumber (wsV RX6 140 RX6 yX6_put wsX6_put) := goodIn_app (goodIn_of _ (by decide +kernel)) ggX6_putNumber_X6_put
theorem dX6_putNumber_0 : decode cX6_putNumber 0 = .ok (.iload_n 1, 1) := by decide +kernel
theorem dX6_putNumber_1 : decode cX6_putNumber 1 = .ok (.bipush 99, 2) := by decide +kernel
theorem dX6_putNumber_3 : decode cX6_putNumber 3 = .ok (.if_icmp .le 14, 3) := by decide +kernel
theorem dX6_putNumber_6 : decode cX6_putNumber 6 = .ok (.aload_n 0, 1) := by decide +kernel
theorem dX6_putNumber_7 : decode cX6_putNumber 7 = .ok (.bipush 48, 2) := by decide +kernel
theorem dX6_putNumber_9 : decode cX6_putNumber 9 = .ok (.iload_n 1, 1) := by decide +kernel
theorem dX6_putNumber_10 : decode cX6_putNumber 10 = .ok (.bipush 100, 2) := by decide +kernel
theorem dX6_putNumber_12 : decode cX6_putNumber 12 = .ok (.idiv, 1) := by decide +kernel
theorem dX6_putNumber_13 : decode cX6_putNumber 13 = .ok (.iadd, 1) := by decide +kernel
theorem dX6_putNumber_14 : decode cX6_putNumber 14 = .ok (.invokevirtual 140, 3) := by decide +kernel
theorem dX6_putNumber_17 : decode cX6_putNumber 17 = .ok (.iload_n 1, 1) := by decide +kernel
theorem dX6_putNumber_18 : decode cX6_putNumber 18 = .ok (.bipush 9, 2) := by decide +kernel
theorem dX6_putNumber_20 : decode cX6_putNumber 20 = .ok (.if_icmp .le 17, 3) := by decide +kernel
theorem dX6_putNumber_23 : decode cX6_putNumber 23 = .ok (.aload_n 0, 1) := by decide +kernel
theorem dX6_putNumber_24 : decode cX6_putNumber 24 = .ok (.bipush 48, 2) := by decide +kernel
theorem dX6_putNumber_26 : decode cX6_putNumber 26 = .ok (.iload_n 1, 1) := by decide +kernel
theorem dX6_putNumber_27 : decode cX6_putNumber 27 = .ok (.bipush 10, 2) := by decide +kernel
theorem dX6_putNumber_29 : decode cX6_putNumber 29 = .ok (.idiv, 1) := by decide +kernel
theorem dX6_putNumber_30 : decode cX6_putNumber 30 = .ok (.bipush 10, 2) := by decide +kernel
theorem dX6_putNumber_32 : decode cX6_putNumber 32 = .ok (.irem, 1) := by decide +kernel
theorem dX6_putNumber_33 : decode cX6_putNumber 33 = .ok (.iadd, 1) := by decide +kernel
theorem dX6_putNumber_34 : decode cX6_putNumber 34 = .ok (.invokevirtual 140, 3) := by decide +kernel
theorem dX6_putNumber_37 : decode cX6_putNumber 37 = .ok (.aload_n 0, 1) := by decide +kernel
theorem dX6_putNumber_38 : decode cX6_putNumber 38 = .ok (.bipush 48, 2) := by decide +kernel
theorem dX6_putNumber_40 : decode cX6_putNumber 40 = .ok (.iload_n 1, 1) := by decide +kernel
theorem dX6_putNumber_41 : decode cX6_putNumber 41 = .ok (.bipush 10, 2) := by decide +kernel
theorem dX6_putNumber_43 : decode cX6_putNumber 43 = .ok (.irem, 1) := by decide +kernel
theorem dX6_putNumber_44 : decode cX6_putNumber 44 = .ok (.iadd, 1) := by decide +kernel
theorem dX6_putNumber_45 : decode cX6_putNumber 45 = .ok (.invokevirtual 140, 3) := by decide +kernel
theorem dX6_putNumber_48 : decode cX6_putNumber 48 = .ok (.return_, 1) := by decide +kernel
theorem dX6_other_0 : decode cX6_other 0 = .ok (.iload_n 1, 1) := by decide +kernel
theorem dX6_other_1 : decode cX6_other 1 = .ok (.tableswitch 67 0 2 #[27, 40, 53], 27) := by decide +kernel
theorem dX6_other_28 : decode cX6_other 28 = .ok (.iload_n 3, 1) := by decide +kernel
theorem dX6_other_29 : decode cX6_other 29 = .ok (.iload_n 2, 1) := by decide +kernel
theorem dX6_other_30 : decode cX6_other 30 = .ok (.if_icmp .le 9, 3) := by decide +kernel
theorem dX6_other_33 : decode cX6_other 33 = .ok (.iload_n 3, 1) := by decide +kernel
theorem dX6_other_34 : decode cX6_other 34 = .ok (.iload_n 2, 1) := by decide +kernel
theorem dX6_other_35 : decode cX6_other 35 = .ok (.isub, 1) := by decide +kernel
theorem dX6_other_36 : decode cX6_other 36 = .ok (.goto 4, 3) := by decide +kernel
theorem dX6_other_39 : decode cX6_other 39 = .ok (.iconst (-1), 1) := by decide +kernel
theorem dX6_other_40 : decode cX6_other 40 = .ok (.ireturn, 1) := by decide +kernel
theorem dX6_other_41 : decode cX6_other 41 = .ok (.iload_n 2, 1) := by decide +kernel
theorem dX6_other_42 : decode cX6_other 42 = .ok (.iload_n 3, 1) := by decide +kernel
theorem dX6_other_43 : decode cX6_other 43 = .ok (.if_icmp .le 9, 3) := by decide +kernel
theorem dX6_other_46 : decode cX6_other 46 = .ok (.iload_n 2, 1) := by decide +kernel
theorem dX6_other_47 : decode cX6_other 47 = .ok (.iload_n 3, 1) := by decide +kernel
theorem dX6_other_48 : decode cX6_other 48 = .ok (.isub, 1) := by decide +kernel
theorem dX6_other_49 : decode cX6_other 49 = .ok (.goto 4, 3) := by decide +kernel
theorem dX6_other_52 : decode cX6_other 52 = .ok (.iconst (-1), 1) := by decide +kernel
theorem dX6_other_53 : decode cX6_other 53 = .ok (.ireturn, 1) := by decide +kernel
theorem dX6_other_54 : decode cX6_other 54 = .ok (.iload_n 3, 1) := by decide +kernel
theorem dX6_other_55 : decode cX6_other 55 = .ok (.iload_n 2, 1) := by decide +kernel
theorem dX6_other_56 : decode cX6_other 56 = .ok (.irem, 1) := by decide +kernel
theorem dX6_other_57 : decode cX6_other 57 = .ok (.ifCond .ne 9, 3) := by decide +kernel
theorem dX6_other_60 : decode cX6_other 60 = .ok (.iload_n 3, 1) := by decide +kernel
theorem dX6_other_61 : decode cX6_other 61 = .ok (.iload_n 2, 1) := by decide +kernel
theorem dX6_other_62 : decode cX6_other 62 = .ok (.idiv, 1) := by decide +kernel
theorem dX6_other_63 : decode cX6_other 63 = .ok (.goto 4, 3) := by decide +kernel
theorem dX6_other_66 : decode cX6_other 66 = .ok (.iconst (-1), 1) := by decide +kernel
theorem dX6_other_67 : decode cX6_other 67 = .ok (.ireturn, 1) := by decide +kernel
theorem dX6_other_68 : decode cX6_other 68 = .ok (.iload_n 2, 1) := by decide +kernel
theorem dX6_other_69 : decode cX6_other 69 = .ok (.iload_n 3, 1) := by decide +kernel
theorem dX6_other_70 : decode cX6_other 70 = .ok (.irem, 1) := by decide +kernel
theorem dX6_other_71 : decode cX6_other 71 = .ok (.ifCond .ne 9, 3) := by decide +kernel
theorem dX6_other_74 : decode cX6_other 74 = .ok (.iload_n 2, 1) := by decide +kernel
theorem dX6_other_75 : decode cX6_other 75 = .ok (.iload_n 3, 1) := by decide +kernel
theorem dX6_other_76 : decode cX6_other 76 = .ok (.idiv, 1) := by decide +kernel
theorem dX6_other_77 : decode cX6_other 77 = .ok (.goto 4, 3) := by decide +kernel
theorem dX6_other_80 : decode cX6_other 80 = .ok (.iconst (-1), 1) := by decide +kernel
theorem dX6_other_81 : decode cX6_other 81 = .ok (.ireturn, 1) := by decide +kernel
theorem dX6_signOf_0 : decode cX6_signOf 0 = .ok (.iload_n 0, 1) := by decide +kernel
theorem dX6_signOf_1 : decode cX6_signOf 1 = .ok (.ifCond .ne 8, 3) := by decide +kernel
theorem dX6_signOf_4 : decode cX6_signOf 4 = .ok (.bipush 43, 2) := by decide +kernel
theorem dX6_signOf_6 : decode cX6_signOf 6 = .ok (.goto 25, 3) := by decide +kernel
theorem dX6_signOf_9 : decode cX6_signOf 9 = .ok (.iload_n 0, 1) := by decide +kernel
theorem dX6_signOf_10 : decode cX6_signOf 10 = .ok (.iconst 1, 1) := by decide +kernel
theorem dX6_signOf_11 : decode cX6_signOf 11 = .ok (.if_icmp .ne 8, 3) := by decide +kernel
theorem dX6_signOf_14 : decode cX6_signOf 14 = .ok (.bipush 45, 2) := by decide +kernel
theorem dX6_signOf_16 : decode cX6_signOf 16 = .ok (.goto 15, 3) := by decide +kernel
theorem dX6_signOf_19 : decode cX6_signOf 19 = .ok (.iload_n 0, 1) := by decide +kernel
theorem dX6_signOf_20 : decode cX6_signOf 20 = .ok (.iconst 2, 1) := by decide +kernel
theorem dX6_signOf_21 : decode cX6_signOf 21 = .ok (.if_icmp .ne 8, 3) := by decide +kernel
theorem dX6_signOf_24 : decode cX6_signOf 24 = .ok (.bipush 42, 2) := by decide +kernel
theorem dX6_signOf_26 : decode cX6_signOf 26 = .ok (.goto 5, 3) := by decide +kernel
theorem dX6_signOf_29 : decode cX6_signOf 29 = .ok (.bipush 47, 2) := by decide +kernel
theorem dX6_signOf_31 : decode cX6_signOf 31 = .ok (.ireturn, 1) := by decide +kernel
set_option maxRecDepth 20000 in
theorem ggX6_part_X6_may : GoodIn wsX6_part wsX6_may := goodIn_r _ [6, 7, 28, 29, 30, 31, 32, 33, 34, 35, 36, 37, 38, 39, 40, 41, 42, 43, 44, 45, 46, 47] (by decide +kernel) (by decide +kernel)
set_option maxRecDepth 20000 in
theorem gX6_part_X6_may : GoodIn wsX6_part (wsV RX6 88 RX6 yX6_may wsX6_may) := goodIn_app (goodIn_of _ (by decide +kernel)) ggX6_part_X6_may
set_option maxRecDepth 20000 in
theorem ggX6_part_X6_other : GoodIn wsX6_part wsX6_other := goodIn_r _ [11] (by decide +kernel) (by decide +kernel)
set_option maxRecDepth 20000 in
theorem gX6_part_X6_other : GoodIn wsX6_part (wsV RX6 144 RX6 yX6_other wsX6_other) := goodIn_app (goodIn_of _ (by decide +kernel)) ggX6_part_X6_other
set_option maxRecDepth 20000 in
theorem ggX6_part_X6_later : GoodIn wsX6_part wsX6_later := goodIn_r _ [15, 16, 17, 18, 28, 29, 30, 31, 32, 33, 34, 35, 36, 37, 38, 39, 40, 41, 42, 43, 44, 45, 46, 47] (by decide +kernel) (by decide +kernel)
set_option maxRecDepth 20000 in
theorem gX6_part_X6_later : GoodIn wsX6_part (wsV RX6 148 RX6 yX6_later wsX6_later) := goodIn_app (goodIn_of _ (by decide +kernel)) ggX6_part_X6_later
set_option maxRecDepth 20000 in
theorem ggX6_part_X6_signOf : GoodIn wsX6_part wsX6_signOf := goodIn_r _ [21] (by decide +kernel) (by decide +kernel)
set_option maxRecDepth 20000 in
theorem gX6_part_X6_signOf : GoodIn wsX6_part (va_wsS RX6 151 yX6_signOf wsX6_signOf) := goodIn_app (goodIn_of _ (by decide +kernel)) ggX6_part_X6_signOf
set_option maxRecDepth 20000 in
theorem ggX6_part_X6_put : GoodIn wsX6_part wsX6_put := goodIn_r _ [25, 26, 27, 28, 29, 30, 31, 32, 33, 34, 35, 36, 37, 38, 39, 40, 41, 42, 43, 44, 45, 46, 47] (by decide +kernel) (by decide +kernel)
set_option maxRecDepth 20000 in
theorem gX6_part_X6_put : GoodIn wsX6_part (wsV RX6 140 RX6 yX6_put wsX6_put) := goodIn_app (goodIn_of _ (by decide +kernel)) ggX6_part_X6_put
theorem dX6_part_0 : decode cX6_part 0 = .ok (.iconst 1, 1) := by decide +kernel
theorem dX6_part_1 : decode cX6_part 1 = .ok (.istore_n 3, 1) := by decide +kernel
theorem dX6_part_2 : decode cX6_part 2 = .ok (.iload_n 3, 1) := by decide +kernel
theorem dX6_part_3 : decode cX6_part 3 = .ok (.iload_n 1, 1) := by decide +kernel
theorem dX6_part_4 : decode cX6_part 4 = .ok (.if_icmp .ge 205, 3) := by decide +kernel
theorem dX6_part_7 : decode cX6_part 7 = .ok (.iload_n 3, 1) := by decide +kernel
theorem dX6_part_8 : decode cX6_part 8 = .ok (.iload_n 1, 1) := by decide +kernel
theorem dX6_part_9 : decode cX6_part 9 = .ok (.iand, 1) := by decide +kernel
theorem dX6_part_10 : decode cX6_part 10 = .ok (.iload_n 1, 1) := by decide +kernel
theorem dX6_part_11 : decode cX6_part 11 = .ok (.ineg, 1) := by decide +kernel
theorem dX6_part_12 : decode cX6_part 12 = .ok (.iand, 1) := by decide +kernel
theorem dX6_part_13 : decode cX6_part 13 = .ok (.ifCond .eq 7, 3) := by decide +kernel
theorem dX6_part_16 : decode cX6_part 16 = .ok (.iconst 1, 1) := by decide +kernel
theorem dX6_part_17 : decode cX6_part 17 = .ok (.goto 4, 3) := by decide +kernel
theorem dX6_part_20 : decode cX6_part 20 = .ok (.iconst 0, 1) := by decide +kernel
theorem dX6_part_21 : decode cX6_part 21 = .ok (.istore 4, 2) := by decide +kernel
theorem dX6_part_23 : decode cX6_part 23 = .ok (.iconst 0, 1) := by decide +kernel
theorem dX6_part_24 : decode cX6_part 24 = .ok (.istore 5, 2) := by decide +kernel
theorem dX6_part_26 : decode cX6_part 26 = .ok (.iload 5, 2) := by decide +kernel
theorem dX6_part_28 : decode cX6_part 28 = .ok (.iconst 4, 1) := by decide +kernel
theorem dX6_part_29 : decode cX6_part 29 = .ok (.if_icmp .ge 174, 3) := by decide +kernel
theorem dX6_part_32 : decode cX6_part 32 = .ok (.iload_n 3, 1) := by decide +kernel
theorem dX6_part_33 : decode cX6_part 33 = .ok (.iload_n 1, 1) := by decide +kernel
theorem dX6_part_34 : decode cX6_part 34 = .ok (.iconst (-1), 1) := by decide +kernel
theorem dX6_part_35 : decode cX6_part 35 = .ok (.ixor, 1) := by decide +kernel
theorem dX6_part_36 : decode cX6_part 36 = .ok (.iand, 1) := by decide +kernel
theorem dX6_part_37 : decode cX6_part 37 = .ok (.ifCond .ne 166, 3) := by decide +kernel
theorem dX6_part_40 : decode cX6_part 40 = .ok (.aload_n 0, 1) := by decide +kernel
theorem dX6_part_41 : decode cX6_part 41 = .ok (.iload 5, 2) := by decide +kernel
theorem dX6_part_43 : decode cX6_part 43 = .ok (.invokevirtual 88, 3) := by decide +kernel
theorem dX6_part_46 : decode cX6_part 46 = .ok (.ifCond .eq 24, 3) := by decide +kernel
theorem dX6_part_49 : decode cX6_part 49 = .ok (.iload 4, 2) := by decide +kernel
theorem dX6_part_51 : decode cX6_part 51 = .ok (.ifCond .ne 15, 3) := by decide +kernel
theorem dX6_part_54 : decode cX6_part 54 = .ok (.iload 5, 2) := by decide +kernel
theorem dX6_part_56 : decode cX6_part 56 = .ok (.iconst 1, 1) := by decide +kernel
theorem dX6_part_57 : decode cX6_part 57 = .ok (.if_icmp .eq 9, 3) := by decide +kernel
theorem dX6_part_60 : decode cX6_part 60 = .ok (.iload 5, 2) := by decide +kernel
theorem dX6_part_62 : decode cX6_part 62 = .ok (.iconst 3, 1) := by decide +kernel
theorem dX6_part_63 : decode cX6_part 63 = .ok (.if_icmp .ne 7, 3) := by decide +kernel
theorem dX6_part_66 : decode cX6_part 66 = .ok (.iconst 1, 1) := by decide +kernel
theorem dX6_part_67 : decode cX6_part 67 = .ok (.goto 4, 3) := by decide +kernel
theorem dX6_part_70 : decode cX6_part 70 = .ok (.iconst 0, 1) := by decide +kernel
theorem dX6_part_71 : decode cX6_part 71 = .ok (.istore 6, 2) := by decide +kernel
theorem dX6_part_73 : decode cX6_part 73 = .ok (.iconst 1, 1) := by decide +kernel
theorem dX6_part_74 : decode cX6_part 74 = .ok (.istore 7, 2) := by decide +kernel
theorem dX6_part_76 : decode cX6_part 76 = .ok (.iload 7, 2) := by decide +kernel
