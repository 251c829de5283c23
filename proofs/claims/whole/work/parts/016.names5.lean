theorem dX6_part_78 : decode cX6_part 78 = .ok (.sipush 3000, 3) := by decide +kernel
theorem dX6_part_81 : decode cX6_part 81 = .ok (.if_icmp .gt 116, 3) := by decide +kernel
theorem dX6_part_84 : decode cX6_part 84 = .ok (.iload 6, 2) := by decide +kernel
theorem dX6_part_86 : decode cX6_part 86 = .ok (.ifCond .eq 111, 3) := by decide +kernel
theorem dX6_part_89 : decode cX6_part 89 = .ok (.aload_n 0, 1) := by decide +kernel
theorem dX6_part_90 : decode cX6_part 90 = .ok (.getfield 30, 3) := by decide +kernel
theorem dX6_part_93 : decode cX6_part 93 = .ok (.sipush 3001, 3) := by decide +kernel
theorem dX6_part_96 : decode cX6_part 96 = .ok (.iload_n 3, 1) := by decide +kernel
theorem dX6_part_97 : decode cX6_part 97 = .ok (.imul, 1) := by decide +kernel
theorem dX6_part_98 : decode cX6_part 98 = .ok (.iload 7, 2) := by decide +kernel
theorem dX6_part_100 : decode cX6_part 100 = .ok (.iadd, 1) := by decide +kernel
theorem dX6_part_101 : decode cX6_part 101 = .ok (.laload, 1) := by decide +kernel
theorem dX6_part_102 : decode cX6_part 102 = .ok (.lconst 0, 1) := by decide +kernel
theorem dX6_part_103 : decode cX6_part 103 = .ok (.lcmp, 1) := by decide +kernel
theorem dX6_part_104 : decode cX6_part 104 = .ok (.ifCond .le 15, 3) := by decide +kernel
theorem dX6_part_107 : decode cX6_part 107 = .ok (.aload_n 0, 1) := by decide +kernel
theorem dX6_part_108 : decode cX6_part 108 = .ok (.iload 5, 2) := by decide +kernel
theorem dX6_part_110 : decode cX6_part 110 = .ok (.iload 7, 2) := by decide +kernel
theorem dX6_part_112 : decode cX6_part 112 = .ok (.iload_n 2, 1) := by decide +kernel
theorem dX6_part_113 : decode cX6_part 113 = .ok (.invokevirtual 144, 3) := by decide +kernel
theorem dX6_part_116 : decode cX6_part 116 = .ok (.goto 4, 3) := by decide +kernel
theorem dX6_part_119 : decode cX6_part 119 = .ok (.iconst (-1), 1) := by decide +kernel
theorem dX6_part_120 : decode cX6_part 120 = .ok (.istore 8, 2) := by decide +kernel
theorem dX6_part_122 : decode cX6_part 122 = .ok (.iload 8, 2) := by decide +kernel
theorem dX6_part_124 : decode cX6_part 124 = .ok (.ifCond .le 67, 3) := by decide +kernel
theorem dX6_part_127 : decode cX6_part 127 = .ok (.aload_n 0, 1) := by decide +kernel
theorem dX6_part_128 : decode cX6_part 128 = .ok (.getfield 30, 3) := by decide +kernel
theorem dX6_part_131 : decode cX6_part 131 = .ok (.sipush 3001, 3) := by decide +kernel
theorem dX6_part_134 : decode cX6_part 134 = .ok (.iload_n 1, 1) := by decide +kernel
theorem dX6_part_135 : decode cX6_part 135 = .ok (.iload_n 3, 1) := by decide +kernel
theorem dX6_part_136 : decode cX6_part 136 = .ok (.iconst (-1), 1) := by decide +kernel
theorem dX6_part_137 : decode cX6_part 137 = .ok (.ixor, 1) := by decide +kernel
theorem dX6_part_138 : decode cX6_part 138 = .ok (.iand, 1) := by decide +kernel
theorem dX6_part_139 : decode cX6_part 139 = .ok (.imul, 1) := by decide +kernel
theorem dX6_part_140 : decode cX6_part 140 = .ok (.iload 8, 2) := by decide +kernel
theorem dX6_part_142 : decode cX6_part 142 = .ok (.iadd, 1) := by decide +kernel
theorem dX6_part_143 : decode cX6_part 143 = .ok (.laload, 1) := by decide +kernel
theorem dX6_part_144 : decode cX6_part 144 = .ok (.lconst 0, 1) := by decide +kernel
theorem dX6_part_145 : decode cX6_part 145 = .ok (.lcmp, 1) := by decide +kernel
theorem dX6_part_146 : decode cX6_part 146 = .ok (.ifCond .le 45, 3) := by decide +kernel
theorem dX6_part_149 : decode cX6_part 149 = .ok (.aload_n 0, 1) := by decide +kernel
theorem dX6_part_150 : decode cX6_part 150 = .ok (.iconst 0, 1) := by decide +kernel
theorem dX6_part_151 : decode cX6_part 151 = .ok (.bipush 41, 2) := by decide +kernel
theorem dX6_part_153 : decode cX6_part 153 = .ok (.invokevirtual 148, 3) := by decide +kernel
theorem dX6_part_156 : decode cX6_part 156 = .ok (.aload_n 0, 1) := by decide +kernel
theorem dX6_part_157 : decode cX6_part 157 = .ok (.iload_n 1, 1) := by decide +kernel
theorem dX6_part_158 : decode cX6_part 158 = .ok (.iload_n 3, 1) := by decide +kernel
theorem dX6_part_159 : decode cX6_part 159 = .ok (.iconst (-1), 1) := by decide +kernel
theorem dX6_part_160 : decode cX6_part 160 = .ok (.ixor, 1) := by decide +kernel
theorem dX6_part_161 : decode cX6_part 161 = .ok (.iand, 1) := by decide +kernel
theorem dX6_part_162 : decode cX6_part 162 = .ok (.iload 8, 2) := by decide +kernel
theorem dX6_part_164 : decode cX6_part 164 = .ok (.invokevirtual 148, 3) := by decide +kernel
theorem dX6_part_167 : decode cX6_part 167 = .ok (.aload_n 0, 1) := by decide +kernel
theorem dX6_part_168 : decode cX6_part 168 = .ok (.iconst 0, 1) := by decide +kernel
theorem dX6_part_169 : decode cX6_part 169 = .ok (.iload 5, 2) := by decide +kernel
theorem dX6_part_171 : decode cX6_part 171 = .ok (.invokestatic 151, 3) := by decide +kernel
theorem dX6_part_174 : decode cX6_part 174 = .ok (.invokevirtual 148, 3) := by decide +kernel
theorem dX6_part_177 : decode cX6_part 177 = .ok (.aload_n 0, 1) := by decide +kernel
theorem dX6_part_178 : decode cX6_part 178 = .ok (.iload_n 3, 1) := by decide +kernel
theorem dX6_part_179 : decode cX6_part 179 = .ok (.iload 7, 2) := by decide +kernel
theorem dX6_part_181 : decode cX6_part 181 = .ok (.invokevirtual 148, 3) := by decide +kernel
theorem dX6_part_184 : decode cX6_part 184 = .ok (.aload_n 0, 1) := by decide +kernel
theorem dX6_part_185 : decode cX6_part 185 = .ok (.bipush 40, 2) := by decide +kernel
theorem dX6_part_187 : decode cX6_part 187 = .ok (.invokevirtual 140, 3) := by decide +kernel
theorem dX6_part_190 : decode cX6_part 190 = .ok (.return_, 1) := by decide +kernel
theorem dX6_part_191 : decode cX6_part 191 = .ok (.iinc 7 1, 3) := by decide +kernel
theorem dX6_part_194 : decode cX6_part 194 = .ok (.goto (-118), 3) := by decide +kernel
theorem dX6_part_197 : decode cX6_part 197 = .ok (.iinc 5 1, 3) := by decide +kernel
theorem dX6_part_200 : decode cX6_part 200 = .ok (.goto (-174), 3) := by decide +kernel
theorem dX6_part_203 : decode cX6_part 203 = .ok (.iinc 3 1, 3) := by decide +kernel
theorem dX6_part_206 : decode cX6_part 206 = .ok (.goto (-204), 3) := by decide +kernel
theorem dX6_part_209 : decode cX6_part 209 = .ok (.return_, 1) := by decide +kernel
set_option maxRecDepth 20000 in
theorem ggX6_printed_X6_later : GoodIn wsX6_printed wsX6_later := goodIn_r _ [9, 3, 2, 4, 39, 40, 41, 42, 43, 44, 45, 46, 47, 48, 49, 50, 51, 52, 53, 54, 55, 56, 57, 58] (by decide +kernel) (by decide +kernel)
set_option maxRecDepth 20000 in
theorem gX6_printed_X6_later : GoodIn wsX6_printed (wsV RX6 148 RX6 yX6_later wsX6_later) := goodIn_app (goodIn_of _ (by decide +kernel)) ggX6_printed_X6_later
set_option maxRecDepth 20000 in
theorem ggX6_printed_X6_put : GoodIn wsX6_printed wsX6_put := goodIn_r _ [13, 14, 1, 39, 40, 41, 42, 43, 44, 45, 46, 47, 48, 49, 50, 51, 52, 53, 54, 55, 56, 57, 58] (by decide +kernel) (by decide +kernel)
set_option maxRecDepth 20000 in
theorem gX6_printed_X6_put : GoodIn wsX6_printed (wsV RX6 140 RX6 yX6_put wsX6_put) := goodIn_app (goodIn_of _ (by decide +kernel)) ggX6_printed_X6_put
set_option maxRecDepth 20000 in
theorem ggX6_printed_X6_bits : GoodIn wsX6_printed wsX6_bits := goodIn_r _ [17] (by decide +kernel) (by decide +kernel)
set_option maxRecDepth 20000 in
theorem gX6_printed_X6_bits : GoodIn wsX6_printed (va_wsS RX6 99 yX6_bits wsX6_bits) := goodIn_app (goodIn_of _ (by decide +kernel)) ggX6_printed_X6_bits
set_option maxRecDepth 20000 in
theorem ggX6_printed_X6_putNumber : GoodIn wsX6_printed wsX6_putNumber := goodIn_r _ [21, 10, 11, 12, 8, 13, 14, 1, 39, 40, 41, 42, 43, 44, 45, 46, 47, 48, 49, 50, 51, 52, 53, 54, 55, 56, 57, 58] (by decide +kernel) (by decide +kernel)
set_option maxRecDepth 20000 in
theorem gX6_printed_X6_putNumber : GoodIn wsX6_printed (wsV RX6 154 RX6 yX6_putNumber wsX6_putNumber) := goodIn_app (goodIn_of _ (by decide +kernel)) ggX6_printed_X6_putNumber
set_option maxRecDepth 20000 in
theorem ggX6_printed_X6_part : GoodIn wsX6_printed wsX6_part := goodIn_r _ [25, 26, 27, 28, 29, 8, 30, 31, 32, 33, 34, 35, 5, 6, 7, 9, 3, 2, 4, 36, 37, 38, 10, 11, 12, 13, 14, 1, 39, 40, 41, 42, 43, 44, 45, 46, 47, 48, 49, 50, 51, 52, 53, 54, 55, 56, 57, 58] (by decide +kernel) (by decide +kernel)
set_option maxRecDepth 20000 in
theorem gX6_printed_X6_part : GoodIn wsX6_printed (wsV RX6 157 RX6 yX6_part wsX6_part) := goodIn_app (goodIn_of _ (by decide +kernel)) ggX6_printed_X6_part
theorem dX6_printed_0 : decode cX6_printed 0 = .ok (.aload_n 0, 1) := by decide +kernel
theorem dX6_printed_1 : decode cX6_printed 1 = .ok (.iconst 0, 1) := by decide +kernel
theorem dX6_printed_2 : decode cX6_printed 2 = .ok (.putfield 81, 3) := by decide +kernel
theorem dX6_printed_5 : decode cX6_printed 5 = .ok (.aload_n 0, 1) := by decide +kernel
theorem dX6_printed_6 : decode cX6_printed 6 = .ok (.iconst 0, 1) := by decide +kernel
theorem dX6_printed_7 : decode cX6_printed 7 = .ok (.putfield 137, 3) := by decide +kernel
theorem dX6_printed_10 : decode cX6_printed 10 = .ok (.aload_n 0, 1) := by decide +kernel
theorem dX6_printed_11 : decode cX6_printed 11 = .ok (.iload_n 1, 1) := by decide +kernel
theorem dX6_printed_12 : decode cX6_printed 12 = .ok (.iload_n 2, 1) := by decide +kernel
theorem dX6_printed_13 : decode cX6_printed 13 = .ok (.invokevirtual 148, 3) := by decide +kernel
theorem dX6_printed_16 : decode cX6_printed 16 = .ok (.aload_n 0, 1) := by decide +kernel
theorem dX6_printed_17 : decode cX6_printed 17 = .ok (.getfield 137, 3) := by decide +kernel
theorem dX6_printed_20 : decode cX6_printed 20 = .ok (.ifCond .le 74, 3) := by decide +kernel
theorem dX6_printed_23 : decode cX6_printed 23 = .ok (.aload_n 0, 1) := by decide +kernel
theorem dX6_printed_24 : decode cX6_printed 24 = .ok (.dup, 1) := by decide +kernel
theorem dX6_printed_25 : decode cX6_printed 25 = .ok (.getfield 137, 3) := by decide +kernel
theorem dX6_printed_28 : decode cX6_printed 28 = .ok (.iconst 1, 1) := by decide +kernel
theorem dX6_printed_29 : decode cX6_printed 29 = .ok (.isub, 1) := by decide +kernel
theorem dX6_printed_30 : decode cX6_printed 30 = .ok (.putfield 137, 3) := by decide +kernel
theorem dX6_printed_33 : decode cX6_printed 33 = .ok (.aload_n 0, 1) := by decide +kernel
theorem dX6_printed_34 : decode cX6_printed 34 = .ok (.getfield 40, 3) := by decide +kernel
theorem dX6_printed_37 : decode cX6_printed 37 = .ok (.aload_n 0, 1) := by decide +kernel
theorem dX6_printed_38 : decode cX6_printed 38 = .ok (.getfield 137, 3) := by decide +kernel
theorem dX6_printed_41 : decode cX6_printed 41 = .ok (.iaload, 1) := by decide +kernel
theorem dX6_printed_42 : decode cX6_printed 42 = .ok (.istore_n 3, 1) := by decide +kernel
theorem dX6_printed_43 : decode cX6_printed 43 = .ok (.aload_n 0, 1) := by decide +kernel
theorem dX6_printed_44 : decode cX6_printed 44 = .ok (.getfield 43, 3) := by decide +kernel
theorem dX6_printed_47 : decode cX6_printed 47 = .ok (.aload_n 0, 1) := by decide +kernel
theorem dX6_printed_48 : decode cX6_printed 48 = .ok (.getfield 137, 3) := by decide +kernel
theorem dX6_printed_51 : decode cX6_printed 51 = .ok (.iaload, 1) := by decide +kernel
theorem dX6_printed_52 : decode cX6_printed 52 = .ok (.istore 4, 2) := by decide +kernel
theorem dX6_printed_54 : decode cX6_printed 54 = .ok (.iload_n 3, 1) := by decide +kernel
theorem dX6_printed_55 : decode cX6_printed 55 = .ok (.ifCond .ne 12, 3) := by decide +kernel
theorem dX6_printed_58 : decode cX6_printed 58 = .ok (.aload_n 0, 1) := by decide +kernel
theorem dX6_printed_59 : decode cX6_printed 59 = .ok (.iload 4, 2) := by decide +kernel
theorem dX6_printed_61 : decode cX6_printed 61 = .ok (.invokevirtual 140, 3) := by decide +kernel
theorem dX6_printed_64 : decode cX6_printed 64 = .ok (.goto 27, 3) := by decide +kernel
theorem dX6_printed_67 : decode cX6_printed 67 = .ok (.iload_n 3, 1) := by decide +kernel
theorem dX6_printed_68 : decode cX6_printed 68 = .ok (.invokestatic 99, 3) := by decide +kernel
theorem dX6_printed_71 : decode cX6_printed 71 = .ok (.iconst 1, 1) := by decide +kernel
theorem dX6_printed_72 : decode cX6_printed 72 = .ok (.if_icmp .ne 12, 3) := by decide +kernel
theorem dX6_printed_75 : decode cX6_printed 75 = .ok (.aload_n 0, 1) := by decide +kernel
theorem dX6_printed_76 : decode cX6_printed 76 = .ok (.iload 4, 2) := by decide +kernel
theorem dX6_printed_78 : decode cX6_printed 78 = .ok (.invokevirtual 154, 3) := by decide +kernel
theorem dX6_printed_81 : decode cX6_printed 81 = .ok (.goto 10, 3) := by decide +kernel
theorem dX6_printed_84 : decode cX6_printed 84 = .ok (.aload_n 0, 1) := by decide +kernel
theorem dX6_printed_85 : decode cX6_printed 85 = .ok (.iload_n 3, 1) := by decide +kernel
theorem dX6_printed_86 : decode cX6_printed 86 = .ok (.iload 4, 2) := by decide +kernel
theorem dX6_printed_88 : decode cX6_printed 88 = .ok (.invokevirtual 157, 3) := by decide +kernel
theorem dX6_printed_91 : decode cX6_printed 91 = .ok (.goto (-75), 3) := by decide +kernel
theorem dX6_printed_94 : decode cX6_printed 94 = .ok (.aload_n 0, 1) := by decide +kernel
theorem dX6_printed_95 : decode cX6_printed 95 = .ok (.getfield 81, 3) := by decide +kernel
theorem dX6_printed_98 : decode cX6_printed 98 = .ok (.ireturn, 1) := by decide +kernel
set_option maxRecDepth 20000 in
theorem ggX6_print_X6_in : GoodIn wsX6_print wsX6_in := goodIn_r _ [5] (by decide +kernel) (by decide +kernel)
set_option maxRecDepth 20000 in
theorem gX6_print_X6_in : GoodIn wsX6_print (va_wsS RX6 57 yX6_in wsX6_in) := goodIn_app (goodIn_of _ (by decide +kernel)) ggX6_print_X6_in
set_option maxRecDepth 20000 in
theorem ggX6_print_X6_heap : GoodIn wsX6_print wsX6_heap := goodIn_r _ [9, 10, 11, 12, 13, 14, 15, 16, 17, 4, 18, 19, 20, 21, 22, 23, 24, 25, 26, 27, 28, 29, 30, 31, 32, 33, 34, 35, 36, 37, 38, 39, 40, 41, 42, 79, 80, 81, 82, 83, 84, 85, 86, 87, 88, 89, 90, 91, 92, 93, 94, 95, 96, 97, 98] (by decide +kernel) (by decide +kernel)
set_option maxRecDepth 20000 in
theorem gX6_print_X6_heap : GoodIn wsX6_print (wsV RX6 119 RX6 yX6_heap wsX6_heap) := goodIn_app (goodIn_of _ (by decide +kernel)) ggX6_print_X6_heap
set_option maxRecDepth 20000 in
theorem ggX6_print_X6_firstSet : GoodIn wsX6_print wsX6_firstSet := goodIn_r _ [46, 12, 19, 20, 21, 4, 22, 79, 80, 81, 82, 83, 84, 85, 86, 87, 88, 89, 90, 91, 92, 93, 94, 95, 96, 97, 98] (by decide +kernel) (by decide +kernel)
set_option maxRecDepth 20000 in
theorem gX6_print_X6_firstSet : GoodIn wsX6_print (wsV RX6 131 RX6 yX6_firstSet wsX6_firstSet) := goodIn_app (goodIn_of _ (by decide +kernel)) ggX6_print_X6_firstSet
set_option maxRecDepth 20000 in
theorem ggX6_print_X6_printed : GoodIn wsX6_print wsX6_printed := goodIn_r _ [50, 51, 52, 53, 54, 55, 56, 57, 4, 58, 59, 60, 61, 62, 63, 20, 21, 22, 64, 65, 66, 67, 68, 69, 70, 71, 19, 33, 34, 35, 36, 37, 72, 73, 74, 75, 76, 77, 78, 79, 80, 81, 82, 83, 84, 85, 86, 87, 88, 89, 90, 91, 92, 93, 94, 95, 96, 97, 98] (by decide +kernel) (by decide +kernel)
set_option maxRecDepth 20000 in
theorem gX6_print_X6_printed : GoodIn wsX6_print (wsV RX6 160 RX6 yX6_printed wsX6_printed) := goodIn_app (goodIn_of _ (by decide +kernel)) ggX6_print_X6_printed
theorem dX6_print_0 : decode cX6_print 0 = .ok (.iload_n 1, 1) := by decide +kernel
theorem dX6_print_1 : decode cX6_print 1 = .ok (.i2l, 1) := by decide +kernel
theorem dX6_print_2 : decode cX6_print 2 = .ok (.lconst 1, 1) := by decide +kernel
theorem dX6_print_3 : decode cX6_print 3 = .ok (.ldc2_w 70, 3) := by decide +kernel
theorem dX6_print_6 : decode cX6_print 6 = .ok (.invokestatic 57, 3) := by decide +kernel
theorem dX6_print_9 : decode cX6_print 9 = .ok (.ifCond .ne 7, 3) := by decide +kernel
theorem dX6_print_12 : decode cX6_print 12 = .ok (.sipush (-1002), 3) := by decide +kernel
theorem dX6_print_15 : decode cX6_print 15 = .ok (.ireturn, 1) := by decide +kernel
theorem dX6_print_16 : decode cX6_print 16 = .ok (.aload_n 0, 1) := by decide +kernel
theorem dX6_print_17 : decode cX6_print 17 = .ok (.invokevirtual 119, 3) := by decide +kernel
theorem dX6_print_20 : decode cX6_print 20 = .ok (.aload_n 0, 1) := by decide +kernel
theorem dX6_print_21 : decode cX6_print 21 = .ok (.iload_n 1, 1) := by decide +kernel
theorem dX6_print_22 : decode cX6_print 22 = .ok (.invokevirtual 131, 3) := by decide +kernel
theorem dX6_print_25 : decode cX6_print 25 = .ok (.istore_n 2, 1) := by decide +kernel
theorem dX6_print_26 : decode cX6_print 26 = .ok (.iload_n 2, 1) := by decide +kernel
theorem dX6_print_27 : decode cX6_print 27 = .ok (.ifCond .ge 9, 3) := by decide +kernel
theorem dX6_print_30 : decode cX6_print 30 = .ok (.sipush (-1003), 3) := by decide +kernel
theorem dX6_print_33 : decode cX6_print 33 = .ok (.goto 9, 3) := by decide +kernel
theorem dX6_print_36 : decode cX6_print 36 = .ok (.aload_n 0, 1) := by decide +kernel
theorem dX6_print_37 : decode cX6_print 37 = .ok (.iload_n 2, 1) := by decide +kernel
theorem dX6_print_38 : decode cX6_print 38 = .ok (.iload_n 1, 1) := by decide +kernel
theorem dX6_print_39 : decode cX6_print 39 = .ok (.invokevirtual 160, 3) := by decide +kernel
theorem dX6_print_42 : decode cX6_print 42 = .ok (.ireturn, 1) := by decide +kernel
set_option maxRecDepth 20000 in
theorem ggX6_printOf_X6_isSet : GoodIn wsX6_printOf wsX6_isSet := goodIn_r _ [7, 8, 9, 10, 6, 11, 79, 80, 81, 82, 83, 84, 85, 86, 87, 88, 89, 90, 91, 92, 93, 94, 95, 96, 97, 98] (by decide +kernel) (by decide +kernel)
set_option maxRecDepth 20000 in
theorem gX6_printOf_X6_isSet : GoodIn wsX6_printOf (wsV RX6 114 RX6 yX6_isSet wsX6_isSet) := goodIn_app (goodIn_of _ (by decide +kernel)) ggX6_printOf_X6_isSet
set_option maxRecDepth 20000 in
theorem ggX6_printOf_X6_in : GoodIn wsX6_printOf wsX6_in := goodIn_r _ [11] (by decide +kernel) (by decide +kernel)
set_option maxRecDepth 20000 in
theorem gX6_printOf_X6_in : GoodIn wsX6_printOf (va_wsS RX6 57 yX6_in wsX6_in) := goodIn_app (goodIn_of _ (by decide +kernel)) ggX6_printOf_X6_in
set_option maxRecDepth 20000 in
theorem ggX6_printOf_X6_heap : GoodIn wsX6_printOf wsX6_heap := goodIn_r _ [15, 16, 8, 17, 18, 19, 20, 21, 22, 6, 23, 2, 24, 25, 26, 27, 28, 29, 30, 31, 32, 33, 34, 35, 36, 37, 38, 39, 40, 41, 42, 43, 44, 45, 46, 79, 80, 81, 82, 83, 84, 85, 86, 87, 88, 89, 90, 91, 92, 93, 94, 95, 96, 97, 98] (by decide +kernel) (by decide +kernel)
set_option maxRecDepth 20000 in
theorem gX6_printOf_X6_heap : GoodIn wsX6_printOf (wsV RX6 119 RX6 yX6_heap wsX6_heap) := goodIn_app (goodIn_of _ (by decide +kernel)) ggX6_printOf_X6_heap
set_option maxRecDepth 20000 in
theorem ggX6_printOf_X6_printed : GoodIn wsX6_printOf wsX6_printed := goodIn_r _ [50, 51, 52, 53, 54, 55, 56, 57, 6, 58, 59, 60, 61, 62, 63, 24, 25, 26, 64, 65, 66, 67, 68, 69, 70, 71, 2, 37, 38, 39, 40, 41, 72, 73, 74, 75, 76, 77, 78, 79, 80, 81, 82, 83, 84, 85, 86, 87, 88, 89, 90, 91, 92, 93, 94, 95, 96, 97, 98] (by decide +kernel) (by decide +kernel)
set_option maxRecDepth 20000 in
theorem gX6_printOf_X6_printed : GoodIn wsX6_printOf (wsV RX6 160 RX6 yX6_printed wsX6_printed) := goodIn_app (goodIn_of _ (by decide +kernel)) ggX6_printOf_X6_printed
theorem dX6_printOf_0 : decode cX6_printOf 0 = .ok (.aload_n 0, 1) := by decide +kernel
theorem dX6_printOf_1 : decode cX6_printOf 1 = .ok (.iload_n 1, 1) := by decide +kernel
theorem dX6_printOf_2 : decode cX6_printOf 2 = .ok (.invokevirtual 114, 3) := by decide +kernel
theorem dX6_printOf_5 : decode cX6_printOf 5 = .ok (.ifCond .eq 15, 3) := by decide +kernel
theorem dX6_printOf_8 : decode cX6_printOf 8 = .ok (.iload_n 2, 1) := by decide +kernel
theorem dX6_printOf_9 : decode cX6_printOf 9 = .ok (.i2l, 1) := by decide +kernel
theorem dX6_printOf_10 : decode cX6_printOf 10 = .ok (.lconst 1, 1) := by decide +kernel
theorem dX6_printOf_11 : decode cX6_printOf 11 = .ok (.ldc2_w 70, 3) := by decide +kernel
theorem dX6_printOf_14 : decode cX6_printOf 14 = .ok (.invokestatic 57, 3) := by decide +kernel
theorem dX6_printOf_17 : decode cX6_printOf 17 = .ok (.ifCond .ne 7, 3) := by decide +kernel
theorem dX6_printOf_20 : decode cX6_printOf 20 = .ok (.sipush (-1002), 3) := by decide +kernel
theorem dX6_printOf_23 : decode cX6_printOf 23 = .ok (.ireturn, 1) := by decide +kernel
theorem dX6_printOf_24 : decode cX6_printOf 24 = .ok (.aload_n 0, 1) := by decide +kernel
theorem dX6_printOf_25 : decode cX6_printOf 25 = .ok (.invokevirtual 119, 3) := by decide +kernel
theorem dX6_printOf_28 : decode cX6_printOf 28 = .ok (.aload_n 0, 1) := by decide +kernel
theorem dX6_printOf_29 : decode cX6_printOf 29 = .ok (.getfield 30, 3) := by decide +kernel
theorem dX6_printOf_32 : decode cX6_printOf 32 = .ok (.sipush 3001, 3) := by decide +kernel
theorem dX6_printOf_35 : decode cX6_printOf 35 = .ok (.iload_n 1, 1) := by decide +kernel
theorem dX6_printOf_36 : decode cX6_printOf 36 = .ok (.imul, 1) := by decide +kernel
theorem dX6_printOf_37 : decode cX6_printOf 37 = .ok (.iload_n 2, 1) := by decide +kernel
theorem dX6_printOf_38 : decode cX6_printOf 38 = .ok (.iadd, 1) := by decide +kernel
theorem dX6_printOf_39 : decode cX6_printOf 39 = .ok (.laload, 1) := by decide +kernel
theorem dX6_printOf_40 : decode cX6_printOf 40 = .ok (.lconst 0, 1) := by decide +kernel
theorem dX6_printOf_41 : decode cX6_printOf 41 = .ok (.lcmp, 1) := by decide +kernel
theorem dX6_printOf_42 : decode cX6_printOf 42 = .ok (.ifCond .le 12, 3) := by decide +kernel
theorem dX6_printOf_45 : decode cX6_printOf 45 = .ok (.aload_n 0, 1) := by decide +kernel
theorem dX6_printOf_46 : decode cX6_printOf 46 = .ok (.iload_n 1, 1) := by decide +kernel
theorem dX6_printOf_47 : decode cX6_printOf 47 = .ok (.iload_n 2, 1) := by decide +kernel
theorem dX6_printOf_48 : decode cX6_printOf 48 = .ok (.invokevirtual 160, 3) := by decide +kernel
theorem dX6_printOf_51 : decode cX6_printOf 51 = .ok (.goto 6, 3) := by decide +kernel
theorem dX6_printOf_54 : decode cX6_printOf 54 = .ok (.sipush (-1003), 3) := by decide +kernel
theorem dX6_printOf_57 : decode cX6_printOf 57 = .ok (.ireturn, 1) := by decide +kernel
set_option maxRecDepth 20000 in
theorem ggX6_out_X6_in : GoodIn wsX6_out wsX6_in := goodIn_r _ [6] (by decide +kernel) (by decide +kernel)
set_option maxRecDepth 20000 in
theorem gX6_out_X6_in : GoodIn wsX6_out (va_wsS RX6 57 yX6_in wsX6_in) := goodIn_app (goodIn_of _ (by decide +kernel)) ggX6_out_X6_in
theorem dX6_out_0 : decode cX6_out 0 = .ok (.iload_n 1, 1) := by decide +kernel
theorem dX6_out_1 : decode cX6_out 1 = .ok (.i2l, 1) := by decide +kernel
theorem dX6_out_2 : decode cX6_out 2 = .ok (.lconst 0, 1) := by decide +kernel
theorem dX6_out_3 : decode cX6_out 3 = .ok (.aload_n 0, 1) := by decide +kernel
theorem dX6_out_4 : decode cX6_out 4 = .ok (.getfield 81, 3) := by decide +kernel
theorem dX6_out_7 : decode cX6_out 7 = .ok (.iconst 1, 1) := by decide +kernel
theorem dX6_out_8 : decode cX6_out 8 = .ok (.isub, 1) := by decide +kernel
theorem dX6_out_9 : decode cX6_out 9 = .ok (.i2l, 1) := by decide +kernel
theorem dX6_out_10 : decode cX6_out 10 = .ok (.invokestatic 57, 3) := by decide +kernel
theorem dX6_out_13 : decode cX6_out 13 = .ok (.ifCond .eq 12, 3) := by decide +kernel
theorem dX6_out_16 : decode cX6_out 16 = .ok (.aload_n 0, 1) := by decide +kernel
theorem dX6_out_17 : decode cX6_out 17 = .ok (.getfield 23, 3) := by decide +kernel
theorem dX6_out_20 : decode cX6_out 20 = .ok (.iload_n 1, 1) := by decide +kernel
theorem dX6_out_21 : decode cX6_out 21 = .ok (.iaload, 1) := by decide +kernel
theorem dX6_out_22 : decode cX6_out 22 = .ok (.goto 4, 3) := by decide +kernel
theorem dX6_out_25 : decode cX6_out 25 = .ok (.iconst (-1), 1) := by decide +kernel
theorem dX6_out_26 : decode cX6_out 26 = .ok (.ireturn, 1) := by decide +kernel
set_option maxRecDepth 20000 in
theorem ggX6_card_X6_in : GoodIn wsX6_card wsX6_in := goodIn_r _ [7] (by decide +kernel) (by decide +kernel)
set_option maxRecDepth 20000 in
theorem gX6_card_X6_in : GoodIn wsX6_card (va_wsS RX6 57 yX6_in wsX6_in) := goodIn_app (goodIn_of _ (by decide +kernel)) ggX6_card_X6_in
theorem dX6_card_0 : decode cX6_card 0 = .ok (.iload_n 1, 1) := by decide +kernel
theorem dX6_card_1 : decode cX6_card 1 = .ok (.i2l, 1) := by decide +kernel
theorem dX6_card_2 : decode cX6_card 2 = .ok (.lconst 1, 1) := by decide +kernel
theorem dX6_card_3 : decode cX6_card 3 = .ok (.ldc2_w 55, 3) := by decide +kernel
theorem dX6_card_6 : decode cX6_card 6 = .ok (.invokestatic 57, 3) := by decide +kernel
theorem dX6_card_9 : decode cX6_card 9 = .ok (.ifCond .ne 7, 3) := by decide +kernel
theorem dX6_card_12 : decode cX6_card 12 = .ok (.sipush (-1002), 3) := by decide +kernel
theorem dX6_card_15 : decode cX6_card 15 = .ok (.ireturn, 1) := by decide +kernel
theorem dX6_card_16 : decode cX6_card 16 = .ok (.aload_n 0, 1) := by decide +kernel
theorem dX6_card_17 : decode cX6_card 17 = .ok (.getfield 78, 3) := by decide +kernel
theorem dX6_card_20 : decode cX6_card 20 = .ok (.bipush 10, 2) := by decide +kernel
theorem dX6_card_22 : decode cX6_card 22 = .ok (.if_icmp .ne 7, 3) := by decide +kernel
theorem dX6_card_25 : decode cX6_card 25 = .ok (.sipush (-1004), 3) := by decide +kernel
theorem dX6_card_28 : decode cX6_card 28 = .ok (.ireturn, 1) := by decide +kernel
theorem dX6_card_29 : decode cX6_card 29 = .ok (.aload_n 0, 1) := by decide +kernel
theorem dX6_card_30 : decode cX6_card 30 = .ok (.getfield 20, 3) := by decide +kernel
theorem dX6_card_33 : decode cX6_card 33 = .ok (.aload_n 0, 1) := by decide +kernel
theorem dX6_card_34 : decode cX6_card 34 = .ok (.getfield 78, 3) := by decide +kernel
theorem dX6_card_37 : decode cX6_card 37 = .ok (.iload_n 1, 1) := by decide +kernel
theorem dX6_card_38 : decode cX6_card 38 = .ok (.iastore, 1) := by decide +kernel
theorem dX6_card_39 : decode cX6_card 39 = .ok (.aload_n 0, 1) := by decide +kernel
theorem dX6_card_40 : decode cX6_card 40 = .ok (.dup, 1) := by decide +kernel
theorem dX6_card_41 : decode cX6_card 41 = .ok (.getfield 78, 3) := by decide +kernel
theorem dX6_card_44 : decode cX6_card 44 = .ok (.iconst 1, 1) := by decide +kernel
theorem dX6_card_45 : decode cX6_card 45 = .ok (.iadd, 1) := by decide +kernel
theorem dX6_card_46 : decode cX6_card 46 = .ok (.putfield 78, 3) := by decide +kernel
theorem dX6_card_49 : decode cX6_card 49 = .ok (.aload_n 0, 1) := by decide +kernel
theorem dX6_card_50 : decode cX6_card 50 = .ok (.getfield 78, 3) := by decide +kernel
theorem dX6_card_53 : decode cX6_card 53 = .ok (.iconst 1, 1) := by decide +kernel
theorem dX6_card_54 : decode cX6_card 54 = .ok (.isub, 1) := by decide +kernel
theorem dX6_card_55 : decode cX6_card 55 = .ok (.ireturn, 1) := by decide +kernel
theorem dX6_empty_0 : decode cX6_empty 0 = .ok (.aload_n 0, 1) := by decide +kernel
theorem dX6_empty_1 : decode cX6_empty 1 = .ok (.getfield 78, 3) := by decide +kernel
theorem dX6_empty_4 : decode cX6_empty 4 = .ok (.istore_n 1, 1) := by decide +kernel
theorem dX6_empty_5 : decode cX6_empty 5 = .ok (.aload_n 0, 1) := by decide +kernel
theorem dX6_empty_6 : decode cX6_empty 6 = .ok (.iconst 0, 1) := by decide +kernel
theorem dX6_empty_7 : decode cX6_empty 7 = .ok (.putfield 78, 3) := by decide +kernel
theorem dX6_empty_10 : decode cX6_empty 10 = .ok (.iload_n 1, 1) := by decide +kernel
theorem dX6_empty_11 : decode cX6_empty 11 = .ok (.ireturn, 1) := by decide +kernel
set_option maxRecDepth 20000 in
theorem ggX6_drawn_X6_fill : GoodIn wsX6_drawn wsX6_fill := goodIn_r _ [9, 1, 10, 3, 11, 12, 13, 8, 14, 15, 16, 17, 18, 19, 20, 21, 22, 23, 24, 25, 26, 27, 28, 29, 30, 31, 32, 33, 34, 35, 36, 37, 38, 39, 40, 41, 42, 43, 44, 45, 46, 47, 48, 49, 50, 51, 52, 53, 54] (by decide +kernel) (by decide +kernel)
set_option maxRecDepth 20000 in
theorem gX6_drawn_X6_fill : GoodIn wsX6_drawn (wsV RX6 107 RX6 yX6_fill wsX6_fill) := goodIn_app (goodIn_of _ (by decide +kernel)) ggX6_drawn_X6_fill
theorem dX6_drawn_0 : decode cX6_drawn 0 = .ok (.aload_n 0, 1) := by decide +kernel
theorem dX6_drawn_1 : decode cX6_drawn 1 = .ok (.iconst 0, 1) := by decide +kernel
theorem dX6_drawn_2 : decode cX6_drawn 2 = .ok (.putfield 96, 3) := by decide +kernel
theorem dX6_drawn_5 : decode cX6_drawn 5 = .ok (.iconst 0, 1) := by decide +kernel
theorem dX6_drawn_6 : decode cX6_drawn 6 = .ok (.istore_n 2, 1) := by decide +kernel
theorem dX6_drawn_7 : decode cX6_drawn 7 = .ok (.iload_n 2, 1) := by decide +kernel
theorem dX6_drawn_8 : decode cX6_drawn 8 = .ok (.aload_n 0, 1) := by decide +kernel
theorem dX6_drawn_9 : decode cX6_drawn 9 = .ok (.getfield 78, 3) := by decide +kernel
theorem dX6_drawn_12 : decode cX6_drawn 12 = .ok (.if_icmp .ge 43, 3) := by decide +kernel
theorem dX6_drawn_15 : decode cX6_drawn 15 = .ok (.iload_n 1, 1) := by decide +kernel
theorem dX6_drawn_16 : decode cX6_drawn 16 = .ok (.iload_n 2, 1) := by decide +kernel
theorem dX6_drawn_17 : decode cX6_drawn 17 = .ok (.ishr, 1) := by decide +kernel
theorem dX6_drawn_18 : decode cX6_drawn 18 = .ok (.iconst 1, 1) := by decide +kernel
theorem dX6_drawn_19 : decode cX6_drawn 19 = .ok (.iand, 1) := by decide +kernel
theorem dX6_drawn_20 : decode cX6_drawn 20 = .ok (.iconst 1, 1) := by decide +kernel
theorem dX6_drawn_21 : decode cX6_drawn 21 = .ok (.if_icmp .ne 28, 3) := by decide +kernel
theorem dX6_drawn_24 : decode cX6_drawn 24 = .ok (.aload_n 0, 1) := by decide +kernel
theorem dX6_drawn_25 : decode cX6_drawn 25 = .ok (.getfield 26, 3) := by decide +kernel
theorem dX6_drawn_28 : decode cX6_drawn 28 = .ok (.aload_n 0, 1) := by decide +kernel
theorem dX6_drawn_29 : decode cX6_drawn 29 = .ok (.getfield 96, 3) := by decide +kernel
theorem dX6_drawn_32 : decode cX6_drawn 32 = .ok (.aload_n 0, 1) := by decide +kernel
theorem dX6_drawn_33 : decode cX6_drawn 33 = .ok (.getfield 20, 3) := by decide +kernel
theorem dX6_drawn_36 : decode cX6_drawn 36 = .ok (.iload_n 2, 1) := by decide +kernel
theorem dX6_drawn_37 : decode cX6_drawn 37 = .ok (.iaload, 1) := by decide +kernel
theorem dX6_drawn_38 : decode cX6_drawn 38 = .ok (.iastore, 1) := by decide +kernel
theorem dX6_drawn_39 : decode cX6_drawn 39 = .ok (.aload_n 0, 1) := by decide +kernel
theorem dX6_drawn_40 : decode cX6_drawn 40 = .ok (.dup, 1) := by decide +kernel
theorem dX6_drawn_41 : decode cX6_drawn 41 = .ok (.getfield 96, 3) := by decide +kernel
theorem dX6_drawn_44 : decode cX6_drawn 44 = .ok (.iconst 1, 1) := by decide +kernel
theorem dX6_drawn_45 : decode cX6_drawn 45 = .ok (.iadd, 1) := by decide +kernel
theorem dX6_drawn_46 : decode cX6_drawn 46 = .ok (.putfield 96, 3) := by decide +kernel
theorem dX6_drawn_49 : decode cX6_drawn 49 = .ok (.iinc 2 1, 3) := by decide +kernel
theorem dX6_drawn_52 : decode cX6_drawn 52 = .ok (.goto (-45), 3) := by decide +kernel
theorem dX6_drawn_55 : decode cX6_drawn 55 = .ok (.aload_n 0, 1) := by decide +kernel
theorem dX6_drawn_56 : decode cX6_drawn 56 = .ok (.invokevirtual 107, 3) := by decide +kernel
theorem dX6_drawn_59 : decode cX6_drawn 59 = .ok (.return_, 1) := by decide +kernel
theorem dX6_common_0 : decode cX6_common 0 = .ok (.iload_n 0, 1) := by decide +kernel
theorem dX6_common_1 : decode cX6_common 1 = .ok (.istore_n 2, 1) := by decide +kernel
theorem dX6_common_2 : decode cX6_common 2 = .ok (.iload_n 1, 1) := by decide +kernel
theorem dX6_common_3 : decode cX6_common 3 = .ok (.istore_n 3, 1) := by decide +kernel
theorem dX6_common_4 : decode cX6_common 4 = .ok (.iload_n 3, 1) := by decide +kernel
theorem dX6_common_5 : decode cX6_common 5 = .ok (.ifCond .eq 16, 3) := by decide +kernel
theorem dX6_common_8 : decode cX6_common 8 = .ok (.iload_n 2, 1) := by decide +kernel
theorem dX6_common_9 : decode cX6_common 9 = .ok (.iload_n 3, 1) := by decide +kernel
theorem dX6_common_10 : decode cX6_common 10 = .ok (.irem, 1) := by decide +kernel
theorem dX6_common_11 : decode cX6_common 11 = .ok (.istore 4, 2) := by decide +kernel
theorem dX6_common_13 : decode cX6_common 13 = .ok (.iload_n 3, 1) := by decide +kernel
theorem dX6_common_14 : decode cX6_common 14 = .ok (.istore_n 2, 1) := by decide +kernel
theorem dX6_common_15 : decode cX6_common 15 = .ok (.iload 4, 2) := by decide +kernel
theorem dX6_common_17 : decode cX6_common 17 = .ok (.istore_n 3, 1) := by decide +kernel
theorem dX6_common_18 : decode cX6_common 18 = .ok (.goto (-14), 3) := by decide +kernel
theorem dX6_common_21 : decode cX6_common 21 = .ok (.iload_n 2, 1) := by decide +kernel
theorem dX6_common_22 : decode cX6_common 22 = .ok (.ireturn, 1) := by decide +kernel
set_option maxRecDepth 20000 in
theorem ggX6_draws_X6_in : GoodIn wsX6_draws wsX6_in := goodIn_r _ [8] (by decide +kernel) (by decide +kernel)
set_option maxRecDepth 20000 in
theorem gX6_draws_X6_in : GoodIn wsX6_draws (va_wsS RX6 57 yX6_in wsX6_in) := goodIn_app (goodIn_of _ (by decide +kernel)) ggX6_draws_X6_in
set_option maxRecDepth 20000 in
theorem ggX6_draws_X6_bits : GoodIn wsX6_draws wsX6_bits := goodIn_r _ [11] (by decide +kernel) (by decide +kernel)
set_option maxRecDepth 20000 in
theorem gX6_draws_X6_bits : GoodIn wsX6_draws (va_wsS RX6 99 yX6_bits wsX6_bits) := goodIn_app (goodIn_of _ (by decide +kernel)) ggX6_draws_X6_bits
set_option maxRecDepth 20000 in
theorem ggX6_draws_X6_drawn : GoodIn wsX6_draws wsX6_drawn := goodIn_r _ [15, 16, 4, 17, 18, 19, 20, 21, 7, 22, 23, 24, 9, 10, 11, 25, 26, 27, 28, 29, 30, 31, 32, 33, 34, 35, 36, 37, 38, 39, 40, 41, 42, 43, 44, 56, 57, 58, 59, 60, 61, 62, 63, 64, 65, 66, 67, 68, 69, 70, 71, 72, 73, 74, 75] (by decide +kernel) (by decide +kernel)
set_option maxRecDepth 20000 in
theorem gX6_draws_X6_drawn : GoodIn wsX6_draws (wsV RX6 166 RX6 yX6_drawn wsX6_drawn) := goodIn_app (goodIn_of _ (by decide +kernel)) ggX6_draws_X6_drawn
set_option maxRecDepth 20000 in
theorem ggX6_draws_X6_isReached : GoodIn wsX6_draws wsX6_isReached := goodIn_r _ [48, 49, 50, 51, 7, 52, 16, 23, 56, 57, 58, 59, 60, 61, 62, 63, 64, 65, 66, 67, 68, 69, 70, 71, 72, 73, 74, 75] (by decide +kernel) (by decide +kernel)
set_option maxRecDepth 20000 in
theorem gX6_draws_X6_isReached : GoodIn wsX6_draws (wsV RX6 122 RX6 yX6_isReached wsX6_isReached) := goodIn_app (goodIn_of _ (by decide +kernel)) ggX6_draws_X6_isReached
set_option maxRecDepth 20000 in
theorem ggX6_draws_X6_common : GoodIn wsX6_draws wsX6_common := goodIn_r _ [55] (by decide +kernel) (by decide +kernel)
set_option maxRecDepth 20000 in
theorem gX6_draws_X6_common : GoodIn wsX6_draws (va_wsS RX6 169 yX6_common wsX6_common) := goodIn_app (goodIn_of _ (by decide +kernel)) ggX6_draws_X6_common
theorem dX6_draws_0 : decode cX6_draws 0 = .ok (.iload_n 1, 1) := by decide +kernel
theorem dX6_draws_1 : decode cX6_draws 1 = .ok (.i2l, 1) := by decide +kernel
theorem dX6_draws_2 : decode cX6_draws 2 = .ok (.lconst 1, 1) := by decide +kernel
theorem dX6_draws_3 : decode cX6_draws 3 = .ok (.ldc2_w 164, 3) := by decide +kernel
theorem dX6_draws_6 : decode cX6_draws 6 = .ok (.invokestatic 57, 3) := by decide +kernel
theorem dX6_draws_9 : decode cX6_draws 9 = .ok (.ifCond .eq 27, 3) := by decide +kernel
theorem dX6_draws_12 : decode cX6_draws 12 = .ok (.iload_n 2, 1) := by decide +kernel
theorem dX6_draws_13 : decode cX6_draws 13 = .ok (.i2l, 1) := by decide +kernel
theorem dX6_draws_14 : decode cX6_draws 14 = .ok (.lconst 1, 1) := by decide +kernel
theorem dX6_draws_15 : decode cX6_draws 15 = .ok (.ldc2_w 70, 3) := by decide +kernel
theorem dX6_draws_18 : decode cX6_draws 18 = .ok (.invokestatic 57, 3) := by decide +kernel
theorem dX6_draws_21 : decode cX6_draws 21 = .ok (.ifCond .eq 15, 3) := by decide +kernel
theorem dX6_draws_24 : decode cX6_draws 24 = .ok (.iload_n 3, 1) := by decide +kernel
theorem dX6_draws_25 : decode cX6_draws 25 = .ok (.i2l, 1) := by decide +kernel
theorem dX6_draws_26 : decode cX6_draws 26 = .ok (.lconst 0, 1) := by decide +kernel
theorem dX6_draws_27 : decode cX6_draws 27 = .ok (.ldc2_w 129, 3) := by decide +kernel
theorem dX6_draws_30 : decode cX6_draws 30 = .ok (.invokestatic 57, 3) := by decide +kernel
theorem dX6_draws_33 : decode cX6_draws 33 = .ok (.ifCond .ne 7, 3) := by decide +kernel
theorem dX6_draws_36 : decode cX6_draws 36 = .ok (.sipush (-1002), 3) := by decide +kernel
theorem dX6_draws_39 : decode cX6_draws 39 = .ok (.ireturn, 1) := by decide +kernel
theorem dX6_draws_40 : decode cX6_draws 40 = .ok (.iconst 0, 1) := by decide +kernel
theorem dX6_draws_41 : decode cX6_draws 41 = .ok (.istore 4, 2) := by decide +kernel
theorem dX6_draws_43 : decode cX6_draws 43 = .ok (.iconst 0, 1) := by decide +kernel
theorem dX6_draws_44 : decode cX6_draws 44 = .ok (.istore 5, 2) := by decide +kernel
theorem dX6_draws_46 : decode cX6_draws 46 = .ok (.iconst 0, 1) := by decide +kernel
theorem dX6_draws_47 : decode cX6_draws 47 = .ok (.istore 6, 2) := by decide +kernel
theorem dX6_draws_49 : decode cX6_draws 49 = .ok (.iload 6, 2) := by decide +kernel
theorem dX6_draws_51 : decode cX6_draws 51 = .ok (.iconst 1, 1) := by decide +kernel
theorem dX6_draws_52 : decode cX6_draws 52 = .ok (.aload_n 0, 1) := by decide +kernel
theorem dX6_draws_53 : decode cX6_draws 53 = .ok (.getfield 78, 3) := by decide +kernel
theorem dX6_draws_56 : decode cX6_draws 56 = .ok (.ishl, 1) := by decide +kernel
theorem dX6_draws_57 : decode cX6_draws 57 = .ok (.if_icmp .ge 49, 3) := by decide +kernel
theorem dX6_draws_60 : decode cX6_draws 60 = .ok (.iload 6, 2) := by decide +kernel
theorem dX6_draws_62 : decode cX6_draws 62 = .ok (.invokestatic 99, 3) := by decide +kernel
theorem dX6_draws_65 : decode cX6_draws 65 = .ok (.iload_n 1, 1) := by decide +kernel
theorem dX6_draws_66 : decode cX6_draws 66 = .ok (.if_icmp .ne 34, 3) := by decide +kernel
theorem dX6_draws_69 : decode cX6_draws 69 = .ok (.iinc 4 1, 3) := by decide +kernel
theorem dX6_draws_72 : decode cX6_draws 72 = .ok (.iload_n 3, 1) := by decide +kernel
theorem dX6_draws_73 : decode cX6_draws 73 = .ok (.ifCond .le 27, 3) := by decide +kernel
theorem dX6_draws_76 : decode cX6_draws 76 = .ok (.aload_n 0, 1) := by decide +kernel
theorem dX6_draws_77 : decode cX6_draws 77 = .ok (.iload 6, 2) := by decide +kernel
theorem dX6_draws_79 : decode cX6_draws 79 = .ok (.invokevirtual 166, 3) := by decide +kernel
theorem dX6_draws_82 : decode cX6_draws 82 = .ok (.iload 5, 2) := by decide +kernel
theorem dX6_draws_84 : decode cX6_draws 84 = .ok (.aload_n 0, 1) := by decide +kernel
theorem dX6_draws_85 : decode cX6_draws 85 = .ok (.iload_n 2, 1) := by decide +kernel
theorem dX6_draws_86 : decode cX6_draws 86 = .ok (.invokevirtual 122, 3) := by decide +kernel
theorem dX6_draws_89 : decode cX6_draws 89 = .ok (.ifCond .eq 7, 3) := by decide +kernel
theorem dX6_draws_92 : decode cX6_draws 92 = .ok (.iconst 1, 1) := by decide +kernel
theorem dX6_draws_93 : decode cX6_draws 93 = .ok (.goto 4, 3) := by decide +kernel
theorem dX6_draws_96 : decode cX6_draws 96 = .ok (.iconst 0, 1) := by decide +kernel
theorem dX6_draws_97 : decode cX6_draws 97 = .ok (.iadd, 1) := by decide +kernel
theorem dX6_draws_98 : decode cX6_draws 98 = .ok (.istore 5, 2) := by decide +kernel
theorem dX6_draws_100 : decode cX6_draws 100 = .ok (.iinc 6 1, 3) := by decide +kernel
theorem dX6_draws_103 : decode cX6_draws 103 = .ok (.goto (-54), 3) := by decide +kernel
theorem dX6_draws_106 : decode cX6_draws 106 = .ok (.iload_n 3, 1) := by decide +kernel
theorem dX6_draws_107 : decode cX6_draws 107 = .ok (.iconst 2, 1) := by decide +kernel
theorem dX6_draws_108 : decode cX6_draws 108 = .ok (.if_icmp .ge 15, 3) := by decide +kernel
theorem dX6_draws_111 : decode cX6_draws 111 = .ok (.iload_n 3, 1) := by decide +kernel
theorem dX6_draws_112 : decode cX6_draws 112 = .ok (.ifCond .ne 8, 3) := by decide +kernel
theorem dX6_draws_115 : decode cX6_draws 115 = .ok (.iload 4, 2) := by decide +kernel
theorem dX6_draws_117 : decode cX6_draws 117 = .ok (.goto 5, 3) := by decide +kernel
theorem dX6_draws_120 : decode cX6_draws 120 = .ok (.iload 5, 2) := by decide +kernel
theorem dX6_draws_122 : decode cX6_draws 122 = .ok (.ireturn, 1) := by decide +kernel
theorem dX6_draws_123 : decode cX6_draws 123 = .ok (.iload 5, 2) := by decide +kernel
theorem dX6_draws_125 : decode cX6_draws 125 = .ok (.iload 4, 2) := by decide +kernel
theorem dX6_draws_127 : decode cX6_draws 127 = .ok (.invokestatic 169, 3) := by decide +kernel
theorem dX6_draws_130 : decode cX6_draws 130 = .ok (.istore 6, 2) := by decide +kernel
theorem dX6_draws_132 : decode cX6_draws 132 = .ok (.iload 4, 2) := by decide +kernel
theorem dX6_draws_134 : decode cX6_draws 134 = .ok (.ifCond .ne 9, 3) := by decide +kernel
theorem dX6_draws_137 : decode cX6_draws 137 = .ok (.iload_n 3, 1) := by decide +kernel
theorem dX6_draws_138 : decode cX6_draws 138 = .ok (.iconst 2, 1) := by decide +kernel
theorem dX6_draws_139 : decode cX6_draws 139 = .ok (.isub, 1) := by decide +kernel
theorem dX6_draws_140 : decode cX6_draws 140 = .ok (.goto 21, 3) := by decide +kernel
theorem dX6_draws_143 : decode cX6_draws 143 = .ok (.iload_n 3, 1) := by decide +kernel
theorem dX6_draws_144 : decode cX6_draws 144 = .ok (.iconst 2, 1) := by decide +kernel
theorem dX6_draws_145 : decode cX6_draws 145 = .ok (.if_icmp .ne 11, 3) := by decide +kernel
theorem dX6_draws_148 : decode cX6_draws 148 = .ok (.iload 5, 2) := by decide +kernel
theorem dX6_draws_150 : decode cX6_draws 150 = .ok (.iload 6, 2) := by decide +kernel
theorem dX6_draws_152 : decode cX6_draws 152 = .ok (.idiv, 1) := by decide +kernel
theorem dX6_draws_153 : decode cX6_draws 153 = .ok (.goto 8, 3) := by decide +kernel
theorem dX6_draws_156 : decode cX6_draws 156 = .ok (.iload 4, 2) := by decide +kernel
theorem dX6_draws_158 : decode cX6_draws 158 = .ok (.iload 6, 2) := by decide +kernel
theorem dX6_draws_160 : decode cX6_draws 160 = .ok (.idiv, 1) := by decide +kernel
theorem dX6_draws_161 : decode cX6_draws 161 = .ok (.ireturn, 1) := by decide +kernel
set_option maxRecDepth 20000 in
theorem ggX6_most_X6_in : GoodIn wsX6_most wsX6_in := goodIn_r _ [7] (by decide +kernel) (by decide +kernel)
set_option maxRecDepth 20000 in
theorem gX6_most_X6_in : GoodIn wsX6_most (va_wsS RX6 57 yX6_in wsX6_in) := goodIn_app (goodIn_of _ (by decide +kernel)) ggX6_most_X6_in
set_option maxRecDepth 20000 in
theorem ggX6_most_X6_bits : GoodIn wsX6_most wsX6_bits := goodIn_r _ [10] (by decide +kernel) (by decide +kernel)
set_option maxRecDepth 20000 in
theorem gX6_most_X6_bits : GoodIn wsX6_most (va_wsS RX6 99 yX6_bits wsX6_bits) := goodIn_app (goodIn_of _ (by decide +kernel)) ggX6_most_X6_bits
set_option maxRecDepth 20000 in
theorem ggX6_most_X6_drawn : GoodIn wsX6_most wsX6_drawn := goodIn_r _ [14, 15, 3, 16, 17, 18, 19, 20, 6, 21, 22, 23, 8, 9, 10, 24, 25, 26, 27, 28, 29, 30, 31, 32, 33, 34, 35, 36, 37, 38, 39, 40, 41, 42, 43, 52, 53, 54, 55, 56, 57, 58, 59, 60, 61, 62, 63, 64, 65, 66, 67, 68, 69, 70, 71] (by decide +kernel) (by decide +kernel)
set_option maxRecDepth 20000 in
theorem gX6_most_X6_drawn : GoodIn wsX6_most (wsV RX6 166 RX6 yX6_drawn wsX6_drawn) := goodIn_app (goodIn_of _ (by decide +kernel)) ggX6_most_X6_drawn
set_option maxRecDepth 20000 in
theorem ggX6_most_X6_isReached : GoodIn wsX6_most wsX6_isReached := goodIn_r _ [47, 48, 49, 50, 6, 51, 15, 22, 52, 53, 54, 55, 56, 57, 58, 59, 60, 61, 62, 63, 64, 65, 66, 67, 68, 69, 70, 71] (by decide +kernel) (by decide +kernel)
set_option maxRecDepth 20000 in
theorem gX6_most_X6_isReached : GoodIn wsX6_most (wsV RX6 122 RX6 yX6_isReached wsX6_isReached) := goodIn_app (goodIn_of _ (by decide +kernel)) ggX6_most_X6_isReached
theorem dX6_most_0 : decode cX6_most 0 = .ok (.iload_n 1, 1) := by decide +kernel
theorem dX6_most_1 : decode cX6_most 1 = .ok (.i2l, 1) := by decide +kernel
theorem dX6_most_2 : decode cX6_most 2 = .ok (.lconst 1, 1) := by decide +kernel
theorem dX6_most_3 : decode cX6_most 3 = .ok (.ldc2_w 164, 3) := by decide +kernel
theorem dX6_most_6 : decode cX6_most 6 = .ok (.invokestatic 57, 3) := by decide +kernel
theorem dX6_most_9 : decode cX6_most 9 = .ok (.ifCond .eq 13, 3) := by decide +kernel
theorem dX6_most_12 : decode cX6_most 12 = .ok (.iload_n 2, 1) := by decide +kernel
theorem dX6_most_13 : decode cX6_most 13 = .ok (.i2l, 1) := by decide +kernel
theorem dX6_most_14 : decode cX6_most 14 = .ok (.lconst 0, 1) := by decide +kernel
theorem dX6_most_15 : decode cX6_most 15 = .ok (.lconst 1, 1) := by decide +kernel
theorem dX6_most_16 : decode cX6_most 16 = .ok (.invokestatic 57, 3) := by decide +kernel
theorem dX6_most_19 : decode cX6_most 19 = .ok (.ifCond .ne 7, 3) := by decide +kernel
theorem dX6_most_22 : decode cX6_most 22 = .ok (.sipush (-1002), 3) := by decide +kernel
theorem dX6_most_25 : decode cX6_most 25 = .ok (.ireturn, 1) := by decide +kernel
theorem dX6_most_26 : decode cX6_most 26 = .ok (.iconst 0, 1) := by decide +kernel
theorem dX6_most_27 : decode cX6_most 27 = .ok (.istore_n 3, 1) := by decide +kernel
theorem dX6_most_28 : decode cX6_most 28 = .ok (.iload_n 3, 1) := by decide +kernel
theorem dX6_most_29 : decode cX6_most 29 = .ok (.bipush 101, 2) := by decide +kernel
theorem dX6_most_31 : decode cX6_most 31 = .ok (.if_icmp .ge 16, 3) := by decide +kernel
theorem dX6_most_34 : decode cX6_most 34 = .ok (.aload_n 0, 1) := by decide +kernel
theorem dX6_most_35 : decode cX6_most 35 = .ok (.getfield 46, 3) := by decide +kernel
theorem dX6_most_38 : decode cX6_most 38 = .ok (.iload_n 3, 1) := by decide +kernel
theorem dX6_most_39 : decode cX6_most 39 = .ok (.iconst 0, 1) := by decide +kernel
theorem dX6_most_40 : decode cX6_most 40 = .ok (.iastore, 1) := by decide +kernel
theorem dX6_most_41 : decode cX6_most 41 = .ok (.iinc 3 1, 3) := by decide +kernel
theorem dX6_most_44 : decode cX6_most 44 = .ok (.goto (-16), 3) := by decide +kernel
theorem dX6_most_47 : decode cX6_most 47 = .ok (.iconst 0, 1) := by decide +kernel
theorem dX6_most_48 : decode cX6_most 48 = .ok (.istore_n 3, 1) := by decide +kernel
theorem dX6_most_49 : decode cX6_most 49 = .ok (.iload_n 3, 1) := by decide +kernel
theorem dX6_most_50 : decode cX6_most 50 = .ok (.iconst 1, 1) := by decide +kernel
theorem dX6_most_51 : decode cX6_most 51 = .ok (.aload_n 0, 1) := by decide +kernel
theorem dX6_most_52 : decode cX6_most 52 = .ok (.getfield 78, 3) := by decide +kernel
theorem dX6_most_55 : decode cX6_most 55 = .ok (.ishl, 1) := by decide +kernel
theorem dX6_most_56 : decode cX6_most 56 = .ok (.if_icmp .ge 62, 3) := by decide +kernel
theorem dX6_most_59 : decode cX6_most 59 = .ok (.iload_n 3, 1) := by decide +kernel
theorem dX6_most_60 : decode cX6_most 60 = .ok (.invokestatic 99, 3) := by decide +kernel
theorem dX6_most_63 : decode cX6_most 63 = .ok (.iload_n 1, 1) := by decide +kernel
theorem dX6_most_64 : decode cX6_most 64 = .ok (.if_icmp .ne 48, 3) := by decide +kernel
theorem dX6_most_67 : decode cX6_most 67 = .ok (.aload_n 0, 1) := by decide +kernel
theorem dX6_most_68 : decode cX6_most 68 = .ok (.iload_n 3, 1) := by decide +kernel
theorem dX6_most_69 : decode cX6_most 69 = .ok (.invokevirtual 166, 3) := by decide +kernel
theorem dX6_most_72 : decode cX6_most 72 = .ok (.iconst 1, 1) := by decide +kernel
theorem dX6_most_73 : decode cX6_most 73 = .ok (.istore 4, 2) := by decide +kernel
theorem dX6_most_75 : decode cX6_most 75 = .ok (.iload 4, 2) := by decide +kernel
theorem dX6_most_77 : decode cX6_most 77 = .ok (.bipush 101, 2) := by decide +kernel
theorem dX6_most_79 : decode cX6_most 79 = .ok (.if_icmp .ge 33, 3) := by decide +kernel
theorem dX6_most_82 : decode cX6_most 82 = .ok (.aload_n 0, 1) := by decide +kernel
theorem dX6_most_83 : decode cX6_most 83 = .ok (.getfield 46, 3) := by decide +kernel
theorem dX6_most_86 : decode cX6_most 86 = .ok (.iload 4, 2) := by decide +kernel
theorem dX6_most_88 : decode cX6_most 88 = .ok (.dup2, 1) := by decide +kernel
theorem dX6_most_89 : decode cX6_most 89 = .ok (.iaload, 1) := by decide +kernel
theorem dX6_most_90 : decode cX6_most 90 = .ok (.aload_n 0, 1) := by decide +kernel
theorem dX6_most_91 : decode cX6_most 91 = .ok (.iload 4, 2) := by decide +kernel
theorem dX6_most_93 : decode cX6_most 93 = .ok (.invokevirtual 122, 3) := by decide +kernel
theorem dX6_most_96 : decode cX6_most 96 = .ok (.ifCond .eq 7, 3) := by decide +kernel
theorem dX6_most_99 : decode cX6_most 99 = .ok (.iconst 1, 1) := by decide +kernel
theorem dX6_most_100 : decode cX6_most 100 = .ok (.goto 4, 3) := by decide +kernel
theorem dX6_most_103 : decode cX6_most 103 = .ok (.iconst 0, 1) := by decide +kernel
theorem dX6_most_104 : decode cX6_most 104 = .ok (.iadd, 1) := by decide +kernel
theorem dX6_most_105 : decode cX6_most 105 = .ok (.iastore, 1) := by decide +kernel
theorem dX6_most_106 : decode cX6_most 106 = .ok (.iinc 4 1, 3) := by decide +kernel
theorem dX6_most_109 : decode cX6_most 109 = .ok (.goto (-34), 3) := by decide +kernel
theorem dX6_most_112 : decode cX6_most 112 = .ok (.iinc 3 1, 3) := by decide +kernel
theorem dX6_most_115 : decode cX6_most 115 = .ok (.goto (-66), 3) := by decide +kernel
theorem dX6_most_118 : decode cX6_most 118 = .ok (.iconst 1, 1) := by decide +kernel
theorem dX6_most_119 : decode cX6_most 119 = .ok (.istore_n 3, 1) := by decide +kernel
theorem dX6_most_120 : decode cX6_most 120 = .ok (.iconst 2, 1) := by decide +kernel
theorem dX6_most_121 : decode cX6_most 121 = .ok (.istore 4, 2) := by decide +kernel
theorem dX6_most_123 : decode cX6_most 123 = .ok (.iload 4, 2) := by decide +kernel
theorem dX6_most_125 : decode cX6_most 125 = .ok (.bipush 101, 2) := by decide +kernel
theorem dX6_most_127 : decode cX6_most 127 = .ok (.if_icmp .ge 32, 3) := by decide +kernel
theorem dX6_most_130 : decode cX6_most 130 = .ok (.aload_n 0, 1) := by decide +kernel
theorem dX6_most_131 : decode cX6_most 131 = .ok (.getfield 46, 3) := by decide +kernel
theorem dX6_most_134 : decode cX6_most 134 = .ok (.iload 4, 2) := by decide +kernel
theorem dX6_most_136 : decode cX6_most 136 = .ok (.iaload, 1) := by decide +kernel
theorem dX6_most_137 : decode cX6_most 137 = .ok (.aload_n 0, 1) := by decide +kernel
theorem dX6_most_138 : decode cX6_most 138 = .ok (.getfield 46, 3) := by decide +kernel
theorem dX6_most_141 : decode cX6_most 141 = .ok (.iload_n 3, 1) := by decide +kernel
theorem dX6_most_142 : decode cX6_most 142 = .ok (.iaload, 1) := by decide +kernel
theorem dX6_most_143 : decode cX6_most 143 = .ok (.if_icmp .le 8, 3) := by decide +kernel
theorem dX6_most_146 : decode cX6_most 146 = .ok (.iload 4, 2) := by decide +kernel
theorem dX6_most_148 : decode cX6_most 148 = .ok (.goto 4, 3) := by decide +kernel
theorem dX6_most_151 : decode cX6_most 151 = .ok (.iload_n 3, 1) := by decide +kernel
theorem dX6_most_152 : decode cX6_most 152 = .ok (.istore_n 3, 1) := by decide +kernel
theorem dX6_most_153 : decode cX6_most 153 = .ok (.iinc 4 1, 3) := by decide +kernel
theorem dX6_most_156 : decode cX6_most 156 = .ok (.goto (-33), 3) := by decide +kernel
theorem dX6_most_159 : decode cX6_most 159 = .ok (.iload_n 2, 1) := by decide +kernel
theorem dX6_most_160 : decode cX6_most 160 = .ok (.ifCond .ne 7, 3) := by decide +kernel
theorem dX6_most_163 : decode cX6_most 163 = .ok (.iload_n 3, 1) := by decide +kernel
theorem dX6_most_164 : decode cX6_most 164 = .ok (.goto 9, 3) := by decide +kernel
theorem dX6_most_167 : decode cX6_most 167 = .ok (.aload_n 0, 1) := by decide +kernel
theorem dX6_most_168 : decode cX6_most 168 = .ok (.getfield 46, 3) := by decide +kernel
theorem dX6_most_171 : decode cX6_most 171 = .ok (.iload_n 3, 1) := by decide +kernel
theorem dX6_most_172 : decode cX6_most 172 = .ok (.iaload, 1) := by decide +kernel
theorem dX6_most_173 : decode cX6_most 173 = .ok (.ireturn, 1) := by decide +kernel
set_option maxRecDepth 20000 in
theorem ggX6_spans_X6_fill : GoodIn wsX6_spans wsX6_fill := goodIn_r _ [5, 6, 7, 8, 9, 10, 11, 4, 12, 13, 14, 15, 16, 17, 18, 19, 20, 21, 22, 23, 24, 25, 26, 27, 28, 29, 30, 31, 32, 41, 42, 43, 44, 45, 46, 47, 48, 49, 50, 51, 52, 53, 54, 55, 56, 57, 58, 59, 60] (by decide +kernel) (by decide +kernel)
set_option maxRecDepth 20000 in
theorem gX6_spans_X6_fill : GoodIn wsX6_spans (wsV RX6 107 RX6 yX6_fill wsX6_fill) := goodIn_app (goodIn_of _ (by decide +kernel)) ggX6_spans_X6_fill
set_option maxRecDepth 20000 in
theorem ggX6_spans_X6_isReached : GoodIn wsX6_spans wsX6_isReached := goodIn_r _ [36, 37, 38, 39, 4, 40, 6, 7, 41, 42, 43, 44, 45, 46, 47, 48, 49, 50, 51, 52, 53, 54, 55, 56, 57, 58, 59, 60] (by decide +kernel) (by decide +kernel)
set_option maxRecDepth 20000 in
theorem gX6_spans_X6_isReached : GoodIn wsX6_spans (wsV RX6 122 RX6 yX6_isReached wsX6_isReached) := goodIn_app (goodIn_of _ (by decide +kernel)) ggX6_spans_X6_isReached
theorem dX6_spans_0 : decode cX6_spans 0 = .ok (.aload_n 0, 1) := by decide +kernel
theorem dX6_spans_1 : decode cX6_spans 1 = .ok (.invokevirtual 107, 3) := by decide +kernel
theorem dX6_spans_4 : decode cX6_spans 4 = .ok (.iconst 1, 1) := by decide +kernel
theorem dX6_spans_5 : decode cX6_spans 5 = .ok (.istore_n 2, 1) := by decide +kernel
theorem dX6_spans_6 : decode cX6_spans 6 = .ok (.iconst 1, 1) := by decide +kernel
theorem dX6_spans_7 : decode cX6_spans 7 = .ok (.istore_n 3, 1) := by decide +kernel
theorem dX6_spans_8 : decode cX6_spans 8 = .ok (.iload_n 3, 1) := by decide +kernel
theorem dX6_spans_9 : decode cX6_spans 9 = .ok (.iload_n 1, 1) := by decide +kernel
theorem dX6_spans_10 : decode cX6_spans 10 = .ok (.if_icmp .gt 19, 3) := by decide +kernel
theorem dX6_spans_13 : decode cX6_spans 13 = .ok (.iload_n 2, 1) := by decide +kernel
theorem dX6_spans_14 : decode cX6_spans 14 = .ok (.ifCond .eq 15, 3) := by decide +kernel
theorem dX6_spans_17 : decode cX6_spans 17 = .ok (.aload_n 0, 1) := by decide +kernel
theorem dX6_spans_18 : decode cX6_spans 18 = .ok (.iload_n 3, 1) := by decide +kernel
theorem dX6_spans_19 : decode cX6_spans 19 = .ok (.invokevirtual 122, 3) := by decide +kernel
theorem dX6_spans_22 : decode cX6_spans 22 = .ok (.istore_n 2, 1) := by decide +kernel
theorem dX6_spans_23 : decode cX6_spans 23 = .ok (.iinc 3 1, 3) := by decide +kernel
theorem dX6_spans_26 : decode cX6_spans 26 = .ok (.goto (-18), 3) := by decide +kernel
theorem dX6_spans_29 : decode cX6_spans 29 = .ok (.iload_n 2, 1) := by decide +kernel
theorem dX6_spans_30 : decode cX6_spans 30 = .ok (.ireturn, 1) := by decide +kernel
set_option maxRecDepth 20000 in
theorem ggX6_span_X6_in : GoodIn wsX6_span wsX6_in := goodIn_r _ [8] (by decide +kernel) (by decide +kernel)
set_option maxRecDepth 20000 in
theorem gX6_span_X6_in : GoodIn wsX6_span (va_wsS RX6 57 yX6_in wsX6_in) := goodIn_app (goodIn_of _ (by decide +kernel)) ggX6_span_X6_in
set_option maxRecDepth 20000 in
theorem ggX6_span_X6_spans : GoodIn wsX6_span wsX6_spans := goodIn_r _ [12, 13, 14, 15, 7, 16, 3, 17, 4, 18, 19, 20, 21, 22, 23, 24, 25, 26, 27, 28, 29, 30, 31, 32, 33, 34, 35, 36, 37, 38, 39, 40, 41, 42, 43, 44, 45, 46, 47, 48, 49, 50, 51, 52, 53, 54, 55, 56, 57, 58, 59, 60, 61, 62, 63, 64, 65, 66, 67, 68, 69] (by decide +kernel) (by decide +kernel)
set_option maxRecDepth 20000 in
theorem gX6_span_X6_spans : GoodIn wsX6_span (wsV RX6 172 RX6 yX6_spans wsX6_spans) := goodIn_app (goodIn_of _ (by decide +kernel)) ggX6_span_X6_spans
theorem dX6_span_0 : decode cX6_span 0 = .ok (.iload_n 1, 1) := by decide +kernel
theorem dX6_span_1 : decode cX6_span 1 = .ok (.i2l, 1) := by decide +kernel
theorem dX6_span_2 : decode cX6_span 2 = .ok (.lconst 1, 1) := by decide +kernel
theorem dX6_span_3 : decode cX6_span 3 = .ok (.ldc2_w 129, 3) := by decide +kernel
theorem dX6_span_6 : decode cX6_span 6 = .ok (.invokestatic 57, 3) := by decide +kernel
theorem dX6_span_9 : decode cX6_span 9 = .ok (.ifCond .eq 28, 3) := by decide +kernel
theorem dX6_span_12 : decode cX6_span 12 = .ok (.iload_n 2, 1) := by decide +kernel
theorem dX6_span_13 : decode cX6_span 13 = .ok (.i2l, 1) := by decide +kernel
theorem dX6_span_14 : decode cX6_span 14 = .ok (.lconst 1, 1) := by decide +kernel
theorem dX6_span_15 : decode cX6_span 15 = .ok (.ldc2_w 55, 3) := by decide +kernel
theorem dX6_span_18 : decode cX6_span 18 = .ok (.invokestatic 57, 3) := by decide +kernel
theorem dX6_span_21 : decode cX6_span 21 = .ok (.ifCond .eq 16, 3) := by decide +kernel
theorem dX6_span_24 : decode cX6_span 24 = .ok (.iload_n 3, 1) := by decide +kernel
theorem dX6_span_25 : decode cX6_span 25 = .ok (.i2l, 1) := by decide +kernel
theorem dX6_span_26 : decode cX6_span 26 = .ok (.lconst 0, 1) := by decide +kernel
theorem dX6_span_27 : decode cX6_span 27 = .ok (.iload_n 1, 1) := by decide +kernel
theorem dX6_span_28 : decode cX6_span 28 = .ok (.iconst 1, 1) := by decide +kernel
theorem dX6_span_29 : decode cX6_span 29 = .ok (.isub, 1) := by decide +kernel
theorem dX6_span_30 : decode cX6_span 30 = .ok (.i2l, 1) := by decide +kernel
theorem dX6_span_31 : decode cX6_span 31 = .ok (.invokestatic 57, 3) := by decide +kernel
theorem dX6_span_34 : decode cX6_span 34 = .ok (.ifCond .ne 7, 3) := by decide +kernel
theorem dX6_span_37 : decode cX6_span 37 = .ok (.sipush (-1002), 3) := by decide +kernel
theorem dX6_span_40 : decode cX6_span 40 = .ok (.ireturn, 1) := by decide +kernel
theorem dX6_span_41 : decode cX6_span 41 = .ok (.aload_n 0, 1) := by decide +kernel
theorem dX6_span_42 : decode cX6_span 42 = .ok (.iload_n 1, 1) := by decide +kernel
theorem dX6_span_43 : decode cX6_span 43 = .ok (.putfield 96, 3) := by decide +kernel
theorem dX6_span_46 : decode cX6_span 46 = .ok (.iconst 1, 1) := by decide +kernel
theorem dX6_span_47 : decode cX6_span 47 = .ok (.istore 4, 2) := by decide +kernel
theorem dX6_span_49 : decode cX6_span 49 = .ok (.iload 4, 2) := by decide +kernel
theorem dX6_span_51 : decode cX6_span 51 = .ok (.bipush 12, 2) := by decide +kernel
theorem dX6_span_53 : decode cX6_span 53 = .ok (.if_icmp .gt 106, 3) := by decide +kernel
theorem dX6_span_56 : decode cX6_span 56 = .ok (.iload_n 1, 1) := by decide +kernel
theorem dX6_span_57 : decode cX6_span 57 = .ok (.iconst 1, 1) := by decide +kernel
theorem dX6_span_58 : decode cX6_span 58 = .ok (.if_icmp .le 10, 3) := by decide +kernel
theorem dX6_span_61 : decode cX6_span 61 = .ok (.iload 4, 2) := by decide +kernel
theorem dX6_span_63 : decode cX6_span 63 = .ok (.iconst 1, 1) := by decide +kernel
theorem dX6_span_64 : decode cX6_span 64 = .ok (.iadd, 1) := by decide +kernel
theorem dX6_span_65 : decode cX6_span 65 = .ok (.goto 5, 3) := by decide +kernel
theorem dX6_span_68 : decode cX6_span 68 = .ok (.bipush 12, 2) := by decide +kernel
theorem dX6_span_70 : decode cX6_span 70 = .ok (.istore 5, 2) := by decide +kernel
theorem dX6_span_72 : decode cX6_span 72 = .ok (.iload 5, 2) := by decide +kernel
theorem dX6_span_74 : decode cX6_span 74 = .ok (.bipush 12, 2) := by decide +kernel
theorem dX6_span_76 : decode cX6_span 76 = .ok (.if_icmp .gt 77, 3) := by decide +kernel
theorem dX6_span_79 : decode cX6_span 79 = .ok (.iload_n 1, 1) := by decide +kernel
theorem dX6_span_80 : decode cX6_span 80 = .ok (.iconst 2, 1) := by decide +kernel
theorem dX6_span_81 : decode cX6_span 81 = .ok (.if_icmp .le 10, 3) := by decide +kernel
theorem dX6_span_84 : decode cX6_span 84 = .ok (.iload 5, 2) := by decide +kernel
theorem dX6_span_86 : decode cX6_span 86 = .ok (.iconst 1, 1) := by decide +kernel
theorem dX6_span_87 : decode cX6_span 87 = .ok (.iadd, 1) := by decide +kernel
theorem dX6_span_88 : decode cX6_span 88 = .ok (.goto 5, 3) := by decide +kernel
theorem dX6_span_91 : decode cX6_span 91 = .ok (.bipush 12, 2) := by decide +kernel
theorem dX6_span_93 : decode cX6_span 93 = .ok (.istore 6, 2) := by decide +kernel
theorem dX6_span_95 : decode cX6_span 95 = .ok (.iload 6, 2) := by decide +kernel
theorem dX6_span_97 : decode cX6_span 97 = .ok (.bipush 12, 2) := by decide +kernel
theorem dX6_span_99 : decode cX6_span 99 = .ok (.if_icmp .gt 48, 3) := by decide +kernel
theorem dX6_span_102 : decode cX6_span 102 = .ok (.aload_n 0, 1) := by decide +kernel
theorem dX6_span_103 : decode cX6_span 103 = .ok (.getfield 26, 3) := by decide +kernel
theorem dX6_span_106 : decode cX6_span 106 = .ok (.iconst 0, 1) := by decide +kernel
theorem dX6_span_107 : decode cX6_span 107 = .ok (.iload 4, 2) := by decide +kernel
theorem dX6_span_109 : decode cX6_span 109 = .ok (.iastore, 1) := by decide +kernel
theorem dX6_span_110 : decode cX6_span 110 = .ok (.aload_n 0, 1) := by decide +kernel
theorem dX6_span_111 : decode cX6_span 111 = .ok (.getfield 26, 3) := by decide +kernel
theorem dX6_span_114 : decode cX6_span 114 = .ok (.iconst 1, 1) := by decide +kernel
theorem dX6_span_115 : decode cX6_span 115 = .ok (.iload 5, 2) := by decide +kernel
theorem dX6_span_117 : decode cX6_span 117 = .ok (.iastore, 1) := by decide +kernel
theorem dX6_span_118 : decode cX6_span 118 = .ok (.aload_n 0, 1) := by decide +kernel
theorem dX6_span_119 : decode cX6_span 119 = .ok (.getfield 26, 3) := by decide +kernel
theorem dX6_span_122 : decode cX6_span 122 = .ok (.iconst 2, 1) := by decide +kernel
theorem dX6_span_123 : decode cX6_span 123 = .ok (.iload 6, 2) := by decide +kernel
theorem dX6_span_125 : decode cX6_span 125 = .ok (.iastore, 1) := by decide +kernel
theorem dX6_span_126 : decode cX6_span 126 = .ok (.aload_n 0, 1) := by decide +kernel
theorem dX6_span_127 : decode cX6_span 127 = .ok (.iload_n 2, 1) := by decide +kernel
theorem dX6_span_128 : decode cX6_span 128 = .ok (.invokevirtual 172, 3) := by decide +kernel
theorem dX6_span_131 : decode cX6_span 131 = .ok (.ifCond .eq 10, 3) := by decide +kernel
theorem dX6_span_134 : decode cX6_span 134 = .ok (.aload_n 0, 1) := by decide +kernel
theorem dX6_span_135 : decode cX6_span 135 = .ok (.getfield 26, 3) := by decide +kernel
theorem dX6_span_138 : decode cX6_span 138 = .ok (.iload_n 3, 1) := by decide +kernel
theorem dX6_span_139 : decode cX6_span 139 = .ok (.iaload, 1) := by decide +kernel
theorem dX6_span_140 : decode cX6_span 140 = .ok (.ireturn, 1) := by decide +kernel
theorem dX6_span_141 : decode cX6_span 141 = .ok (.iinc 6 1, 3) := by decide +kernel
theorem dX6_span_144 : decode cX6_span 144 = .ok (.goto (-49), 3) := by decide +kernel
theorem dX6_span_147 : decode cX6_span 147 = .ok (.iinc 5 1, 3) := by decide +kernel
theorem dX6_span_150 : decode cX6_span 150 = .ok (.goto (-78), 3) := by decide +kernel
theorem dX6_span_153 : decode cX6_span 153 = .ok (.iinc 4 1, 3) := by decide +kernel
theorem dX6_span_156 : decode cX6_span 156 = .ok (.goto (-107), 3) := by decide +kernel
theorem dX6_span_159 : decode cX6_span 159 = .ok (.iconst (-1), 1) := by decide +kernel
theorem dX6_span_160 : decode cX6_span 160 = .ok (.ireturn, 1) := by decide +kernel
theorem dX6_root_0 : decode cX6_root 0 = .ok (.iconst 0, 1) := by decide +kernel
theorem dX6_root_1 : decode cX6_root 1 = .ok (.istore_n 1, 1) := by decide +kernel
theorem dX6_root_2 : decode cX6_root 2 = .ok (.iload_n 1, 1) := by decide +kernel
theorem dX6_root_3 : decode cX6_root 3 = .ok (.iconst 1, 1) := by decide +kernel
theorem dX6_root_4 : decode cX6_root 4 = .ok (.iadd, 1) := by decide +kernel
theorem dX6_root_5 : decode cX6_root 5 = .ok (.iload_n 1, 1) := by decide +kernel
theorem dX6_root_6 : decode cX6_root 6 = .ok (.iconst 1, 1) := by decide +kernel
theorem dX6_root_7 : decode cX6_root 7 = .ok (.iadd, 1) := by decide +kernel
theorem dX6_root_8 : decode cX6_root 8 = .ok (.imul, 1) := by decide +kernel
theorem dX6_root_9 : decode cX6_root 9 = .ok (.iload_n 0, 1) := by decide +kernel
theorem dX6_root_10 : decode cX6_root 10 = .ok (.if_icmp .gt 9, 3) := by decide +kernel
theorem dX6_root_13 : decode cX6_root 13 = .ok (.iinc 1 1, 3) := by decide +kernel
theorem dX6_root_16 : decode cX6_root 16 = .ok (.goto (-14), 3) := by decide +kernel
theorem dX6_root_19 : decode cX6_root 19 = .ok (.iload_n 1, 1) := by decide +kernel
theorem dX6_root_20 : decode cX6_root 20 = .ok (.ireturn, 1) := by decide +kernel
set_option maxRecDepth 20000 in
theorem ggX6_signed_X6_root : GoodIn wsX6_signed wsX6_root := goodIn_r _ [4] (by decide +kernel) (by decide +kernel)
set_option maxRecDepth 20000 in
theorem gX6_signed_X6_root : GoodIn wsX6_signed (va_wsS RX6 175 yX6_root wsX6_root) := goodIn_app (goodIn_of _ (by decide +kernel)) ggX6_signed_X6_root
theorem dX6_signed_0 : decode cX6_signed 0 = .ok (.iload_n 0, 1) := by decide +kernel
theorem dX6_signed_1 : decode cX6_signed 1 = .ok (.ifCond .ne 8, 3) := by decide +kernel
theorem dX6_signed_4 : decode cX6_signed 4 = .ok (.iload_n 1, 1) := by decide +kernel
theorem dX6_signed_5 : decode cX6_signed 5 = .ok (.invokestatic 175, 3) := by decide +kernel
theorem dX6_signed_8 : decode cX6_signed 8 = .ok (.ireturn, 1) := by decide +kernel
theorem dX6_signed_9 : decode cX6_signed 9 = .ok (.iload_n 0, 1) := by decide +kernel
theorem dX6_signed_10 : decode cX6_signed 10 = .ok (.iconst 1, 1) := by decide +kernel
theorem dX6_signed_11 : decode cX6_signed 11 = .ok (.if_icmp .ne 40, 3) := by decide +kernel
theorem dX6_signed_14 : decode cX6_signed 14 = .ok (.iconst 1, 1) := by decide +kernel
theorem dX6_signed_15 : decode cX6_signed 15 = .ok (.istore_n 2, 1) := by decide +kernel
theorem dX6_signed_16 : decode cX6_signed 16 = .ok (.iconst 2, 1) := by decide +kernel
theorem dX6_signed_17 : decode cX6_signed 17 = .ok (.istore_n 3, 1) := by decide +kernel
theorem dX6_signed_18 : decode cX6_signed 18 = .ok (.iload_n 3, 1) := by decide +kernel
theorem dX6_signed_19 : decode cX6_signed 19 = .ok (.iload_n 1, 1) := by decide +kernel
theorem dX6_signed_20 : decode cX6_signed 20 = .ok (.if_icmp .gt 19, 3) := by decide +kernel
theorem dX6_signed_23 : decode cX6_signed 23 = .ok (.iload_n 1, 1) := by decide +kernel
theorem dX6_signed_24 : decode cX6_signed 24 = .ok (.bipush 7, 2) := by decide +kernel
theorem dX6_signed_26 : decode cX6_signed 26 = .ok (.if_icmp .gt 13, 3) := by decide +kernel
theorem dX6_signed_29 : decode cX6_signed 29 = .ok (.iload_n 2, 1) := by decide +kernel
theorem dX6_signed_30 : decode cX6_signed 30 = .ok (.iload_n 3, 1) := by decide +kernel
theorem dX6_signed_31 : decode cX6_signed 31 = .ok (.imul, 1) := by decide +kernel
theorem dX6_signed_32 : decode cX6_signed 32 = .ok (.istore_n 2, 1) := by decide +kernel
theorem dX6_signed_33 : decode cX6_signed 33 = .ok (.iinc 3 1, 3) := by decide +kernel
theorem dX6_signed_36 : decode cX6_signed 36 = .ok (.goto (-18), 3) := by decide +kernel
theorem dX6_signed_39 : decode cX6_signed 39 = .ok (.iload_n 1, 1) := by decide +kernel
theorem dX6_signed_40 : decode cX6_signed 40 = .ok (.bipush 7, 2) := by decide +kernel
theorem dX6_signed_42 : decode cX6_signed 42 = .ok (.if_icmp .gt 7, 3) := by decide +kernel
theorem dX6_signed_45 : decode cX6_signed 45 = .ok (.iload_n 2, 1) := by decide +kernel
theorem dX6_signed_46 : decode cX6_signed 46 = .ok (.goto 4, 3) := by decide +kernel
theorem dX6_signed_49 : decode cX6_signed 49 = .ok (.iconst (-1), 1) := by decide +kernel
theorem dX6_signed_50 : decode cX6_signed 50 = .ok (.ireturn, 1) := by decide +kernel
theorem dX6_signed_51 : decode cX6_signed 51 = .ok (.iload_n 0, 1) := by decide +kernel
theorem dX6_signed_52 : decode cX6_signed 52 = .ok (.iconst 2, 1) := by decide +kernel
theorem dX6_signed_53 : decode cX6_signed 53 = .ok (.if_icmp .ne 21, 3) := by decide +kernel
theorem dX6_signed_56 : decode cX6_signed 56 = .ok (.iload_n 1, 1) := by decide +kernel
theorem dX6_signed_57 : decode cX6_signed 57 = .ok (.bipush 70, 2) := by decide +kernel
theorem dX6_signed_59 : decode cX6_signed 59 = .ok (.if_icmp .gt 13, 3) := by decide +kernel
theorem dX6_signed_62 : decode cX6_signed 62 = .ok (.iload_n 1, 1) := by decide +kernel
theorem dX6_signed_63 : decode cX6_signed 63 = .ok (.iload_n 1, 1) := by decide +kernel
theorem dX6_signed_64 : decode cX6_signed 64 = .ok (.iconst 1, 1) := by decide +kernel
theorem dX6_signed_65 : decode cX6_signed 65 = .ok (.iadd, 1) := by decide +kernel
theorem dX6_signed_66 : decode cX6_signed 66 = .ok (.imul, 1) := by decide +kernel
theorem dX6_signed_67 : decode cX6_signed 67 = .ok (.iconst 2, 1) := by decide +kernel
theorem dX6_signed_68 : decode cX6_signed 68 = .ok (.idiv, 1) := by decide +kernel
theorem dX6_signed_69 : decode cX6_signed 69 = .ok (.goto 4, 3) := by decide +kernel
theorem dX6_signed_72 : decode cX6_signed 72 = .ok (.iconst (-1), 1) := by decide +kernel
theorem dX6_signed_73 : decode cX6_signed 73 = .ok (.ireturn, 1) := by decide +kernel
theorem dX6_signed_74 : decode cX6_signed 74 = .ok (.iload_n 1, 1) := by decide +kernel
theorem dX6_signed_75 : decode cX6_signed 75 = .ok (.iconst 1, 1) := by decide +kernel
theorem dX6_signed_76 : decode cX6_signed 76 = .ok (.isub, 1) := by decide +kernel
theorem dX6_signed_77 : decode cX6_signed 77 = .ok (.ireturn, 1) := by decide +kernel
set_option maxRecDepth 20000 in
theorem ggX6_signs_X6_in : GoodIn wsX6_signs wsX6_in := goodIn_r _ [8] (by decide +kernel) (by decide +kernel)
set_option maxRecDepth 20000 in
theorem gX6_signs_X6_in : GoodIn wsX6_signs (va_wsS RX6 57 yX6_in wsX6_in) := goodIn_app (goodIn_of _ (by decide +kernel)) ggX6_signs_X6_in
set_option maxRecDepth 20000 in
theorem ggX6_signs_X6_signed : GoodIn wsX6_signs wsX6_signed := goodIn_r _ [11, 12, 13, 7, 14] (by decide +kernel) (by decide +kernel)
set_option maxRecDepth 20000 in
theorem gX6_signs_X6_signed : GoodIn wsX6_signs (va_wsS RX6 180 yX6_signed wsX6_signed) := goodIn_app (goodIn_of _ (by decide +kernel)) ggX6_signs_X6_signed
theorem dX6_signs_0 : decode cX6_signs 0 = .ok (.iload_n 1, 1) := by decide +kernel
theorem dX6_signs_1 : decode cX6_signs 1 = .ok (.i2l, 1) := by decide +kernel
theorem dX6_signs_2 : decode cX6_signs 2 = .ok (.lconst 1, 1) := by decide +kernel
theorem dX6_signs_3 : decode cX6_signs 3 = .ok (.ldc2_w 55, 3) := by decide +kernel
theorem dX6_signs_6 : decode cX6_signs 6 = .ok (.invokestatic 57, 3) := by decide +kernel
theorem dX6_signs_9 : decode cX6_signs 9 = .ok (.ifCond .eq 15, 3) := by decide +kernel
theorem dX6_signs_12 : decode cX6_signs 12 = .ok (.iload_n 2, 1) := by decide +kernel
theorem dX6_signs_13 : decode cX6_signs 13 = .ok (.i2l, 1) := by decide +kernel
theorem dX6_signs_14 : decode cX6_signs 14 = .ok (.lconst 0, 1) := by decide +kernel
theorem dX6_signs_15 : decode cX6_signs 15 = .ok (.ldc2_w 178, 3) := by decide +kernel
theorem dX6_signs_18 : decode cX6_signs 18 = .ok (.invokestatic 57, 3) := by decide +kernel
theorem dX6_signs_21 : decode cX6_signs 21 = .ok (.ifCond .ne 7, 3) := by decide +kernel
theorem dX6_signs_24 : decode cX6_signs 24 = .ok (.sipush (-1002), 3) := by decide +kernel
theorem dX6_signs_27 : decode cX6_signs 27 = .ok (.ireturn, 1) := by decide +kernel
theorem dX6_signs_28 : decode cX6_signs 28 = .ok (.iconst 0, 1) := by decide +kernel
theorem dX6_signs_29 : decode cX6_signs 29 = .ok (.istore_n 3, 1) := by decide +kernel
theorem dX6_signs_30 : decode cX6_signs 30 = .ok (.iload_n 3, 1) := by decide +kernel
theorem dX6_signs_31 : decode cX6_signs 31 = .ok (.sipush 5040, 3) := by decide +kernel
theorem dX6_signs_34 : decode cX6_signs 34 = .ok (.if_icmp .gt 16, 3) := by decide +kernel
theorem dX6_signs_37 : decode cX6_signs 37 = .ok (.aload_n 0, 1) := by decide +kernel
theorem dX6_signs_38 : decode cX6_signs 38 = .ok (.getfield 49, 3) := by decide +kernel
theorem dX6_signs_41 : decode cX6_signs 41 = .ok (.iload_n 3, 1) := by decide +kernel
theorem dX6_signs_42 : decode cX6_signs 42 = .ok (.iconst (-1), 1) := by decide +kernel
theorem dX6_signs_43 : decode cX6_signs 43 = .ok (.iastore, 1) := by decide +kernel
theorem dX6_signs_44 : decode cX6_signs 44 = .ok (.iinc 3 1, 3) := by decide +kernel
theorem dX6_signs_47 : decode cX6_signs 47 = .ok (.goto (-17), 3) := by decide +kernel
theorem dX6_signs_50 : decode cX6_signs 50 = .ok (.aload_n 0, 1) := by decide +kernel
theorem dX6_signs_51 : decode cX6_signs 51 = .ok (.getfield 49, 3) := by decide +kernel
theorem dX6_signs_54 : decode cX6_signs 54 = .ok (.iload_n 1, 1) := by decide +kernel
theorem dX6_signs_55 : decode cX6_signs 55 = .ok (.iconst 0, 1) := by decide +kernel
theorem dX6_signs_56 : decode cX6_signs 56 = .ok (.iastore, 1) := by decide +kernel
theorem dX6_signs_57 : decode cX6_signs 57 = .ok (.aload_n 0, 1) := by decide +kernel
theorem dX6_signs_58 : decode cX6_signs 58 = .ok (.getfield 52, 3) := by decide +kernel
theorem dX6_signs_61 : decode cX6_signs 61 = .ok (.iconst 0, 1) := by decide +kernel
theorem dX6_signs_62 : decode cX6_signs 62 = .ok (.iload_n 1, 1) := by decide +kernel
theorem dX6_signs_63 : decode cX6_signs 63 = .ok (.iastore, 1) := by decide +kernel
theorem dX6_signs_64 : decode cX6_signs 64 = .ok (.iconst 1, 1) := by decide +kernel
theorem dX6_signs_65 : decode cX6_signs 65 = .ok (.istore_n 3, 1) := by decide +kernel
theorem dX6_signs_66 : decode cX6_signs 66 = .ok (.iconst 0, 1) := by decide +kernel
theorem dX6_signs_67 : decode cX6_signs 67 = .ok (.istore 4, 2) := by decide +kernel
theorem dX6_signs_69 : decode cX6_signs 69 = .ok (.iload 4, 2) := by decide +kernel
theorem dX6_signs_71 : decode cX6_signs 71 = .ok (.iload_n 3, 1) := by decide +kernel
theorem dX6_signs_72 : decode cX6_signs 72 = .ok (.if_icmp .ge 92, 3) := by decide +kernel
theorem dX6_signs_75 : decode cX6_signs 75 = .ok (.aload_n 0, 1) := by decide +kernel
theorem dX6_signs_76 : decode cX6_signs 76 = .ok (.getfield 52, 3) := by decide +kernel
theorem dX6_signs_79 : decode cX6_signs 79 = .ok (.iload 4, 2) := by decide +kernel
theorem dX6_signs_81 : decode cX6_signs 81 = .ok (.iaload, 1) := by decide +kernel
theorem dX6_signs_82 : decode cX6_signs 82 = .ok (.istore 5, 2) := by decide +kernel
theorem dX6_signs_84 : decode cX6_signs 84 = .ok (.iconst 0, 1) := by decide +kernel
theorem dX6_signs_85 : decode cX6_signs 85 = .ok (.istore 6, 2) := by decide +kernel
theorem dX6_signs_87 : decode cX6_signs 87 = .ok (.iload 6, 2) := by decide +kernel
theorem dX6_signs_89 : decode cX6_signs 89 = .ok (.iconst 4, 1) := by decide +kernel
theorem dX6_signs_90 : decode cX6_signs 90 = .ok (.if_icmp .ge 68, 3) := by decide +kernel
theorem dX6_signs_93 : decode cX6_signs 93 = .ok (.iload 6, 2) := by decide +kernel
theorem dX6_signs_95 : decode cX6_signs 95 = .ok (.iload 5, 2) := by decide +kernel
theorem dX6_signs_97 : decode cX6_signs 97 = .ok (.invokestatic 180, 3) := by decide +kernel
theorem dX6_signs_100 : decode cX6_signs 100 = .ok (.istore 7, 2) := by decide +kernel
theorem dX6_signs_102 : decode cX6_signs 102 = .ok (.iload 7, 2) := by decide +kernel
theorem dX6_signs_104 : decode cX6_signs 104 = .ok (.ifCond .lt 48, 3) := by decide +kernel
theorem dX6_signs_107 : decode cX6_signs 107 = .ok (.iload 7, 2) := by decide +kernel
theorem dX6_signs_109 : decode cX6_signs 109 = .ok (.sipush 5040, 3) := by decide +kernel
theorem dX6_signs_112 : decode cX6_signs 112 = .ok (.if_icmp .gt 40, 3) := by decide +kernel
theorem dX6_signs_115 : decode cX6_signs 115 = .ok (.aload_n 0, 1) := by decide +kernel
theorem dX6_signs_116 : decode cX6_signs 116 = .ok (.getfield 49, 3) := by decide +kernel
theorem dX6_signs_119 : decode cX6_signs 119 = .ok (.iload 7, 2) := by decide +kernel
theorem dX6_signs_121 : decode cX6_signs 121 = .ok (.iaload, 1) := by decide +kernel
theorem dX6_signs_122 : decode cX6_signs 122 = .ok (.ifCond .ge 30, 3) := by decide +kernel
theorem dX6_signs_125 : decode cX6_signs 125 = .ok (.aload_n 0, 1) := by decide +kernel
theorem dX6_signs_126 : decode cX6_signs 126 = .ok (.getfield 49, 3) := by decide +kernel
theorem dX6_signs_129 : decode cX6_signs 129 = .ok (.iload 7, 2) := by decide +kernel
theorem dX6_signs_131 : decode cX6_signs 131 = .ok (.aload_n 0, 1) := by decide +kernel
theorem dX6_signs_132 : decode cX6_signs 132 = .ok (.getfield 49, 3) := by decide +kernel
theorem dX6_signs_135 : decode cX6_signs 135 = .ok (.iload 5, 2) := by decide +kernel
theorem dX6_signs_137 : decode cX6_signs 137 = .ok (.iaload, 1) := by decide +kernel
theorem dX6_signs_138 : decode cX6_signs 138 = .ok (.iconst 1, 1) := by decide +kernel
theorem dX6_signs_139 : decode cX6_signs 139 = .ok (.iadd, 1) := by decide +kernel
theorem dX6_signs_140 : decode cX6_signs 140 = .ok (.iastore, 1) := by decide +kernel
theorem dX6_signs_141 : decode cX6_signs 141 = .ok (.aload_n 0, 1) := by decide +kernel
theorem dX6_signs_142 : decode cX6_signs 142 = .ok (.getfield 52, 3) := by decide +kernel
theorem dX6_signs_145 : decode cX6_signs 145 = .ok (.iload_n 3, 1) := by decide +kernel
theorem dX6_signs_146 : decode cX6_signs 146 = .ok (.iload 7, 2) := by decide +kernel
theorem dX6_signs_148 : decode cX6_signs 148 = .ok (.iastore, 1) := by decide +kernel
theorem dX6_signs_149 : decode cX6_signs 149 = .ok (.iinc 3 1, 3) := by decide +kernel
theorem dX6_signs_152 : decode cX6_signs 152 = .ok (.iinc 6 1, 3) := by decide +kernel
theorem dX6_signs_155 : decode cX6_signs 155 = .ok (.goto (-68), 3) := by decide +kernel
theorem dX6_signs_158 : decode cX6_signs 158 = .ok (.iinc 4 1, 3) := by decide +kernel
theorem dX6_signs_161 : decode cX6_signs 161 = .ok (.goto (-92), 3) := by decide +kernel
theorem dX6_signs_164 : decode cX6_signs 164 = .ok (.aload_n 0, 1) := by decide +kernel
theorem dX6_signs_165 : decode cX6_signs 165 = .ok (.getfield 49, 3) := by decide +kernel
theorem dX6_signs_168 : decode cX6_signs 168 = .ok (.iload_n 2, 1) := by decide +kernel
theorem dX6_signs_169 : decode cX6_signs 169 = .ok (.iaload, 1) := by decide +kernel
theorem dX6_signs_170 : decode cX6_signs 170 = .ok (.ireturn, 1) := by decide +kernel
theorem dJ6_bitCount_0f7a4_0 : decode cJ6_bitCount_0f7a4 0 = .ok (.iload_n 0, 1) := by decide +kernel
theorem dJ6_bitCount_0f7a4_1 : decode cJ6_bitCount_0f7a4 1 = .ok (.iload_n 0, 1) := by decide +kernel
theorem dJ6_bitCount_0f7a4_2 : decode cJ6_bitCount_0f7a4 2 = .ok (.iconst 1, 1) := by decide +kernel
theorem dJ6_bitCount_0f7a4_3 : decode cJ6_bitCount_0f7a4 3 = .ok (.iushr, 1) := by decide +kernel
theorem dJ6_bitCount_0f7a4_4 : decode cJ6_bitCount_0f7a4 4 = .ok (.ldc_w 265, 3) := by decide +kernel
theorem dJ6_bitCount_0f7a4_7 : decode cJ6_bitCount_0f7a4 7 = .ok (.iand, 1) := by decide +kernel
theorem dJ6_bitCount_0f7a4_8 : decode cJ6_bitCount_0f7a4 8 = .ok (.isub, 1) := by decide +kernel
theorem dJ6_bitCount_0f7a4_9 : decode cJ6_bitCount_0f7a4 9 = .ok (.istore_n 0, 1) := by decide +kernel
theorem dJ6_bitCount_0f7a4_10 : decode cJ6_bitCount_0f7a4 10 = .ok (.iload_n 0, 1) := by decide +kernel
theorem dJ6_bitCount_0f7a4_11 : decode cJ6_bitCount_0f7a4 11 = .ok (.ldc_w 266, 3) := by decide +kernel
theorem dJ6_bitCount_0f7a4_14 : decode cJ6_bitCount_0f7a4 14 = .ok (.iand, 1) := by decide +kernel
theorem dJ6_bitCount_0f7a4_15 : decode cJ6_bitCount_0f7a4 15 = .ok (.iload_n 0, 1) := by decide +kernel
theorem dJ6_bitCount_0f7a4_16 : decode cJ6_bitCount_0f7a4 16 = .ok (.iconst 2, 1) := by decide +kernel
theorem dJ6_bitCount_0f7a4_17 : decode cJ6_bitCount_0f7a4 17 = .ok (.iushr, 1) := by decide +kernel
theorem dJ6_bitCount_0f7a4_18 : decode cJ6_bitCount_0f7a4 18 = .ok (.ldc_w 266, 3) := by decide +kernel
theorem dJ6_bitCount_0f7a4_21 : decode cJ6_bitCount_0f7a4 21 = .ok (.iand, 1) := by decide +kernel
theorem dJ6_bitCount_0f7a4_22 : decode cJ6_bitCount_0f7a4 22 = .ok (.iadd, 1) := by decide +kernel
theorem dJ6_bitCount_0f7a4_23 : decode cJ6_bitCount_0f7a4 23 = .ok (.istore_n 0, 1) := by decide +kernel
theorem dJ6_bitCount_0f7a4_24 : decode cJ6_bitCount_0f7a4 24 = .ok (.iload_n 0, 1) := by decide +kernel
theorem dJ6_bitCount_0f7a4_25 : decode cJ6_bitCount_0f7a4 25 = .ok (.iload_n 0, 1) := by decide +kernel
theorem dJ6_bitCount_0f7a4_26 : decode cJ6_bitCount_0f7a4 26 = .ok (.iconst 4, 1) := by decide +kernel
theorem dJ6_bitCount_0f7a4_27 : decode cJ6_bitCount_0f7a4 27 = .ok (.iushr, 1) := by decide +kernel
theorem dJ6_bitCount_0f7a4_28 : decode cJ6_bitCount_0f7a4 28 = .ok (.iadd, 1) := by decide +kernel
theorem dJ6_bitCount_0f7a4_29 : decode cJ6_bitCount_0f7a4 29 = .ok (.ldc_w 267, 3) := by decide +kernel
theorem dJ6_bitCount_0f7a4_32 : decode cJ6_bitCount_0f7a4 32 = .ok (.iand, 1) := by decide +kernel
theorem dJ6_bitCount_0f7a4_33 : decode cJ6_bitCount_0f7a4 33 = .ok (.istore_n 0, 1) := by decide +kernel
theorem dJ6_bitCount_0f7a4_34 : decode cJ6_bitCount_0f7a4 34 = .ok (.iload_n 0, 1) := by decide +kernel
theorem dJ6_bitCount_0f7a4_35 : decode cJ6_bitCount_0f7a4 35 = .ok (.iload_n 0, 1) := by decide +kernel
theorem dJ6_bitCount_0f7a4_36 : decode cJ6_bitCount_0f7a4 36 = .ok (.bipush 8, 2) := by decide +kernel
theorem dJ6_bitCount_0f7a4_38 : decode cJ6_bitCount_0f7a4 38 = .ok (.iushr, 1) := by decide +kernel
theorem dJ6_bitCount_0f7a4_39 : decode cJ6_bitCount_0f7a4 39 = .ok (.iadd, 1) := by decide +kernel
theorem dJ6_bitCount_0f7a4_40 : decode cJ6_bitCount_0f7a4 40 = .ok (.istore_n 0, 1) := by decide +kernel
theorem dJ6_bitCount_0f7a4_41 : decode cJ6_bitCount_0f7a4 41 = .ok (.iload_n 0, 1) := by decide +kernel
theorem dJ6_bitCount_0f7a4_42 : decode cJ6_bitCount_0f7a4 42 = .ok (.iload_n 0, 1) := by decide +kernel
theorem dJ6_bitCount_0f7a4_43 : decode cJ6_bitCount_0f7a4 43 = .ok (.bipush 16, 2) := by decide +kernel
theorem dJ6_bitCount_0f7a4_45 : decode cJ6_bitCount_0f7a4 45 = .ok (.iushr, 1) := by decide +kernel
theorem dJ6_bitCount_0f7a4_46 : decode cJ6_bitCount_0f7a4 46 = .ok (.iadd, 1) := by decide +kernel
theorem dJ6_bitCount_0f7a4_47 : decode cJ6_bitCount_0f7a4 47 = .ok (.istore_n 0, 1) := by decide +kernel
theorem dJ6_bitCount_0f7a4_48 : decode cJ6_bitCount_0f7a4 48 = .ok (.iload_n 0, 1) := by decide +kernel
theorem dJ6_bitCount_0f7a4_49 : decode cJ6_bitCount_0f7a4 49 = .ok (.bipush 63, 2) := by decide +kernel
theorem dJ6_bitCount_0f7a4_51 : decode cJ6_bitCount_0f7a4 51 = .ok (.iand, 1) := by decide +kernel
theorem dJ6_bitCount_0f7a4_52 : decode cJ6_bitCount_0f7a4 52 = .ok (.ireturn, 1) := by decide +kernel
theorem dJ9_abs_0f7a4_0 : decode cJ9_abs_0f7a4 0 = .ok (.iload_n 0, 1) := by decide +kernel
theorem dJ9_abs_0f7a4_1 : decode cJ9_abs_0f7a4 1 = .ok (.ifCond .ge 8, 3) := by decide +kernel
theorem dJ9_abs_0f7a4_4 : decode cJ9_abs_0f7a4 4 = .ok (.iload_n 0, 1) := by decide +kernel
theorem dJ9_abs_0f7a4_5 : decode cJ9_abs_0f7a4 5 = .ok (.ineg, 1) := by decide +kernel
theorem dJ9_abs_0f7a4_6 : decode cJ9_abs_0f7a4 6 = .ok (.goto 4, 3) := by decide +kernel
theorem dJ9_abs_0f7a4_9 : decode cJ9_abs_0f7a4 9 = .ok (.iload_n 0, 1) := by decide +kernel
theorem dJ9_abs_0f7a4_10 : decode cJ9_abs_0f7a4 10 = .ok (.ireturn, 1) := by decide +kernel
theorem dJ9_max_7cf53_0 : decode cJ9_max_7cf53 0 = .ok (.iload_n 0, 1) := by decide +kernel
theorem dJ9_max_7cf53_1 : decode cJ9_max_7cf53 1 = .ok (.iload_n 1, 1) := by decide +kernel
theorem dJ9_max_7cf53_2 : decode cJ9_max_7cf53 2 = .ok (.if_icmp .lt 7, 3) := by decide +kernel
theorem dJ9_max_7cf53_5 : decode cJ9_max_7cf53 5 = .ok (.iload_n 0, 1) := by decide +kernel
theorem dJ9_max_7cf53_6 : decode cJ9_max_7cf53 6 = .ok (.goto 4, 3) := by decide +kernel
theorem dJ9_max_7cf53_9 : decode cJ9_max_7cf53 9 = .ok (.iload_n 1, 1) := by decide +kernel
theorem dJ9_max_7cf53_10 : decode cJ9_max_7cf53 10 = .ok (.ireturn, 1) := by decide +kernel
theorem dJ9_min_7cf53_0 : decode cJ9_min_7cf53 0 = .ok (.iload_n 0, 1) := by decide +kernel
theorem dJ9_min_7cf53_1 : decode cJ9_min_7cf53 1 = .ok (.iload_n 1, 1) := by decide +kernel
theorem dJ9_min_7cf53_2 : decode cJ9_min_7cf53 2 = .ok (.if_icmp .gt 7, 3) := by decide +kernel
theorem dJ9_min_7cf53_5 : decode cJ9_min_7cf53 5 = .ok (.iload_n 0, 1) := by decide +kernel
theorem dJ9_min_7cf53_6 : decode cJ9_min_7cf53 6 = .ok (.goto 4, 3) := by decide +kernel
theorem dJ9_min_7cf53_9 : decode cJ9_min_7cf53 9 = .ok (.iload_n 1, 1) := by decide +kernel
theorem dJ9_min_7cf53_10 : decode cJ9_min_7cf53 10 = .ok (.ireturn, 1) := by decide +kernel
set_option maxRecDepth 20000 in
theorem ggJ0_charAt_5068e_J0_isLatin1_aae02 : GoodIn wsJ0_charAt_5068e wsJ0_isLatin1_aae02 := goodIn_r _ [6, 7, 8] (by decide +kernel) (by decide +kernel)
set_option maxRecDepth 20000 in
theorem gJ0_charAt_5068e_J0_isLatin1_aae02 : GoodIn wsJ0_charAt_5068e (wsV RJ0 492 RJ0 yJ0_isLatin1_aae02 wsJ0_isLatin1_aae02) := goodIn_app (goodIn_of _ (by decide +kernel)) ggJ0_charAt_5068e_J0_isLatin1_aae02
set_option maxRecDepth 20000 in
theorem ggJ0_charAt_5068e_J1_charAt_3b067 : GoodIn wsJ0_charAt_5068e wsJ1_charAt_3b067 := goodIn_r _ [12, 13, 14, 5, 15, 16, 17, 18, 19, 20] (by decide +kernel) (by decide +kernel)
set_option maxRecDepth 20000 in
theorem gJ0_charAt_5068e_J1_charAt_3b067 : GoodIn wsJ0_charAt_5068e (va_wsS RJ0 495 yJ1_charAt_3b067 wsJ1_charAt_3b067) := goodIn_app (goodIn_of _ (by decide +kernel)) ggJ0_charAt_5068e_J1_charAt_3b067
set_option maxRecDepth 20000 in
theorem ggJ0_charAt_5068e_J2_charAt_3b067 : GoodIn wsJ0_charAt_5068e wsJ2_charAt_3b067 := goodIn_r _ [24, 25, 26, 23, 27, 28, 29, 30, 31, 14, 5, 15, 16, 17, 18, 19, 20, 32, 33, 34, 35, 36, 37] (by decide +kernel) (by decide +kernel)
set_option maxRecDepth 20000 in
theorem gJ0_charAt_5068e_J2_charAt_3b067 : GoodIn wsJ0_charAt_5068e (va_wsS RJ0 498 yJ2_charAt_3b067 wsJ2_charAt_3b067) := goodIn_app (goodIn_of _ (by decide +kernel)) ggJ0_charAt_5068e_J2_charAt_3b067
theorem dJ0_charAt_5068e_0 : decode cJ0_charAt_5068e 0 = .ok (.aload_n 0, 1) := by decide +kernel
theorem dJ0_charAt_5068e_1 : decode cJ0_charAt_5068e 1 = .ok (.invokevirtual 492, 3) := by decide +kernel
theorem dJ0_charAt_5068e_4 : decode cJ0_charAt_5068e 4 = .ok (.ifCond .eq 12, 3) := by decide +kernel
theorem dJ0_charAt_5068e_7 : decode cJ0_charAt_5068e 7 = .ok (.aload_n 0, 1) := by decide +kernel
theorem dJ0_charAt_5068e_8 : decode cJ0_charAt_5068e 8 = .ok (.getfield 9, 3) := by decide +kernel
theorem dJ0_charAt_5068e_11 : decode cJ0_charAt_5068e 11 = .ok (.iload_n 1, 1) := by decide +kernel
theorem dJ0_charAt_5068e_12 : decode cJ0_charAt_5068e 12 = .ok (.invokestatic 495, 3) := by decide +kernel
theorem dJ0_charAt_5068e_15 : decode cJ0_charAt_5068e 15 = .ok (.ireturn, 1) := by decide +kernel
theorem dJ0_charAt_5068e_16 : decode cJ0_charAt_5068e 16 = .ok (.aload_n 0, 1) := by decide +kernel
theorem dJ0_charAt_5068e_17 : decode cJ0_charAt_5068e 17 = .ok (.getfield 9, 3) := by decide +kernel
theorem dJ0_charAt_5068e_20 : decode cJ0_charAt_5068e 20 = .ok (.iload_n 1, 1) := by decide +kernel
theorem dJ0_charAt_5068e_21 : decode cJ0_charAt_5068e 21 = .ok (.invokestatic 498, 3) := by decide +kernel
theorem dJ0_charAt_5068e_24 : decode cJ0_charAt_5068e 24 = .ok (.ireturn, 1) := by decide +kernel
theorem dJ0_isLatin1_aae02_0 : decode cJ0_isLatin1_aae02 0 = .ok (.getstatic 38, 3) := by decide +kernel
theorem dJ0_isLatin1_aae02_3 : decode cJ0_isLatin1_aae02 3 = .ok (.ifCond .eq 14, 3) := by decide +kernel
