theorem dX5_aim_31 : decode cX5_aim 31 = .ok (.iload_n 2, 1) := by decide +kernel
theorem dX5_aim_32 : decode cX5_aim 32 = .ok (.tableswitch 81 0 2 #[28, 45, 72], 28) := by decide +kernel
theorem dX5_aim_60 : decode cX5_aim 60 = .ok (.aload_n 0, 1) := by decide +kernel
theorem dX5_aim_61 : decode cX5_aim 61 = .ok (.getfield 21, 3) := by decide +kernel
theorem dX5_aim_64 : decode cX5_aim 64 = .ok (.iload_n 1, 1) := by decide +kernel
theorem dX5_aim_65 : decode cX5_aim 65 = .ok (.invokevirtual 121, 3) := by decide +kernel
theorem dX5_aim_68 : decode cX5_aim 68 = .ok (.ifCond .eq 7, 3) := by decide +kernel
theorem dX5_aim_71 : decode cX5_aim 71 = .ok (.iconst 1, 1) := by decide +kernel
theorem dX5_aim_72 : decode cX5_aim 72 = .ok (.goto 4, 3) := by decide +kernel
theorem dX5_aim_75 : decode cX5_aim 75 = .ok (.iconst 0, 1) := by decide +kernel
theorem dX5_aim_76 : decode cX5_aim 76 = .ok (.ireturn, 1) := by decide +kernel
theorem dX5_aim_77 : decode cX5_aim 77 = .ok (.aload_n 0, 1) := by decide +kernel
theorem dX5_aim_78 : decode cX5_aim 78 = .ok (.getfield 21, 3) := by decide +kernel
theorem dX5_aim_81 : decode cX5_aim 81 = .ok (.iload_n 1, 1) := by decide +kernel
theorem dX5_aim_82 : decode cX5_aim 82 = .ok (.invokevirtual 121, 3) := by decide +kernel
theorem dX5_aim_85 : decode cX5_aim 85 = .ok (.ifCond .eq 17, 3) := by decide +kernel
theorem dX5_aim_88 : decode cX5_aim 88 = .ok (.aload_n 0, 1) := by decide +kernel
theorem dX5_aim_89 : decode cX5_aim 89 = .ok (.getfield 21, 3) := by decide +kernel
theorem dX5_aim_92 : decode cX5_aim 92 = .ok (.iload_n 1, 1) := by decide +kernel
theorem dX5_aim_93 : decode cX5_aim 93 = .ok (.invokevirtual 124, 3) := by decide +kernel
theorem dX5_aim_96 : decode cX5_aim 96 = .ok (.invokestatic 127, 3) := by decide +kernel
theorem dX5_aim_99 : decode cX5_aim 99 = .ok (.goto 4, 3) := by decide +kernel
theorem dX5_aim_102 : decode cX5_aim 102 = .ok (.iconst (-1), 1) := by decide +kernel
theorem dX5_aim_103 : decode cX5_aim 103 = .ok (.ireturn, 1) := by decide +kernel
theorem dX5_aim_104 : decode cX5_aim 104 = .ok (.aload_n 0, 1) := by decide +kernel
theorem dX5_aim_105 : decode cX5_aim 105 = .ok (.getfield 21, 3) := by decide +kernel
theorem dX5_aim_108 : decode cX5_aim 108 = .ok (.iload_n 1, 1) := by decide +kernel
theorem dX5_aim_109 : decode cX5_aim 109 = .ok (.invokevirtual 124, 3) := by decide +kernel
theorem dX5_aim_112 : decode cX5_aim 112 = .ok (.ireturn, 1) := by decide +kernel
theorem dX5_aim_113 : decode cX5_aim 113 = .ok (.aload_n 0, 1) := by decide +kernel
theorem dX5_aim_114 : decode cX5_aim 114 = .ok (.getfield 21, 3) := by decide +kernel
theorem dX5_aim_117 : decode cX5_aim 117 = .ok (.iload_n 1, 1) := by decide +kernel
theorem dX5_aim_118 : decode cX5_aim 118 = .ok (.invokevirtual 132, 3) := by decide +kernel
theorem dX5_aim_121 : decode cX5_aim 121 = .ok (.ireturn, 1) := by decide +kernel
set_option maxRecDepth 20000 in
theorem ggX5_print_X5_isOutside : GoodIn wsX5_print wsX5_isOutside := goodIn_r _ [5] (by decide +kernel) (by decide +kernel)
set_option maxRecDepth 20000 in
theorem gX5_print_X5_isOutside : GoodIn wsX5_print (va_wsS RX5 51 yX5_isOutside wsX5_isOutside) := goodIn_app (goodIn_of _ (by decide +kernel)) ggX5_print_X5_isOutside
set_option maxRecDepth 20000 in
theorem ggX5_print_X1_refresh : GoodIn wsX5_print wsX1_refresh := goodIn_r _ [10, 11, 12, 13, 14, 15, 9, 16, 17, 18, 19, 20, 21, 22, 23, 24, 25, 26, 27, 28, 29, 30, 31, 32, 33, 34, 35, 36, 37, 38, 39, 40, 41, 42, 43, 44, 45, 46, 47, 48, 143, 144, 145, 146, 147, 148, 149, 150, 151, 152] (by decide +kernel) (by decide +kernel)
set_option maxRecDepth 20000 in
theorem gX5_print_X1_refresh : GoodIn wsX5_print (wsV RX5 96 RX1 yX1_refresh wsX1_refresh) := goodIn_app (goodIn_of _ (by decide +kernel)) ggX5_print_X1_refresh
set_option maxRecDepth 20000 in
theorem ggX5_print_X1_reaches : GoodIn wsX5_print wsX1_reaches := goodIn_r _ [52, 19, 143, 144, 145, 146, 147, 148, 149, 150] (by decide +kernel) (by decide +kernel)
set_option maxRecDepth 20000 in
theorem gX5_print_X1_reaches : GoodIn wsX5_print (wsV RX5 121 RX1 yX1_reaches wsX1_reaches) := goodIn_app (goodIn_of _ (by decide +kernel)) ggX5_print_X1_reaches
set_option maxRecDepth 20000 in
theorem ggX5_print_X1_firstSet : GoodIn wsX5_print wsX1_firstSet := goodIn_r _ [56, 18, 57, 58, 59, 9, 60, 61, 62, 63, 64, 65, 66, 67, 143, 144, 145, 146, 147, 148, 149, 150] (by decide +kernel) (by decide +kernel)
set_option maxRecDepth 20000 in
theorem gX5_print_X1_firstSet : GoodIn wsX5_print (wsV RX5 124 RX1 yX1_firstSet wsX1_firstSet) := goodIn_app (goodIn_of _ (by decide +kernel)) ggX5_print_X1_firstSet
set_option maxRecDepth 20000 in
theorem ggX5_print_X5_printWay : GoodIn wsX5_print wsX5_printWay := goodIn_r _ [71, 72, 1, 73, 74, 4, 75, 76, 62, 63, 64, 65, 66, 67, 77, 78, 79, 80, 81, 82, 83, 84, 85, 86, 87, 88, 89, 90, 9, 91, 38, 12, 17, 43, 44, 45, 46, 47, 48, 92, 93, 57, 58, 59, 60, 18, 94, 95, 96, 97, 98, 99, 100, 101, 102, 103, 104, 105, 106, 107, 108, 109, 110, 111, 112, 113, 114, 115, 116, 117, 118, 119, 120, 121, 122, 123, 124, 125, 126, 127, 128, 129, 130, 131, 132, 133, 134, 135, 136, 137, 138, 139, 140, 141, 142, 153, 154, 143, 144, 145, 146, 147, 148, 149, 150, 151, 152] (by decide +kernel) (by decide +kernel)
set_option maxRecDepth 20000 in
theorem gX5_print_X5_printWay : GoodIn wsX5_print (wsV RX5 135 RX5 yX5_printWay wsX5_printWay) := goodIn_app (goodIn_of _ (by decide +kernel)) ggX5_print_X5_printWay
theorem dX5_print_0 : decode cX5_print 0 = .ok (.iload_n 1, 1) := by decide +kernel
theorem dX5_print_1 : decode cX5_print 1 = .ok (.iconst 1, 1) := by decide +kernel
theorem dX5_print_2 : decode cX5_print 2 = .ok (.sipush 3000, 3) := by decide +kernel
theorem dX5_print_5 : decode cX5_print 5 = .ok (.invokestatic 51, 3) := by decide +kernel
theorem dX5_print_8 : decode cX5_print 8 = .ok (.ifCond .eq 7, 3) := by decide +kernel
theorem dX5_print_11 : decode cX5_print 11 = .ok (.sipush (-1002), 3) := by decide +kernel
theorem dX5_print_14 : decode cX5_print 14 = .ok (.ireturn, 1) := by decide +kernel
theorem dX5_print_15 : decode cX5_print 15 = .ok (.aload_n 0, 1) := by decide +kernel
theorem dX5_print_16 : decode cX5_print 16 = .ok (.getfield 21, 3) := by decide +kernel
theorem dX5_print_19 : decode cX5_print 19 = .ok (.invokevirtual 96, 3) := by decide +kernel
theorem dX5_print_22 : decode cX5_print 22 = .ok (.aload_n 0, 1) := by decide +kernel
theorem dX5_print_23 : decode cX5_print 23 = .ok (.getfield 21, 3) := by decide +kernel
theorem dX5_print_26 : decode cX5_print 26 = .ok (.iload_n 1, 1) := by decide +kernel
theorem dX5_print_27 : decode cX5_print 27 = .ok (.invokevirtual 121, 3) := by decide +kernel
theorem dX5_print_30 : decode cX5_print 30 = .ok (.ifCond .ne 7, 3) := by decide +kernel
theorem dX5_print_33 : decode cX5_print 33 = .ok (.sipush (-1003), 3) := by decide +kernel
theorem dX5_print_36 : decode cX5_print 36 = .ok (.ireturn, 1) := by decide +kernel
theorem dX5_print_37 : decode cX5_print 37 = .ok (.aload_n 0, 1) := by decide +kernel
theorem dX5_print_38 : decode cX5_print 38 = .ok (.aload_n 0, 1) := by decide +kernel
theorem dX5_print_39 : decode cX5_print 39 = .ok (.getfield 21, 3) := by decide +kernel
theorem dX5_print_42 : decode cX5_print 42 = .ok (.iload_n 1, 1) := by decide +kernel
theorem dX5_print_43 : decode cX5_print 43 = .ok (.invokevirtual 124, 3) := by decide +kernel
theorem dX5_print_46 : decode cX5_print 46 = .ok (.iload_n 1, 1) := by decide +kernel
theorem dX5_print_47 : decode cX5_print 47 = .ok (.invokevirtual 135, 3) := by decide +kernel
theorem dX5_print_50 : decode cX5_print 50 = .ok (.ireturn, 1) := by decide +kernel
set_option maxRecDepth 20000 in
theorem ggX5_printOf_X5_isNoWholeSet : GoodIn wsX5_printOf wsX5_isNoWholeSet := goodIn_r _ [6, 1, 7, 8, 9, 10, 11, 12, 134, 135, 136, 137, 138, 139, 140, 141, 142, 143, 144, 145, 146, 147] (by decide +kernel) (by decide +kernel)
set_option maxRecDepth 20000 in
theorem gX5_printOf_X5_isNoWholeSet : GoodIn wsX5_printOf (wsV RX5 90 RX5 yX5_isNoWholeSet wsX5_isNoWholeSet) := goodIn_app (goodIn_of _ (by decide +kernel)) ggX5_printOf_X5_isNoWholeSet
set_option maxRecDepth 20000 in
theorem ggX5_printOf_X5_isOutside : GoodIn wsX5_printOf wsX5_isOutside := goodIn_r _ [15] (by decide +kernel) (by decide +kernel)
set_option maxRecDepth 20000 in
theorem gX5_printOf_X5_isOutside : GoodIn wsX5_printOf (va_wsS RX5 51 yX5_isOutside wsX5_isOutside) := goodIn_app (goodIn_of _ (by decide +kernel)) ggX5_printOf_X5_isOutside
set_option maxRecDepth 20000 in
theorem ggX5_printOf_X1_refresh : GoodIn wsX5_printOf wsX1_refresh := goodIn_r _ [19, 20, 21, 22, 23, 24, 10, 25, 26, 27, 28, 29, 8, 9, 11, 12, 30, 31, 32, 33, 34, 35, 36, 37, 38, 39, 40, 41, 42, 43, 44, 45, 46, 47, 48, 49, 50, 51, 52, 53, 140, 141, 142, 143, 144, 145, 146, 147, 148, 149] (by decide +kernel) (by decide +kernel)
set_option maxRecDepth 20000 in
theorem gX5_printOf_X1_refresh : GoodIn wsX5_printOf (wsV RX5 96 RX1 yX1_refresh wsX1_refresh) := goodIn_app (goodIn_of _ (by decide +kernel)) ggX5_printOf_X1_refresh
set_option maxRecDepth 20000 in
theorem ggX5_printOf_X1_countOf : GoodIn wsX5_printOf wsX1_countOf := goodIn_r _ [57, 27, 140, 141, 142, 143, 144, 145, 146, 147] (by decide +kernel) (by decide +kernel)
set_option maxRecDepth 20000 in
theorem gX5_printOf_X1_countOf : GoodIn wsX5_printOf (wsV RX5 99 RX1 yX1_countOf wsX1_countOf) := goodIn_app (goodIn_of _ (by decide +kernel)) ggX5_printOf_X1_countOf
set_option maxRecDepth 20000 in
theorem ggX5_printOf_X5_printWay : GoodIn wsX5_printOf wsX5_printWay := goodIn_r _ [61, 62, 1, 63, 64, 5, 65, 66, 67, 68, 69, 70, 71, 72, 73, 74, 75, 76, 77, 78, 79, 80, 81, 82, 83, 84, 85, 86, 10, 87, 43, 21, 26, 48, 49, 50, 51, 52, 53, 88, 89, 90, 55, 56, 57, 27, 91, 92, 93, 94, 95, 96, 97, 98, 99, 100, 101, 102, 103, 104, 105, 106, 107, 108, 109, 110, 111, 112, 113, 114, 115, 116, 117, 118, 119, 120, 121, 122, 123, 124, 125, 126, 127, 128, 129, 130, 131, 132, 133, 134, 135, 136, 137, 138, 139, 150, 151, 140, 141, 142, 143, 144, 145, 146, 147, 148, 149] (by decide +kernel) (by decide +kernel)
set_option maxRecDepth 20000 in
theorem gX5_printOf_X5_printWay : GoodIn wsX5_printOf (wsV RX5 135 RX5 yX5_printWay wsX5_printWay) := goodIn_app (goodIn_of _ (by decide +kernel)) ggX5_printOf_X5_printWay
theorem dX5_printOf_0 : decode cX5_printOf 0 = .ok (.aload_n 0, 1) := by decide +kernel
theorem dX5_printOf_1 : decode cX5_printOf 1 = .ok (.iload_n 1, 1) := by decide +kernel
theorem dX5_printOf_2 : decode cX5_printOf 2 = .ok (.invokevirtual 90, 3) := by decide +kernel
theorem dX5_printOf_5 : decode cX5_printOf 5 = .ok (.ifCond .ne 14, 3) := by decide +kernel
theorem dX5_printOf_8 : decode cX5_printOf 8 = .ok (.iload_n 2, 1) := by decide +kernel
theorem dX5_printOf_9 : decode cX5_printOf 9 = .ok (.iconst 1, 1) := by decide +kernel
theorem dX5_printOf_10 : decode cX5_printOf 10 = .ok (.sipush 3000, 3) := by decide +kernel
theorem dX5_printOf_13 : decode cX5_printOf 13 = .ok (.invokestatic 51, 3) := by decide +kernel
theorem dX5_printOf_16 : decode cX5_printOf 16 = .ok (.ifCond .eq 7, 3) := by decide +kernel
theorem dX5_printOf_19 : decode cX5_printOf 19 = .ok (.sipush (-1002), 3) := by decide +kernel
theorem dX5_printOf_22 : decode cX5_printOf 22 = .ok (.ireturn, 1) := by decide +kernel
theorem dX5_printOf_23 : decode cX5_printOf 23 = .ok (.aload_n 0, 1) := by decide +kernel
theorem dX5_printOf_24 : decode cX5_printOf 24 = .ok (.getfield 21, 3) := by decide +kernel
theorem dX5_printOf_27 : decode cX5_printOf 27 = .ok (.invokevirtual 96, 3) := by decide +kernel
theorem dX5_printOf_30 : decode cX5_printOf 30 = .ok (.aload_n 0, 1) := by decide +kernel
theorem dX5_printOf_31 : decode cX5_printOf 31 = .ok (.getfield 21, 3) := by decide +kernel
theorem dX5_printOf_34 : decode cX5_printOf 34 = .ok (.iload_n 1, 1) := by decide +kernel
theorem dX5_printOf_35 : decode cX5_printOf 35 = .ok (.iload_n 2, 1) := by decide +kernel
theorem dX5_printOf_36 : decode cX5_printOf 36 = .ok (.invokevirtual 99, 3) := by decide +kernel
theorem dX5_printOf_39 : decode cX5_printOf 39 = .ok (.lconst 0, 1) := by decide +kernel
theorem dX5_printOf_40 : decode cX5_printOf 40 = .ok (.lcmp, 1) := by decide +kernel
theorem dX5_printOf_41 : decode cX5_printOf 41 = .ok (.ifCond .ne 7, 3) := by decide +kernel
theorem dX5_printOf_44 : decode cX5_printOf 44 = .ok (.sipush (-1003), 3) := by decide +kernel
theorem dX5_printOf_47 : decode cX5_printOf 47 = .ok (.ireturn, 1) := by decide +kernel
theorem dX5_printOf_48 : decode cX5_printOf 48 = .ok (.aload_n 0, 1) := by decide +kernel
theorem dX5_printOf_49 : decode cX5_printOf 49 = .ok (.iload_n 1, 1) := by decide +kernel
theorem dX5_printOf_50 : decode cX5_printOf 50 = .ok (.iload_n 2, 1) := by decide +kernel
theorem dX5_printOf_51 : decode cX5_printOf 51 = .ok (.invokevirtual 135, 3) := by decide +kernel
theorem dX5_printOf_54 : decode cX5_printOf 54 = .ok (.ireturn, 1) := by decide +kernel
set_option maxRecDepth 20000 in
theorem ggX5_out_X2_byteAt : GoodIn wsX5_out wsX2_byteAt := goodIn_r _ [6, 7, 8, 15, 16] (by decide +kernel) (by decide +kernel)
set_option maxRecDepth 20000 in
theorem gX5_out_X2_byteAt : GoodIn wsX5_out (wsV RX5 138 RX2 yX2_byteAt wsX2_byteAt) := goodIn_app (goodIn_of _ (by decide +kernel)) ggX5_out_X2_byteAt
theorem dX5_out_0 : decode cX5_out 0 = .ok (.aload_n 0, 1) := by decide +kernel
theorem dX5_out_1 : decode cX5_out 1 = .ok (.getfield 40, 3) := by decide +kernel
theorem dX5_out_4 : decode cX5_out 4 = .ok (.iload_n 1, 1) := by decide +kernel
theorem dX5_out_5 : decode cX5_out 5 = .ok (.invokevirtual 138, 3) := by decide +kernel
theorem dX5_out_8 : decode cX5_out 8 = .ok (.ireturn, 1) := by decide +kernel
set_option maxRecDepth 20000 in
theorem ggX5_card_X5_isOutside : GoodIn wsX5_card wsX5_isOutside := goodIn_r _ [5] (by decide +kernel) (by decide +kernel)
set_option maxRecDepth 20000 in
theorem gX5_card_X5_isOutside : GoodIn wsX5_card (va_wsS RX5 51 yX5_isOutside wsX5_isOutside) := goodIn_app (goodIn_of _ (by decide +kernel)) ggX5_card_X5_isOutside
set_option maxRecDepth 20000 in
theorem ggX5_card_X0_put : GoodIn wsX5_card wsX0_put := goodIn_r _ [10, 11, 12, 13, 14, 15, 9, 16, 17, 24, 25, 26, 27, 28, 29] (by decide +kernel) (by decide +kernel)
set_option maxRecDepth 20000 in
theorem gX5_card_X0_put : GoodIn wsX5_card (wsV RX5 141 RX0 yX0_put wsX0_put) := goodIn_app (goodIn_of _ (by decide +kernel)) ggX5_card_X0_put
theorem dX5_card_0 : decode cX5_card 0 = .ok (.iload_n 1, 1) := by decide +kernel
theorem dX5_card_1 : decode cX5_card 1 = .ok (.iconst 1, 1) := by decide +kernel
theorem dX5_card_2 : decode cX5_card 2 = .ok (.bipush 100, 2) := by decide +kernel
theorem dX5_card_4 : decode cX5_card 4 = .ok (.invokestatic 51, 3) := by decide +kernel
theorem dX5_card_7 : decode cX5_card 7 = .ok (.ifCond .eq 7, 3) := by decide +kernel
theorem dX5_card_10 : decode cX5_card 10 = .ok (.sipush (-1002), 3) := by decide +kernel
theorem dX5_card_13 : decode cX5_card 13 = .ok (.ireturn, 1) := by decide +kernel
theorem dX5_card_14 : decode cX5_card 14 = .ok (.aload_n 0, 1) := by decide +kernel
theorem dX5_card_15 : decode cX5_card 15 = .ok (.getfield 33, 3) := by decide +kernel
theorem dX5_card_18 : decode cX5_card 18 = .ok (.getfield 83, 3) := by decide +kernel
theorem dX5_card_21 : decode cX5_card 21 = .ok (.bipush 10, 2) := by decide +kernel
theorem dX5_card_23 : decode cX5_card 23 = .ok (.if_icmp .lt 7, 3) := by decide +kernel
theorem dX5_card_26 : decode cX5_card 26 = .ok (.sipush (-1004), 3) := by decide +kernel
theorem dX5_card_29 : decode cX5_card 29 = .ok (.ireturn, 1) := by decide +kernel
theorem dX5_card_30 : decode cX5_card 30 = .ok (.aload_n 0, 1) := by decide +kernel
theorem dX5_card_31 : decode cX5_card 31 = .ok (.getfield 33, 3) := by decide +kernel
theorem dX5_card_34 : decode cX5_card 34 = .ok (.iload_n 1, 1) := by decide +kernel
theorem dX5_card_35 : decode cX5_card 35 = .ok (.invokevirtual 141, 3) := by decide +kernel
theorem dX5_card_38 : decode cX5_card 38 = .ok (.ireturn, 1) := by decide +kernel
set_option maxRecDepth 20000 in
theorem ggX5_empty_X0_clear : GoodIn wsX5_empty wsX0_clear := goodIn_r _ [6, 7, 8, 9, 10, 5, 11, 12, 19, 20, 21, 22, 23, 24] (by decide +kernel) (by decide +kernel)
set_option maxRecDepth 20000 in
theorem gX5_empty_X0_clear : GoodIn wsX5_empty (wsV RX5 144 RX0 yX0_clear wsX0_clear) := goodIn_app (goodIn_of _ (by decide +kernel)) ggX5_empty_X0_clear
theorem dX5_empty_0 : decode cX5_empty 0 = .ok (.aload_n 0, 1) := by decide +kernel
theorem dX5_empty_1 : decode cX5_empty 1 = .ok (.getfield 33, 3) := by decide +kernel
theorem dX5_empty_4 : decode cX5_empty 4 = .ok (.invokevirtual 144, 3) := by decide +kernel
theorem dX5_empty_7 : decode cX5_empty 7 = .ok (.ireturn, 1) := by decide +kernel
set_option maxRecDepth 20000 in
theorem ggX5_draws_X5_isOutside : GoodIn wsX5_draws wsX5_isOutside := goodIn_r _ [5] (by decide +kernel) (by decide +kernel)
set_option maxRecDepth 20000 in
theorem gX5_draws_X5_isOutside : GoodIn wsX5_draws (va_wsS RX5 51 yX5_isOutside wsX5_isOutside) := goodIn_app (goodIn_of _ (by decide +kernel)) ggX5_draws_X5_isOutside
set_option maxRecDepth 20000 in
theorem ggX5_draws_X0_countDraws : GoodIn wsX5_draws wsX0_countDraws := goodIn_r _ [10, 11, 12, 13, 14, 15, 16, 17, 18, 19, 20, 21, 22, 23, 24, 9, 25, 26, 27, 28, 29, 30, 31, 32, 33, 34, 35, 36, 37, 38, 39, 40, 41, 42, 43, 44, 45, 46, 47, 48, 49, 50, 51, 52, 53, 54, 55, 56, 57, 58, 59, 60, 61, 62, 63, 64, 65, 66, 67, 68, 69, 70, 71, 72, 73, 74, 75, 76, 77, 78, 79, 80, 81, 82, 83, 84, 85, 86, 87, 88, 107, 108, 109, 110, 111, 112, 113, 114, 115, 116, 117, 118, 119, 120, 121, 122] (by decide +kernel) (by decide +kernel)
set_option maxRecDepth 20000 in
theorem gX5_draws_X0_countDraws : GoodIn wsX5_draws (wsV RX5 147 RX0 yX0_countDraws wsX0_countDraws) := goodIn_app (goodIn_of _ (by decide +kernel)) ggX5_draws_X0_countDraws
set_option maxRecDepth 20000 in
theorem ggX5_draws_X0_drawsOf : GoodIn wsX5_draws wsX0_drawsOf := goodIn_r _ [92, 12, 107, 108, 109, 110, 111, 112] (by decide +kernel) (by decide +kernel)
set_option maxRecDepth 20000 in
theorem gX5_draws_X0_drawsOf : GoodIn wsX5_draws (wsV RX5 150 RX0 yX0_drawsOf wsX0_drawsOf) := goodIn_app (goodIn_of _ (by decide +kernel)) ggX5_draws_X0_drawsOf
set_option maxRecDepth 20000 in
theorem ggX5_draws_X0_drawsReaching : GoodIn wsX5_draws wsX0_drawsReaching := goodIn_r _ [96, 13, 107, 108, 109, 110, 111, 112] (by decide +kernel) (by decide +kernel)
set_option maxRecDepth 20000 in
theorem gX5_draws_X0_drawsReaching : GoodIn wsX5_draws (wsV RX5 153 RX0 yX0_drawsReaching wsX0_drawsReaching) := goodIn_app (goodIn_of _ (by decide +kernel)) ggX5_draws_X0_drawsReaching
set_option maxRecDepth 20000 in
theorem ggX5_draws_X5_greatestCommonDivisor : GoodIn wsX5_draws wsX5_greatestCommonDivisor := goodIn_r _ [99, 100, 45, 37, 46] (by decide +kernel) (by decide +kernel)
set_option maxRecDepth 20000 in
theorem gX5_draws_X5_greatestCommonDivisor : GoodIn wsX5_draws (va_wsS RX5 156 yX5_greatestCommonDivisor wsX5_greatestCommonDivisor) := goodIn_app (goodIn_of _ (by decide +kernel)) ggX5_draws_X5_greatestCommonDivisor
theorem dX5_draws_0 : decode cX5_draws 0 = .ok (.iload_n 1, 1) := by decide +kernel
theorem dX5_draws_1 : decode cX5_draws 1 = .ok (.iconst 1, 1) := by decide +kernel
theorem dX5_draws_2 : decode cX5_draws 2 = .ok (.iconst 4, 1) := by decide +kernel
theorem dX5_draws_3 : decode cX5_draws 3 = .ok (.invokestatic 51, 3) := by decide +kernel
theorem dX5_draws_6 : decode cX5_draws 6 = .ok (.ifCond .ne 23, 3) := by decide +kernel
theorem dX5_draws_9 : decode cX5_draws 9 = .ok (.iload_n 2, 1) := by decide +kernel
theorem dX5_draws_10 : decode cX5_draws 10 = .ok (.iconst 1, 1) := by decide +kernel
theorem dX5_draws_11 : decode cX5_draws 11 = .ok (.sipush 3000, 3) := by decide +kernel
theorem dX5_draws_14 : decode cX5_draws 14 = .ok (.invokestatic 51, 3) := by decide +kernel
theorem dX5_draws_17 : decode cX5_draws 17 = .ok (.ifCond .ne 12, 3) := by decide +kernel
theorem dX5_draws_20 : decode cX5_draws 20 = .ok (.iload_n 3, 1) := by decide +kernel
theorem dX5_draws_21 : decode cX5_draws 21 = .ok (.iconst 0, 1) := by decide +kernel
theorem dX5_draws_22 : decode cX5_draws 22 = .ok (.iconst 3, 1) := by decide +kernel
theorem dX5_draws_23 : decode cX5_draws 23 = .ok (.invokestatic 51, 3) := by decide +kernel
theorem dX5_draws_26 : decode cX5_draws 26 = .ok (.ifCond .eq 7, 3) := by decide +kernel
theorem dX5_draws_29 : decode cX5_draws 29 = .ok (.sipush (-1002), 3) := by decide +kernel
theorem dX5_draws_32 : decode cX5_draws 32 = .ok (.ireturn, 1) := by decide +kernel
theorem dX5_draws_33 : decode cX5_draws 33 = .ok (.aload_n 0, 1) := by decide +kernel
theorem dX5_draws_34 : decode cX5_draws 34 = .ok (.getfield 33, 3) := by decide +kernel
theorem dX5_draws_37 : decode cX5_draws 37 = .ok (.iload_n 1, 1) := by decide +kernel
theorem dX5_draws_38 : decode cX5_draws 38 = .ok (.invokevirtual 147, 3) := by decide +kernel
theorem dX5_draws_41 : decode cX5_draws 41 = .ok (.aload_n 0, 1) := by decide +kernel
theorem dX5_draws_42 : decode cX5_draws 42 = .ok (.getfield 33, 3) := by decide +kernel
theorem dX5_draws_45 : decode cX5_draws 45 = .ok (.iload_n 1, 1) := by decide +kernel
theorem dX5_draws_46 : decode cX5_draws 46 = .ok (.invokevirtual 150, 3) := by decide +kernel
theorem dX5_draws_49 : decode cX5_draws 49 = .ok (.istore 4, 2) := by decide +kernel
theorem dX5_draws_51 : decode cX5_draws 51 = .ok (.aload_n 0, 1) := by decide +kernel
theorem dX5_draws_52 : decode cX5_draws 52 = .ok (.getfield 33, 3) := by decide +kernel
theorem dX5_draws_55 : decode cX5_draws 55 = .ok (.iload_n 1, 1) := by decide +kernel
theorem dX5_draws_56 : decode cX5_draws 56 = .ok (.iload_n 2, 1) := by decide +kernel
theorem dX5_draws_57 : decode cX5_draws 57 = .ok (.invokevirtual 153, 3) := by decide +kernel
theorem dX5_draws_60 : decode cX5_draws 60 = .ok (.istore 5, 2) := by decide +kernel
theorem dX5_draws_62 : decode cX5_draws 62 = .ok (.iload 4, 2) := by decide +kernel
theorem dX5_draws_64 : decode cX5_draws 64 = .ok (.iload 5, 2) := by decide +kernel
theorem dX5_draws_66 : decode cX5_draws 66 = .ok (.invokestatic 156, 3) := by decide +kernel
theorem dX5_draws_69 : decode cX5_draws 69 = .ok (.istore 6, 2) := by decide +kernel
theorem dX5_draws_71 : decode cX5_draws 71 = .ok (.iload_n 3, 1) := by decide +kernel
theorem dX5_draws_72 : decode cX5_draws 72 = .ok (.tableswitch 49 0 2 #[28, 31, 34], 28) := by decide +kernel
theorem dX5_draws_100 : decode cX5_draws 100 = .ok (.iload 4, 2) := by decide +kernel
theorem dX5_draws_102 : decode cX5_draws 102 = .ok (.ireturn, 1) := by decide +kernel
theorem dX5_draws_103 : decode cX5_draws 103 = .ok (.iload 5, 2) := by decide +kernel
theorem dX5_draws_105 : decode cX5_draws 105 = .ok (.ireturn, 1) := by decide +kernel
theorem dX5_draws_106 : decode cX5_draws 106 = .ok (.iload 6, 2) := by decide +kernel
theorem dX5_draws_108 : decode cX5_draws 108 = .ok (.ifCond .ne 7, 3) := by decide +kernel
theorem dX5_draws_111 : decode cX5_draws 111 = .ok (.iconst 0, 1) := by decide +kernel
theorem dX5_draws_112 : decode cX5_draws 112 = .ok (.goto 8, 3) := by decide +kernel
theorem dX5_draws_115 : decode cX5_draws 115 = .ok (.iload 5, 2) := by decide +kernel
theorem dX5_draws_117 : decode cX5_draws 117 = .ok (.iload 6, 2) := by decide +kernel
theorem dX5_draws_119 : decode cX5_draws 119 = .ok (.idiv, 1) := by decide +kernel
theorem dX5_draws_120 : decode cX5_draws 120 = .ok (.ireturn, 1) := by decide +kernel
theorem dX5_draws_121 : decode cX5_draws 121 = .ok (.iload 6, 2) := by decide +kernel
theorem dX5_draws_123 : decode cX5_draws 123 = .ok (.ifCond .ne 7, 3) := by decide +kernel
theorem dX5_draws_126 : decode cX5_draws 126 = .ok (.iconst 1, 1) := by decide +kernel
theorem dX5_draws_127 : decode cX5_draws 127 = .ok (.goto 8, 3) := by decide +kernel
theorem dX5_draws_130 : decode cX5_draws 130 = .ok (.iload 4, 2) := by decide +kernel
theorem dX5_draws_132 : decode cX5_draws 132 = .ok (.iload 6, 2) := by decide +kernel
theorem dX5_draws_134 : decode cX5_draws 134 = .ok (.idiv, 1) := by decide +kernel
theorem dX5_draws_135 : decode cX5_draws 135 = .ok (.ireturn, 1) := by decide +kernel
set_option maxRecDepth 20000 in
theorem ggX5_most_X5_isOutside : GoodIn wsX5_most wsX5_isOutside := goodIn_r _ [5] (by decide +kernel) (by decide +kernel)
set_option maxRecDepth 20000 in
theorem gX5_most_X5_isOutside : GoodIn wsX5_most (va_wsS RX5 51 yX5_isOutside wsX5_isOutside) := goodIn_app (goodIn_of _ (by decide +kernel)) ggX5_most_X5_isOutside
set_option maxRecDepth 20000 in
theorem ggX5_most_X0_countDraws : GoodIn wsX5_most wsX0_countDraws := goodIn_r _ [10, 11, 12, 13, 14, 15, 16, 17, 18, 19, 20, 21, 22, 23, 24, 9, 25, 26, 27, 28, 29, 30, 31, 32, 33, 34, 35, 36, 37, 38, 39, 40, 41, 42, 43, 44, 45, 46, 47, 48, 49, 50, 51, 52, 53, 54, 55, 56, 57, 58, 59, 60, 61, 62, 63, 64, 65, 66, 67, 68, 69, 70, 71, 72, 73, 74, 75, 76, 77, 78, 79, 80, 81, 82, 83, 84, 85, 86, 87, 88, 99, 100, 101, 102, 103, 104, 105, 106, 107, 108, 109, 110, 111, 112, 113, 114] (by decide +kernel) (by decide +kernel)
set_option maxRecDepth 20000 in
theorem gX5_most_X0_countDraws : GoodIn wsX5_most (wsV RX5 147 RX0 yX0_countDraws wsX0_countDraws) := goodIn_app (goodIn_of _ (by decide +kernel)) ggX5_most_X0_countDraws
set_option maxRecDepth 20000 in
theorem ggX5_most_X0_drawsReaching : GoodIn wsX5_most wsX0_drawsReaching := goodIn_r _ [92, 13, 99, 100, 101, 102, 103, 104] (by decide +kernel) (by decide +kernel)
set_option maxRecDepth 20000 in
theorem gX5_most_X0_drawsReaching : GoodIn wsX5_most (wsV RX5 153 RX0 yX0_drawsReaching wsX0_drawsReaching) := goodIn_app (goodIn_of _ (by decide +kernel)) ggX5_most_X0_drawsReaching
theorem dX5_most_0 : decode cX5_most 0 = .ok (.iload_n 1, 1) := by decide +kernel
theorem dX5_most_1 : decode cX5_most 1 = .ok (.iconst 1, 1) := by decide +kernel
theorem dX5_most_2 : decode cX5_most 2 = .ok (.iconst 4, 1) := by decide +kernel
theorem dX5_most_3 : decode cX5_most 3 = .ok (.invokestatic 51, 3) := by decide +kernel
theorem dX5_most_6 : decode cX5_most 6 = .ok (.ifCond .ne 12, 3) := by decide +kernel
theorem dX5_most_9 : decode cX5_most 9 = .ok (.iload_n 2, 1) := by decide +kernel
theorem dX5_most_10 : decode cX5_most 10 = .ok (.iconst 0, 1) := by decide +kernel
theorem dX5_most_11 : decode cX5_most 11 = .ok (.iconst 1, 1) := by decide +kernel
theorem dX5_most_12 : decode cX5_most 12 = .ok (.invokestatic 51, 3) := by decide +kernel
theorem dX5_most_15 : decode cX5_most 15 = .ok (.ifCond .eq 7, 3) := by decide +kernel
theorem dX5_most_18 : decode cX5_most 18 = .ok (.sipush (-1002), 3) := by decide +kernel
theorem dX5_most_21 : decode cX5_most 21 = .ok (.ireturn, 1) := by decide +kernel
theorem dX5_most_22 : decode cX5_most 22 = .ok (.aload_n 0, 1) := by decide +kernel
theorem dX5_most_23 : decode cX5_most 23 = .ok (.getfield 33, 3) := by decide +kernel
theorem dX5_most_26 : decode cX5_most 26 = .ok (.iload_n 1, 1) := by decide +kernel
theorem dX5_most_27 : decode cX5_most 27 = .ok (.invokevirtual 147, 3) := by decide +kernel
theorem dX5_most_30 : decode cX5_most 30 = .ok (.iconst 1, 1) := by decide +kernel
theorem dX5_most_31 : decode cX5_most 31 = .ok (.istore_n 3, 1) := by decide +kernel
theorem dX5_most_32 : decode cX5_most 32 = .ok (.iconst 2, 1) := by decide +kernel
theorem dX5_most_33 : decode cX5_most 33 = .ok (.istore 4, 2) := by decide +kernel
theorem dX5_most_35 : decode cX5_most 35 = .ok (.iload 4, 2) := by decide +kernel
theorem dX5_most_37 : decode cX5_most 37 = .ok (.bipush 100, 2) := by decide +kernel
theorem dX5_most_39 : decode cX5_most 39 = .ok (.if_icmp .gt 34, 3) := by decide +kernel
theorem dX5_most_42 : decode cX5_most 42 = .ok (.aload_n 0, 1) := by decide +kernel
theorem dX5_most_43 : decode cX5_most 43 = .ok (.getfield 33, 3) := by decide +kernel
theorem dX5_most_46 : decode cX5_most 46 = .ok (.iload_n 1, 1) := by decide +kernel
theorem dX5_most_47 : decode cX5_most 47 = .ok (.iload 4, 2) := by decide +kernel
theorem dX5_most_49 : decode cX5_most 49 = .ok (.invokevirtual 153, 3) := by decide +kernel
theorem dX5_most_52 : decode cX5_most 52 = .ok (.aload_n 0, 1) := by decide +kernel
theorem dX5_most_53 : decode cX5_most 53 = .ok (.getfield 33, 3) := by decide +kernel
theorem dX5_most_56 : decode cX5_most 56 = .ok (.iload_n 1, 1) := by decide +kernel
theorem dX5_most_57 : decode cX5_most 57 = .ok (.iload_n 3, 1) := by decide +kernel
theorem dX5_most_58 : decode cX5_most 58 = .ok (.invokevirtual 153, 3) := by decide +kernel
theorem dX5_most_61 : decode cX5_most 61 = .ok (.if_icmp .le 6, 3) := by decide +kernel
theorem dX5_most_64 : decode cX5_most 64 = .ok (.iload 4, 2) := by decide +kernel
theorem dX5_most_66 : decode cX5_most 66 = .ok (.istore_n 3, 1) := by decide +kernel
theorem dX5_most_67 : decode cX5_most 67 = .ok (.iinc 4 1, 3) := by decide +kernel
theorem dX5_most_70 : decode cX5_most 70 = .ok (.goto (-35), 3) := by decide +kernel
theorem dX5_most_73 : decode cX5_most 73 = .ok (.iload_n 2, 1) := by decide +kernel
theorem dX5_most_74 : decode cX5_most 74 = .ok (.ifCond .ne 7, 3) := by decide +kernel
theorem dX5_most_77 : decode cX5_most 77 = .ok (.iload_n 3, 1) := by decide +kernel
theorem dX5_most_78 : decode cX5_most 78 = .ok (.goto 12, 3) := by decide +kernel
theorem dX5_most_81 : decode cX5_most 81 = .ok (.aload_n 0, 1) := by decide +kernel
theorem dX5_most_82 : decode cX5_most 82 = .ok (.getfield 33, 3) := by decide +kernel
theorem dX5_most_85 : decode cX5_most 85 = .ok (.iload_n 1, 1) := by decide +kernel
theorem dX5_most_86 : decode cX5_most 86 = .ok (.iload_n 3, 1) := by decide +kernel
theorem dX5_most_87 : decode cX5_most 87 = .ok (.invokevirtual 153, 3) := by decide +kernel
theorem dX5_most_90 : decode cX5_most 90 = .ok (.ireturn, 1) := by decide +kernel
set_option maxRecDepth 20000 in
theorem ggX5_span_X5_isOutside : GoodIn wsX5_span wsX5_isOutside := goodIn_r _ [4] (by decide +kernel) (by decide +kernel)
set_option maxRecDepth 20000 in
theorem gX5_span_X5_isOutside : GoodIn wsX5_span (va_wsS RX5 51 yX5_isOutside wsX5_isOutside) := goodIn_app (goodIn_of _ (by decide +kernel)) ggX5_span_X5_isOutside
set_option maxRecDepth 20000 in
theorem ggX5_span_X5_firstSpan : GoodIn wsX5_span wsX5_firstSpan := goodIn_r _ [8, 9, 10, 11, 12, 13, 14, 15, 16, 17, 18, 3, 19, 20, 21, 22, 23, 24, 25, 26, 27, 28, 29, 30, 31, 32, 33, 34, 35, 36, 37, 38, 39, 40, 41, 42, 43, 44, 45, 46, 47, 48, 49, 50, 51, 52, 53, 54, 55, 56, 57, 58, 59, 60, 61, 62, 63, 64, 65, 66, 67, 68, 69, 70, 71, 72, 73, 74, 75, 76, 77, 78, 79, 80, 81, 82, 83, 84, 85, 86, 87, 88, 92, 93, 94, 95, 96, 97, 98, 99, 100, 101, 102, 103, 104, 105, 106, 107] (by decide +kernel) (by decide +kernel)
set_option maxRecDepth 20000 in
theorem gX5_span_X5_firstSpan : GoodIn wsX5_span (wsV RX5 159 RX5 yX5_firstSpan wsX5_firstSpan) := goodIn_app (goodIn_of _ (by decide +kernel)) ggX5_span_X5_firstSpan
set_option maxRecDepth 20000 in
theorem ggX5_span_X5_spanNumber : GoodIn wsX5_span wsX5_spanNumber := goodIn_r _ [91, 21, 22, 3, 23] (by decide +kernel) (by decide +kernel)
set_option maxRecDepth 20000 in
theorem gX5_span_X5_spanNumber : GoodIn wsX5_span (va_wsS RX5 162 yX5_spanNumber wsX5_spanNumber) := goodIn_app (goodIn_of _ (by decide +kernel)) ggX5_span_X5_spanNumber
theorem dX5_span_0 : decode cX5_span 0 = .ok (.iload_n 1, 1) := by decide +kernel
theorem dX5_span_1 : decode cX5_span 1 = .ok (.iconst 1, 1) := by decide +kernel
theorem dX5_span_2 : decode cX5_span 2 = .ok (.iconst 3, 1) := by decide +kernel
theorem dX5_span_3 : decode cX5_span 3 = .ok (.invokestatic 51, 3) := by decide +kernel
theorem dX5_span_6 : decode cX5_span 6 = .ok (.ifCond .ne 24, 3) := by decide +kernel
theorem dX5_span_9 : decode cX5_span 9 = .ok (.iload_n 2, 1) := by decide +kernel
theorem dX5_span_10 : decode cX5_span 10 = .ok (.iconst 1, 1) := by decide +kernel
theorem dX5_span_11 : decode cX5_span 11 = .ok (.bipush 100, 2) := by decide +kernel
theorem dX5_span_13 : decode cX5_span 13 = .ok (.invokestatic 51, 3) := by decide +kernel
theorem dX5_span_16 : decode cX5_span 16 = .ok (.ifCond .ne 14, 3) := by decide +kernel
theorem dX5_span_19 : decode cX5_span 19 = .ok (.iload_n 3, 1) := by decide +kernel
theorem dX5_span_20 : decode cX5_span 20 = .ok (.iconst 0, 1) := by decide +kernel
theorem dX5_span_21 : decode cX5_span 21 = .ok (.iload_n 1, 1) := by decide +kernel
theorem dX5_span_22 : decode cX5_span 22 = .ok (.iconst 1, 1) := by decide +kernel
theorem dX5_span_23 : decode cX5_span 23 = .ok (.isub, 1) := by decide +kernel
theorem dX5_span_24 : decode cX5_span 24 = .ok (.invokestatic 51, 3) := by decide +kernel
theorem dX5_span_27 : decode cX5_span 27 = .ok (.ifCond .eq 7, 3) := by decide +kernel
theorem dX5_span_30 : decode cX5_span 30 = .ok (.sipush (-1002), 3) := by decide +kernel
theorem dX5_span_33 : decode cX5_span 33 = .ok (.ireturn, 1) := by decide +kernel
theorem dX5_span_34 : decode cX5_span 34 = .ok (.aload_n 0, 1) := by decide +kernel
theorem dX5_span_35 : decode cX5_span 35 = .ok (.iload_n 1, 1) := by decide +kernel
theorem dX5_span_36 : decode cX5_span 36 = .ok (.iload_n 2, 1) := by decide +kernel
theorem dX5_span_37 : decode cX5_span 37 = .ok (.invokevirtual 159, 3) := by decide +kernel
theorem dX5_span_40 : decode cX5_span 40 = .ok (.iload_n 3, 1) := by decide +kernel
theorem dX5_span_41 : decode cX5_span 41 = .ok (.invokestatic 162, 3) := by decide +kernel
theorem dX5_span_44 : decode cX5_span 44 = .ok (.ireturn, 1) := by decide +kernel
set_option maxRecDepth 20000 in
theorem ggX5_signs_X5_isOutside : GoodIn wsX5_signs wsX5_isOutside := goodIn_r _ [5] (by decide +kernel) (by decide +kernel)
set_option maxRecDepth 20000 in
theorem gX5_signs_X5_isOutside : GoodIn wsX5_signs (va_wsS RX5 51 yX5_isOutside wsX5_isOutside) := goodIn_app (goodIn_of _ (by decide +kernel)) ggX5_signs_X5_isOutside
set_option maxRecDepth 20000 in
theorem ggX5_signs_X4_stepsBetween : GoodIn wsX5_signs wsX4_stepsBetween := goodIn_r _ [10, 11, 12, 3, 4, 5, 13, 14, 15, 9, 16, 17, 18, 19, 20, 21, 22, 23, 24, 25, 26, 27, 28, 29, 30, 31, 38, 39, 40, 41] (by decide +kernel) (by decide +kernel)
set_option maxRecDepth 20000 in
theorem gX5_signs_X4_stepsBetween : GoodIn wsX5_signs (wsV RX5 165 RX4 yX4_stepsBetween wsX4_stepsBetween) := goodIn_app (goodIn_of _ (by decide +kernel)) ggX5_signs_X4_stepsBetween
theorem dX5_signs_0 : decode cX5_signs 0 = .ok (.iload_n 1, 1) := by decide +kernel
theorem dX5_signs_1 : decode cX5_signs 1 = .ok (.iconst 1, 1) := by decide +kernel
theorem dX5_signs_2 : decode cX5_signs 2 = .ok (.bipush 100, 2) := by decide +kernel
theorem dX5_signs_4 : decode cX5_signs 4 = .ok (.invokestatic 51, 3) := by decide +kernel
theorem dX5_signs_7 : decode cX5_signs 7 = .ok (.ifCond .ne 14, 3) := by decide +kernel
theorem dX5_signs_10 : decode cX5_signs 10 = .ok (.iload_n 2, 1) := by decide +kernel
theorem dX5_signs_11 : decode cX5_signs 11 = .ok (.iconst 0, 1) := by decide +kernel
theorem dX5_signs_12 : decode cX5_signs 12 = .ok (.sipush 5040, 3) := by decide +kernel
theorem dX5_signs_15 : decode cX5_signs 15 = .ok (.invokestatic 51, 3) := by decide +kernel
theorem dX5_signs_18 : decode cX5_signs 18 = .ok (.ifCond .eq 7, 3) := by decide +kernel
theorem dX5_signs_21 : decode cX5_signs 21 = .ok (.sipush (-1002), 3) := by decide +kernel
theorem dX5_signs_24 : decode cX5_signs 24 = .ok (.ireturn, 1) := by decide +kernel
theorem dX5_signs_25 : decode cX5_signs 25 = .ok (.aload_n 0, 1) := by decide +kernel
theorem dX5_signs_26 : decode cX5_signs 26 = .ok (.getfield 47, 3) := by decide +kernel
theorem dX5_signs_29 : decode cX5_signs 29 = .ok (.iload_n 1, 1) := by decide +kernel
theorem dX5_signs_30 : decode cX5_signs 30 = .ok (.iload_n 2, 1) := by decide +kernel
theorem dX5_signs_31 : decode cX5_signs 31 = .ok (.invokevirtual 165, 3) := by decide +kernel
theorem dX5_signs_34 : decode cX5_signs 34 = .ok (.ireturn, 1) := by decide +kernel
theorem dX5_isOutside_0 : decode cX5_isOutside 0 = .ok (.iload_n 0, 1) := by decide +kernel
theorem dX5_isOutside_1 : decode cX5_isOutside 1 = .ok (.iload_n 1, 1) := by decide +kernel
theorem dX5_isOutside_2 : decode cX5_isOutside 2 = .ok (.if_icmp .lt 8, 3) := by decide +kernel
theorem dX5_isOutside_5 : decode cX5_isOutside 5 = .ok (.iload_n 0, 1) := by decide +kernel
theorem dX5_isOutside_6 : decode cX5_isOutside 6 = .ok (.iload_n 2, 1) := by decide +kernel
theorem dX5_isOutside_7 : decode cX5_isOutside 7 = .ok (.if_icmp .le 7, 3) := by decide +kernel
theorem dX5_isOutside_10 : decode cX5_isOutside 10 = .ok (.iconst 1, 1) := by decide +kernel
theorem dX5_isOutside_11 : decode cX5_isOutside 11 = .ok (.goto 4, 3) := by decide +kernel
theorem dX5_isOutside_14 : decode cX5_isOutside 14 = .ok (.iconst 0, 1) := by decide +kernel
theorem dX5_isOutside_15 : decode cX5_isOutside 15 = .ok (.ireturn, 1) := by decide +kernel
set_option maxRecDepth 20000 in
theorem ggX5_isNoWholeSet_X1_knows : GoodIn wsX5_isNoWholeSet wsX1_knows := goodIn_r _ [6, 7, 14, 15, 16, 17, 18, 19, 20, 21] (by decide +kernel) (by decide +kernel)
set_option maxRecDepth 20000 in
theorem gX5_isNoWholeSet_X1_knows : GoodIn wsX5_isNoWholeSet (wsV RX5 107 RX1 yX1_knows wsX1_knows) := goodIn_app (goodIn_of _ (by decide +kernel)) ggX5_isNoWholeSet_X1_knows
theorem dX5_isNoWholeSet_0 : decode cX5_isNoWholeSet 0 = .ok (.iload_n 1, 1) := by decide +kernel
theorem dX5_isNoWholeSet_1 : decode cX5_isNoWholeSet 1 = .ok (.ifCond .eq 14, 3) := by decide +kernel
theorem dX5_isNoWholeSet_4 : decode cX5_isNoWholeSet 4 = .ok (.aload_n 0, 1) := by decide +kernel
theorem dX5_isNoWholeSet_5 : decode cX5_isNoWholeSet 5 = .ok (.getfield 21, 3) := by decide +kernel
theorem dX5_isNoWholeSet_8 : decode cX5_isNoWholeSet 8 = .ok (.iload_n 1, 1) := by decide +kernel
theorem dX5_isNoWholeSet_9 : decode cX5_isNoWholeSet 9 = .ok (.invokevirtual 107, 3) := by decide +kernel
theorem dX5_isNoWholeSet_12 : decode cX5_isNoWholeSet 12 = .ok (.ifCond .ne 7, 3) := by decide +kernel
theorem dX5_isNoWholeSet_15 : decode cX5_isNoWholeSet 15 = .ok (.iconst 1, 1) := by decide +kernel
theorem dX5_isNoWholeSet_16 : decode cX5_isNoWholeSet 16 = .ok (.goto 4, 3) := by decide +kernel
theorem dX5_isNoWholeSet_19 : decode cX5_isNoWholeSet 19 = .ok (.iconst 0, 1) := by decide +kernel
theorem dX5_isNoWholeSet_20 : decode cX5_isNoWholeSet 20 = .ok (.ireturn, 1) := by decide +kernel
set_option maxRecDepth 20000 in
theorem ggX5_printWay_X5_writeFirstWay : GoodIn wsX5_printWay wsX5_writeFirstWay := goodIn_r _ [6, 7, 8, 9, 10, 11, 12, 13, 14, 15, 16, 17, 18, 19, 20, 21, 22, 23, 24, 25, 26, 27, 28, 29, 30, 31, 32, 33, 34, 35, 36, 37, 38, 39, 5, 40, 41, 42, 43, 44, 45, 46, 3, 4, 47, 48, 49, 50, 51, 52, 53, 54, 55, 56, 57, 58, 59, 60, 61, 62, 63, 64, 65, 66, 67, 68, 69, 70, 71, 72, 73, 74, 75, 76, 77, 78, 79, 80, 81, 82, 83, 84, 85, 86, 87, 88, 95, 96, 97, 98, 99, 100, 101, 102, 103, 104, 105, 106] (by decide +kernel) (by decide +kernel)
set_option maxRecDepth 20000 in
theorem gX5_printWay_X5_writeFirstWay : GoodIn wsX5_printWay (va_wsS RX5 168 yX5_writeFirstWay wsX5_writeFirstWay) := goodIn_app (goodIn_of _ (by decide +kernel)) ggX5_printWay_X5_writeFirstWay
theorem dX5_printWay_0 : decode cX5_printWay 0 = .ok (.aload_n 0, 1) := by decide +kernel
theorem dX5_printWay_1 : decode cX5_printWay 1 = .ok (.getfield 40, 3) := by decide +kernel
theorem dX5_printWay_4 : decode cX5_printWay 4 = .ok (.iconst 0, 1) := by decide +kernel
theorem dX5_printWay_5 : decode cX5_printWay 5 = .ok (.putfield 84, 3) := by decide +kernel
theorem dX5_printWay_8 : decode cX5_printWay 8 = .ok (.aload_n 0, 1) := by decide +kernel
theorem dX5_printWay_9 : decode cX5_printWay 9 = .ok (.getfield 21, 3) := by decide +kernel
theorem dX5_printWay_12 : decode cX5_printWay 12 = .ok (.aload_n 0, 1) := by decide +kernel
theorem dX5_printWay_13 : decode cX5_printWay 13 = .ok (.getfield 40, 3) := by decide +kernel
theorem dX5_printWay_16 : decode cX5_printWay 16 = .ok (.iload_n 1, 1) := by decide +kernel
theorem dX5_printWay_17 : decode cX5_printWay 17 = .ok (.iload_n 2, 1) := by decide +kernel
theorem dX5_printWay_18 : decode cX5_printWay 18 = .ok (.iconst 1, 1) := by decide +kernel
theorem dX5_printWay_19 : decode cX5_printWay 19 = .ok (.invokestatic 168, 3) := by decide +kernel
theorem dX5_printWay_22 : decode cX5_printWay 22 = .ok (.aload_n 0, 1) := by decide +kernel
theorem dX5_printWay_23 : decode cX5_printWay 23 = .ok (.getfield 40, 3) := by decide +kernel
theorem dX5_printWay_26 : decode cX5_printWay 26 = .ok (.getfield 84, 3) := by decide +kernel
theorem dX5_printWay_29 : decode cX5_printWay 29 = .ok (.ireturn, 1) := by decide +kernel
set_option maxRecDepth 20000 in
theorem ggX5_writeFirstWay_J6_bitCount_0f7a4 : GoodIn wsX5_writeFirstWay wsJ6_bitCount_0f7a4 := goodIn_r _ [4, 5, 6, 7] (by decide +kernel) (by decide +kernel)
set_option maxRecDepth 20000 in
theorem gX5_writeFirstWay_J6_bitCount_0f7a4 : GoodIn wsX5_writeFirstWay (va_wsS RX5 127 yJ6_bitCount_0f7a4 wsJ6_bitCount_0f7a4) := goodIn_app (goodIn_of _ (by decide +kernel)) ggX5_writeFirstWay_J6_bitCount_0f7a4
set_option maxRecDepth 20000 in
theorem ggX5_writeFirstWay_X2_addNumber : GoodIn wsX5_writeFirstWay wsX2_addNumber := goodIn_r _ [12, 13, 14, 15, 11, 16, 17, 18, 86, 87] (by decide +kernel) (by decide +kernel)
set_option maxRecDepth 20000 in
theorem gX5_writeFirstWay_X2_addNumber : GoodIn wsX5_writeFirstWay (wsV RX5 172 RX2 yX2_addNumber wsX2_addNumber) := goodIn_app (goodIn_of _ (by decide +kernel)) ggX5_writeFirstWay_X2_addNumber
set_option maxRecDepth 20000 in
theorem ggX5_writeFirstWay_X1_leastLeftNumber : GoodIn wsX5_writeFirstWay wsX1_leastLeftNumber := goodIn_r _ [23, 24, 25, 26, 27, 28, 29, 30, 31, 32, 33, 34, 35, 36, 37, 38, 22, 39, 40, 88, 89, 90, 91, 92, 93, 94, 95, 96, 97] (by decide +kernel) (by decide +kernel)
set_option maxRecDepth 20000 in
theorem gX5_writeFirstWay_X1_leastLeftNumber : GoodIn wsX5_writeFirstWay (wsV RX5 175 RX1 yX1_leastLeftNumber wsX1_leastLeftNumber) := goodIn_app (goodIn_of _ (by decide +kernel)) ggX5_writeFirstWay_X1_leastLeftNumber
set_option maxRecDepth 20000 in
theorem ggX5_writeFirstWay_X2_add : GoodIn wsX5_writeFirstWay wsX2_add := goodIn_r _ [16, 17, 18, 86, 87] (by decide +kernel) (by decide +kernel)
set_option maxRecDepth 20000 in
theorem gX5_writeFirstWay_X2_add : GoodIn wsX5_writeFirstWay (wsV RX5 179 RX2 yX2_add wsX2_add) := goodIn_app (goodIn_of _ (by decide +kernel)) ggX5_writeFirstWay_X2_add
set_option maxRecDepth 20000 in
theorem ggX5_writeFirstWay_X5_writeFirstWay : GoodIn wsX5_writeFirstWay wsX5_writeFirstWay := goodIn_r _ [0, 1, 2, 3, 4, 5, 6, 7, 8, 9, 10, 11, 12, 13, 14, 15, 16, 17, 18, 19, 20, 21, 22, 23, 24, 25, 26, 27, 28, 29, 30, 31, 32, 33, 34, 35, 36, 37, 38, 39, 40, 41, 42, 43, 44, 45, 46, 47, 48, 49, 50, 51, 52, 53, 54, 55, 56, 57, 58, 59, 60, 61, 62, 63, 64, 65, 66, 67, 68, 69, 70, 71, 72, 73, 74, 75, 76, 77, 78, 79, 80, 81, 82, 83, 84, 85, 86, 87, 88, 89, 90, 91, 92, 93, 94, 95, 96, 97] (by decide +kernel) (by decide +kernel)
set_option maxRecDepth 20000 in
theorem gX5_writeFirstWay_X5_writeFirstWay : GoodIn wsX5_writeFirstWay (va_wsS RX5 168 yX5_writeFirstWay wsX5_writeFirstWay) := goodIn_app (goodIn_of _ (by decide +kernel)) ggX5_writeFirstWay_X5_writeFirstWay
set_option maxRecDepth 20000 in
theorem ggX5_writeFirstWay_J0_charAt_5068e : GoodIn wsX5_writeFirstWay wsJ0_charAt_5068e := goodIn_r _ [48, 49, 50, 51, 52, 47, 53, 54, 55, 56, 57, 58, 59, 60, 61, 62, 63, 64, 65, 66, 67, 68, 69, 70, 71, 72, 73, 74, 75, 76, 77, 78, 79, 80, 81, 82, 83, 84] (by decide +kernel) (by decide +kernel)
set_option maxRecDepth 20000 in
theorem gX5_writeFirstWay_J0_charAt_5068e : GoodIn wsX5_writeFirstWay (wsV RX5 185 RJ0 yJ0_charAt_5068e wsJ0_charAt_5068e) := goodIn_app (goodIn_of _ (by decide +kernel)) ggX5_writeFirstWay_J0_charAt_5068e
set_option maxRecDepth 20000 in
theorem ggX5_writeFirstWay_X5_rightNumber : GoodIn wsX5_writeFirstWay wsX5_rightNumber := goodIn_r _ [35] (by decide +kernel) (by decide +kernel)
set_option maxRecDepth 20000 in
theorem gX5_writeFirstWay_X5_rightNumber : GoodIn wsX5_writeFirstWay (va_wsS RX5 191 yX5_rightNumber wsX5_rightNumber) := goodIn_app (goodIn_of _ (by decide +kernel)) ggX5_writeFirstWay_X5_rightNumber
theorem dX5_writeFirstWay_0 : decode cX5_writeFirstWay 0 = .ok (.iload 4, 2) := by decide +kernel
theorem dX5_writeFirstWay_2 : decode cX5_writeFirstWay 2 = .ok (.bipush 6, 2) := by decide +kernel
theorem dX5_writeFirstWay_4 : decode cX5_writeFirstWay 4 = .ok (.if_icmp .le 4, 3) := by decide +kernel
theorem dX5_writeFirstWay_7 : decode cX5_writeFirstWay 7 = .ok (.return_, 1) := by decide +kernel
theorem dX5_writeFirstWay_8 : decode cX5_writeFirstWay 8 = .ok (.iload_n 2, 1) := by decide +kernel
theorem dX5_writeFirstWay_9 : decode cX5_writeFirstWay 9 = .ok (.invokestatic 127, 3) := by decide +kernel
theorem dX5_writeFirstWay_12 : decode cX5_writeFirstWay 12 = .ok (.iconst 1, 1) := by decide +kernel
theorem dX5_writeFirstWay_13 : decode cX5_writeFirstWay 13 = .ok (.if_icmp .ne 9, 3) := by decide +kernel
theorem dX5_writeFirstWay_16 : decode cX5_writeFirstWay 16 = .ok (.aload_n 1, 1) := by decide +kernel
theorem dX5_writeFirstWay_17 : decode cX5_writeFirstWay 17 = .ok (.iload_n 3, 1) := by decide +kernel
theorem dX5_writeFirstWay_18 : decode cX5_writeFirstWay 18 = .ok (.invokevirtual 172, 3) := by decide +kernel
theorem dX5_writeFirstWay_21 : decode cX5_writeFirstWay 21 = .ok (.return_, 1) := by decide +kernel
theorem dX5_writeFirstWay_22 : decode cX5_writeFirstWay 22 = .ok (.iconst 1, 1) := by decide +kernel
theorem dX5_writeFirstWay_23 : decode cX5_writeFirstWay 23 = .ok (.istore 5, 2) := by decide +kernel
theorem dX5_writeFirstWay_25 : decode cX5_writeFirstWay 25 = .ok (.iload 5, 2) := by decide +kernel
theorem dX5_writeFirstWay_27 : decode cX5_writeFirstWay 27 = .ok (.iload_n 2, 1) := by decide +kernel
theorem dX5_writeFirstWay_28 : decode cX5_writeFirstWay 28 = .ok (.if_icmp .ge 100, 3) := by decide +kernel
theorem dX5_writeFirstWay_31 : decode cX5_writeFirstWay 31 = .ok (.iconst 0, 1) := by decide +kernel
theorem dX5_writeFirstWay_32 : decode cX5_writeFirstWay 32 = .ok (.istore 6, 2) := by decide +kernel
theorem dX5_writeFirstWay_34 : decode cX5_writeFirstWay 34 = .ok (.iload 6, 2) := by decide +kernel
theorem dX5_writeFirstWay_36 : decode cX5_writeFirstWay 36 = .ok (.iconst 4, 1) := by decide +kernel
theorem dX5_writeFirstWay_37 : decode cX5_writeFirstWay 37 = .ok (.if_icmp .ge 85, 3) := by decide +kernel
theorem dX5_writeFirstWay_40 : decode cX5_writeFirstWay 40 = .ok (.aload_n 0, 1) := by decide +kernel
theorem dX5_writeFirstWay_41 : decode cX5_writeFirstWay 41 = .ok (.iload_n 2, 1) := by decide +kernel
theorem dX5_writeFirstWay_42 : decode cX5_writeFirstWay 42 = .ok (.iload 5, 2) := by decide +kernel
theorem dX5_writeFirstWay_44 : decode cX5_writeFirstWay 44 = .ok (.iload 6, 2) := by decide +kernel
theorem dX5_writeFirstWay_46 : decode cX5_writeFirstWay 46 = .ok (.iload_n 3, 1) := by decide +kernel
theorem dX5_writeFirstWay_47 : decode cX5_writeFirstWay 47 = .ok (.invokevirtual 175, 3) := by decide +kernel
theorem dX5_writeFirstWay_50 : decode cX5_writeFirstWay 50 = .ok (.istore 7, 2) := by decide +kernel
theorem dX5_writeFirstWay_52 : decode cX5_writeFirstWay 52 = .ok (.iload 7, 2) := by decide +kernel
theorem dX5_writeFirstWay_54 : decode cX5_writeFirstWay 54 = .ok (.iconst (-1), 1) := by decide +kernel
theorem dX5_writeFirstWay_55 : decode cX5_writeFirstWay 55 = .ok (.if_icmp .eq 61, 3) := by decide +kernel
theorem dX5_writeFirstWay_58 : decode cX5_writeFirstWay 58 = .ok (.aload_n 1, 1) := by decide +kernel
theorem dX5_writeFirstWay_59 : decode cX5_writeFirstWay 59 = .ok (.bipush 40, 2) := by decide +kernel
theorem dX5_writeFirstWay_61 : decode cX5_writeFirstWay 61 = .ok (.invokevirtual 179, 3) := by decide +kernel
theorem dX5_writeFirstWay_64 : decode cX5_writeFirstWay 64 = .ok (.aload_n 0, 1) := by decide +kernel
theorem dX5_writeFirstWay_65 : decode cX5_writeFirstWay 65 = .ok (.aload_n 1, 1) := by decide +kernel
theorem dX5_writeFirstWay_66 : decode cX5_writeFirstWay 66 = .ok (.iload 5, 2) := by decide +kernel
theorem dX5_writeFirstWay_68 : decode cX5_writeFirstWay 68 = .ok (.iload 7, 2) := by decide +kernel
theorem dX5_writeFirstWay_70 : decode cX5_writeFirstWay 70 = .ok (.iload 4, 2) := by decide +kernel
theorem dX5_writeFirstWay_72 : decode cX5_writeFirstWay 72 = .ok (.iconst 1, 1) := by decide +kernel
theorem dX5_writeFirstWay_73 : decode cX5_writeFirstWay 73 = .ok (.iadd, 1) := by decide +kernel
theorem dX5_writeFirstWay_74 : decode cX5_writeFirstWay 74 = .ok (.invokestatic 168, 3) := by decide +kernel
theorem dX5_writeFirstWay_77 : decode cX5_writeFirstWay 77 = .ok (.aload_n 1, 1) := by decide +kernel
theorem dX5_writeFirstWay_78 : decode cX5_writeFirstWay 78 = .ok (.ldc 183, 2) := by decide +kernel
theorem dX5_writeFirstWay_80 : decode cX5_writeFirstWay 80 = .ok (.iload 6, 2) := by decide +kernel
theorem dX5_writeFirstWay_82 : decode cX5_writeFirstWay 82 = .ok (.invokevirtual 185, 3) := by decide +kernel
theorem dX5_writeFirstWay_85 : decode cX5_writeFirstWay 85 = .ok (.invokevirtual 179, 3) := by decide +kernel
theorem dX5_writeFirstWay_88 : decode cX5_writeFirstWay 88 = .ok (.aload_n 0, 1) := by decide +kernel
theorem dX5_writeFirstWay_89 : decode cX5_writeFirstWay 89 = .ok (.aload_n 1, 1) := by decide +kernel
theorem dX5_writeFirstWay_90 : decode cX5_writeFirstWay 90 = .ok (.iload_n 2, 1) := by decide +kernel
theorem dX5_writeFirstWay_91 : decode cX5_writeFirstWay 91 = .ok (.iload 5, 2) := by decide +kernel
theorem dX5_writeFirstWay_93 : decode cX5_writeFirstWay 93 = .ok (.ixor, 1) := by decide +kernel
theorem dX5_writeFirstWay_94 : decode cX5_writeFirstWay 94 = .ok (.iload 6, 2) := by decide +kernel
theorem dX5_writeFirstWay_96 : decode cX5_writeFirstWay 96 = .ok (.iload 7, 2) := by decide +kernel
theorem dX5_writeFirstWay_98 : decode cX5_writeFirstWay 98 = .ok (.iload_n 3, 1) := by decide +kernel
theorem dX5_writeFirstWay_99 : decode cX5_writeFirstWay 99 = .ok (.invokestatic 191, 3) := by decide +kernel
theorem dX5_writeFirstWay_102 : decode cX5_writeFirstWay 102 = .ok (.iload 4, 2) := by decide +kernel
theorem dX5_writeFirstWay_104 : decode cX5_writeFirstWay 104 = .ok (.iconst 1, 1) := by decide +kernel
theorem dX5_writeFirstWay_105 : decode cX5_writeFirstWay 105 = .ok (.iadd, 1) := by decide +kernel
theorem dX5_writeFirstWay_106 : decode cX5_writeFirstWay 106 = .ok (.invokestatic 168, 3) := by decide +kernel
theorem dX5_writeFirstWay_109 : decode cX5_writeFirstWay 109 = .ok (.aload_n 1, 1) := by decide +kernel
theorem dX5_writeFirstWay_110 : decode cX5_writeFirstWay 110 = .ok (.bipush 41, 2) := by decide +kernel
theorem dX5_writeFirstWay_112 : decode cX5_writeFirstWay 112 = .ok (.invokevirtual 179, 3) := by decide +kernel
theorem dX5_writeFirstWay_115 : decode cX5_writeFirstWay 115 = .ok (.return_, 1) := by decide +kernel
theorem dX5_writeFirstWay_116 : decode cX5_writeFirstWay 116 = .ok (.iinc 6 1, 3) := by decide +kernel
theorem dX5_writeFirstWay_119 : decode cX5_writeFirstWay 119 = .ok (.goto (-85), 3) := by decide +kernel
theorem dX5_writeFirstWay_122 : decode cX5_writeFirstWay 122 = .ok (.iinc 5 1, 3) := by decide +kernel
theorem dX5_writeFirstWay_125 : decode cX5_writeFirstWay 125 = .ok (.goto (-100), 3) := by decide +kernel
theorem dX5_writeFirstWay_128 : decode cX5_writeFirstWay 128 = .ok (.return_, 1) := by decide +kernel
theorem dX5_rightNumber_0 : decode cX5_rightNumber 0 = .ok (.iload_n 0, 1) := by decide +kernel
theorem dX5_rightNumber_1 : decode cX5_rightNumber 1 = .ok (.tableswitch 53 0 2 #[27, 31, 35], 27) := by decide +kernel
theorem dX5_rightNumber_28 : decode cX5_rightNumber 28 = .ok (.iload_n 2, 1) := by decide +kernel
theorem dX5_rightNumber_29 : decode cX5_rightNumber 29 = .ok (.iload_n 1, 1) := by decide +kernel
theorem dX5_rightNumber_30 : decode cX5_rightNumber 30 = .ok (.isub, 1) := by decide +kernel
theorem dX5_rightNumber_31 : decode cX5_rightNumber 31 = .ok (.ireturn, 1) := by decide +kernel
theorem dX5_rightNumber_32 : decode cX5_rightNumber 32 = .ok (.iload_n 1, 1) := by decide +kernel
theorem dX5_rightNumber_33 : decode cX5_rightNumber 33 = .ok (.iload_n 2, 1) := by decide +kernel
theorem dX5_rightNumber_34 : decode cX5_rightNumber 34 = .ok (.isub, 1) := by decide +kernel
theorem dX5_rightNumber_35 : decode cX5_rightNumber 35 = .ok (.ireturn, 1) := by decide +kernel
theorem dX5_rightNumber_36 : decode cX5_rightNumber 36 = .ok (.iload_n 1, 1) := by decide +kernel
theorem dX5_rightNumber_37 : decode cX5_rightNumber 37 = .ok (.ifCond .le 15, 3) := by decide +kernel
theorem dX5_rightNumber_40 : decode cX5_rightNumber 40 = .ok (.iload_n 2, 1) := by decide +kernel
theorem dX5_rightNumber_41 : decode cX5_rightNumber 41 = .ok (.iload_n 1, 1) := by decide +kernel
theorem dX5_rightNumber_42 : decode cX5_rightNumber 42 = .ok (.irem, 1) := by decide +kernel
theorem dX5_rightNumber_43 : decode cX5_rightNumber 43 = .ok (.ifCond .ne 9, 3) := by decide +kernel
theorem dX5_rightNumber_46 : decode cX5_rightNumber 46 = .ok (.iload_n 2, 1) := by decide +kernel
theorem dX5_rightNumber_47 : decode cX5_rightNumber 47 = .ok (.iload_n 1, 1) := by decide +kernel
theorem dX5_rightNumber_48 : decode cX5_rightNumber 48 = .ok (.idiv, 1) := by decide +kernel
theorem dX5_rightNumber_49 : decode cX5_rightNumber 49 = .ok (.goto 4, 3) := by decide +kernel
theorem dX5_rightNumber_52 : decode cX5_rightNumber 52 = .ok (.iconst (-1), 1) := by decide +kernel
theorem dX5_rightNumber_53 : decode cX5_rightNumber 53 = .ok (.ireturn, 1) := by decide +kernel
theorem dX5_rightNumber_54 : decode cX5_rightNumber 54 = .ok (.iload_n 2, 1) := by decide +kernel
theorem dX5_rightNumber_55 : decode cX5_rightNumber 55 = .ok (.ifCond .le 15, 3) := by decide +kernel
theorem dX5_rightNumber_58 : decode cX5_rightNumber 58 = .ok (.iload_n 1, 1) := by decide +kernel
theorem dX5_rightNumber_59 : decode cX5_rightNumber 59 = .ok (.iload_n 2, 1) := by decide +kernel
theorem dX5_rightNumber_60 : decode cX5_rightNumber 60 = .ok (.irem, 1) := by decide +kernel
theorem dX5_rightNumber_61 : decode cX5_rightNumber 61 = .ok (.ifCond .ne 9, 3) := by decide +kernel
theorem dX5_rightNumber_64 : decode cX5_rightNumber 64 = .ok (.iload_n 1, 1) := by decide +kernel
theorem dX5_rightNumber_65 : decode cX5_rightNumber 65 = .ok (.iload_n 2, 1) := by decide +kernel
theorem dX5_rightNumber_66 : decode cX5_rightNumber 66 = .ok (.idiv, 1) := by decide +kernel
theorem dX5_rightNumber_67 : decode cX5_rightNumber 67 = .ok (.goto 4, 3) := by decide +kernel
theorem dX5_rightNumber_70 : decode cX5_rightNumber 70 = .ok (.iconst (-1), 1) := by decide +kernel
theorem dX5_rightNumber_71 : decode cX5_rightNumber 71 = .ok (.ireturn, 1) := by decide +kernel
theorem dX5_greatestCommonDivisor_0 : decode cX5_greatestCommonDivisor 0 = .ok (.iload_n 0, 1) := by decide +kernel
theorem dX5_greatestCommonDivisor_1 : decode cX5_greatestCommonDivisor 1 = .ok (.iconst 1, 1) := by decide +kernel
theorem dX5_greatestCommonDivisor_2 : decode cX5_greatestCommonDivisor 2 = .ok (.invokestatic 195, 3) := by decide +kernel
theorem dX5_greatestCommonDivisor_5 : decode cX5_greatestCommonDivisor 5 = .ok (.istore_n 2, 1) := by decide +kernel
theorem dX5_greatestCommonDivisor_6 : decode cX5_greatestCommonDivisor 6 = .ok (.iconst 2, 1) := by decide +kernel
theorem dX5_greatestCommonDivisor_7 : decode cX5_greatestCommonDivisor 7 = .ok (.istore_n 3, 1) := by decide +kernel
theorem dX5_greatestCommonDivisor_8 : decode cX5_greatestCommonDivisor 8 = .ok (.iload_n 3, 1) := by decide +kernel
theorem dX5_greatestCommonDivisor_9 : decode cX5_greatestCommonDivisor 9 = .ok (.iload_n 0, 1) := by decide +kernel
theorem dX5_greatestCommonDivisor_10 : decode cX5_greatestCommonDivisor 10 = .ok (.if_icmp .gt 23, 3) := by decide +kernel
theorem dX5_greatestCommonDivisor_13 : decode cX5_greatestCommonDivisor 13 = .ok (.iload_n 0, 1) := by decide +kernel
theorem dX5_greatestCommonDivisor_14 : decode cX5_greatestCommonDivisor 14 = .ok (.iload_n 3, 1) := by decide +kernel
theorem dX5_greatestCommonDivisor_15 : decode cX5_greatestCommonDivisor 15 = .ok (.irem, 1) := by decide +kernel
theorem dX5_greatestCommonDivisor_16 : decode cX5_greatestCommonDivisor 16 = .ok (.ifCond .ne 11, 3) := by decide +kernel
theorem dX5_greatestCommonDivisor_19 : decode cX5_greatestCommonDivisor 19 = .ok (.iload_n 1, 1) := by decide +kernel
theorem dX5_greatestCommonDivisor_20 : decode cX5_greatestCommonDivisor 20 = .ok (.iload_n 3, 1) := by decide +kernel
theorem dX5_greatestCommonDivisor_21 : decode cX5_greatestCommonDivisor 21 = .ok (.irem, 1) := by decide +kernel
theorem dX5_greatestCommonDivisor_22 : decode cX5_greatestCommonDivisor 22 = .ok (.ifCond .ne 5, 3) := by decide +kernel
theorem dX5_greatestCommonDivisor_25 : decode cX5_greatestCommonDivisor 25 = .ok (.iload_n 3, 1) := by decide +kernel
theorem dX5_greatestCommonDivisor_26 : decode cX5_greatestCommonDivisor 26 = .ok (.istore_n 2, 1) := by decide +kernel
theorem dX5_greatestCommonDivisor_27 : decode cX5_greatestCommonDivisor 27 = .ok (.iinc 3 1, 3) := by decide +kernel
theorem dX5_greatestCommonDivisor_30 : decode cX5_greatestCommonDivisor 30 = .ok (.goto (-22), 3) := by decide +kernel
theorem dX5_greatestCommonDivisor_33 : decode cX5_greatestCommonDivisor 33 = .ok (.iload_n 2, 1) := by decide +kernel
theorem dX5_greatestCommonDivisor_34 : decode cX5_greatestCommonDivisor 34 = .ok (.ireturn, 1) := by decide +kernel
set_option maxRecDepth 20000 in
theorem ggX5_firstSpan_J6_bitCount_0f7a4 : GoodIn wsX5_firstSpan wsJ6_bitCount_0f7a4 := goodIn_r _ [4, 5, 6, 7] (by decide +kernel) (by decide +kernel)
set_option maxRecDepth 20000 in
theorem gX5_firstSpan_J6_bitCount_0f7a4 : GoodIn wsX5_firstSpan (va_wsS RX5 127 yJ6_bitCount_0f7a4 wsJ6_bitCount_0f7a4) := goodIn_app (goodIn_of _ (by decide +kernel)) ggX5_firstSpan_J6_bitCount_0f7a4
set_option maxRecDepth 20000 in
theorem ggX5_firstSpan_X5_spans : GoodIn wsX5_firstSpan wsX5_spans := goodIn_r _ [12, 13, 14, 15, 11, 16, 17, 18, 19, 20, 21, 22, 23, 24, 25, 26, 27, 28, 29, 30, 31, 32, 33, 34, 35, 36, 37, 38, 39, 40, 41, 42, 43, 44, 45, 46, 47, 48, 49, 50, 51, 52, 53, 54, 55, 56, 57, 58, 59, 60, 61, 62, 63, 64, 65, 66, 67, 68, 69, 70, 71, 72, 73, 74, 75, 76, 77, 78, 79, 80, 81, 82, 83, 84, 85, 86, 87, 88, 89, 90, 91, 92, 93, 94, 95, 96, 97] (by decide +kernel) (by decide +kernel)
set_option maxRecDepth 20000 in
theorem gX5_firstSpan_X5_spans : GoodIn wsX5_firstSpan (wsV RX5 200 RX5 yX5_spans wsX5_spans) := goodIn_app (goodIn_of _ (by decide +kernel)) ggX5_firstSpan_X5_spans
theorem dX5_firstSpan_0 : decode cX5_firstSpan 0 = .ok (.sipush 4095, 3) := by decide +kernel
theorem dX5_firstSpan_3 : decode cX5_firstSpan 3 = .ok (.istore_n 3, 1) := by decide +kernel
theorem dX5_firstSpan_4 : decode cX5_firstSpan 4 = .ok (.iload_n 3, 1) := by decide +kernel
theorem dX5_firstSpan_5 : decode cX5_firstSpan 5 = .ok (.ifCond .le 28, 3) := by decide +kernel
theorem dX5_firstSpan_8 : decode cX5_firstSpan 8 = .ok (.iload_n 3, 1) := by decide +kernel
theorem dX5_firstSpan_9 : decode cX5_firstSpan 9 = .ok (.invokestatic 127, 3) := by decide +kernel
theorem dX5_firstSpan_12 : decode cX5_firstSpan 12 = .ok (.iload_n 1, 1) := by decide +kernel
theorem dX5_firstSpan_13 : decode cX5_firstSpan 13 = .ok (.if_icmp .ne 14, 3) := by decide +kernel
theorem dX5_firstSpan_16 : decode cX5_firstSpan 16 = .ok (.aload_n 0, 1) := by decide +kernel
theorem dX5_firstSpan_17 : decode cX5_firstSpan 17 = .ok (.iload_n 3, 1) := by decide +kernel
theorem dX5_firstSpan_18 : decode cX5_firstSpan 18 = .ok (.iload_n 2, 1) := by decide +kernel
theorem dX5_firstSpan_19 : decode cX5_firstSpan 19 = .ok (.invokevirtual 200, 3) := by decide +kernel
theorem dX5_firstSpan_22 : decode cX5_firstSpan 22 = .ok (.ifCond .eq 5, 3) := by decide +kernel
theorem dX5_firstSpan_25 : decode cX5_firstSpan 25 = .ok (.iload_n 3, 1) := by decide +kernel
theorem dX5_firstSpan_26 : decode cX5_firstSpan 26 = .ok (.ireturn, 1) := by decide +kernel
theorem dX5_firstSpan_27 : decode cX5_firstSpan 27 = .ok (.iinc 3 (-1), 3) := by decide +kernel
theorem dX5_firstSpan_30 : decode cX5_firstSpan 30 = .ok (.goto (-26), 3) := by decide +kernel
theorem dX5_firstSpan_33 : decode cX5_firstSpan 33 = .ok (.iconst 0, 1) := by decide +kernel
theorem dX5_firstSpan_34 : decode cX5_firstSpan 34 = .ok (.ireturn, 1) := by decide +kernel
set_option maxRecDepth 20000 in
theorem ggX5_spans_X5_isInSpan : GoodIn wsX5_spans wsX5_isInSpan := goodIn_r _ [5] (by decide +kernel) (by decide +kernel)
set_option maxRecDepth 20000 in
theorem gX5_spans_X5_isInSpan : GoodIn wsX5_spans (va_wsS RX5 204 yX5_isInSpan wsX5_isInSpan) := goodIn_app (goodIn_of _ (by decide +kernel)) ggX5_spans_X5_isInSpan
set_option maxRecDepth 20000 in
theorem ggX5_spans_X1_place : GoodIn wsX5_spans wsX1_place := goodIn_r _ [10, 11, 12, 13, 14, 15, 16, 17, 77, 78, 79, 80, 81, 82, 83, 84] (by decide +kernel) (by decide +kernel)
set_option maxRecDepth 20000 in
theorem gX5_spans_X1_place : GoodIn wsX5_spans (wsV RX5 59 RX1 yX1_place wsX1_place) := goodIn_app (goodIn_of _ (by decide +kernel)) ggX5_spans_X1_place
set_option maxRecDepth 20000 in
theorem ggX5_spans_X1_shorten : GoodIn wsX5_spans wsX1_shorten := goodIn_r _ [21, 11, 17, 22, 23, 15, 24, 77, 78, 79, 80, 81, 82, 83, 84] (by decide +kernel) (by decide +kernel)
set_option maxRecDepth 20000 in
theorem gX5_spans_X1_shorten : GoodIn wsX5_spans (wsV RX5 67 RX1 yX1_shorten wsX1_shorten) := goodIn_app (goodIn_of _ (by decide +kernel)) ggX5_spans_X1_shorten
set_option maxRecDepth 20000 in
theorem ggX5_spans_X1_refresh : GoodIn wsX5_spans wsX1_refresh := goodIn_r _ [28, 17, 29, 30, 31, 32, 9, 33, 34, 35, 36, 37, 38, 39, 40, 11, 41, 42, 43, 44, 12, 45, 46, 47, 48, 49, 50, 51, 52, 53, 54, 55, 15, 56, 57, 58, 59, 60, 61, 62, 77, 78, 79, 80, 81, 82, 83, 84, 85, 86] (by decide +kernel) (by decide +kernel)
set_option maxRecDepth 20000 in
theorem gX5_spans_X1_refresh : GoodIn wsX5_spans (wsV RX5 96 RX1 yX1_refresh wsX1_refresh) := goodIn_app (goodIn_of _ (by decide +kernel)) ggX5_spans_X1_refresh
set_option maxRecDepth 20000 in
theorem ggX5_spans_X1_leastNotReached : GoodIn wsX5_spans wsX1_leastNotReached := goodIn_r _ [66, 67, 68, 69, 9, 70, 36, 77, 78, 79, 80, 81, 82, 83, 84] (by decide +kernel) (by decide +kernel)
set_option maxRecDepth 20000 in
theorem gX5_spans_X1_leastNotReached : GoodIn wsX5_spans (wsV RX5 117 RX1 yX1_leastNotReached wsX1_leastNotReached) := goodIn_app (goodIn_of _ (by decide +kernel)) ggX5_spans_X1_leastNotReached
theorem dX5_spans_0 : decode cX5_spans 0 = .ok (.iconst 0, 1) := by decide +kernel
theorem dX5_spans_1 : decode cX5_spans 1 = .ok (.istore_n 3, 1) := by decide +kernel
theorem dX5_spans_2 : decode cX5_spans 2 = .ok (.iconst 1, 1) := by decide +kernel
theorem dX5_spans_3 : decode cX5_spans 3 = .ok (.istore 4, 2) := by decide +kernel
theorem dX5_spans_5 : decode cX5_spans 5 = .ok (.iload 4, 2) := by decide +kernel
theorem dX5_spans_7 : decode cX5_spans 7 = .ok (.bipush 12, 2) := by decide +kernel
theorem dX5_spans_9 : decode cX5_spans 9 = .ok (.if_icmp .gt 31, 3) := by decide +kernel
theorem dX5_spans_12 : decode cX5_spans 12 = .ok (.iload_n 1, 1) := by decide +kernel
theorem dX5_spans_13 : decode cX5_spans 13 = .ok (.iload 4, 2) := by decide +kernel
theorem dX5_spans_15 : decode cX5_spans 15 = .ok (.invokestatic 204, 3) := by decide +kernel
theorem dX5_spans_18 : decode cX5_spans 18 = .ok (.ifCond .eq 16, 3) := by decide +kernel
theorem dX5_spans_21 : decode cX5_spans 21 = .ok (.aload_n 0, 1) := by decide +kernel
theorem dX5_spans_22 : decode cX5_spans 22 = .ok (.getfield 25, 3) := by decide +kernel
theorem dX5_spans_25 : decode cX5_spans 25 = .ok (.iload_n 3, 1) := by decide +kernel
theorem dX5_spans_26 : decode cX5_spans 26 = .ok (.iload 4, 2) := by decide +kernel
theorem dX5_spans_28 : decode cX5_spans 28 = .ok (.invokevirtual 59, 3) := by decide +kernel
theorem dX5_spans_31 : decode cX5_spans 31 = .ok (.iinc 3 1, 3) := by decide +kernel
theorem dX5_spans_34 : decode cX5_spans 34 = .ok (.iinc 4 1, 3) := by decide +kernel
theorem dX5_spans_37 : decode cX5_spans 37 = .ok (.goto (-32), 3) := by decide +kernel
theorem dX5_spans_40 : decode cX5_spans 40 = .ok (.aload_n 0, 1) := by decide +kernel
theorem dX5_spans_41 : decode cX5_spans 41 = .ok (.getfield 25, 3) := by decide +kernel
theorem dX5_spans_44 : decode cX5_spans 44 = .ok (.iload_n 3, 1) := by decide +kernel
theorem dX5_spans_45 : decode cX5_spans 45 = .ok (.invokevirtual 67, 3) := by decide +kernel
theorem dX5_spans_48 : decode cX5_spans 48 = .ok (.aload_n 0, 1) := by decide +kernel
theorem dX5_spans_49 : decode cX5_spans 49 = .ok (.getfield 25, 3) := by decide +kernel
theorem dX5_spans_52 : decode cX5_spans 52 = .ok (.invokevirtual 96, 3) := by decide +kernel
theorem dX5_spans_55 : decode cX5_spans 55 = .ok (.aload_n 0, 1) := by decide +kernel
theorem dX5_spans_56 : decode cX5_spans 56 = .ok (.getfield 25, 3) := by decide +kernel
theorem dX5_spans_59 : decode cX5_spans 59 = .ok (.invokevirtual 117, 3) := by decide +kernel
theorem dX5_spans_62 : decode cX5_spans 62 = .ok (.iload_n 2, 1) := by decide +kernel
theorem dX5_spans_63 : decode cX5_spans 63 = .ok (.if_icmp .le 7, 3) := by decide +kernel
theorem dX5_spans_66 : decode cX5_spans 66 = .ok (.iconst 1, 1) := by decide +kernel
theorem dX5_spans_67 : decode cX5_spans 67 = .ok (.goto 4, 3) := by decide +kernel
theorem dX5_spans_70 : decode cX5_spans 70 = .ok (.iconst 0, 1) := by decide +kernel
theorem dX5_spans_71 : decode cX5_spans 71 = .ok (.ireturn, 1) := by decide +kernel
theorem dX5_isInSpan_0 : decode cX5_isInSpan 0 = .ok (.iload_n 0, 1) := by decide +kernel
theorem dX5_isInSpan_1 : decode cX5_isInSpan 1 = .ok (.iconst 1, 1) := by decide +kernel
theorem dX5_isInSpan_2 : decode cX5_isInSpan 2 = .ok (.bipush 12, 2) := by decide +kernel
theorem dX5_isInSpan_4 : decode cX5_isInSpan 4 = .ok (.iload_n 1, 1) := by decide +kernel
theorem dX5_isInSpan_5 : decode cX5_isInSpan 5 = .ok (.isub, 1) := by decide +kernel
theorem dX5_isInSpan_6 : decode cX5_isInSpan 6 = .ok (.ishl, 1) := by decide +kernel
theorem dX5_isInSpan_7 : decode cX5_isInSpan 7 = .ok (.iand, 1) := by decide +kernel
theorem dX5_isInSpan_8 : decode cX5_isInSpan 8 = .ok (.ifCond .eq 7, 3) := by decide +kernel
theorem dX5_isInSpan_11 : decode cX5_isInSpan 11 = .ok (.iconst 1, 1) := by decide +kernel
theorem dX5_isInSpan_12 : decode cX5_isInSpan 12 = .ok (.goto 4, 3) := by decide +kernel
theorem dX5_isInSpan_15 : decode cX5_isInSpan 15 = .ok (.iconst 0, 1) := by decide +kernel
theorem dX5_isInSpan_16 : decode cX5_isInSpan 16 = .ok (.ireturn, 1) := by decide +kernel
set_option maxRecDepth 20000 in
theorem ggX5_spanNumber_X5_isInSpan : GoodIn wsX5_spanNumber wsX5_isInSpan := goodIn_r _ [4] (by decide +kernel) (by decide +kernel)
set_option maxRecDepth 20000 in
theorem gX5_spanNumber_X5_isInSpan : GoodIn wsX5_spanNumber (va_wsS RX5 204 yX5_isInSpan wsX5_isInSpan) := goodIn_app (goodIn_of _ (by decide +kernel)) ggX5_spanNumber_X5_isInSpan
theorem dX5_spanNumber_0 : decode cX5_spanNumber 0 = .ok (.iconst 0, 1) := by decide +kernel
theorem dX5_spanNumber_1 : decode cX5_spanNumber 1 = .ok (.istore_n 2, 1) := by decide +kernel
theorem dX5_spanNumber_2 : decode cX5_spanNumber 2 = .ok (.iconst 1, 1) := by decide +kernel
theorem dX5_spanNumber_3 : decode cX5_spanNumber 3 = .ok (.istore_n 3, 1) := by decide +kernel
theorem dX5_spanNumber_4 : decode cX5_spanNumber 4 = .ok (.iload_n 3, 1) := by decide +kernel
theorem dX5_spanNumber_5 : decode cX5_spanNumber 5 = .ok (.bipush 12, 2) := by decide +kernel
theorem dX5_spanNumber_7 : decode cX5_spanNumber 7 = .ok (.if_icmp .gt 27, 3) := by decide +kernel
theorem dX5_spanNumber_10 : decode cX5_spanNumber 10 = .ok (.iload_n 0, 1) := by decide +kernel
theorem dX5_spanNumber_11 : decode cX5_spanNumber 11 = .ok (.iload_n 3, 1) := by decide +kernel
theorem dX5_spanNumber_12 : decode cX5_spanNumber 12 = .ok (.invokestatic 204, 3) := by decide +kernel
theorem dX5_spanNumber_15 : decode cX5_spanNumber 15 = .ok (.ifCond .eq 13, 3) := by decide +kernel
theorem dX5_spanNumber_18 : decode cX5_spanNumber 18 = .ok (.iload_n 2, 1) := by decide +kernel
theorem dX5_spanNumber_19 : decode cX5_spanNumber 19 = .ok (.iload_n 1, 1) := by decide +kernel
theorem dX5_spanNumber_20 : decode cX5_spanNumber 20 = .ok (.if_icmp .ne 5, 3) := by decide +kernel
theorem dX5_spanNumber_23 : decode cX5_spanNumber 23 = .ok (.iload_n 3, 1) := by decide +kernel
theorem dX5_spanNumber_24 : decode cX5_spanNumber 24 = .ok (.ireturn, 1) := by decide +kernel
theorem dX5_spanNumber_25 : decode cX5_spanNumber 25 = .ok (.iinc 2 1, 3) := by decide +kernel
theorem dX5_spanNumber_28 : decode cX5_spanNumber 28 = .ok (.iinc 3 1, 3) := by decide +kernel
theorem dX5_spanNumber_31 : decode cX5_spanNumber 31 = .ok (.goto (-27), 3) := by decide +kernel
theorem dX5_spanNumber_34 : decode cX5_spanNumber 34 = .ok (.iconst (-1), 1) := by decide +kernel
theorem dX5_spanNumber_35 : decode cX5_spanNumber 35 = .ok (.ireturn, 1) := by decide +kernel
theorem dX6_init_0 : decode cX6_init 0 = .ok (.aload_n 0, 1) := by decide +kernel
theorem dX6_init_1 : decode cX6_init 1 = .ok (.invokespecial 1, 3) := by decide +kernel
theorem dX6_init_4 : decode cX6_init 4 = .ok (.aload_n 0, 1) := by decide +kernel
theorem dX6_init_5 : decode cX6_init 5 = .ok (.bipush 6, 2) := by decide +kernel
theorem dX6_init_7 : decode cX6_init 7 = .ok (.newarray .int, 2) := by decide +kernel
theorem dX6_init_9 : decode cX6_init 9 = .ok (.putfield 7, 3) := by decide +kernel
theorem dX6_init_12 : decode cX6_init 12 = .ok (.aload_n 0, 1) := by decide +kernel
theorem dX6_init_13 : decode cX6_init 13 = .ok (.bipush 15, 2) := by decide +kernel
theorem dX6_init_15 : decode cX6_init 15 = .ok (.putfield 13, 3) := by decide +kernel
theorem dX6_init_18 : decode cX6_init 18 = .ok (.aload_n 0, 1) := by decide +kernel
theorem dX6_init_19 : decode cX6_init 19 = .ok (.sipush 3000, 3) := by decide +kernel
theorem dX6_init_22 : decode cX6_init 22 = .ok (.putfield 17, 3) := by decide +kernel
theorem dX6_init_25 : decode cX6_init 25 = .ok (.aload_n 0, 1) := by decide +kernel
theorem dX6_init_26 : decode cX6_init 26 = .ok (.bipush 10, 2) := by decide +kernel
theorem dX6_init_28 : decode cX6_init 28 = .ok (.newarray .int, 2) := by decide +kernel
theorem dX6_init_30 : decode cX6_init 30 = .ok (.putfield 20, 3) := by decide +kernel
theorem dX6_init_33 : decode cX6_init 33 = .ok (.aload_n 0, 1) := by decide +kernel
theorem dX6_init_34 : decode cX6_init 34 = .ok (.bipush 100, 2) := by decide +kernel
theorem dX6_init_36 : decode cX6_init 36 = .ok (.newarray .int, 2) := by decide +kernel
theorem dX6_init_38 : decode cX6_init 38 = .ok (.putfield 23, 3) := by decide +kernel
theorem dX6_init_41 : decode cX6_init 41 = .ok (.aload_n 0, 1) := by decide +kernel
theorem dX6_init_42 : decode cX6_init 42 = .ok (.bipush 6, 2) := by decide +kernel
theorem dX6_init_44 : decode cX6_init 44 = .ok (.newarray .int, 2) := by decide +kernel
theorem dX6_init_46 : decode cX6_init 46 = .ok (.putfield 26, 3) := by decide +kernel
theorem dX6_init_49 : decode cX6_init 49 = .ok (.aload_n 0, 1) := by decide +kernel
theorem dX6_init_50 : decode cX6_init 50 = .ok (.ldc 29, 2) := by decide +kernel
theorem dX6_init_52 : decode cX6_init 52 = .ok (.newarray .long, 2) := by decide +kernel
theorem dX6_init_54 : decode cX6_init 54 = .ok (.putfield 30, 3) := by decide +kernel
theorem dX6_init_57 : decode cX6_init 57 = .ok (.aload_n 0, 1) := by decide +kernel
theorem dX6_init_58 : decode cX6_init 58 = .ok (.sipush 3001, 3) := by decide +kernel
theorem dX6_init_61 : decode cX6_init 61 = .ok (.newarray .int, 2) := by decide +kernel
theorem dX6_init_63 : decode cX6_init 63 = .ok (.putfield 34, 3) := by decide +kernel
theorem dX6_init_66 : decode cX6_init 66 = .ok (.aload_n 0, 1) := by decide +kernel
theorem dX6_init_67 : decode cX6_init 67 = .ok (.sipush 3001, 3) := by decide +kernel
theorem dX6_init_70 : decode cX6_init 70 = .ok (.newarray .int, 2) := by decide +kernel
theorem dX6_init_72 : decode cX6_init 72 = .ok (.putfield 37, 3) := by decide +kernel
theorem dX6_init_75 : decode cX6_init 75 = .ok (.aload_n 0, 1) := by decide +kernel
theorem dX6_init_76 : decode cX6_init 76 = .ok (.bipush 40, 2) := by decide +kernel
theorem dX6_init_78 : decode cX6_init 78 = .ok (.newarray .int, 2) := by decide +kernel
theorem dX6_init_80 : decode cX6_init 80 = .ok (.putfield 40, 3) := by decide +kernel
theorem dX6_init_83 : decode cX6_init 83 = .ok (.aload_n 0, 1) := by decide +kernel
theorem dX6_init_84 : decode cX6_init 84 = .ok (.bipush 40, 2) := by decide +kernel
theorem dX6_init_86 : decode cX6_init 86 = .ok (.newarray .int, 2) := by decide +kernel
theorem dX6_init_88 : decode cX6_init 88 = .ok (.putfield 43, 3) := by decide +kernel
theorem dX6_init_91 : decode cX6_init 91 = .ok (.aload_n 0, 1) := by decide +kernel
theorem dX6_init_92 : decode cX6_init 92 = .ok (.bipush 101, 2) := by decide +kernel
theorem dX6_init_94 : decode cX6_init 94 = .ok (.newarray .int, 2) := by decide +kernel
theorem dX6_init_96 : decode cX6_init 96 = .ok (.putfield 46, 3) := by decide +kernel
theorem dX6_init_99 : decode cX6_init 99 = .ok (.aload_n 0, 1) := by decide +kernel
theorem dX6_init_100 : decode cX6_init 100 = .ok (.sipush 5041, 3) := by decide +kernel
theorem dX6_init_103 : decode cX6_init 103 = .ok (.newarray .int, 2) := by decide +kernel
theorem dX6_init_105 : decode cX6_init 105 = .ok (.putfield 49, 3) := by decide +kernel
theorem dX6_init_108 : decode cX6_init 108 = .ok (.aload_n 0, 1) := by decide +kernel
theorem dX6_init_109 : decode cX6_init 109 = .ok (.sipush 5041, 3) := by decide +kernel
theorem dX6_init_112 : decode cX6_init 112 = .ok (.newarray .int, 2) := by decide +kernel
theorem dX6_init_114 : decode cX6_init 114 = .ok (.putfield 52, 3) := by decide +kernel
theorem dX6_init_117 : decode cX6_init 117 = .ok (.return_, 1) := by decide +kernel
theorem dX6_in_0 : decode cX6_in 0 = .ok (.lload_n 0, 1) := by decide +kernel
theorem dX6_in_1 : decode cX6_in 1 = .ok (.lload_n 2, 1) := by decide +kernel
theorem dX6_in_2 : decode cX6_in 2 = .ok (.lcmp, 1) := by decide +kernel
theorem dX6_in_3 : decode cX6_in 3 = .ok (.ifCond .lt 14, 3) := by decide +kernel
theorem dX6_in_6 : decode cX6_in 6 = .ok (.lload_n 0, 1) := by decide +kernel
theorem dX6_in_7 : decode cX6_in 7 = .ok (.lload 4, 2) := by decide +kernel
theorem dX6_in_9 : decode cX6_in 9 = .ok (.lcmp, 1) := by decide +kernel
theorem dX6_in_10 : decode cX6_in 10 = .ok (.ifCond .gt 7, 3) := by decide +kernel
theorem dX6_in_13 : decode cX6_in 13 = .ok (.iconst 1, 1) := by decide +kernel
theorem dX6_in_14 : decode cX6_in 14 = .ok (.goto 4, 3) := by decide +kernel
theorem dX6_in_17 : decode cX6_in 17 = .ok (.iconst 0, 1) := by decide +kernel
theorem dX6_in_18 : decode cX6_in 18 = .ok (.ireturn, 1) := by decide +kernel
theorem dX6_bits_0 : decode cX6_bits 0 = .ok (.iconst 0, 1) := by decide +kernel
theorem dX6_bits_1 : decode cX6_bits 1 = .ok (.istore_n 1, 1) := by decide +kernel
theorem dX6_bits_2 : decode cX6_bits 2 = .ok (.iconst 0, 1) := by decide +kernel
theorem dX6_bits_3 : decode cX6_bits 3 = .ok (.istore_n 2, 1) := by decide +kernel
theorem dX6_bits_4 : decode cX6_bits 4 = .ok (.iload_n 2, 1) := by decide +kernel
theorem dX6_bits_5 : decode cX6_bits 5 = .ok (.bipush 10, 2) := by decide +kernel
theorem dX6_bits_7 : decode cX6_bits 7 = .ok (.if_icmp .ge 17, 3) := by decide +kernel
theorem dX6_bits_10 : decode cX6_bits 10 = .ok (.iload_n 1, 1) := by decide +kernel
theorem dX6_bits_11 : decode cX6_bits 11 = .ok (.iload_n 0, 1) := by decide +kernel
theorem dX6_bits_12 : decode cX6_bits 12 = .ok (.iload_n 2, 1) := by decide +kernel
theorem dX6_bits_13 : decode cX6_bits 13 = .ok (.ishr, 1) := by decide +kernel
theorem dX6_bits_14 : decode cX6_bits 14 = .ok (.iconst 1, 1) := by decide +kernel
theorem dX6_bits_15 : decode cX6_bits 15 = .ok (.iand, 1) := by decide +kernel
theorem dX6_bits_16 : decode cX6_bits 16 = .ok (.iadd, 1) := by decide +kernel
theorem dX6_bits_17 : decode cX6_bits 17 = .ok (.istore_n 1, 1) := by decide +kernel
theorem dX6_bits_18 : decode cX6_bits 18 = .ok (.iinc 2 1, 3) := by decide +kernel
theorem dX6_bits_21 : decode cX6_bits 21 = .ok (.goto (-17), 3) := by decide +kernel
theorem dX6_bits_24 : decode cX6_bits 24 = .ok (.iload_n 1, 1) := by decide +kernel
theorem dX6_bits_25 : decode cX6_bits 25 = .ok (.ireturn, 1) := by decide +kernel
set_option maxRecDepth 20000 in
theorem ggX6_item_X6_in : GoodIn wsX6_item wsX6_in := goodIn_r _ [8] (by decide +kernel) (by decide +kernel)
set_option maxRecDepth 20000 in
theorem gX6_item_X6_in : GoodIn wsX6_item (va_wsS RX6 57 yX6_in wsX6_in) := goodIn_app (goodIn_of _ (by decide +kernel)) ggX6_item_X6_in
theorem dX6_item_0 : decode cX6_item 0 = .ok (.iload_n 1, 1) := by decide +kernel
theorem dX6_item_1 : decode cX6_item 1 = .ok (.i2l, 1) := by decide +kernel
theorem dX6_item_2 : decode cX6_item 2 = .ok (.lconst 1, 1) := by decide +kernel
theorem dX6_item_3 : decode cX6_item 3 = .ok (.ldc2_w 55, 3) := by decide +kernel
theorem dX6_item_6 : decode cX6_item 6 = .ok (.invokestatic 57, 3) := by decide +kernel
theorem dX6_item_9 : decode cX6_item 9 = .ok (.ifCond .ne 7, 3) := by decide +kernel
theorem dX6_item_12 : decode cX6_item 12 = .ok (.sipush (-1002), 3) := by decide +kernel
theorem dX6_item_15 : decode cX6_item 15 = .ok (.ireturn, 1) := by decide +kernel
theorem dX6_item_16 : decode cX6_item 16 = .ok (.aload_n 0, 1) := by decide +kernel
theorem dX6_item_17 : decode cX6_item 17 = .ok (.getfield 61, 3) := by decide +kernel
theorem dX6_item_20 : decode cX6_item 20 = .ok (.bipush 6, 2) := by decide +kernel
theorem dX6_item_22 : decode cX6_item 22 = .ok (.if_icmp .ne 7, 3) := by decide +kernel
theorem dX6_item_25 : decode cX6_item 25 = .ok (.sipush (-1004), 3) := by decide +kernel
theorem dX6_item_28 : decode cX6_item 28 = .ok (.ireturn, 1) := by decide +kernel
theorem dX6_item_29 : decode cX6_item 29 = .ok (.aload_n 0, 1) := by decide +kernel
theorem dX6_item_30 : decode cX6_item 30 = .ok (.getfield 7, 3) := by decide +kernel
theorem dX6_item_33 : decode cX6_item 33 = .ok (.aload_n 0, 1) := by decide +kernel
theorem dX6_item_34 : decode cX6_item 34 = .ok (.getfield 61, 3) := by decide +kernel
theorem dX6_item_37 : decode cX6_item 37 = .ok (.iload_n 1, 1) := by decide +kernel
theorem dX6_item_38 : decode cX6_item 38 = .ok (.iastore, 1) := by decide +kernel
theorem dX6_item_39 : decode cX6_item 39 = .ok (.aload_n 0, 1) := by decide +kernel
theorem dX6_item_40 : decode cX6_item 40 = .ok (.dup, 1) := by decide +kernel
theorem dX6_item_41 : decode cX6_item 41 = .ok (.getfield 61, 3) := by decide +kernel
theorem dX6_item_44 : decode cX6_item 44 = .ok (.iconst 1, 1) := by decide +kernel
theorem dX6_item_45 : decode cX6_item 45 = .ok (.iadd, 1) := by decide +kernel
theorem dX6_item_46 : decode cX6_item 46 = .ok (.putfield 61, 3) := by decide +kernel
theorem dX6_item_49 : decode cX6_item 49 = .ok (.aload_n 0, 1) := by decide +kernel
theorem dX6_item_50 : decode cX6_item 50 = .ok (.iconst 0, 1) := by decide +kernel
theorem dX6_item_51 : decode cX6_item 51 = .ok (.putfield 64, 3) := by decide +kernel
theorem dX6_item_54 : decode cX6_item 54 = .ok (.aload_n 0, 1) := by decide +kernel
theorem dX6_item_55 : decode cX6_item 55 = .ok (.getfield 61, 3) := by decide +kernel
theorem dX6_item_58 : decode cX6_item 58 = .ok (.iconst 1, 1) := by decide +kernel
theorem dX6_item_59 : decode cX6_item 59 = .ok (.isub, 1) := by decide +kernel
theorem dX6_item_60 : decode cX6_item 60 = .ok (.ireturn, 1) := by decide +kernel
set_option maxRecDepth 20000 in
theorem ggX6_set_X6_in : GoodIn wsX6_set wsX6_in := goodIn_r _ [8] (by decide +kernel) (by decide +kernel)
set_option maxRecDepth 20000 in
theorem gX6_set_X6_in : GoodIn wsX6_set (va_wsS RX6 57 yX6_in wsX6_in) := goodIn_app (goodIn_of _ (by decide +kernel)) ggX6_set_X6_in
theorem dX6_set_0 : decode cX6_set 0 = .ok (.iload_n 1, 1) := by decide +kernel
theorem dX6_set_1 : decode cX6_set 1 = .ok (.i2l, 1) := by decide +kernel
theorem dX6_set_2 : decode cX6_set 2 = .ok (.lconst 0, 1) := by decide +kernel
theorem dX6_set_3 : decode cX6_set 3 = .ok (.aload_n 0, 1) := by decide +kernel
theorem dX6_set_4 : decode cX6_set 4 = .ok (.getfield 61, 3) := by decide +kernel
theorem dX6_set_7 : decode cX6_set 7 = .ok (.iconst 1, 1) := by decide +kernel
theorem dX6_set_8 : decode cX6_set 8 = .ok (.isub, 1) := by decide +kernel
theorem dX6_set_9 : decode cX6_set 9 = .ok (.i2l, 1) := by decide +kernel
theorem dX6_set_10 : decode cX6_set 10 = .ok (.invokestatic 57, 3) := by decide +kernel
theorem dX6_set_13 : decode cX6_set 13 = .ok (.ifCond .ne 7, 3) := by decide +kernel
theorem dX6_set_16 : decode cX6_set 16 = .ok (.sipush (-1001), 3) := by decide +kernel
theorem dX6_set_19 : decode cX6_set 19 = .ok (.ireturn, 1) := by decide +kernel
theorem dX6_set_20 : decode cX6_set 20 = .ok (.iload_n 2, 1) := by decide +kernel
theorem dX6_set_21 : decode cX6_set 21 = .ok (.i2l, 1) := by decide +kernel
theorem dX6_set_22 : decode cX6_set 22 = .ok (.lconst 1, 1) := by decide +kernel
theorem dX6_set_23 : decode cX6_set 23 = .ok (.ldc2_w 55, 3) := by decide +kernel
theorem dX6_set_26 : decode cX6_set 26 = .ok (.invokestatic 57, 3) := by decide +kernel
theorem dX6_set_29 : decode cX6_set 29 = .ok (.ifCond .ne 7, 3) := by decide +kernel
theorem dX6_set_32 : decode cX6_set 32 = .ok (.sipush (-1002), 3) := by decide +kernel
theorem dX6_set_35 : decode cX6_set 35 = .ok (.ireturn, 1) := by decide +kernel
theorem dX6_set_36 : decode cX6_set 36 = .ok (.aload_n 0, 1) := by decide +kernel
theorem dX6_set_37 : decode cX6_set 37 = .ok (.getfield 7, 3) := by decide +kernel
theorem dX6_set_40 : decode cX6_set 40 = .ok (.iload_n 1, 1) := by decide +kernel
theorem dX6_set_41 : decode cX6_set 41 = .ok (.iaload, 1) := by decide +kernel
theorem dX6_set_42 : decode cX6_set 42 = .ok (.istore_n 3, 1) := by decide +kernel
theorem dX6_set_43 : decode cX6_set 43 = .ok (.aload_n 0, 1) := by decide +kernel
theorem dX6_set_44 : decode cX6_set 44 = .ok (.getfield 7, 3) := by decide +kernel
theorem dX6_set_47 : decode cX6_set 47 = .ok (.iload_n 1, 1) := by decide +kernel
theorem dX6_set_48 : decode cX6_set 48 = .ok (.iload_n 2, 1) := by decide +kernel
theorem dX6_set_49 : decode cX6_set 49 = .ok (.iastore, 1) := by decide +kernel
theorem dX6_set_50 : decode cX6_set 50 = .ok (.aload_n 0, 1) := by decide +kernel
theorem dX6_set_51 : decode cX6_set 51 = .ok (.iconst 0, 1) := by decide +kernel
theorem dX6_set_52 : decode cX6_set 52 = .ok (.putfield 64, 3) := by decide +kernel
theorem dX6_set_55 : decode cX6_set 55 = .ok (.iload_n 3, 1) := by decide +kernel
theorem dX6_set_56 : decode cX6_set 56 = .ok (.ireturn, 1) := by decide +kernel
set_option maxRecDepth 20000 in
theorem ggX6_cut_X6_in : GoodIn wsX6_cut wsX6_in := goodIn_r _ [6] (by decide +kernel) (by decide +kernel)
set_option maxRecDepth 20000 in
theorem gX6_cut_X6_in : GoodIn wsX6_cut (va_wsS RX6 57 yX6_in wsX6_in) := goodIn_app (goodIn_of _ (by decide +kernel)) ggX6_cut_X6_in
theorem dX6_cut_0 : decode cX6_cut 0 = .ok (.iload_n 1, 1) := by decide +kernel
theorem dX6_cut_1 : decode cX6_cut 1 = .ok (.i2l, 1) := by decide +kernel
theorem dX6_cut_2 : decode cX6_cut 2 = .ok (.lconst 0, 1) := by decide +kernel
theorem dX6_cut_3 : decode cX6_cut 3 = .ok (.aload_n 0, 1) := by decide +kernel
theorem dX6_cut_4 : decode cX6_cut 4 = .ok (.getfield 61, 3) := by decide +kernel
theorem dX6_cut_7 : decode cX6_cut 7 = .ok (.i2l, 1) := by decide +kernel
theorem dX6_cut_8 : decode cX6_cut 8 = .ok (.invokestatic 57, 3) := by decide +kernel
theorem dX6_cut_11 : decode cX6_cut 11 = .ok (.ifCond .ne 7, 3) := by decide +kernel
theorem dX6_cut_14 : decode cX6_cut 14 = .ok (.sipush (-1002), 3) := by decide +kernel
theorem dX6_cut_17 : decode cX6_cut 17 = .ok (.ireturn, 1) := by decide +kernel
theorem dX6_cut_18 : decode cX6_cut 18 = .ok (.aload_n 0, 1) := by decide +kernel
theorem dX6_cut_19 : decode cX6_cut 19 = .ok (.getfield 61, 3) := by decide +kernel
theorem dX6_cut_22 : decode cX6_cut 22 = .ok (.iload_n 1, 1) := by decide +kernel
theorem dX6_cut_23 : decode cX6_cut 23 = .ok (.isub, 1) := by decide +kernel
theorem dX6_cut_24 : decode cX6_cut 24 = .ok (.istore_n 2, 1) := by decide +kernel
theorem dX6_cut_25 : decode cX6_cut 25 = .ok (.aload_n 0, 1) := by decide +kernel
theorem dX6_cut_26 : decode cX6_cut 26 = .ok (.iload_n 1, 1) := by decide +kernel
theorem dX6_cut_27 : decode cX6_cut 27 = .ok (.putfield 61, 3) := by decide +kernel
theorem dX6_cut_30 : decode cX6_cut 30 = .ok (.aload_n 0, 1) := by decide +kernel
theorem dX6_cut_31 : decode cX6_cut 31 = .ok (.iconst 0, 1) := by decide +kernel
theorem dX6_cut_32 : decode cX6_cut 32 = .ok (.putfield 64, 3) := by decide +kernel
theorem dX6_cut_35 : decode cX6_cut 35 = .ok (.iload_n 2, 1) := by decide +kernel
theorem dX6_cut_36 : decode cX6_cut 36 = .ok (.ireturn, 1) := by decide +kernel
set_option maxRecDepth 20000 in
theorem ggX6_rule_X6_in : GoodIn wsX6_rule wsX6_in := goodIn_r _ [9] (by decide +kernel) (by decide +kernel)
set_option maxRecDepth 20000 in
theorem gX6_rule_X6_in : GoodIn wsX6_rule (va_wsS RX6 57 yX6_in wsX6_in) := goodIn_app (goodIn_of _ (by decide +kernel)) ggX6_rule_X6_in
theorem dX6_rule_0 : decode cX6_rule 0 = .ok (.iload_n 1, 1) := by decide +kernel
theorem dX6_rule_1 : decode cX6_rule 1 = .ok (.i2l, 1) := by decide +kernel
theorem dX6_rule_2 : decode cX6_rule 2 = .ok (.lconst 0, 1) := by decide +kernel
theorem dX6_rule_3 : decode cX6_rule 3 = .ok (.lconst 1, 1) := by decide +kernel
theorem dX6_rule_4 : decode cX6_rule 4 = .ok (.invokestatic 57, 3) := by decide +kernel
theorem dX6_rule_7 : decode cX6_rule 7 = .ok (.ifCond .eq 26, 3) := by decide +kernel
theorem dX6_rule_10 : decode cX6_rule 10 = .ok (.iload_n 2, 1) := by decide +kernel
theorem dX6_rule_11 : decode cX6_rule 11 = .ok (.i2l, 1) := by decide +kernel
theorem dX6_rule_12 : decode cX6_rule 12 = .ok (.iload_n 1, 1) := by decide +kernel
theorem dX6_rule_13 : decode cX6_rule 13 = .ok (.i2l, 1) := by decide +kernel
theorem dX6_rule_14 : decode cX6_rule 14 = .ok (.iload_n 1, 1) := by decide +kernel
theorem dX6_rule_15 : decode cX6_rule 15 = .ok (.ifCond .ne 9, 3) := by decide +kernel
theorem dX6_rule_18 : decode cX6_rule 18 = .ok (.ldc2_w 68, 3) := by decide +kernel
theorem dX6_rule_21 : decode cX6_rule 21 = .ok (.goto 6, 3) := by decide +kernel
theorem dX6_rule_24 : decode cX6_rule 24 = .ok (.ldc2_w 70, 3) := by decide +kernel
theorem dX6_rule_27 : decode cX6_rule 27 = .ok (.invokestatic 57, 3) := by decide +kernel
theorem dX6_rule_30 : decode cX6_rule 30 = .ok (.ifCond .ne 7, 3) := by decide +kernel
theorem dX6_rule_33 : decode cX6_rule 33 = .ok (.sipush (-1002), 3) := by decide +kernel
theorem dX6_rule_36 : decode cX6_rule 36 = .ok (.ireturn, 1) := by decide +kernel
theorem dX6_rule_37 : decode cX6_rule 37 = .ok (.iload_n 1, 1) := by decide +kernel
theorem dX6_rule_38 : decode cX6_rule 38 = .ok (.ifCond .ne 10, 3) := by decide +kernel
theorem dX6_rule_41 : decode cX6_rule 41 = .ok (.aload_n 0, 1) := by decide +kernel
theorem dX6_rule_42 : decode cX6_rule 42 = .ok (.getfield 13, 3) := by decide +kernel
theorem dX6_rule_45 : decode cX6_rule 45 = .ok (.goto 7, 3) := by decide +kernel
theorem dX6_rule_48 : decode cX6_rule 48 = .ok (.aload_n 0, 1) := by decide +kernel
theorem dX6_rule_49 : decode cX6_rule 49 = .ok (.getfield 17, 3) := by decide +kernel
theorem dX6_rule_52 : decode cX6_rule 52 = .ok (.istore_n 3, 1) := by decide +kernel
theorem dX6_rule_53 : decode cX6_rule 53 = .ok (.aload_n 0, 1) := by decide +kernel
theorem dX6_rule_54 : decode cX6_rule 54 = .ok (.iload_n 1, 1) := by decide +kernel
theorem dX6_rule_55 : decode cX6_rule 55 = .ok (.ifCond .ne 7, 3) := by decide +kernel
theorem dX6_rule_58 : decode cX6_rule 58 = .ok (.iload_n 2, 1) := by decide +kernel
theorem dX6_rule_59 : decode cX6_rule 59 = .ok (.goto 7, 3) := by decide +kernel
theorem dX6_rule_62 : decode cX6_rule 62 = .ok (.aload_n 0, 1) := by decide +kernel
theorem dX6_rule_63 : decode cX6_rule 63 = .ok (.getfield 13, 3) := by decide +kernel
theorem dX6_rule_66 : decode cX6_rule 66 = .ok (.putfield 13, 3) := by decide +kernel
theorem dX6_rule_69 : decode cX6_rule 69 = .ok (.aload_n 0, 1) := by decide +kernel
theorem dX6_rule_70 : decode cX6_rule 70 = .ok (.iload_n 1, 1) := by decide +kernel
theorem dX6_rule_71 : decode cX6_rule 71 = .ok (.iconst 1, 1) := by decide +kernel
theorem dX6_rule_72 : decode cX6_rule 72 = .ok (.if_icmp .ne 7, 3) := by decide +kernel
theorem dX6_rule_75 : decode cX6_rule 75 = .ok (.iload_n 2, 1) := by decide +kernel
theorem dX6_rule_76 : decode cX6_rule 76 = .ok (.goto 7, 3) := by decide +kernel
theorem dX6_rule_79 : decode cX6_rule 79 = .ok (.aload_n 0, 1) := by decide +kernel
theorem dX6_rule_80 : decode cX6_rule 80 = .ok (.getfield 17, 3) := by decide +kernel
theorem dX6_rule_83 : decode cX6_rule 83 = .ok (.putfield 17, 3) := by decide +kernel
theorem dX6_rule_86 : decode cX6_rule 86 = .ok (.aload_n 0, 1) := by decide +kernel
theorem dX6_rule_87 : decode cX6_rule 87 = .ok (.iconst 0, 1) := by decide +kernel
theorem dX6_rule_88 : decode cX6_rule 88 = .ok (.putfield 64, 3) := by decide +kernel
theorem dX6_rule_91 : decode cX6_rule 91 = .ok (.iload_n 3, 1) := by decide +kernel
theorem dX6_rule_92 : decode cX6_rule 92 = .ok (.ireturn, 1) := by decide +kernel
set_option maxRecDepth 20000 in
theorem ggX6_told_X6_in : GoodIn wsX6_told wsX6_in := goodIn_r _ [15] (by decide +kernel) (by decide +kernel)
set_option maxRecDepth 20000 in
theorem gX6_told_X6_in : GoodIn wsX6_told (va_wsS RX6 57 yX6_in wsX6_in) := goodIn_app (goodIn_of _ (by decide +kernel)) ggX6_told_X6_in
theorem dX6_told_0 : decode cX6_told 0 = .ok (.iload_n 1, 1) := by decide +kernel
theorem dX6_told_1 : decode cX6_told 1 = .ok (.i2l, 1) := by decide +kernel
theorem dX6_told_2 : decode cX6_told 2 = .ok (.ldc2_w 72, 3) := by decide +kernel
theorem dX6_told_5 : decode cX6_told 5 = .ok (.ldc2_w 68, 3) := by decide +kernel
theorem dX6_told_8 : decode cX6_told 8 = .ok (.invokestatic 57, 3) := by decide +kernel
theorem dX6_told_11 : decode cX6_told 11 = .ok (.ifCond .eq 28, 3) := by decide +kernel
theorem dX6_told_14 : decode cX6_told 14 = .ok (.iload_n 1, 1) := by decide +kernel
theorem dX6_told_15 : decode cX6_told 15 = .ok (.bipush 10, 2) := by decide +kernel
