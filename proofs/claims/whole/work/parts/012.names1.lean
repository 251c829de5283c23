theorem dX0_init_0 : decode cX0_init 0 = .ok (.aload_n 0, 1) := by decide +kernel
theorem dX0_init_1 : decode cX0_init 1 = .ok (.invokespecial 3, 3) := by decide +kernel
theorem dX0_init_4 : decode cX0_init 4 = .ok (.aload_n 0, 1) := by decide +kernel
theorem dX0_init_5 : decode cX0_init 5 = .ok (.bipush 10, 2) := by decide +kernel
theorem dX0_init_7 : decode cX0_init 7 = .ok (.newarray .int, 2) := by decide +kernel
theorem dX0_init_9 : decode cX0_init 9 = .ok (.putfield 9, 3) := by decide +kernel
theorem dX0_init_12 : decode cX0_init 12 = .ok (.aload_n 0, 1) := by decide +kernel
theorem dX0_init_13 : decode cX0_init 13 = .ok (.iconst 0, 1) := by decide +kernel
theorem dX0_init_14 : decode cX0_init 14 = .ok (.putfield 15, 3) := by decide +kernel
theorem dX0_init_17 : decode cX0_init 17 = .ok (.aload_n 0, 1) := by decide +kernel
theorem dX0_init_18 : decode cX0_init 18 = .ok (.iconst 5, 1) := by decide +kernel
theorem dX0_init_19 : decode cX0_init 19 = .ok (.sipush 3001, 3) := by decide +kernel
theorem dX0_init_22 : decode cX0_init 22 = .ok (.multianewarray 19 2, 4) := by decide +kernel
theorem dX0_init_26 : decode cX0_init 26 = .ok (.putfield 21, 3) := by decide +kernel
theorem dX0_init_29 : decode cX0_init 29 = .ok (.aload_n 0, 1) := by decide +kernel
theorem dX0_init_30 : decode cX0_init 30 = .ok (.iconst 5, 1) := by decide +kernel
theorem dX0_init_31 : decode cX0_init 31 = .ok (.newarray .int, 2) := by decide +kernel
theorem dX0_init_33 : decode cX0_init 33 = .ok (.putfield 24, 3) := by decide +kernel
theorem dX0_init_36 : decode cX0_init 36 = .ok (.aload_n 0, 1) := by decide +kernel
theorem dX0_init_37 : decode cX0_init 37 = .ok (.iconst 0, 1) := by decide +kernel
theorem dX0_init_38 : decode cX0_init 38 = .ok (.putfield 27, 3) := by decide +kernel
theorem dX0_init_41 : decode cX0_init 41 = .ok (.aload_n 0, 1) := by decide +kernel
theorem dX0_init_42 : decode cX0_init 42 = .ok (.aload_n 1, 1) := by decide +kernel
theorem dX0_init_43 : decode cX0_init 43 = .ok (.putfield 30, 3) := by decide +kernel
theorem dX0_init_46 : decode cX0_init 46 = .ok (.return_, 1) := by decide +kernel
theorem dX0_cardAt_0 : decode cX0_cardAt 0 = .ok (.iload_n 1, 1) := by decide +kernel
theorem dX0_cardAt_1 : decode cX0_cardAt 1 = .ok (.ifCond .lt 17, 3) := by decide +kernel
theorem dX0_cardAt_4 : decode cX0_cardAt 4 = .ok (.iload_n 1, 1) := by decide +kernel
theorem dX0_cardAt_5 : decode cX0_cardAt 5 = .ok (.aload_n 0, 1) := by decide +kernel
theorem dX0_cardAt_6 : decode cX0_cardAt 6 = .ok (.getfield 15, 3) := by decide +kernel
theorem dX0_cardAt_9 : decode cX0_cardAt 9 = .ok (.if_icmp .ge 9, 3) := by decide +kernel
theorem dX0_cardAt_12 : decode cX0_cardAt 12 = .ok (.iload_n 1, 1) := by decide +kernel
theorem dX0_cardAt_13 : decode cX0_cardAt 13 = .ok (.bipush 10, 2) := by decide +kernel
theorem dX0_cardAt_15 : decode cX0_cardAt 15 = .ok (.if_icmp .lt 7, 3) := by decide +kernel
theorem dX0_cardAt_18 : decode cX0_cardAt 18 = .ok (.iconst (-1), 1) := by decide +kernel
theorem dX0_cardAt_19 : decode cX0_cardAt 19 = .ok (.goto 9, 3) := by decide +kernel
theorem dX0_cardAt_22 : decode cX0_cardAt 22 = .ok (.aload_n 0, 1) := by decide +kernel
theorem dX0_cardAt_23 : decode cX0_cardAt 23 = .ok (.getfield 9, 3) := by decide +kernel
theorem dX0_cardAt_26 : decode cX0_cardAt 26 = .ok (.iload_n 1, 1) := by decide +kernel
theorem dX0_cardAt_27 : decode cX0_cardAt 27 = .ok (.iaload, 1) := by decide +kernel
theorem dX0_cardAt_28 : decode cX0_cardAt 28 = .ok (.ireturn, 1) := by decide +kernel
set_option maxRecDepth 20000 in
theorem ggX0_put_X0_forgetTallies : GoodIn wsX0_put wsX0_forgetTallies := goodIn_r _ [7, 8, 9, 10, 11, 12, 13, 14] (by decide +kernel) (by decide +kernel)
set_option maxRecDepth 20000 in
theorem gX0_put_X0_forgetTallies : GoodIn wsX0_put (wsV RX0 34 RX0 yX0_forgetTallies wsX0_forgetTallies) := goodIn_app (goodIn_of _ (by decide +kernel)) ggX0_put_X0_forgetTallies
theorem dX0_put_0 : decode cX0_put 0 = .ok (.aload_n 0, 1) := by decide +kernel
theorem dX0_put_1 : decode cX0_put 1 = .ok (.getfield 15, 3) := by decide +kernel
theorem dX0_put_4 : decode cX0_put 4 = .ok (.istore_n 2, 1) := by decide +kernel
theorem dX0_put_5 : decode cX0_put 5 = .ok (.iload_n 2, 1) := by decide +kernel
theorem dX0_put_6 : decode cX0_put 6 = .ok (.ifCond .lt 9, 3) := by decide +kernel
theorem dX0_put_9 : decode cX0_put 9 = .ok (.iload_n 2, 1) := by decide +kernel
theorem dX0_put_10 : decode cX0_put 10 = .ok (.bipush 10, 2) := by decide +kernel
theorem dX0_put_12 : decode cX0_put 12 = .ok (.if_icmp .lt 7, 3) := by decide +kernel
theorem dX0_put_15 : decode cX0_put 15 = .ok (.sipush (-1004), 3) := by decide +kernel
theorem dX0_put_18 : decode cX0_put 18 = .ok (.ireturn, 1) := by decide +kernel
theorem dX0_put_19 : decode cX0_put 19 = .ok (.aload_n 0, 1) := by decide +kernel
theorem dX0_put_20 : decode cX0_put 20 = .ok (.getfield 9, 3) := by decide +kernel
theorem dX0_put_23 : decode cX0_put 23 = .ok (.iload_n 2, 1) := by decide +kernel
theorem dX0_put_24 : decode cX0_put 24 = .ok (.iload_n 1, 1) := by decide +kernel
theorem dX0_put_25 : decode cX0_put 25 = .ok (.iastore, 1) := by decide +kernel
theorem dX0_put_26 : decode cX0_put 26 = .ok (.aload_n 0, 1) := by decide +kernel
theorem dX0_put_27 : decode cX0_put 27 = .ok (.dup, 1) := by decide +kernel
theorem dX0_put_28 : decode cX0_put 28 = .ok (.getfield 15, 3) := by decide +kernel
theorem dX0_put_31 : decode cX0_put 31 = .ok (.iconst 1, 1) := by decide +kernel
theorem dX0_put_32 : decode cX0_put 32 = .ok (.iadd, 1) := by decide +kernel
theorem dX0_put_33 : decode cX0_put 33 = .ok (.putfield 15, 3) := by decide +kernel
theorem dX0_put_36 : decode cX0_put 36 = .ok (.aload_n 0, 1) := by decide +kernel
theorem dX0_put_37 : decode cX0_put 37 = .ok (.invokevirtual 34, 3) := by decide +kernel
theorem dX0_put_40 : decode cX0_put 40 = .ok (.iload_n 2, 1) := by decide +kernel
theorem dX0_put_41 : decode cX0_put 41 = .ok (.ireturn, 1) := by decide +kernel
set_option maxRecDepth 20000 in
theorem ggX0_clear_X0_forgetTallies : GoodIn wsX0_clear wsX0_forgetTallies := goodIn_r _ [6, 7, 8, 9, 10, 11, 12, 13] (by decide +kernel) (by decide +kernel)
set_option maxRecDepth 20000 in
theorem gX0_clear_X0_forgetTallies : GoodIn wsX0_clear (wsV RX0 34 RX0 yX0_forgetTallies wsX0_forgetTallies) := goodIn_app (goodIn_of _ (by decide +kernel)) ggX0_clear_X0_forgetTallies
theorem dX0_clear_0 : decode cX0_clear 0 = .ok (.aload_n 0, 1) := by decide +kernel
theorem dX0_clear_1 : decode cX0_clear 1 = .ok (.getfield 15, 3) := by decide +kernel
theorem dX0_clear_4 : decode cX0_clear 4 = .ok (.istore_n 1, 1) := by decide +kernel
theorem dX0_clear_5 : decode cX0_clear 5 = .ok (.aload_n 0, 1) := by decide +kernel
theorem dX0_clear_6 : decode cX0_clear 6 = .ok (.iconst 0, 1) := by decide +kernel
theorem dX0_clear_7 : decode cX0_clear 7 = .ok (.putfield 15, 3) := by decide +kernel
theorem dX0_clear_10 : decode cX0_clear 10 = .ok (.aload_n 0, 1) := by decide +kernel
theorem dX0_clear_11 : decode cX0_clear 11 = .ok (.invokevirtual 34, 3) := by decide +kernel
theorem dX0_clear_14 : decode cX0_clear 14 = .ok (.iload_n 1, 1) := by decide +kernel
theorem dX0_clear_15 : decode cX0_clear 15 = .ok (.ireturn, 1) := by decide +kernel
theorem dX0_forgetTallies_0 : decode cX0_forgetTallies 0 = .ok (.aload_n 0, 1) := by decide +kernel
theorem dX0_forgetTallies_1 : decode cX0_forgetTallies 1 = .ok (.iconst 0, 1) := by decide +kernel
theorem dX0_forgetTallies_2 : decode cX0_forgetTallies 2 = .ok (.putfield 27, 3) := by decide +kernel
theorem dX0_forgetTallies_5 : decode cX0_forgetTallies 5 = .ok (.return_, 1) := by decide +kernel
theorem dX0_drawsOf_0 : decode cX0_drawsOf 0 = .ok (.iload_n 1, 1) := by decide +kernel
theorem dX0_drawsOf_1 : decode cX0_drawsOf 1 = .ok (.iconst 1, 1) := by decide +kernel
theorem dX0_drawsOf_2 : decode cX0_drawsOf 2 = .ok (.if_icmp .lt 8, 3) := by decide +kernel
theorem dX0_drawsOf_5 : decode cX0_drawsOf 5 = .ok (.iload_n 1, 1) := by decide +kernel
theorem dX0_drawsOf_6 : decode cX0_drawsOf 6 = .ok (.iconst 4, 1) := by decide +kernel
theorem dX0_drawsOf_7 : decode cX0_drawsOf 7 = .ok (.if_icmp .le 7, 3) := by decide +kernel
theorem dX0_drawsOf_10 : decode cX0_drawsOf 10 = .ok (.iconst 0, 1) := by decide +kernel
theorem dX0_drawsOf_11 : decode cX0_drawsOf 11 = .ok (.goto 9, 3) := by decide +kernel
theorem dX0_drawsOf_14 : decode cX0_drawsOf 14 = .ok (.aload_n 0, 1) := by decide +kernel
theorem dX0_drawsOf_15 : decode cX0_drawsOf 15 = .ok (.getfield 24, 3) := by decide +kernel
theorem dX0_drawsOf_18 : decode cX0_drawsOf 18 = .ok (.iload_n 1, 1) := by decide +kernel
theorem dX0_drawsOf_19 : decode cX0_drawsOf 19 = .ok (.iaload, 1) := by decide +kernel
theorem dX0_drawsOf_20 : decode cX0_drawsOf 20 = .ok (.ireturn, 1) := by decide +kernel
theorem dX0_drawsReaching_0 : decode cX0_drawsReaching 0 = .ok (.iload_n 1, 1) := by decide +kernel
theorem dX0_drawsReaching_1 : decode cX0_drawsReaching 1 = .ok (.iconst 1, 1) := by decide +kernel
theorem dX0_drawsReaching_2 : decode cX0_drawsReaching 2 = .ok (.if_icmp .lt 20, 3) := by decide +kernel
theorem dX0_drawsReaching_5 : decode cX0_drawsReaching 5 = .ok (.iload_n 1, 1) := by decide +kernel
theorem dX0_drawsReaching_6 : decode cX0_drawsReaching 6 = .ok (.iconst 4, 1) := by decide +kernel
theorem dX0_drawsReaching_7 : decode cX0_drawsReaching 7 = .ok (.if_icmp .gt 15, 3) := by decide +kernel
theorem dX0_drawsReaching_10 : decode cX0_drawsReaching 10 = .ok (.iload_n 2, 1) := by decide +kernel
theorem dX0_drawsReaching_11 : decode cX0_drawsReaching 11 = .ok (.iconst 1, 1) := by decide +kernel
theorem dX0_drawsReaching_12 : decode cX0_drawsReaching 12 = .ok (.if_icmp .lt 10, 3) := by decide +kernel
theorem dX0_drawsReaching_15 : decode cX0_drawsReaching 15 = .ok (.iload_n 2, 1) := by decide +kernel
theorem dX0_drawsReaching_16 : decode cX0_drawsReaching 16 = .ok (.sipush 3000, 3) := by decide +kernel
theorem dX0_drawsReaching_19 : decode cX0_drawsReaching 19 = .ok (.if_icmp .le 5, 3) := by decide +kernel
theorem dX0_drawsReaching_22 : decode cX0_drawsReaching 22 = .ok (.iconst 0, 1) := by decide +kernel
theorem dX0_drawsReaching_23 : decode cX0_drawsReaching 23 = .ok (.ireturn, 1) := by decide +kernel
theorem dX0_drawsReaching_24 : decode cX0_drawsReaching 24 = .ok (.aload_n 0, 1) := by decide +kernel
theorem dX0_drawsReaching_25 : decode cX0_drawsReaching 25 = .ok (.getfield 21, 3) := by decide +kernel
theorem dX0_drawsReaching_28 : decode cX0_drawsReaching 28 = .ok (.iload_n 1, 1) := by decide +kernel
theorem dX0_drawsReaching_29 : decode cX0_drawsReaching 29 = .ok (.aaload, 1) := by decide +kernel
theorem dX0_drawsReaching_30 : decode cX0_drawsReaching 30 = .ok (.iload_n 2, 1) := by decide +kernel
theorem dX0_drawsReaching_31 : decode cX0_drawsReaching 31 = .ok (.iaload, 1) := by decide +kernel
theorem dX0_drawsReaching_32 : decode cX0_drawsReaching 32 = .ok (.ireturn, 1) := by decide +kernel
set_option maxRecDepth 20000 in
theorem ggX0_countDraws_J6_bitCount_0f7a4 : GoodIn wsX0_countDraws wsJ6_bitCount_0f7a4 := goodIn_r _ [8, 9, 10, 11] (by decide +kernel) (by decide +kernel)
set_option maxRecDepth 20000 in
theorem gX0_countDraws_J6_bitCount_0f7a4 : GoodIn wsX0_countDraws (va_wsS RX0 37 yJ6_bitCount_0f7a4 wsJ6_bitCount_0f7a4) := goodIn_app (goodIn_of _ (by decide +kernel)) ggX0_countDraws_J6_bitCount_0f7a4
set_option maxRecDepth 20000 in
theorem ggX0_countDraws_X0_countDraw : GoodIn wsX0_countDraws wsX0_countDraw := goodIn_r _ [16, 4, 17, 18, 19, 20, 21, 22, 23, 24, 25, 26, 27, 28, 29, 30, 31, 32, 33, 34, 35, 36, 37, 38, 39, 40, 41, 42, 43, 44, 45, 46, 47, 48, 49, 50, 51, 52, 53, 54, 55, 56, 57, 58, 59, 60, 61, 62, 63, 64, 65, 66, 67, 68, 69, 70, 71, 72, 73, 74, 75, 76, 77, 78, 79, 80, 81, 82, 83, 84, 85, 86, 87, 88, 89, 90, 91, 92, 93, 94, 95] (by decide +kernel) (by decide +kernel)
set_option maxRecDepth 20000 in
theorem gX0_countDraws_X0_countDraw : GoodIn wsX0_countDraws (wsV RX0 43 RX0 yX0_countDraw wsX0_countDraw) := goodIn_app (goodIn_of _ (by decide +kernel)) ggX0_countDraws_X0_countDraw
theorem dX0_countDraws_0 : decode cX0_countDraws 0 = .ok (.iload_n 1, 1) := by decide +kernel
theorem dX0_countDraws_1 : decode cX0_countDraws 1 = .ok (.iconst 1, 1) := by decide +kernel
theorem dX0_countDraws_2 : decode cX0_countDraws 2 = .ok (.if_icmp .lt 19, 3) := by decide +kernel
theorem dX0_countDraws_5 : decode cX0_countDraws 5 = .ok (.iload_n 1, 1) := by decide +kernel
theorem dX0_countDraws_6 : decode cX0_countDraws 6 = .ok (.iconst 4, 1) := by decide +kernel
theorem dX0_countDraws_7 : decode cX0_countDraws 7 = .ok (.if_icmp .gt 14, 3) := by decide +kernel
theorem dX0_countDraws_10 : decode cX0_countDraws 10 = .ok (.aload_n 0, 1) := by decide +kernel
theorem dX0_countDraws_11 : decode cX0_countDraws 11 = .ok (.getfield 27, 3) := by decide +kernel
theorem dX0_countDraws_14 : decode cX0_countDraws 14 = .ok (.iconst 1, 1) := by decide +kernel
theorem dX0_countDraws_15 : decode cX0_countDraws 15 = .ok (.iload_n 1, 1) := by decide +kernel
theorem dX0_countDraws_16 : decode cX0_countDraws 16 = .ok (.ishl, 1) := by decide +kernel
theorem dX0_countDraws_17 : decode cX0_countDraws 17 = .ok (.iand, 1) := by decide +kernel
theorem dX0_countDraws_18 : decode cX0_countDraws 18 = .ok (.ifCond .eq 4, 3) := by decide +kernel
theorem dX0_countDraws_21 : decode cX0_countDraws 21 = .ok (.return_, 1) := by decide +kernel
theorem dX0_countDraws_22 : decode cX0_countDraws 22 = .ok (.aload_n 0, 1) := by decide +kernel
theorem dX0_countDraws_23 : decode cX0_countDraws 23 = .ok (.dup, 1) := by decide +kernel
theorem dX0_countDraws_24 : decode cX0_countDraws 24 = .ok (.getfield 27, 3) := by decide +kernel
theorem dX0_countDraws_27 : decode cX0_countDraws 27 = .ok (.iconst 1, 1) := by decide +kernel
theorem dX0_countDraws_28 : decode cX0_countDraws 28 = .ok (.iload_n 1, 1) := by decide +kernel
theorem dX0_countDraws_29 : decode cX0_countDraws 29 = .ok (.ishl, 1) := by decide +kernel
theorem dX0_countDraws_30 : decode cX0_countDraws 30 = .ok (.ior, 1) := by decide +kernel
theorem dX0_countDraws_31 : decode cX0_countDraws 31 = .ok (.putfield 27, 3) := by decide +kernel
theorem dX0_countDraws_34 : decode cX0_countDraws 34 = .ok (.aload_n 0, 1) := by decide +kernel
theorem dX0_countDraws_35 : decode cX0_countDraws 35 = .ok (.getfield 24, 3) := by decide +kernel
theorem dX0_countDraws_38 : decode cX0_countDraws 38 = .ok (.iload_n 1, 1) := by decide +kernel
theorem dX0_countDraws_39 : decode cX0_countDraws 39 = .ok (.iconst 0, 1) := by decide +kernel
theorem dX0_countDraws_40 : decode cX0_countDraws 40 = .ok (.iastore, 1) := by decide +kernel
theorem dX0_countDraws_41 : decode cX0_countDraws 41 = .ok (.iconst 1, 1) := by decide +kernel
theorem dX0_countDraws_42 : decode cX0_countDraws 42 = .ok (.istore_n 2, 1) := by decide +kernel
theorem dX0_countDraws_43 : decode cX0_countDraws 43 = .ok (.iload_n 2, 1) := by decide +kernel
theorem dX0_countDraws_44 : decode cX0_countDraws 44 = .ok (.sipush 3000, 3) := by decide +kernel
theorem dX0_countDraws_47 : decode cX0_countDraws 47 = .ok (.if_icmp .gt 18, 3) := by decide +kernel
theorem dX0_countDraws_50 : decode cX0_countDraws 50 = .ok (.aload_n 0, 1) := by decide +kernel
theorem dX0_countDraws_51 : decode cX0_countDraws 51 = .ok (.getfield 21, 3) := by decide +kernel
theorem dX0_countDraws_54 : decode cX0_countDraws 54 = .ok (.iload_n 1, 1) := by decide +kernel
theorem dX0_countDraws_55 : decode cX0_countDraws 55 = .ok (.aaload, 1) := by decide +kernel
theorem dX0_countDraws_56 : decode cX0_countDraws 56 = .ok (.iload_n 2, 1) := by decide +kernel
theorem dX0_countDraws_57 : decode cX0_countDraws 57 = .ok (.iconst 0, 1) := by decide +kernel
theorem dX0_countDraws_58 : decode cX0_countDraws 58 = .ok (.iastore, 1) := by decide +kernel
theorem dX0_countDraws_59 : decode cX0_countDraws 59 = .ok (.iinc 2 1, 3) := by decide +kernel
theorem dX0_countDraws_62 : decode cX0_countDraws 62 = .ok (.goto (-19), 3) := by decide +kernel
theorem dX0_countDraws_65 : decode cX0_countDraws 65 = .ok (.iconst 1, 1) := by decide +kernel
theorem dX0_countDraws_66 : decode cX0_countDraws 66 = .ok (.istore_n 2, 1) := by decide +kernel
theorem dX0_countDraws_67 : decode cX0_countDraws 67 = .ok (.iload_n 2, 1) := by decide +kernel
theorem dX0_countDraws_68 : decode cX0_countDraws 68 = .ok (.iconst 1, 1) := by decide +kernel
theorem dX0_countDraws_69 : decode cX0_countDraws 69 = .ok (.aload_n 0, 1) := by decide +kernel
theorem dX0_countDraws_70 : decode cX0_countDraws 70 = .ok (.getfield 15, 3) := by decide +kernel
theorem dX0_countDraws_73 : decode cX0_countDraws 73 = .ok (.ishl, 1) := by decide +kernel
theorem dX0_countDraws_74 : decode cX0_countDraws 74 = .ok (.if_icmp .ge 38, 3) := by decide +kernel
theorem dX0_countDraws_77 : decode cX0_countDraws 77 = .ok (.iload_n 2, 1) := by decide +kernel
theorem dX0_countDraws_78 : decode cX0_countDraws 78 = .ok (.invokestatic 37, 3) := by decide +kernel
theorem dX0_countDraws_81 : decode cX0_countDraws 81 = .ok (.iload_n 1, 1) := by decide +kernel
theorem dX0_countDraws_82 : decode cX0_countDraws 82 = .ok (.if_icmp .ne 24, 3) := by decide +kernel
theorem dX0_countDraws_85 : decode cX0_countDraws 85 = .ok (.aload_n 0, 1) := by decide +kernel
theorem dX0_countDraws_86 : decode cX0_countDraws 86 = .ok (.getfield 24, 3) := by decide +kernel
theorem dX0_countDraws_89 : decode cX0_countDraws 89 = .ok (.iload_n 1, 1) := by decide +kernel
theorem dX0_countDraws_90 : decode cX0_countDraws 90 = .ok (.dup2, 1) := by decide +kernel
theorem dX0_countDraws_91 : decode cX0_countDraws 91 = .ok (.iaload, 1) := by decide +kernel
theorem dX0_countDraws_92 : decode cX0_countDraws 92 = .ok (.iconst 1, 1) := by decide +kernel
theorem dX0_countDraws_93 : decode cX0_countDraws 93 = .ok (.iadd, 1) := by decide +kernel
theorem dX0_countDraws_94 : decode cX0_countDraws 94 = .ok (.iastore, 1) := by decide +kernel
theorem dX0_countDraws_95 : decode cX0_countDraws 95 = .ok (.aload_n 0, 1) := by decide +kernel
theorem dX0_countDraws_96 : decode cX0_countDraws 96 = .ok (.iload_n 2, 1) := by decide +kernel
theorem dX0_countDraws_97 : decode cX0_countDraws 97 = .ok (.aload_n 0, 1) := by decide +kernel
theorem dX0_countDraws_98 : decode cX0_countDraws 98 = .ok (.getfield 21, 3) := by decide +kernel
theorem dX0_countDraws_101 : decode cX0_countDraws 101 = .ok (.iload_n 1, 1) := by decide +kernel
theorem dX0_countDraws_102 : decode cX0_countDraws 102 = .ok (.aaload, 1) := by decide +kernel
theorem dX0_countDraws_103 : decode cX0_countDraws 103 = .ok (.invokevirtual 43, 3) := by decide +kernel
theorem dX0_countDraws_106 : decode cX0_countDraws 106 = .ok (.iinc 2 1, 3) := by decide +kernel
theorem dX0_countDraws_109 : decode cX0_countDraws 109 = .ok (.goto (-42), 3) := by decide +kernel
theorem dX0_countDraws_112 : decode cX0_countDraws 112 = .ok (.return_, 1) := by decide +kernel
set_option maxRecDepth 20000 in
theorem ggX0_countDraw_X1_place : GoodIn wsX0_countDraw wsX1_place := goodIn_r _ [8, 9, 10, 11, 12, 13, 14, 15, 71, 72, 73, 74, 75, 76, 77, 78] (by decide +kernel) (by decide +kernel)
set_option maxRecDepth 20000 in
theorem gX0_countDraw_X1_place : GoodIn wsX0_countDraw (wsV RX0 47 RX1 yX1_place wsX1_place) := goodIn_app (goodIn_of _ (by decide +kernel)) ggX0_countDraw_X1_place
set_option maxRecDepth 20000 in
theorem ggX0_countDraw_X1_shorten : GoodIn wsX0_countDraw wsX1_shorten := goodIn_r _ [19, 9, 15, 20, 21, 13, 22, 71, 72, 73, 74, 75, 76, 77, 78] (by decide +kernel) (by decide +kernel)
set_option maxRecDepth 20000 in
theorem gX0_countDraw_X1_shorten : GoodIn wsX0_countDraw (wsV RX0 53 RX1 yX1_shorten wsX1_shorten) := goodIn_app (goodIn_of _ (by decide +kernel)) ggX0_countDraw_X1_shorten
set_option maxRecDepth 20000 in
theorem ggX0_countDraw_X1_refresh : GoodIn wsX0_countDraw wsX1_refresh := goodIn_r _ [26, 15, 27, 28, 29, 30, 7, 31, 32, 33, 34, 35, 36, 37, 38, 9, 39, 40, 41, 42, 10, 43, 44, 45, 46, 47, 48, 49, 50, 51, 52, 53, 13, 54, 55, 56, 57, 58, 59, 60, 71, 72, 73, 74, 75, 76, 77, 78, 79, 80] (by decide +kernel) (by decide +kernel)
set_option maxRecDepth 20000 in
theorem gX0_countDraw_X1_refresh : GoodIn wsX0_countDraw (wsV RX0 57 RX1 yX1_refresh wsX1_refresh) := goodIn_app (goodIn_of _ (by decide +kernel)) ggX0_countDraw_X1_refresh
set_option maxRecDepth 20000 in
theorem ggX0_countDraw_X1_reaches : GoodIn wsX0_countDraw wsX1_reaches := goodIn_r _ [64, 34, 71, 72, 73, 74, 75, 76, 77, 78] (by decide +kernel) (by decide +kernel)
set_option maxRecDepth 20000 in
theorem gX0_countDraw_X1_reaches : GoodIn wsX0_countDraw (wsV RX0 60 RX1 yX1_reaches wsX1_reaches) := goodIn_app (goodIn_of _ (by decide +kernel)) ggX0_countDraw_X1_reaches
theorem dX0_countDraw_0 : decode cX0_countDraw 0 = .ok (.iconst 0, 1) := by decide +kernel
theorem dX0_countDraw_1 : decode cX0_countDraw 1 = .ok (.istore_n 3, 1) := by decide +kernel
theorem dX0_countDraw_2 : decode cX0_countDraw 2 = .ok (.iconst 0, 1) := by decide +kernel
theorem dX0_countDraw_3 : decode cX0_countDraw 3 = .ok (.istore 4, 2) := by decide +kernel
theorem dX0_countDraw_5 : decode cX0_countDraw 5 = .ok (.iload 4, 2) := by decide +kernel
theorem dX0_countDraw_7 : decode cX0_countDraw 7 = .ok (.aload_n 0, 1) := by decide +kernel
theorem dX0_countDraw_8 : decode cX0_countDraw 8 = .ok (.getfield 15, 3) := by decide +kernel
theorem dX0_countDraw_11 : decode cX0_countDraw 11 = .ok (.if_icmp .ge 43, 3) := by decide +kernel
theorem dX0_countDraw_14 : decode cX0_countDraw 14 = .ok (.iload 4, 2) := by decide +kernel
theorem dX0_countDraw_16 : decode cX0_countDraw 16 = .ok (.bipush 10, 2) := by decide +kernel
theorem dX0_countDraw_18 : decode cX0_countDraw 18 = .ok (.if_icmp .ge 36, 3) := by decide +kernel
theorem dX0_countDraw_21 : decode cX0_countDraw 21 = .ok (.iload_n 1, 1) := by decide +kernel
theorem dX0_countDraw_22 : decode cX0_countDraw 22 = .ok (.iconst 1, 1) := by decide +kernel
theorem dX0_countDraw_23 : decode cX0_countDraw 23 = .ok (.iload 4, 2) := by decide +kernel
theorem dX0_countDraw_25 : decode cX0_countDraw 25 = .ok (.ishl, 1) := by decide +kernel
theorem dX0_countDraw_26 : decode cX0_countDraw 26 = .ok (.iand, 1) := by decide +kernel
theorem dX0_countDraw_27 : decode cX0_countDraw 27 = .ok (.ifCond .eq 21, 3) := by decide +kernel
theorem dX0_countDraw_30 : decode cX0_countDraw 30 = .ok (.aload_n 0, 1) := by decide +kernel
theorem dX0_countDraw_31 : decode cX0_countDraw 31 = .ok (.getfield 30, 3) := by decide +kernel
theorem dX0_countDraw_34 : decode cX0_countDraw 34 = .ok (.iload_n 3, 1) := by decide +kernel
theorem dX0_countDraw_35 : decode cX0_countDraw 35 = .ok (.aload_n 0, 1) := by decide +kernel
theorem dX0_countDraw_36 : decode cX0_countDraw 36 = .ok (.getfield 9, 3) := by decide +kernel
theorem dX0_countDraw_39 : decode cX0_countDraw 39 = .ok (.iload 4, 2) := by decide +kernel
theorem dX0_countDraw_41 : decode cX0_countDraw 41 = .ok (.iaload, 1) := by decide +kernel
theorem dX0_countDraw_42 : decode cX0_countDraw 42 = .ok (.invokevirtual 47, 3) := by decide +kernel
theorem dX0_countDraw_45 : decode cX0_countDraw 45 = .ok (.iinc 3 1, 3) := by decide +kernel
theorem dX0_countDraw_48 : decode cX0_countDraw 48 = .ok (.iinc 4 1, 3) := by decide +kernel
theorem dX0_countDraw_51 : decode cX0_countDraw 51 = .ok (.goto (-46), 3) := by decide +kernel
theorem dX0_countDraw_54 : decode cX0_countDraw 54 = .ok (.aload_n 0, 1) := by decide +kernel
theorem dX0_countDraw_55 : decode cX0_countDraw 55 = .ok (.getfield 30, 3) := by decide +kernel
theorem dX0_countDraw_58 : decode cX0_countDraw 58 = .ok (.iload_n 3, 1) := by decide +kernel
theorem dX0_countDraw_59 : decode cX0_countDraw 59 = .ok (.invokevirtual 53, 3) := by decide +kernel
theorem dX0_countDraw_62 : decode cX0_countDraw 62 = .ok (.aload_n 0, 1) := by decide +kernel
theorem dX0_countDraw_63 : decode cX0_countDraw 63 = .ok (.getfield 30, 3) := by decide +kernel
theorem dX0_countDraw_66 : decode cX0_countDraw 66 = .ok (.invokevirtual 57, 3) := by decide +kernel
theorem dX0_countDraw_69 : decode cX0_countDraw 69 = .ok (.iconst 1, 1) := by decide +kernel
theorem dX0_countDraw_70 : decode cX0_countDraw 70 = .ok (.istore 4, 2) := by decide +kernel
theorem dX0_countDraw_72 : decode cX0_countDraw 72 = .ok (.iload 4, 2) := by decide +kernel
theorem dX0_countDraw_74 : decode cX0_countDraw 74 = .ok (.sipush 3000, 3) := by decide +kernel
theorem dX0_countDraw_77 : decode cX0_countDraw 77 = .ok (.if_icmp .gt 36, 3) := by decide +kernel
theorem dX0_countDraw_80 : decode cX0_countDraw 80 = .ok (.iload 4, 2) := by decide +kernel
theorem dX0_countDraw_82 : decode cX0_countDraw 82 = .ok (.aload_n 2, 1) := by decide +kernel
theorem dX0_countDraw_83 : decode cX0_countDraw 83 = .ok (.arraylength, 1) := by decide +kernel
theorem dX0_countDraw_84 : decode cX0_countDraw 84 = .ok (.if_icmp .ge 29, 3) := by decide +kernel
theorem dX0_countDraw_87 : decode cX0_countDraw 87 = .ok (.aload_n 0, 1) := by decide +kernel
theorem dX0_countDraw_88 : decode cX0_countDraw 88 = .ok (.getfield 30, 3) := by decide +kernel
theorem dX0_countDraw_91 : decode cX0_countDraw 91 = .ok (.iload 4, 2) := by decide +kernel
theorem dX0_countDraw_93 : decode cX0_countDraw 93 = .ok (.invokevirtual 60, 3) := by decide +kernel
theorem dX0_countDraw_96 : decode cX0_countDraw 96 = .ok (.ifCond .eq 11, 3) := by decide +kernel
theorem dX0_countDraw_99 : decode cX0_countDraw 99 = .ok (.aload_n 2, 1) := by decide +kernel
theorem dX0_countDraw_100 : decode cX0_countDraw 100 = .ok (.iload 4, 2) := by decide +kernel
theorem dX0_countDraw_102 : decode cX0_countDraw 102 = .ok (.dup2, 1) := by decide +kernel
theorem dX0_countDraw_103 : decode cX0_countDraw 103 = .ok (.iaload, 1) := by decide +kernel
theorem dX0_countDraw_104 : decode cX0_countDraw 104 = .ok (.iconst 1, 1) := by decide +kernel
theorem dX0_countDraw_105 : decode cX0_countDraw 105 = .ok (.iadd, 1) := by decide +kernel
theorem dX0_countDraw_106 : decode cX0_countDraw 106 = .ok (.iastore, 1) := by decide +kernel
theorem dX0_countDraw_107 : decode cX0_countDraw 107 = .ok (.iinc 4 1, 3) := by decide +kernel
theorem dX0_countDraw_110 : decode cX0_countDraw 110 = .ok (.goto (-38), 3) := by decide +kernel
theorem dX0_countDraw_113 : decode cX0_countDraw 113 = .ok (.return_, 1) := by decide +kernel
theorem dX1_init_0 : decode cX1_init 0 = .ok (.aload_n 0, 1) := by decide +kernel
theorem dX1_init_1 : decode cX1_init 1 = .ok (.invokespecial 3, 3) := by decide +kernel
theorem dX1_init_4 : decode cX1_init 4 = .ok (.aload_n 0, 1) := by decide +kernel
theorem dX1_init_5 : decode cX1_init 5 = .ok (.iconst 0, 1) := by decide +kernel
theorem dX1_init_6 : decode cX1_init 6 = .ok (.putfield 9, 3) := by decide +kernel
theorem dX1_init_9 : decode cX1_init 9 = .ok (.aload_n 0, 1) := by decide +kernel
theorem dX1_init_10 : decode cX1_init 10 = .ok (.iconst 0, 1) := by decide +kernel
theorem dX1_init_11 : decode cX1_init 11 = .ok (.putfield 15, 3) := by decide +kernel
theorem dX1_init_14 : decode cX1_init 14 = .ok (.aload_n 0, 1) := by decide +kernel
theorem dX1_init_15 : decode cX1_init 15 = .ok (.aload_n 1, 1) := by decide +kernel
theorem dX1_init_16 : decode cX1_init 16 = .ok (.putfield 18, 3) := by decide +kernel
theorem dX1_init_19 : decode cX1_init 19 = .ok (.aload_n 0, 1) := by decide +kernel
theorem dX1_init_20 : decode cX1_init 20 = .ok (.iload_n 2, 1) := by decide +kernel
theorem dX1_init_21 : decode cX1_init 21 = .ok (.newarray .int, 2) := by decide +kernel
theorem dX1_init_23 : decode cX1_init 23 = .ok (.putfield 22, 3) := by decide +kernel
theorem dX1_init_26 : decode cX1_init 26 = .ok (.aload_n 0, 1) := by decide +kernel
theorem dX1_init_27 : decode cX1_init 27 = .ok (.iconst 1, 1) := by decide +kernel
theorem dX1_init_28 : decode cX1_init 28 = .ok (.iload_n 2, 1) := by decide +kernel
theorem dX1_init_29 : decode cX1_init 29 = .ok (.ishl, 1) := by decide +kernel
theorem dX1_init_30 : decode cX1_init 30 = .ok (.sipush 3001, 3) := by decide +kernel
theorem dX1_init_33 : decode cX1_init 33 = .ok (.multianewarray 26 2, 4) := by decide +kernel
theorem dX1_init_37 : decode cX1_init 37 = .ok (.putfield 28, 3) := by decide +kernel
theorem dX1_init_40 : decode cX1_init 40 = .ok (.aload_n 0, 1) := by decide +kernel
theorem dX1_init_41 : decode cX1_init 41 = .ok (.iconst 1, 1) := by decide +kernel
theorem dX1_init_42 : decode cX1_init 42 = .ok (.iload_n 2, 1) := by decide +kernel
theorem dX1_init_43 : decode cX1_init 43 = .ok (.ishl, 1) := by decide +kernel
theorem dX1_init_44 : decode cX1_init 44 = .ok (.sipush 3000, 3) := by decide +kernel
theorem dX1_init_47 : decode cX1_init 47 = .ok (.multianewarray 31 2, 4) := by decide +kernel
theorem dX1_init_51 : decode cX1_init 51 = .ok (.putfield 33, 3) := by decide +kernel
theorem dX1_init_54 : decode cX1_init 54 = .ok (.aload_n 0, 1) := by decide +kernel
theorem dX1_init_55 : decode cX1_init 55 = .ok (.iconst 1, 1) := by decide +kernel
theorem dX1_init_56 : decode cX1_init 56 = .ok (.iload_n 2, 1) := by decide +kernel
theorem dX1_init_57 : decode cX1_init 57 = .ok (.ishl, 1) := by decide +kernel
theorem dX1_init_58 : decode cX1_init 58 = .ok (.newarray .int, 2) := by decide +kernel
theorem dX1_init_60 : decode cX1_init 60 = .ok (.putfield 36, 3) := by decide +kernel
theorem dX1_init_63 : decode cX1_init 63 = .ok (.aload_n 0, 1) := by decide +kernel
theorem dX1_init_64 : decode cX1_init 64 = .ok (.sipush 3001, 3) := by decide +kernel
theorem dX1_init_67 : decode cX1_init 67 = .ok (.newarray .int, 2) := by decide +kernel
theorem dX1_init_69 : decode cX1_init 69 = .ok (.putfield 39, 3) := by decide +kernel
theorem dX1_init_72 : decode cX1_init 72 = .ok (.return_, 1) := by decide +kernel
theorem dX1_itemAt_0 : decode cX1_itemAt 0 = .ok (.iload_n 1, 1) := by decide +kernel
theorem dX1_itemAt_1 : decode cX1_itemAt 1 = .ok (.ifCond .lt 20, 3) := by decide +kernel
theorem dX1_itemAt_4 : decode cX1_itemAt 4 = .ok (.iload_n 1, 1) := by decide +kernel
theorem dX1_itemAt_5 : decode cX1_itemAt 5 = .ok (.aload_n 0, 1) := by decide +kernel
theorem dX1_itemAt_6 : decode cX1_itemAt 6 = .ok (.getfield 9, 3) := by decide +kernel
theorem dX1_itemAt_9 : decode cX1_itemAt 9 = .ok (.if_icmp .ge 12, 3) := by decide +kernel
theorem dX1_itemAt_12 : decode cX1_itemAt 12 = .ok (.iload_n 1, 1) := by decide +kernel
theorem dX1_itemAt_13 : decode cX1_itemAt 13 = .ok (.aload_n 0, 1) := by decide +kernel
theorem dX1_itemAt_14 : decode cX1_itemAt 14 = .ok (.getfield 22, 3) := by decide +kernel
theorem dX1_itemAt_17 : decode cX1_itemAt 17 = .ok (.arraylength, 1) := by decide +kernel
theorem dX1_itemAt_18 : decode cX1_itemAt 18 = .ok (.if_icmp .lt 7, 3) := by decide +kernel
theorem dX1_itemAt_21 : decode cX1_itemAt 21 = .ok (.iconst (-1), 1) := by decide +kernel
theorem dX1_itemAt_22 : decode cX1_itemAt 22 = .ok (.goto 9, 3) := by decide +kernel
theorem dX1_itemAt_25 : decode cX1_itemAt 25 = .ok (.aload_n 0, 1) := by decide +kernel
theorem dX1_itemAt_26 : decode cX1_itemAt 26 = .ok (.getfield 22, 3) := by decide +kernel
theorem dX1_itemAt_29 : decode cX1_itemAt 29 = .ok (.iload_n 1, 1) := by decide +kernel
theorem dX1_itemAt_30 : decode cX1_itemAt 30 = .ok (.iaload, 1) := by decide +kernel
theorem dX1_itemAt_31 : decode cX1_itemAt 31 = .ok (.ireturn, 1) := by decide +kernel
theorem dX1_place_0 : decode cX1_place 0 = .ok (.iload_n 1, 1) := by decide +kernel
theorem dX1_place_1 : decode cX1_place 1 = .ok (.ifCond .lt 20, 3) := by decide +kernel
theorem dX1_place_4 : decode cX1_place 4 = .ok (.iload_n 1, 1) := by decide +kernel
theorem dX1_place_5 : decode cX1_place 5 = .ok (.aload_n 0, 1) := by decide +kernel
theorem dX1_place_6 : decode cX1_place 6 = .ok (.getfield 9, 3) := by decide +kernel
theorem dX1_place_9 : decode cX1_place 9 = .ok (.if_icmp .gt 12, 3) := by decide +kernel
theorem dX1_place_12 : decode cX1_place 12 = .ok (.iload_n 1, 1) := by decide +kernel
theorem dX1_place_13 : decode cX1_place 13 = .ok (.aload_n 0, 1) := by decide +kernel
theorem dX1_place_14 : decode cX1_place 14 = .ok (.getfield 22, 3) := by decide +kernel
theorem dX1_place_17 : decode cX1_place 17 = .ok (.arraylength, 1) := by decide +kernel
theorem dX1_place_18 : decode cX1_place 18 = .ok (.if_icmp .lt 4, 3) := by decide +kernel
theorem dX1_place_21 : decode cX1_place 21 = .ok (.return_, 1) := by decide +kernel
theorem dX1_place_22 : decode cX1_place 22 = .ok (.iload_n 1, 1) := by decide +kernel
theorem dX1_place_23 : decode cX1_place 23 = .ok (.aload_n 0, 1) := by decide +kernel
theorem dX1_place_24 : decode cX1_place 24 = .ok (.getfield 9, 3) := by decide +kernel
theorem dX1_place_27 : decode cX1_place 27 = .ok (.if_icmp .ge 14, 3) := by decide +kernel
theorem dX1_place_30 : decode cX1_place 30 = .ok (.aload_n 0, 1) := by decide +kernel
theorem dX1_place_31 : decode cX1_place 31 = .ok (.getfield 22, 3) := by decide +kernel
theorem dX1_place_34 : decode cX1_place 34 = .ok (.iload_n 1, 1) := by decide +kernel
theorem dX1_place_35 : decode cX1_place 35 = .ok (.iaload, 1) := by decide +kernel
theorem dX1_place_36 : decode cX1_place 36 = .ok (.iload_n 2, 1) := by decide +kernel
theorem dX1_place_37 : decode cX1_place 37 = .ok (.if_icmp .ne 4, 3) := by decide +kernel
theorem dX1_place_40 : decode cX1_place 40 = .ok (.return_, 1) := by decide +kernel
theorem dX1_place_41 : decode cX1_place 41 = .ok (.aload_n 0, 1) := by decide +kernel
theorem dX1_place_42 : decode cX1_place 42 = .ok (.aload_n 0, 1) := by decide +kernel
theorem dX1_place_43 : decode cX1_place 43 = .ok (.getfield 9, 3) := by decide +kernel
theorem dX1_place_46 : decode cX1_place 46 = .ok (.iload_n 1, 1) := by decide +kernel
theorem dX1_place_47 : decode cX1_place 47 = .ok (.iconst 1, 1) := by decide +kernel
theorem dX1_place_48 : decode cX1_place 48 = .ok (.iadd, 1) := by decide +kernel
theorem dX1_place_49 : decode cX1_place 49 = .ok (.invokestatic 42, 3) := by decide +kernel
theorem dX1_place_52 : decode cX1_place 52 = .ok (.putfield 9, 3) := by decide +kernel
theorem dX1_place_55 : decode cX1_place 55 = .ok (.aload_n 0, 1) := by decide +kernel
theorem dX1_place_56 : decode cX1_place 56 = .ok (.getfield 22, 3) := by decide +kernel
theorem dX1_place_59 : decode cX1_place 59 = .ok (.iload_n 1, 1) := by decide +kernel
theorem dX1_place_60 : decode cX1_place 60 = .ok (.iload_n 2, 1) := by decide +kernel
theorem dX1_place_61 : decode cX1_place 61 = .ok (.iastore, 1) := by decide +kernel
theorem dX1_place_62 : decode cX1_place 62 = .ok (.aload_n 0, 1) := by decide +kernel
theorem dX1_place_63 : decode cX1_place 63 = .ok (.dup, 1) := by decide +kernel
theorem dX1_place_64 : decode cX1_place 64 = .ok (.getfield 15, 3) := by decide +kernel
theorem dX1_place_67 : decode cX1_place 67 = .ok (.iconst 1, 1) := by decide +kernel
theorem dX1_place_68 : decode cX1_place 68 = .ok (.iload_n 1, 1) := by decide +kernel
theorem dX1_place_69 : decode cX1_place 69 = .ok (.ishl, 1) := by decide +kernel
theorem dX1_place_70 : decode cX1_place 70 = .ok (.ior, 1) := by decide +kernel
theorem dX1_place_71 : decode cX1_place 71 = .ok (.putfield 15, 3) := by decide +kernel
theorem dX1_place_74 : decode cX1_place 74 = .ok (.return_, 1) := by decide +kernel
theorem dX1_shorten_0 : decode cX1_shorten 0 = .ok (.iload_n 1, 1) := by decide +kernel
theorem dX1_shorten_1 : decode cX1_shorten 1 = .ok (.istore_n 2, 1) := by decide +kernel
theorem dX1_shorten_2 : decode cX1_shorten 2 = .ok (.iload_n 2, 1) := by decide +kernel
theorem dX1_shorten_3 : decode cX1_shorten 3 = .ok (.aload_n 0, 1) := by decide +kernel
theorem dX1_shorten_4 : decode cX1_shorten 4 = .ok (.getfield 9, 3) := by decide +kernel
theorem dX1_shorten_7 : decode cX1_shorten 7 = .ok (.if_icmp .ge 21, 3) := by decide +kernel
theorem dX1_shorten_10 : decode cX1_shorten 10 = .ok (.aload_n 0, 1) := by decide +kernel
theorem dX1_shorten_11 : decode cX1_shorten 11 = .ok (.dup, 1) := by decide +kernel
theorem dX1_shorten_12 : decode cX1_shorten 12 = .ok (.getfield 15, 3) := by decide +kernel
theorem dX1_shorten_15 : decode cX1_shorten 15 = .ok (.iconst 1, 1) := by decide +kernel
theorem dX1_shorten_16 : decode cX1_shorten 16 = .ok (.iload_n 2, 1) := by decide +kernel
theorem dX1_shorten_17 : decode cX1_shorten 17 = .ok (.ishl, 1) := by decide +kernel
theorem dX1_shorten_18 : decode cX1_shorten 18 = .ok (.ior, 1) := by decide +kernel
theorem dX1_shorten_19 : decode cX1_shorten 19 = .ok (.putfield 15, 3) := by decide +kernel
theorem dX1_shorten_22 : decode cX1_shorten 22 = .ok (.iinc 2 1, 3) := by decide +kernel
theorem dX1_shorten_25 : decode cX1_shorten 25 = .ok (.goto (-23), 3) := by decide +kernel
theorem dX1_shorten_28 : decode cX1_shorten 28 = .ok (.aload_n 0, 1) := by decide +kernel
theorem dX1_shorten_29 : decode cX1_shorten 29 = .ok (.aload_n 0, 1) := by decide +kernel
theorem dX1_shorten_30 : decode cX1_shorten 30 = .ok (.getfield 9, 3) := by decide +kernel
theorem dX1_shorten_33 : decode cX1_shorten 33 = .ok (.iload_n 1, 1) := by decide +kernel
theorem dX1_shorten_34 : decode cX1_shorten 34 = .ok (.invokestatic 48, 3) := by decide +kernel
theorem dX1_shorten_37 : decode cX1_shorten 37 = .ok (.putfield 9, 3) := by decide +kernel
theorem dX1_shorten_40 : decode cX1_shorten 40 = .ok (.return_, 1) := by decide +kernel
theorem dX1_changeEverySet_0 : decode cX1_changeEverySet 0 = .ok (.aload_n 0, 1) := by decide +kernel
theorem dX1_changeEverySet_1 : decode cX1_changeEverySet 1 = .ok (.iconst 1, 1) := by decide +kernel
theorem dX1_changeEverySet_2 : decode cX1_changeEverySet 2 = .ok (.aload_n 0, 1) := by decide +kernel
theorem dX1_changeEverySet_3 : decode cX1_changeEverySet 3 = .ok (.getfield 22, 3) := by decide +kernel
theorem dX1_changeEverySet_6 : decode cX1_changeEverySet 6 = .ok (.arraylength, 1) := by decide +kernel
theorem dX1_changeEverySet_7 : decode cX1_changeEverySet 7 = .ok (.ishl, 1) := by decide +kernel
theorem dX1_changeEverySet_8 : decode cX1_changeEverySet 8 = .ok (.iconst 1, 1) := by decide +kernel
theorem dX1_changeEverySet_9 : decode cX1_changeEverySet 9 = .ok (.isub, 1) := by decide +kernel
theorem dX1_changeEverySet_10 : decode cX1_changeEverySet 10 = .ok (.putfield 15, 3) := by decide +kernel
theorem dX1_changeEverySet_13 : decode cX1_changeEverySet 13 = .ok (.return_, 1) := by decide +kernel
theorem dX1_knows_0 : decode cX1_knows 0 = .ok (.iload_n 1, 1) := by decide +kernel
theorem dX1_knows_1 : decode cX1_knows 1 = .ok (.ifCond .lt 17, 3) := by decide +kernel
theorem dX1_knows_4 : decode cX1_knows 4 = .ok (.iload_n 1, 1) := by decide +kernel
theorem dX1_knows_5 : decode cX1_knows 5 = .ok (.iconst 1, 1) := by decide +kernel
theorem dX1_knows_6 : decode cX1_knows 6 = .ok (.aload_n 0, 1) := by decide +kernel
theorem dX1_knows_7 : decode cX1_knows 7 = .ok (.getfield 9, 3) := by decide +kernel
theorem dX1_knows_10 : decode cX1_knows 10 = .ok (.ishl, 1) := by decide +kernel
theorem dX1_knows_11 : decode cX1_knows 11 = .ok (.if_icmp .ge 7, 3) := by decide +kernel
theorem dX1_knows_14 : decode cX1_knows 14 = .ok (.iconst 1, 1) := by decide +kernel
theorem dX1_knows_15 : decode cX1_knows 15 = .ok (.goto 4, 3) := by decide +kernel
theorem dX1_knows_18 : decode cX1_knows 18 = .ok (.iconst 0, 1) := by decide +kernel
theorem dX1_knows_19 : decode cX1_knows 19 = .ok (.ireturn, 1) := by decide +kernel
set_option maxRecDepth 20000 in
theorem ggX1_refresh_X1_forget : GoodIn wsX1_refresh wsX1_forget := goodIn_r _ [7, 2, 8, 9, 10, 40, 41, 42, 43, 44, 45, 46, 47] (by decide +kernel) (by decide +kernel)
set_option maxRecDepth 20000 in
theorem gX1_refresh_X1_forget : GoodIn wsX1_refresh (wsV RX1 51 RX1 yX1_forget wsX1_forget) := goodIn_app (goodIn_of _ (by decide +kernel)) ggX1_refresh_X1_forget
set_option maxRecDepth 20000 in
theorem ggX1_refresh_X1_knows : GoodIn wsX1_refresh wsX1_knows := goodIn_r _ [14, 15, 40, 41, 42, 43, 44, 45, 46, 47] (by decide +kernel) (by decide +kernel)
set_option maxRecDepth 20000 in
theorem gX1_refresh_X1_knows : GoodIn wsX1_refresh (wsV RX1 55 RX1 yX1_knows wsX1_knows) := goodIn_app (goodIn_of _ (by decide +kernel)) ggX1_refresh_X1_knows
set_option maxRecDepth 20000 in
theorem ggX1_refresh_X1_make : GoodIn wsX1_refresh wsX1_make := goodIn_r _ [19, 20, 21, 22, 23, 6, 24, 9, 2, 8, 10, 25, 26, 27, 28, 29, 30, 31, 32, 33, 34, 35, 36, 37, 38, 39, 40, 41, 42, 43, 44, 45, 46, 47, 48, 49] (by decide +kernel) (by decide +kernel)
set_option maxRecDepth 20000 in
theorem gX1_refresh_X1_make : GoodIn wsX1_refresh (wsV RX1 59 RX1 yX1_make wsX1_make) := goodIn_app (goodIn_of _ (by decide +kernel)) ggX1_refresh_X1_make
theorem dX1_refresh_0 : decode cX1_refresh 0 = .ok (.aload_n 0, 1) := by decide +kernel
theorem dX1_refresh_1 : decode cX1_refresh 1 = .ok (.getfield 15, 3) := by decide +kernel
theorem dX1_refresh_4 : decode cX1_refresh 4 = .ok (.ifCond .ne 4, 3) := by decide +kernel
theorem dX1_refresh_7 : decode cX1_refresh 7 = .ok (.return_, 1) := by decide +kernel
theorem dX1_refresh_8 : decode cX1_refresh 8 = .ok (.iconst 1, 1) := by decide +kernel
theorem dX1_refresh_9 : decode cX1_refresh 9 = .ok (.istore_n 1, 1) := by decide +kernel
theorem dX1_refresh_10 : decode cX1_refresh 10 = .ok (.iload_n 1, 1) := by decide +kernel
theorem dX1_refresh_11 : decode cX1_refresh 11 = .ok (.aload_n 0, 1) := by decide +kernel
theorem dX1_refresh_12 : decode cX1_refresh 12 = .ok (.getfield 36, 3) := by decide +kernel
theorem dX1_refresh_15 : decode cX1_refresh 15 = .ok (.arraylength, 1) := by decide +kernel
theorem dX1_refresh_16 : decode cX1_refresh 16 = .ok (.if_icmp .ge 36, 3) := by decide +kernel
theorem dX1_refresh_19 : decode cX1_refresh 19 = .ok (.iload_n 1, 1) := by decide +kernel
theorem dX1_refresh_20 : decode cX1_refresh 20 = .ok (.aload_n 0, 1) := by decide +kernel
theorem dX1_refresh_21 : decode cX1_refresh 21 = .ok (.getfield 15, 3) := by decide +kernel
theorem dX1_refresh_24 : decode cX1_refresh 24 = .ok (.iand, 1) := by decide +kernel
theorem dX1_refresh_25 : decode cX1_refresh 25 = .ok (.ifCond .eq 21, 3) := by decide +kernel
theorem dX1_refresh_28 : decode cX1_refresh 28 = .ok (.aload_n 0, 1) := by decide +kernel
theorem dX1_refresh_29 : decode cX1_refresh 29 = .ok (.iload_n 1, 1) := by decide +kernel
theorem dX1_refresh_30 : decode cX1_refresh 30 = .ok (.invokevirtual 51, 3) := by decide +kernel
theorem dX1_refresh_33 : decode cX1_refresh 33 = .ok (.aload_n 0, 1) := by decide +kernel
theorem dX1_refresh_34 : decode cX1_refresh 34 = .ok (.iload_n 1, 1) := by decide +kernel
theorem dX1_refresh_35 : decode cX1_refresh 35 = .ok (.invokevirtual 55, 3) := by decide +kernel
theorem dX1_refresh_38 : decode cX1_refresh 38 = .ok (.ifCond .eq 8, 3) := by decide +kernel
theorem dX1_refresh_41 : decode cX1_refresh 41 = .ok (.aload_n 0, 1) := by decide +kernel
theorem dX1_refresh_42 : decode cX1_refresh 42 = .ok (.iload_n 1, 1) := by decide +kernel
theorem dX1_refresh_43 : decode cX1_refresh 43 = .ok (.invokevirtual 59, 3) := by decide +kernel
theorem dX1_refresh_46 : decode cX1_refresh 46 = .ok (.iinc 1 1, 3) := by decide +kernel
theorem dX1_refresh_49 : decode cX1_refresh 49 = .ok (.goto (-39), 3) := by decide +kernel
theorem dX1_refresh_52 : decode cX1_refresh 52 = .ok (.aload_n 0, 1) := by decide +kernel
theorem dX1_refresh_53 : decode cX1_refresh 53 = .ok (.iconst 0, 1) := by decide +kernel
theorem dX1_refresh_54 : decode cX1_refresh 54 = .ok (.putfield 15, 3) := by decide +kernel
theorem dX1_refresh_57 : decode cX1_refresh 57 = .ok (.return_, 1) := by decide +kernel
theorem dX1_forget_0 : decode cX1_forget 0 = .ok (.iconst 0, 1) := by decide +kernel
theorem dX1_forget_1 : decode cX1_forget 1 = .ok (.istore_n 2, 1) := by decide +kernel
theorem dX1_forget_2 : decode cX1_forget 2 = .ok (.iload_n 2, 1) := by decide +kernel
theorem dX1_forget_3 : decode cX1_forget 3 = .ok (.aload_n 0, 1) := by decide +kernel
theorem dX1_forget_4 : decode cX1_forget 4 = .ok (.getfield 36, 3) := by decide +kernel
theorem dX1_forget_7 : decode cX1_forget 7 = .ok (.iload_n 1, 1) := by decide +kernel
theorem dX1_forget_8 : decode cX1_forget 8 = .ok (.iaload, 1) := by decide +kernel
theorem dX1_forget_9 : decode cX1_forget 9 = .ok (.if_icmp .ge 37, 3) := by decide +kernel
theorem dX1_forget_12 : decode cX1_forget 12 = .ok (.aload_n 0, 1) := by decide +kernel
theorem dX1_forget_13 : decode cX1_forget 13 = .ok (.getfield 33, 3) := by decide +kernel
theorem dX1_forget_16 : decode cX1_forget 16 = .ok (.iload_n 1, 1) := by decide +kernel
theorem dX1_forget_17 : decode cX1_forget 17 = .ok (.aaload, 1) := by decide +kernel
theorem dX1_forget_18 : decode cX1_forget 18 = .ok (.iload_n 2, 1) := by decide +kernel
theorem dX1_forget_19 : decode cX1_forget 19 = .ok (.iaload, 1) := by decide +kernel
theorem dX1_forget_20 : decode cX1_forget 20 = .ok (.istore_n 3, 1) := by decide +kernel
theorem dX1_forget_21 : decode cX1_forget 21 = .ok (.aload_n 0, 1) := by decide +kernel
theorem dX1_forget_22 : decode cX1_forget 22 = .ok (.getfield 28, 3) := by decide +kernel
theorem dX1_forget_25 : decode cX1_forget 25 = .ok (.iload_n 1, 1) := by decide +kernel
theorem dX1_forget_26 : decode cX1_forget 26 = .ok (.aaload, 1) := by decide +kernel
theorem dX1_forget_27 : decode cX1_forget 27 = .ok (.iload_n 3, 1) := by decide +kernel
theorem dX1_forget_28 : decode cX1_forget 28 = .ok (.lconst 0, 1) := by decide +kernel
theorem dX1_forget_29 : decode cX1_forget 29 = .ok (.lastore, 1) := by decide +kernel
theorem dX1_forget_30 : decode cX1_forget 30 = .ok (.aload_n 0, 1) := by decide +kernel
theorem dX1_forget_31 : decode cX1_forget 31 = .ok (.getfield 39, 3) := by decide +kernel
theorem dX1_forget_34 : decode cX1_forget 34 = .ok (.iload_n 3, 1) := by decide +kernel
theorem dX1_forget_35 : decode cX1_forget 35 = .ok (.dup2, 1) := by decide +kernel
theorem dX1_forget_36 : decode cX1_forget 36 = .ok (.iaload, 1) := by decide +kernel
theorem dX1_forget_37 : decode cX1_forget 37 = .ok (.iconst 1, 1) := by decide +kernel
theorem dX1_forget_38 : decode cX1_forget 38 = .ok (.isub, 1) := by decide +kernel
theorem dX1_forget_39 : decode cX1_forget 39 = .ok (.iastore, 1) := by decide +kernel
theorem dX1_forget_40 : decode cX1_forget 40 = .ok (.iinc 2 1, 3) := by decide +kernel
theorem dX1_forget_43 : decode cX1_forget 43 = .ok (.goto (-41), 3) := by decide +kernel
theorem dX1_forget_46 : decode cX1_forget 46 = .ok (.aload_n 0, 1) := by decide +kernel
theorem dX1_forget_47 : decode cX1_forget 47 = .ok (.getfield 36, 3) := by decide +kernel
theorem dX1_forget_50 : decode cX1_forget 50 = .ok (.iload_n 1, 1) := by decide +kernel
theorem dX1_forget_51 : decode cX1_forget 51 = .ok (.iconst 0, 1) := by decide +kernel
theorem dX1_forget_52 : decode cX1_forget 52 = .ok (.iastore, 1) := by decide +kernel
theorem dX1_forget_53 : decode cX1_forget 53 = .ok (.return_, 1) := by decide +kernel
set_option maxRecDepth 20000 in
theorem ggX1_make_X1_add : GoodIn wsX1_make wsX1_add := goodIn_r _ [6, 7, 8, 9, 10, 26, 27, 28, 29, 30, 31, 32, 33] (by decide +kernel) (by decide +kernel)
set_option maxRecDepth 20000 in
theorem gX1_make_X1_add : GoodIn wsX1_make (wsV RX1 62 RX1 yX1_add wsX1_add) := goodIn_app (goodIn_of _ (by decide +kernel)) ggX1_make_X1_add
set_option maxRecDepth 20000 in
theorem ggX1_make_X1_join : GoodIn wsX1_make wsX1_join := goodIn_r _ [14, 15, 8, 9, 7, 16, 17, 18, 19, 20, 21, 22, 23, 24, 25, 2, 3, 4, 5, 6, 10, 26, 27, 28, 29, 30, 31, 32, 33, 34, 35] (by decide +kernel) (by decide +kernel)
set_option maxRecDepth 20000 in
theorem gX1_make_X1_join : GoodIn wsX1_make (wsV RX1 66 RX1 yX1_join wsX1_join) := goodIn_app (goodIn_of _ (by decide +kernel)) ggX1_make_X1_join
theorem dX1_make_0 : decode cX1_make 0 = .ok (.iconst 0, 1) := by decide +kernel
theorem dX1_make_1 : decode cX1_make 1 = .ok (.istore_n 2, 1) := by decide +kernel
theorem dX1_make_2 : decode cX1_make 2 = .ok (.iload_n 2, 1) := by decide +kernel
theorem dX1_make_3 : decode cX1_make 3 = .ok (.aload_n 0, 1) := by decide +kernel
theorem dX1_make_4 : decode cX1_make 4 = .ok (.getfield 22, 3) := by decide +kernel
theorem dX1_make_7 : decode cX1_make 7 = .ok (.arraylength, 1) := by decide +kernel
theorem dX1_make_8 : decode cX1_make 8 = .ok (.if_icmp .ge 32, 3) := by decide +kernel
theorem dX1_make_11 : decode cX1_make 11 = .ok (.iload_n 1, 1) := by decide +kernel
theorem dX1_make_12 : decode cX1_make 12 = .ok (.iconst 1, 1) := by decide +kernel
theorem dX1_make_13 : decode cX1_make 13 = .ok (.iload_n 2, 1) := by decide +kernel
theorem dX1_make_14 : decode cX1_make 14 = .ok (.ishl, 1) := by decide +kernel
theorem dX1_make_15 : decode cX1_make 15 = .ok (.if_icmp .ne 19, 3) := by decide +kernel
theorem dX1_make_18 : decode cX1_make 18 = .ok (.aload_n 0, 1) := by decide +kernel
theorem dX1_make_19 : decode cX1_make 19 = .ok (.iload_n 1, 1) := by decide +kernel
theorem dX1_make_20 : decode cX1_make 20 = .ok (.aload_n 0, 1) := by decide +kernel
theorem dX1_make_21 : decode cX1_make 21 = .ok (.getfield 22, 3) := by decide +kernel
theorem dX1_make_24 : decode cX1_make 24 = .ok (.iload_n 2, 1) := by decide +kernel
theorem dX1_make_25 : decode cX1_make 25 = .ok (.iaload, 1) := by decide +kernel
theorem dX1_make_26 : decode cX1_make 26 = .ok (.lconst 1, 1) := by decide +kernel
theorem dX1_make_27 : decode cX1_make 27 = .ok (.sipush 3000, 3) := by decide +kernel
theorem dX1_make_30 : decode cX1_make 30 = .ok (.invokevirtual 62, 3) := by decide +kernel
theorem dX1_make_33 : decode cX1_make 33 = .ok (.return_, 1) := by decide +kernel
theorem dX1_make_34 : decode cX1_make 34 = .ok (.iinc 2 1, 3) := by decide +kernel
theorem dX1_make_37 : decode cX1_make 37 = .ok (.goto (-35), 3) := by decide +kernel
theorem dX1_make_40 : decode cX1_make 40 = .ok (.iload_n 1, 1) := by decide +kernel
theorem dX1_make_41 : decode cX1_make 41 = .ok (.iload_n 1, 1) := by decide +kernel
theorem dX1_make_42 : decode cX1_make 42 = .ok (.ineg, 1) := by decide +kernel
theorem dX1_make_43 : decode cX1_make 43 = .ok (.iand, 1) := by decide +kernel
theorem dX1_make_44 : decode cX1_make 44 = .ok (.istore_n 2, 1) := by decide +kernel
theorem dX1_make_45 : decode cX1_make 45 = .ok (.iload_n 2, 1) := by decide +kernel
theorem dX1_make_46 : decode cX1_make 46 = .ok (.istore_n 3, 1) := by decide +kernel
theorem dX1_make_47 : decode cX1_make 47 = .ok (.iload_n 3, 1) := by decide +kernel
theorem dX1_make_48 : decode cX1_make 48 = .ok (.iload_n 1, 1) := by decide +kernel
theorem dX1_make_49 : decode cX1_make 49 = .ok (.if_icmp .ge 31, 3) := by decide +kernel
theorem dX1_make_52 : decode cX1_make 52 = .ok (.iload_n 3, 1) := by decide +kernel
theorem dX1_make_53 : decode cX1_make 53 = .ok (.iload_n 1, 1) := by decide +kernel
theorem dX1_make_54 : decode cX1_make 54 = .ok (.iand, 1) := by decide +kernel
theorem dX1_make_55 : decode cX1_make 55 = .ok (.iload_n 3, 1) := by decide +kernel
theorem dX1_make_56 : decode cX1_make 56 = .ok (.if_icmp .ne 18, 3) := by decide +kernel
theorem dX1_make_59 : decode cX1_make 59 = .ok (.iload_n 3, 1) := by decide +kernel
theorem dX1_make_60 : decode cX1_make 60 = .ok (.iload_n 2, 1) := by decide +kernel
theorem dX1_make_61 : decode cX1_make 61 = .ok (.iand, 1) := by decide +kernel
theorem dX1_make_62 : decode cX1_make 62 = .ok (.ifCond .eq 12, 3) := by decide +kernel
theorem dX1_make_65 : decode cX1_make 65 = .ok (.aload_n 0, 1) := by decide +kernel
theorem dX1_make_66 : decode cX1_make 66 = .ok (.iload_n 1, 1) := by decide +kernel
theorem dX1_make_67 : decode cX1_make 67 = .ok (.iload_n 3, 1) := by decide +kernel
theorem dX1_make_68 : decode cX1_make 68 = .ok (.iload_n 1, 1) := by decide +kernel
theorem dX1_make_69 : decode cX1_make 69 = .ok (.iload_n 3, 1) := by decide +kernel
theorem dX1_make_70 : decode cX1_make 70 = .ok (.ixor, 1) := by decide +kernel
theorem dX1_make_71 : decode cX1_make 71 = .ok (.invokevirtual 66, 3) := by decide +kernel
theorem dX1_make_74 : decode cX1_make 74 = .ok (.iinc 3 1, 3) := by decide +kernel
theorem dX1_make_77 : decode cX1_make 77 = .ok (.goto (-30), 3) := by decide +kernel
theorem dX1_make_80 : decode cX1_make 80 = .ok (.return_, 1) := by decide +kernel
set_option maxRecDepth 20000 in
theorem ggX1_join_X3_allow : GoodIn wsX1_join wsX3_allow := goodIn_r _ [13, 14, 29, 30] (by decide +kernel) (by decide +kernel)
set_option maxRecDepth 20000 in
theorem gX1_join_X3_allow : GoodIn wsX1_join (wsV RX1 70 RX3 yX3_allow wsX3_allow) := goodIn_app (goodIn_of _ (by decide +kernel)) ggX1_join_X3_allow
set_option maxRecDepth 20000 in
theorem ggX1_join_X1_add : GoodIn wsX1_join wsX1_add := goodIn_r _ [19, 4, 2, 3, 20, 21, 22, 23, 24, 25, 26, 27, 28] (by decide +kernel) (by decide +kernel)
set_option maxRecDepth 20000 in
theorem gX1_join_X1_add : GoodIn wsX1_join (wsV RX1 62 RX1 yX1_add wsX1_add) := goodIn_app (goodIn_of _ (by decide +kernel)) ggX1_join_X1_add
theorem dX1_join_0 : decode cX1_join 0 = .ok (.aload_n 0, 1) := by decide +kernel
theorem dX1_join_1 : decode cX1_join 1 = .ok (.getfield 18, 3) := by decide +kernel
theorem dX1_join_4 : decode cX1_join 4 = .ok (.iconst 0, 1) := by decide +kernel
theorem dX1_join_5 : decode cX1_join 5 = .ok (.invokevirtual 70, 3) := by decide +kernel
theorem dX1_join_8 : decode cX1_join 8 = .ok (.istore 4, 2) := by decide +kernel
theorem dX1_join_10 : decode cX1_join 10 = .ok (.aload_n 0, 1) := by decide +kernel
theorem dX1_join_11 : decode cX1_join 11 = .ok (.getfield 18, 3) := by decide +kernel
theorem dX1_join_14 : decode cX1_join 14 = .ok (.iconst 1, 1) := by decide +kernel
theorem dX1_join_15 : decode cX1_join 15 = .ok (.invokevirtual 70, 3) := by decide +kernel
theorem dX1_join_18 : decode cX1_join 18 = .ok (.istore 5, 2) := by decide +kernel
theorem dX1_join_20 : decode cX1_join 20 = .ok (.aload_n 0, 1) := by decide +kernel
theorem dX1_join_21 : decode cX1_join 21 = .ok (.getfield 18, 3) := by decide +kernel
theorem dX1_join_24 : decode cX1_join 24 = .ok (.iconst 2, 1) := by decide +kernel
theorem dX1_join_25 : decode cX1_join 25 = .ok (.invokevirtual 70, 3) := by decide +kernel
theorem dX1_join_28 : decode cX1_join 28 = .ok (.istore 6, 2) := by decide +kernel
theorem dX1_join_30 : decode cX1_join 30 = .ok (.aload_n 0, 1) := by decide +kernel
theorem dX1_join_31 : decode cX1_join 31 = .ok (.getfield 18, 3) := by decide +kernel
theorem dX1_join_34 : decode cX1_join 34 = .ok (.iconst 3, 1) := by decide +kernel
theorem dX1_join_35 : decode cX1_join 35 = .ok (.invokevirtual 70, 3) := by decide +kernel
theorem dX1_join_38 : decode cX1_join 38 = .ok (.istore 7, 2) := by decide +kernel
theorem dX1_join_40 : decode cX1_join 40 = .ok (.iconst 0, 1) := by decide +kernel
theorem dX1_join_41 : decode cX1_join 41 = .ok (.istore 8, 2) := by decide +kernel
theorem dX1_join_43 : decode cX1_join 43 = .ok (.iload 8, 2) := by decide +kernel
theorem dX1_join_45 : decode cX1_join 45 = .ok (.aload_n 0, 1) := by decide +kernel
theorem dX1_join_46 : decode cX1_join 46 = .ok (.getfield 36, 3) := by decide +kernel
theorem dX1_join_49 : decode cX1_join 49 = .ok (.iload_n 2, 1) := by decide +kernel
theorem dX1_join_50 : decode cX1_join 50 = .ok (.iaload, 1) := by decide +kernel
theorem dX1_join_51 : decode cX1_join 51 = .ok (.if_icmp .ge 221, 3) := by decide +kernel
theorem dX1_join_54 : decode cX1_join 54 = .ok (.aload_n 0, 1) := by decide +kernel
theorem dX1_join_55 : decode cX1_join 55 = .ok (.getfield 33, 3) := by decide +kernel
theorem dX1_join_58 : decode cX1_join 58 = .ok (.iload_n 2, 1) := by decide +kernel
theorem dX1_join_59 : decode cX1_join 59 = .ok (.aaload, 1) := by decide +kernel
theorem dX1_join_60 : decode cX1_join 60 = .ok (.iload 8, 2) := by decide +kernel
theorem dX1_join_62 : decode cX1_join 62 = .ok (.iaload, 1) := by decide +kernel
theorem dX1_join_63 : decode cX1_join 63 = .ok (.istore 9, 2) := by decide +kernel
theorem dX1_join_65 : decode cX1_join 65 = .ok (.iconst 0, 1) := by decide +kernel
theorem dX1_join_66 : decode cX1_join 66 = .ok (.istore 10, 2) := by decide +kernel
theorem dX1_join_68 : decode cX1_join 68 = .ok (.iload 10, 2) := by decide +kernel
theorem dX1_join_70 : decode cX1_join 70 = .ok (.aload_n 0, 1) := by decide +kernel
theorem dX1_join_71 : decode cX1_join 71 = .ok (.getfield 36, 3) := by decide +kernel
theorem dX1_join_74 : decode cX1_join 74 = .ok (.iload_n 3, 1) := by decide +kernel
theorem dX1_join_75 : decode cX1_join 75 = .ok (.iaload, 1) := by decide +kernel
theorem dX1_join_76 : decode cX1_join 76 = .ok (.if_icmp .ge 190, 3) := by decide +kernel
theorem dX1_join_79 : decode cX1_join 79 = .ok (.aload_n 0, 1) := by decide +kernel
theorem dX1_join_80 : decode cX1_join 80 = .ok (.getfield 33, 3) := by decide +kernel
theorem dX1_join_83 : decode cX1_join 83 = .ok (.iload_n 3, 1) := by decide +kernel
theorem dX1_join_84 : decode cX1_join 84 = .ok (.aaload, 1) := by decide +kernel
theorem dX1_join_85 : decode cX1_join 85 = .ok (.iload 10, 2) := by decide +kernel
theorem dX1_join_87 : decode cX1_join 87 = .ok (.iaload, 1) := by decide +kernel
theorem dX1_join_88 : decode cX1_join 88 = .ok (.istore 11, 2) := by decide +kernel
theorem dX1_join_90 : decode cX1_join 90 = .ok (.aload_n 0, 1) := by decide +kernel
theorem dX1_join_91 : decode cX1_join 91 = .ok (.getfield 28, 3) := by decide +kernel
theorem dX1_join_94 : decode cX1_join 94 = .ok (.iload_n 2, 1) := by decide +kernel
theorem dX1_join_95 : decode cX1_join 95 = .ok (.aaload, 1) := by decide +kernel
theorem dX1_join_96 : decode cX1_join 96 = .ok (.iload 9, 2) := by decide +kernel
theorem dX1_join_98 : decode cX1_join 98 = .ok (.laload, 1) := by decide +kernel
theorem dX1_join_99 : decode cX1_join 99 = .ok (.aload_n 0, 1) := by decide +kernel
theorem dX1_join_100 : decode cX1_join 100 = .ok (.getfield 28, 3) := by decide +kernel
theorem dX1_join_103 : decode cX1_join 103 = .ok (.iload_n 3, 1) := by decide +kernel
theorem dX1_join_104 : decode cX1_join 104 = .ok (.aaload, 1) := by decide +kernel
theorem dX1_join_105 : decode cX1_join 105 = .ok (.iload 11, 2) := by decide +kernel
theorem dX1_join_107 : decode cX1_join 107 = .ok (.laload, 1) := by decide +kernel
theorem dX1_join_108 : decode cX1_join 108 = .ok (.lmul, 1) := by decide +kernel
theorem dX1_join_109 : decode cX1_join 109 = .ok (.lstore 12, 2) := by decide +kernel
theorem dX1_join_111 : decode cX1_join 111 = .ok (.iload 4, 2) := by decide +kernel
theorem dX1_join_113 : decode cX1_join 113 = .ok (.ifCond .eq 22, 3) := by decide +kernel
theorem dX1_join_116 : decode cX1_join 116 = .ok (.aload_n 0, 1) := by decide +kernel
theorem dX1_join_117 : decode cX1_join 117 = .ok (.iload_n 1, 1) := by decide +kernel
theorem dX1_join_118 : decode cX1_join 118 = .ok (.iload 9, 2) := by decide +kernel
theorem dX1_join_120 : decode cX1_join 120 = .ok (.iload 11, 2) := by decide +kernel
theorem dX1_join_122 : decode cX1_join 122 = .ok (.iadd, 1) := by decide +kernel
theorem dX1_join_123 : decode cX1_join 123 = .ok (.lload 12, 2) := by decide +kernel
theorem dX1_join_125 : decode cX1_join 125 = .ok (.aload_n 0, 1) := by decide +kernel
theorem dX1_join_126 : decode cX1_join 126 = .ok (.getfield 18, 3) := by decide +kernel
theorem dX1_join_129 : decode cX1_join 129 = .ok (.getfield 75, 3) := by decide +kernel
theorem dX1_join_132 : decode cX1_join 132 = .ok (.invokevirtual 62, 3) := by decide +kernel
theorem dX1_join_135 : decode cX1_join 135 = .ok (.iload 5, 2) := by decide +kernel
theorem dX1_join_137 : decode cX1_join 137 = .ok (.ifCond .eq 25, 3) := by decide +kernel
theorem dX1_join_140 : decode cX1_join 140 = .ok (.aload_n 0, 1) := by decide +kernel
theorem dX1_join_141 : decode cX1_join 141 = .ok (.iload_n 1, 1) := by decide +kernel
theorem dX1_join_142 : decode cX1_join 142 = .ok (.iload 9, 2) := by decide +kernel
theorem dX1_join_144 : decode cX1_join 144 = .ok (.iload 11, 2) := by decide +kernel
theorem dX1_join_146 : decode cX1_join 146 = .ok (.isub, 1) := by decide +kernel
theorem dX1_join_147 : decode cX1_join 147 = .ok (.invokestatic 78, 3) := by decide +kernel
theorem dX1_join_150 : decode cX1_join 150 = .ok (.lload 12, 2) := by decide +kernel
theorem dX1_join_152 : decode cX1_join 152 = .ok (.aload_n 0, 1) := by decide +kernel
theorem dX1_join_153 : decode cX1_join 153 = .ok (.getfield 18, 3) := by decide +kernel
theorem dX1_join_156 : decode cX1_join 156 = .ok (.getfield 75, 3) := by decide +kernel
theorem dX1_join_159 : decode cX1_join 159 = .ok (.invokevirtual 62, 3) := by decide +kernel
theorem dX1_join_162 : decode cX1_join 162 = .ok (.iload 6, 2) := by decide +kernel
theorem dX1_join_164 : decode cX1_join 164 = .ok (.ifCond .eq 22, 3) := by decide +kernel
theorem dX1_join_167 : decode cX1_join 167 = .ok (.aload_n 0, 1) := by decide +kernel
theorem dX1_join_168 : decode cX1_join 168 = .ok (.iload_n 1, 1) := by decide +kernel
theorem dX1_join_169 : decode cX1_join 169 = .ok (.iload 9, 2) := by decide +kernel
theorem dX1_join_171 : decode cX1_join 171 = .ok (.iload 11, 2) := by decide +kernel
theorem dX1_join_173 : decode cX1_join 173 = .ok (.imul, 1) := by decide +kernel
theorem dX1_join_174 : decode cX1_join 174 = .ok (.lload 12, 2) := by decide +kernel
theorem dX1_join_176 : decode cX1_join 176 = .ok (.aload_n 0, 1) := by decide +kernel
theorem dX1_join_177 : decode cX1_join 177 = .ok (.getfield 18, 3) := by decide +kernel
theorem dX1_join_180 : decode cX1_join 180 = .ok (.getfield 75, 3) := by decide +kernel
theorem dX1_join_183 : decode cX1_join 183 = .ok (.invokevirtual 62, 3) := by decide +kernel
theorem dX1_join_186 : decode cX1_join 186 = .ok (.iload 7, 2) := by decide +kernel
theorem dX1_join_188 : decode cX1_join 188 = .ok (.ifCond .eq 35, 3) := by decide +kernel
theorem dX1_join_191 : decode cX1_join 191 = .ok (.iload 11, 2) := by decide +kernel
theorem dX1_join_193 : decode cX1_join 193 = .ok (.ifCond .le 30, 3) := by decide +kernel
theorem dX1_join_196 : decode cX1_join 196 = .ok (.iload 9, 2) := by decide +kernel
theorem dX1_join_198 : decode cX1_join 198 = .ok (.iload 11, 2) := by decide +kernel
theorem dX1_join_200 : decode cX1_join 200 = .ok (.irem, 1) := by decide +kernel
theorem dX1_join_201 : decode cX1_join 201 = .ok (.ifCond .ne 22, 3) := by decide +kernel
theorem dX1_join_204 : decode cX1_join 204 = .ok (.aload_n 0, 1) := by decide +kernel
theorem dX1_join_205 : decode cX1_join 205 = .ok (.iload_n 1, 1) := by decide +kernel
theorem dX1_join_206 : decode cX1_join 206 = .ok (.iload 9, 2) := by decide +kernel
theorem dX1_join_208 : decode cX1_join 208 = .ok (.iload 11, 2) := by decide +kernel
theorem dX1_join_210 : decode cX1_join 210 = .ok (.idiv, 1) := by decide +kernel
theorem dX1_join_211 : decode cX1_join 211 = .ok (.lload 12, 2) := by decide +kernel
theorem dX1_join_213 : decode cX1_join 213 = .ok (.aload_n 0, 1) := by decide +kernel
theorem dX1_join_214 : decode cX1_join 214 = .ok (.getfield 18, 3) := by decide +kernel
theorem dX1_join_217 : decode cX1_join 217 = .ok (.getfield 75, 3) := by decide +kernel
theorem dX1_join_220 : decode cX1_join 220 = .ok (.invokevirtual 62, 3) := by decide +kernel
theorem dX1_join_223 : decode cX1_join 223 = .ok (.iload 7, 2) := by decide +kernel
theorem dX1_join_225 : decode cX1_join 225 = .ok (.ifCond .eq 35, 3) := by decide +kernel
theorem dX1_join_228 : decode cX1_join 228 = .ok (.iload 9, 2) := by decide +kernel
theorem dX1_join_230 : decode cX1_join 230 = .ok (.ifCond .le 30, 3) := by decide +kernel
theorem dX1_join_233 : decode cX1_join 233 = .ok (.iload 11, 2) := by decide +kernel
theorem dX1_join_235 : decode cX1_join 235 = .ok (.iload 9, 2) := by decide +kernel
theorem dX1_join_237 : decode cX1_join 237 = .ok (.irem, 1) := by decide +kernel
theorem dX1_join_238 : decode cX1_join 238 = .ok (.ifCond .ne 22, 3) := by decide +kernel
theorem dX1_join_241 : decode cX1_join 241 = .ok (.aload_n 0, 1) := by decide +kernel
theorem dX1_join_242 : decode cX1_join 242 = .ok (.iload_n 1, 1) := by decide +kernel
theorem dX1_join_243 : decode cX1_join 243 = .ok (.iload 11, 2) := by decide +kernel
theorem dX1_join_245 : decode cX1_join 245 = .ok (.iload 9, 2) := by decide +kernel
theorem dX1_join_247 : decode cX1_join 247 = .ok (.idiv, 1) := by decide +kernel
theorem dX1_join_248 : decode cX1_join 248 = .ok (.lload 12, 2) := by decide +kernel
theorem dX1_join_250 : decode cX1_join 250 = .ok (.aload_n 0, 1) := by decide +kernel
theorem dX1_join_251 : decode cX1_join 251 = .ok (.getfield 18, 3) := by decide +kernel
theorem dX1_join_254 : decode cX1_join 254 = .ok (.getfield 75, 3) := by decide +kernel
theorem dX1_join_257 : decode cX1_join 257 = .ok (.invokevirtual 62, 3) := by decide +kernel
theorem dX1_join_260 : decode cX1_join 260 = .ok (.iinc 10 1, 3) := by decide +kernel
theorem dX1_join_263 : decode cX1_join 263 = .ok (.goto (-195), 3) := by decide +kernel
theorem dX1_join_266 : decode cX1_join 266 = .ok (.iinc 8 1, 3) := by decide +kernel
theorem dX1_join_269 : decode cX1_join 269 = .ok (.goto (-226), 3) := by decide +kernel
theorem dX1_join_272 : decode cX1_join 272 = .ok (.return_, 1) := by decide +kernel
theorem dX1_add_0 : decode cX1_add 0 = .ok (.iload_n 2, 1) := by decide +kernel
theorem dX1_add_1 : decode cX1_add 1 = .ok (.iconst 1, 1) := by decide +kernel
theorem dX1_add_2 : decode cX1_add 2 = .ok (.if_icmp .lt 16, 3) := by decide +kernel
theorem dX1_add_5 : decode cX1_add 5 = .ok (.iload_n 2, 1) := by decide +kernel
theorem dX1_add_6 : decode cX1_add 6 = .ok (.iload 5, 2) := by decide +kernel
theorem dX1_add_8 : decode cX1_add 8 = .ok (.if_icmp .gt 10, 3) := by decide +kernel
theorem dX1_add_11 : decode cX1_add 11 = .ok (.iload_n 2, 1) := by decide +kernel
theorem dX1_add_12 : decode cX1_add 12 = .ok (.sipush 3000, 3) := by decide +kernel
theorem dX1_add_15 : decode cX1_add 15 = .ok (.if_icmp .le 4, 3) := by decide +kernel
theorem dX1_add_18 : decode cX1_add 18 = .ok (.return_, 1) := by decide +kernel
theorem dX1_add_19 : decode cX1_add 19 = .ok (.aload_n 0, 1) := by decide +kernel
theorem dX1_add_20 : decode cX1_add 20 = .ok (.getfield 28, 3) := by decide +kernel
theorem dX1_add_23 : decode cX1_add 23 = .ok (.iload_n 1, 1) := by decide +kernel
theorem dX1_add_24 : decode cX1_add 24 = .ok (.aaload, 1) := by decide +kernel
theorem dX1_add_25 : decode cX1_add 25 = .ok (.iload_n 2, 1) := by decide +kernel
theorem dX1_add_26 : decode cX1_add 26 = .ok (.laload, 1) := by decide +kernel
theorem dX1_add_27 : decode cX1_add 27 = .ok (.lconst 0, 1) := by decide +kernel
theorem dX1_add_28 : decode cX1_add 28 = .ok (.lcmp, 1) := by decide +kernel
theorem dX1_add_29 : decode cX1_add 29 = .ok (.ifCond .ne 49, 3) := by decide +kernel
theorem dX1_add_32 : decode cX1_add 32 = .ok (.aload_n 0, 1) := by decide +kernel
theorem dX1_add_33 : decode cX1_add 33 = .ok (.getfield 36, 3) := by decide +kernel
theorem dX1_add_36 : decode cX1_add 36 = .ok (.iload_n 1, 1) := by decide +kernel
theorem dX1_add_37 : decode cX1_add 37 = .ok (.iaload, 1) := by decide +kernel
theorem dX1_add_38 : decode cX1_add 38 = .ok (.sipush 3000, 3) := by decide +kernel
theorem dX1_add_41 : decode cX1_add 41 = .ok (.if_icmp .ge 37, 3) := by decide +kernel
theorem dX1_add_44 : decode cX1_add 44 = .ok (.aload_n 0, 1) := by decide +kernel
theorem dX1_add_45 : decode cX1_add 45 = .ok (.getfield 33, 3) := by decide +kernel
theorem dX1_add_48 : decode cX1_add 48 = .ok (.iload_n 1, 1) := by decide +kernel
theorem dX1_add_49 : decode cX1_add 49 = .ok (.aaload, 1) := by decide +kernel
theorem dX1_add_50 : decode cX1_add 50 = .ok (.aload_n 0, 1) := by decide +kernel
theorem dX1_add_51 : decode cX1_add 51 = .ok (.getfield 36, 3) := by decide +kernel
theorem dX1_add_54 : decode cX1_add 54 = .ok (.iload_n 1, 1) := by decide +kernel
theorem dX1_add_55 : decode cX1_add 55 = .ok (.iaload, 1) := by decide +kernel
theorem dX1_add_56 : decode cX1_add 56 = .ok (.iload_n 2, 1) := by decide +kernel
theorem dX1_add_57 : decode cX1_add 57 = .ok (.iastore, 1) := by decide +kernel
theorem dX1_add_58 : decode cX1_add 58 = .ok (.aload_n 0, 1) := by decide +kernel
theorem dX1_add_59 : decode cX1_add 59 = .ok (.getfield 36, 3) := by decide +kernel
theorem dX1_add_62 : decode cX1_add 62 = .ok (.iload_n 1, 1) := by decide +kernel
theorem dX1_add_63 : decode cX1_add 63 = .ok (.dup2, 1) := by decide +kernel
theorem dX1_add_64 : decode cX1_add 64 = .ok (.iaload, 1) := by decide +kernel
theorem dX1_add_65 : decode cX1_add 65 = .ok (.iconst 1, 1) := by decide +kernel
theorem dX1_add_66 : decode cX1_add 66 = .ok (.iadd, 1) := by decide +kernel
theorem dX1_add_67 : decode cX1_add 67 = .ok (.iastore, 1) := by decide +kernel
theorem dX1_add_68 : decode cX1_add 68 = .ok (.aload_n 0, 1) := by decide +kernel
theorem dX1_add_69 : decode cX1_add 69 = .ok (.getfield 39, 3) := by decide +kernel
theorem dX1_add_72 : decode cX1_add 72 = .ok (.iload_n 2, 1) := by decide +kernel
theorem dX1_add_73 : decode cX1_add 73 = .ok (.dup2, 1) := by decide +kernel
theorem dX1_add_74 : decode cX1_add 74 = .ok (.iaload, 1) := by decide +kernel
theorem dX1_add_75 : decode cX1_add 75 = .ok (.iconst 1, 1) := by decide +kernel
theorem dX1_add_76 : decode cX1_add 76 = .ok (.iadd, 1) := by decide +kernel
theorem dX1_add_77 : decode cX1_add 77 = .ok (.iastore, 1) := by decide +kernel
theorem dX1_add_78 : decode cX1_add 78 = .ok (.aload_n 0, 1) := by decide +kernel
theorem dX1_add_79 : decode cX1_add 79 = .ok (.getfield 28, 3) := by decide +kernel
theorem dX1_add_82 : decode cX1_add 82 = .ok (.iload_n 1, 1) := by decide +kernel
theorem dX1_add_83 : decode cX1_add 83 = .ok (.aaload, 1) := by decide +kernel
theorem dX1_add_84 : decode cX1_add 84 = .ok (.iload_n 2, 1) := by decide +kernel
theorem dX1_add_85 : decode cX1_add 85 = .ok (.dup2, 1) := by decide +kernel
theorem dX1_add_86 : decode cX1_add 86 = .ok (.laload, 1) := by decide +kernel
theorem dX1_add_87 : decode cX1_add 87 = .ok (.lload_n 3, 1) := by decide +kernel
theorem dX1_add_88 : decode cX1_add 88 = .ok (.ladd, 1) := by decide +kernel
theorem dX1_add_89 : decode cX1_add 89 = .ok (.lastore, 1) := by decide +kernel
theorem dX1_add_90 : decode cX1_add 90 = .ok (.return_, 1) := by decide +kernel
theorem dX1_reaches_0 : decode cX1_reaches 0 = .ok (.iload_n 1, 1) := by decide +kernel
theorem dX1_reaches_1 : decode cX1_reaches 1 = .ok (.iconst 1, 1) := by decide +kernel
theorem dX1_reaches_2 : decode cX1_reaches 2 = .ok (.if_icmp .lt 23, 3) := by decide +kernel
theorem dX1_reaches_5 : decode cX1_reaches 5 = .ok (.iload_n 1, 1) := by decide +kernel
theorem dX1_reaches_6 : decode cX1_reaches 6 = .ok (.sipush 3000, 3) := by decide +kernel
theorem dX1_reaches_9 : decode cX1_reaches 9 = .ok (.if_icmp .gt 16, 3) := by decide +kernel
theorem dX1_reaches_12 : decode cX1_reaches 12 = .ok (.aload_n 0, 1) := by decide +kernel
theorem dX1_reaches_13 : decode cX1_reaches 13 = .ok (.getfield 39, 3) := by decide +kernel
theorem dX1_reaches_16 : decode cX1_reaches 16 = .ok (.iload_n 1, 1) := by decide +kernel
theorem dX1_reaches_17 : decode cX1_reaches 17 = .ok (.iaload, 1) := by decide +kernel
theorem dX1_reaches_18 : decode cX1_reaches 18 = .ok (.ifCond .le 7, 3) := by decide +kernel
theorem dX1_reaches_21 : decode cX1_reaches 21 = .ok (.iconst 1, 1) := by decide +kernel
theorem dX1_reaches_22 : decode cX1_reaches 22 = .ok (.goto 4, 3) := by decide +kernel
theorem dX1_reaches_25 : decode cX1_reaches 25 = .ok (.iconst 0, 1) := by decide +kernel
theorem dX1_reaches_26 : decode cX1_reaches 26 = .ok (.ireturn, 1) := by decide +kernel
theorem dX1_countOf_0 : decode cX1_countOf 0 = .ok (.iload_n 1, 1) := by decide +kernel
theorem dX1_countOf_1 : decode cX1_countOf 1 = .ok (.iconst 1, 1) := by decide +kernel
theorem dX1_countOf_2 : decode cX1_countOf 2 = .ok (.if_icmp .lt 24, 3) := by decide +kernel
theorem dX1_countOf_5 : decode cX1_countOf 5 = .ok (.iload_n 1, 1) := by decide +kernel
theorem dX1_countOf_6 : decode cX1_countOf 6 = .ok (.aload_n 0, 1) := by decide +kernel
theorem dX1_countOf_7 : decode cX1_countOf 7 = .ok (.getfield 28, 3) := by decide +kernel
theorem dX1_countOf_10 : decode cX1_countOf 10 = .ok (.arraylength, 1) := by decide +kernel
theorem dX1_countOf_11 : decode cX1_countOf 11 = .ok (.if_icmp .ge 15, 3) := by decide +kernel
theorem dX1_countOf_14 : decode cX1_countOf 14 = .ok (.iload_n 2, 1) := by decide +kernel
theorem dX1_countOf_15 : decode cX1_countOf 15 = .ok (.iconst 1, 1) := by decide +kernel
theorem dX1_countOf_16 : decode cX1_countOf 16 = .ok (.if_icmp .lt 10, 3) := by decide +kernel
theorem dX1_countOf_19 : decode cX1_countOf 19 = .ok (.iload_n 2, 1) := by decide +kernel
theorem dX1_countOf_20 : decode cX1_countOf 20 = .ok (.sipush 3000, 3) := by decide +kernel
theorem dX1_countOf_23 : decode cX1_countOf 23 = .ok (.if_icmp .le 5, 3) := by decide +kernel
theorem dX1_countOf_26 : decode cX1_countOf 26 = .ok (.lconst 0, 1) := by decide +kernel
theorem dX1_countOf_27 : decode cX1_countOf 27 = .ok (.lreturn, 1) := by decide +kernel
theorem dX1_countOf_28 : decode cX1_countOf 28 = .ok (.aload_n 0, 1) := by decide +kernel
theorem dX1_countOf_29 : decode cX1_countOf 29 = .ok (.getfield 28, 3) := by decide +kernel
theorem dX1_countOf_32 : decode cX1_countOf 32 = .ok (.iload_n 1, 1) := by decide +kernel
theorem dX1_countOf_33 : decode cX1_countOf 33 = .ok (.aaload, 1) := by decide +kernel
theorem dX1_countOf_34 : decode cX1_countOf 34 = .ok (.iload_n 2, 1) := by decide +kernel
theorem dX1_countOf_35 : decode cX1_countOf 35 = .ok (.laload, 1) := by decide +kernel
theorem dX1_countOf_36 : decode cX1_countOf 36 = .ok (.lreturn, 1) := by decide +kernel
set_option maxRecDepth 20000 in
theorem ggX1_countOfAllSets_X1_countOf : GoodIn wsX1_countOfAllSets wsX1_countOf := goodIn_r _ [6, 1, 7, 8, 9, 10, 11, 12, 13, 14] (by decide +kernel) (by decide +kernel)
set_option maxRecDepth 20000 in
theorem gX1_countOfAllSets_X1_countOf : GoodIn wsX1_countOfAllSets (wsV RX1 82 RX1 yX1_countOf wsX1_countOf) := goodIn_app (goodIn_of _ (by decide +kernel)) ggX1_countOfAllSets_X1_countOf
theorem dX1_countOfAllSets_0 : decode cX1_countOfAllSets 0 = .ok (.lconst 0, 1) := by decide +kernel
theorem dX1_countOfAllSets_1 : decode cX1_countOfAllSets 1 = .ok (.lstore_n 2, 1) := by decide +kernel
theorem dX1_countOfAllSets_2 : decode cX1_countOfAllSets 2 = .ok (.iconst 1, 1) := by decide +kernel
theorem dX1_countOfAllSets_3 : decode cX1_countOfAllSets 3 = .ok (.istore 4, 2) := by decide +kernel
theorem dX1_countOfAllSets_5 : decode cX1_countOfAllSets 5 = .ok (.iload 4, 2) := by decide +kernel
theorem dX1_countOfAllSets_7 : decode cX1_countOfAllSets 7 = .ok (.aload_n 0, 1) := by decide +kernel
theorem dX1_countOfAllSets_8 : decode cX1_countOfAllSets 8 = .ok (.getfield 28, 3) := by decide +kernel
theorem dX1_countOfAllSets_11 : decode cX1_countOfAllSets 11 = .ok (.arraylength, 1) := by decide +kernel
theorem dX1_countOfAllSets_12 : decode cX1_countOfAllSets 12 = .ok (.if_icmp .ge 19, 3) := by decide +kernel
theorem dX1_countOfAllSets_15 : decode cX1_countOfAllSets 15 = .ok (.lload_n 2, 1) := by decide +kernel
theorem dX1_countOfAllSets_16 : decode cX1_countOfAllSets 16 = .ok (.aload_n 0, 1) := by decide +kernel
theorem dX1_countOfAllSets_17 : decode cX1_countOfAllSets 17 = .ok (.iload 4, 2) := by decide +kernel
theorem dX1_countOfAllSets_19 : decode cX1_countOfAllSets 19 = .ok (.iload_n 1, 1) := by decide +kernel
theorem dX1_countOfAllSets_20 : decode cX1_countOfAllSets 20 = .ok (.invokevirtual 82, 3) := by decide +kernel
theorem dX1_countOfAllSets_23 : decode cX1_countOfAllSets 23 = .ok (.ladd, 1) := by decide +kernel
theorem dX1_countOfAllSets_24 : decode cX1_countOfAllSets 24 = .ok (.lstore_n 2, 1) := by decide +kernel
theorem dX1_countOfAllSets_25 : decode cX1_countOfAllSets 25 = .ok (.iinc 4 1, 3) := by decide +kernel
theorem dX1_countOfAllSets_28 : decode cX1_countOfAllSets 28 = .ok (.goto (-23), 3) := by decide +kernel
theorem dX1_countOfAllSets_31 : decode cX1_countOfAllSets 31 = .ok (.lload_n 2, 1) := by decide +kernel
theorem dX1_countOfAllSets_32 : decode cX1_countOfAllSets 32 = .ok (.lreturn, 1) := by decide +kernel
set_option maxRecDepth 20000 in
theorem ggX1_has_X1_reaches : GoodIn wsX1_has wsX1_reaches := goodIn_r _ [5, 6, 12, 13, 14, 15, 16, 17, 18, 19] (by decide +kernel) (by decide +kernel)
set_option maxRecDepth 20000 in
theorem gX1_has_X1_reaches : GoodIn wsX1_has (wsV RX1 86 RX1 yX1_reaches wsX1_reaches) := goodIn_app (goodIn_of _ (by decide +kernel)) ggX1_has_X1_reaches
set_option maxRecDepth 20000 in
theorem ggX1_has_X1_countOf : GoodIn wsX1_has wsX1_countOf := goodIn_r _ [10, 11, 12, 13, 14, 15, 16, 17, 18, 19] (by decide +kernel) (by decide +kernel)
set_option maxRecDepth 20000 in
theorem gX1_has_X1_countOf : GoodIn wsX1_has (wsV RX1 82 RX1 yX1_countOf wsX1_countOf) := goodIn_app (goodIn_of _ (by decide +kernel)) ggX1_has_X1_countOf
theorem dX1_has_0 : decode cX1_has 0 = .ok (.iload_n 1, 1) := by decide +kernel
theorem dX1_has_1 : decode cX1_has 1 = .ok (.ifCond .ne 11, 3) := by decide +kernel
theorem dX1_has_4 : decode cX1_has 4 = .ok (.aload_n 0, 1) := by decide +kernel
theorem dX1_has_5 : decode cX1_has 5 = .ok (.iload_n 2, 1) := by decide +kernel
theorem dX1_has_6 : decode cX1_has 6 = .ok (.invokevirtual 86, 3) := by decide +kernel
theorem dX1_has_9 : decode cX1_has 9 = .ok (.goto 19, 3) := by decide +kernel
theorem dX1_has_12 : decode cX1_has 12 = .ok (.aload_n 0, 1) := by decide +kernel
theorem dX1_has_13 : decode cX1_has 13 = .ok (.iload_n 1, 1) := by decide +kernel
theorem dX1_has_14 : decode cX1_has 14 = .ok (.iload_n 2, 1) := by decide +kernel
theorem dX1_has_15 : decode cX1_has 15 = .ok (.invokevirtual 82, 3) := by decide +kernel
theorem dX1_has_18 : decode cX1_has 18 = .ok (.lconst 0, 1) := by decide +kernel
theorem dX1_has_19 : decode cX1_has 19 = .ok (.lcmp, 1) := by decide +kernel
theorem dX1_has_20 : decode cX1_has 20 = .ok (.ifCond .le 7, 3) := by decide +kernel
theorem dX1_has_23 : decode cX1_has 23 = .ok (.iconst 1, 1) := by decide +kernel
theorem dX1_has_24 : decode cX1_has 24 = .ok (.goto 4, 3) := by decide +kernel
theorem dX1_has_27 : decode cX1_has 27 = .ok (.iconst 0, 1) := by decide +kernel
theorem dX1_has_28 : decode cX1_has 28 = .ok (.ireturn, 1) := by decide +kernel
set_option maxRecDepth 20000 in
theorem ggX1_numbersOf_X1_has : GoodIn wsX1_numbersOf wsX1_has := goodIn_r _ [5, 6, 7, 8, 4, 9, 10, 11, 12, 13, 14, 15, 16, 17, 18, 19, 20, 21, 22, 23] (by decide +kernel) (by decide +kernel)
set_option maxRecDepth 20000 in
theorem gX1_numbersOf_X1_has : GoodIn wsX1_numbersOf (wsV RX1 89 RX1 yX1_has wsX1_has) := goodIn_app (goodIn_of _ (by decide +kernel)) ggX1_numbersOf_X1_has
theorem dX1_numbersOf_0 : decode cX1_numbersOf 0 = .ok (.iconst 0, 1) := by decide +kernel
theorem dX1_numbersOf_1 : decode cX1_numbersOf 1 = .ok (.istore_n 2, 1) := by decide +kernel
theorem dX1_numbersOf_2 : decode cX1_numbersOf 2 = .ok (.iconst 1, 1) := by decide +kernel
theorem dX1_numbersOf_3 : decode cX1_numbersOf 3 = .ok (.istore_n 3, 1) := by decide +kernel
theorem dX1_numbersOf_4 : decode cX1_numbersOf 4 = .ok (.iload_n 3, 1) := by decide +kernel
theorem dX1_numbersOf_5 : decode cX1_numbersOf 5 = .ok (.sipush 3000, 3) := by decide +kernel
theorem dX1_numbersOf_8 : decode cX1_numbersOf 8 = .ok (.if_icmp .gt 21, 3) := by decide +kernel
theorem dX1_numbersOf_11 : decode cX1_numbersOf 11 = .ok (.aload_n 0, 1) := by decide +kernel
theorem dX1_numbersOf_12 : decode cX1_numbersOf 12 = .ok (.iload_n 1, 1) := by decide +kernel
theorem dX1_numbersOf_13 : decode cX1_numbersOf 13 = .ok (.iload_n 3, 1) := by decide +kernel
theorem dX1_numbersOf_14 : decode cX1_numbersOf 14 = .ok (.invokevirtual 89, 3) := by decide +kernel
theorem dX1_numbersOf_17 : decode cX1_numbersOf 17 = .ok (.ifCond .eq 6, 3) := by decide +kernel
theorem dX1_numbersOf_20 : decode cX1_numbersOf 20 = .ok (.iinc 2 1, 3) := by decide +kernel
theorem dX1_numbersOf_23 : decode cX1_numbersOf 23 = .ok (.iinc 3 1, 3) := by decide +kernel
theorem dX1_numbersOf_26 : decode cX1_numbersOf 26 = .ok (.goto (-22), 3) := by decide +kernel
theorem dX1_numbersOf_29 : decode cX1_numbersOf 29 = .ok (.iload_n 2, 1) := by decide +kernel
theorem dX1_numbersOf_30 : decode cX1_numbersOf 30 = .ok (.ireturn, 1) := by decide +kernel
set_option maxRecDepth 20000 in
theorem ggX1_numberAt_X1_has : GoodIn wsX1_numberAt wsX1_has := goodIn_r _ [5, 6, 7, 8, 4, 9, 10, 11, 12, 13, 14, 15, 16, 17, 18, 19, 20, 21, 22, 23] (by decide +kernel) (by decide +kernel)
set_option maxRecDepth 20000 in
theorem gX1_numberAt_X1_has : GoodIn wsX1_numberAt (wsV RX1 89 RX1 yX1_has wsX1_has) := goodIn_app (goodIn_of _ (by decide +kernel)) ggX1_numberAt_X1_has
theorem dX1_numberAt_0 : decode cX1_numberAt 0 = .ok (.iconst 0, 1) := by decide +kernel
theorem dX1_numberAt_1 : decode cX1_numberAt 1 = .ok (.istore_n 3, 1) := by decide +kernel
theorem dX1_numberAt_2 : decode cX1_numberAt 2 = .ok (.iconst 1, 1) := by decide +kernel
theorem dX1_numberAt_3 : decode cX1_numberAt 3 = .ok (.istore 4, 2) := by decide +kernel
theorem dX1_numberAt_5 : decode cX1_numberAt 5 = .ok (.iload 4, 2) := by decide +kernel
theorem dX1_numberAt_7 : decode cX1_numberAt 7 = .ok (.sipush 3000, 3) := by decide +kernel
theorem dX1_numberAt_10 : decode cX1_numberAt 10 = .ok (.if_icmp .gt 30, 3) := by decide +kernel
theorem dX1_numberAt_13 : decode cX1_numberAt 13 = .ok (.aload_n 0, 1) := by decide +kernel
theorem dX1_numberAt_14 : decode cX1_numberAt 14 = .ok (.iload_n 1, 1) := by decide +kernel
theorem dX1_numberAt_15 : decode cX1_numberAt 15 = .ok (.iload 4, 2) := by decide +kernel
theorem dX1_numberAt_17 : decode cX1_numberAt 17 = .ok (.invokevirtual 89, 3) := by decide +kernel
theorem dX1_numberAt_20 : decode cX1_numberAt 20 = .ok (.ifCond .eq 14, 3) := by decide +kernel
theorem dX1_numberAt_23 : decode cX1_numberAt 23 = .ok (.iload_n 3, 1) := by decide +kernel
theorem dX1_numberAt_24 : decode cX1_numberAt 24 = .ok (.iload_n 2, 1) := by decide +kernel
theorem dX1_numberAt_25 : decode cX1_numberAt 25 = .ok (.if_icmp .ne 6, 3) := by decide +kernel
theorem dX1_numberAt_28 : decode cX1_numberAt 28 = .ok (.iload 4, 2) := by decide +kernel
theorem dX1_numberAt_30 : decode cX1_numberAt 30 = .ok (.ireturn, 1) := by decide +kernel
theorem dX1_numberAt_31 : decode cX1_numberAt 31 = .ok (.iinc 3 1, 3) := by decide +kernel
theorem dX1_numberAt_34 : decode cX1_numberAt 34 = .ok (.iinc 4 1, 3) := by decide +kernel
theorem dX1_numberAt_37 : decode cX1_numberAt 37 = .ok (.goto (-32), 3) := by decide +kernel
theorem dX1_numberAt_40 : decode cX1_numberAt 40 = .ok (.iconst (-1), 1) := by decide +kernel
theorem dX1_numberAt_41 : decode cX1_numberAt 41 = .ok (.ireturn, 1) := by decide +kernel
set_option maxRecDepth 20000 in
theorem ggX1_leastNotReached_X1_reaches : GoodIn wsX1_leastNotReached wsX1_reaches := goodIn_r _ [5, 6, 7, 8, 9, 10, 11, 12, 13, 14] (by decide +kernel) (by decide +kernel)
set_option maxRecDepth 20000 in
theorem gX1_leastNotReached_X1_reaches : GoodIn wsX1_leastNotReached (wsV RX1 86 RX1 yX1_reaches wsX1_reaches) := goodIn_app (goodIn_of _ (by decide +kernel)) ggX1_leastNotReached_X1_reaches
theorem dX1_leastNotReached_0 : decode cX1_leastNotReached 0 = .ok (.iconst 1, 1) := by decide +kernel
theorem dX1_leastNotReached_1 : decode cX1_leastNotReached 1 = .ok (.istore_n 1, 1) := by decide +kernel
theorem dX1_leastNotReached_2 : decode cX1_leastNotReached 2 = .ok (.iload_n 1, 1) := by decide +kernel
theorem dX1_leastNotReached_3 : decode cX1_leastNotReached 3 = .ok (.sipush 3000, 3) := by decide +kernel
theorem dX1_leastNotReached_6 : decode cX1_leastNotReached 6 = .ok (.if_icmp .gt 19, 3) := by decide +kernel
theorem dX1_leastNotReached_9 : decode cX1_leastNotReached 9 = .ok (.aload_n 0, 1) := by decide +kernel
theorem dX1_leastNotReached_10 : decode cX1_leastNotReached 10 = .ok (.iload_n 1, 1) := by decide +kernel
theorem dX1_leastNotReached_11 : decode cX1_leastNotReached 11 = .ok (.invokevirtual 86, 3) := by decide +kernel
theorem dX1_leastNotReached_14 : decode cX1_leastNotReached 14 = .ok (.ifCond .ne 5, 3) := by decide +kernel
theorem dX1_leastNotReached_17 : decode cX1_leastNotReached 17 = .ok (.iload_n 1, 1) := by decide +kernel
theorem dX1_leastNotReached_18 : decode cX1_leastNotReached 18 = .ok (.ireturn, 1) := by decide +kernel
theorem dX1_leastNotReached_19 : decode cX1_leastNotReached 19 = .ok (.iinc 1 1, 3) := by decide +kernel
theorem dX1_leastNotReached_22 : decode cX1_leastNotReached 22 = .ok (.goto (-20), 3) := by decide +kernel
theorem dX1_leastNotReached_25 : decode cX1_leastNotReached 25 = .ok (.sipush 3001, 3) := by decide +kernel
theorem dX1_leastNotReached_28 : decode cX1_leastNotReached 28 = .ok (.ireturn, 1) := by decide +kernel
set_option maxRecDepth 20000 in
theorem ggX1_firstSet_X1_countOf : GoodIn wsX1_firstSet wsX1_countOf := goodIn_r _ [6, 1, 14, 15, 16, 17, 18, 19, 20, 21] (by decide +kernel) (by decide +kernel)
set_option maxRecDepth 20000 in
theorem gX1_firstSet_X1_countOf : GoodIn wsX1_firstSet (wsV RX1 82 RX1 yX1_countOf wsX1_countOf) := goodIn_app (goodIn_of _ (by decide +kernel)) ggX1_firstSet_X1_countOf
set_option maxRecDepth 20000 in
theorem ggX1_firstSet_J6_bitCount_0f7a4 : GoodIn wsX1_firstSet wsJ6_bitCount_0f7a4 := goodIn_r _ [10, 11, 12, 13] (by decide +kernel) (by decide +kernel)
set_option maxRecDepth 20000 in
theorem gX1_firstSet_J6_bitCount_0f7a4 : GoodIn wsX1_firstSet (va_wsS RX1 93 yJ6_bitCount_0f7a4 wsJ6_bitCount_0f7a4) := goodIn_app (goodIn_of _ (by decide +kernel)) ggX1_firstSet_J6_bitCount_0f7a4
theorem dX1_firstSet_0 : decode cX1_firstSet 0 = .ok (.iconst (-1), 1) := by decide +kernel
theorem dX1_firstSet_1 : decode cX1_firstSet 1 = .ok (.istore_n 2, 1) := by decide +kernel
theorem dX1_firstSet_2 : decode cX1_firstSet 2 = .ok (.bipush 7, 2) := by decide +kernel
theorem dX1_firstSet_4 : decode cX1_firstSet 4 = .ok (.istore_n 3, 1) := by decide +kernel
theorem dX1_firstSet_5 : decode cX1_firstSet 5 = .ok (.iconst 1, 1) := by decide +kernel
theorem dX1_firstSet_6 : decode cX1_firstSet 6 = .ok (.istore 4, 2) := by decide +kernel
theorem dX1_firstSet_8 : decode cX1_firstSet 8 = .ok (.iload 4, 2) := by decide +kernel
theorem dX1_firstSet_10 : decode cX1_firstSet 10 = .ok (.aload_n 0, 1) := by decide +kernel
theorem dX1_firstSet_11 : decode cX1_firstSet 11 = .ok (.getfield 28, 3) := by decide +kernel
theorem dX1_firstSet_14 : decode cX1_firstSet 14 = .ok (.arraylength, 1) := by decide +kernel
