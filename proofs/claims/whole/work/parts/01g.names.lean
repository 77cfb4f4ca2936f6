theorem dX10_oddsBy_45 : decode cX10_oddsBy 45 = .ok (.iconst 5, 1) := by decide +kernel
theorem dX10_oddsBy_46 : decode cX10_oddsBy 46 = .ok (.iaload, 1) := by decide +kernel
theorem dX10_oddsBy_47 : decode cX10_oddsBy 47 = .ok (.goto 13, 3) := by decide +kernel
theorem dX10_oddsBy_50 : decode cX10_oddsBy 50 = .ok (.aload_n 0, 1) := by decide +kernel
theorem dX10_oddsBy_51 : decode cX10_oddsBy 51 = .ok (.getfield 28, 3) := by decide +kernel
theorem dX10_oddsBy_54 : decode cX10_oddsBy 54 = .ok (.iconst 3, 1) := by decide +kernel
theorem dX10_oddsBy_55 : decode cX10_oddsBy 55 = .ok (.iload_n 1, 1) := by decide +kernel
theorem dX10_oddsBy_56 : decode cX10_oddsBy 56 = .ok (.imul, 1) := by decide +kernel
theorem dX10_oddsBy_57 : decode cX10_oddsBy 57 = .ok (.iconst 2, 1) := by decide +kernel
theorem dX10_oddsBy_58 : decode cX10_oddsBy 58 = .ok (.iadd, 1) := by decide +kernel
theorem dX10_oddsBy_59 : decode cX10_oddsBy 59 = .ok (.iaload, 1) := by decide +kernel
theorem dX10_oddsBy_60 : decode cX10_oddsBy 60 = .ok (.istore_n 3, 1) := by decide +kernel
theorem dX10_oddsBy_61 : decode cX10_oddsBy 61 = .ok (.aload_n 0, 1) := by decide +kernel
theorem dX10_oddsBy_62 : decode cX10_oddsBy 62 = .ok (.getfield 44, 3) := by decide +kernel
theorem dX10_oddsBy_65 : decode cX10_oddsBy 65 = .ok (.aload_n 0, 1) := by decide +kernel
theorem dX10_oddsBy_66 : decode cX10_oddsBy 66 = .ok (.getfield 28, 3) := by decide +kernel
theorem dX10_oddsBy_69 : decode cX10_oddsBy 69 = .ok (.iconst 3, 1) := by decide +kernel
theorem dX10_oddsBy_70 : decode cX10_oddsBy 70 = .ok (.iload_n 1, 1) := by decide +kernel
theorem dX10_oddsBy_71 : decode cX10_oddsBy 71 = .ok (.imul, 1) := by decide +kernel
theorem dX10_oddsBy_72 : decode cX10_oddsBy 72 = .ok (.iaload, 1) := by decide +kernel
theorem dX10_oddsBy_73 : decode cX10_oddsBy 73 = .ok (.aload_n 0, 1) := by decide +kernel
theorem dX10_oddsBy_74 : decode cX10_oddsBy 74 = .ok (.getfield 28, 3) := by decide +kernel
theorem dX10_oddsBy_77 : decode cX10_oddsBy 77 = .ok (.iconst 3, 1) := by decide +kernel
theorem dX10_oddsBy_78 : decode cX10_oddsBy 78 = .ok (.iload_n 1, 1) := by decide +kernel
theorem dX10_oddsBy_79 : decode cX10_oddsBy 79 = .ok (.imul, 1) := by decide +kernel
theorem dX10_oddsBy_80 : decode cX10_oddsBy 80 = .ok (.iconst 1, 1) := by decide +kernel
theorem dX10_oddsBy_81 : decode cX10_oddsBy 81 = .ok (.iadd, 1) := by decide +kernel
theorem dX10_oddsBy_82 : decode cX10_oddsBy 82 = .ok (.iaload, 1) := by decide +kernel
theorem dX10_oddsBy_83 : decode cX10_oddsBy 83 = .ok (.iload_n 3, 1) := by decide +kernel
theorem dX10_oddsBy_84 : decode cX10_oddsBy 84 = .ok (.invokestatic 184, 3) := by decide +kernel
theorem dX10_oddsBy_87 : decode cX10_oddsBy 87 = .ok (.laload, 1) := by decide +kernel
theorem dX10_oddsBy_88 : decode cX10_oddsBy 88 = .ok (.lreturn, 1) := by decide +kernel
theorem dX10_gcd_0 : decode cX10_gcd 0 = .ok (.lload_n 0, 1) := by decide +kernel
theorem dX10_gcd_1 : decode cX10_gcd 1 = .ok (.lstore 4, 2) := by decide +kernel
theorem dX10_gcd_3 : decode cX10_gcd 3 = .ok (.lload_n 2, 1) := by decide +kernel
theorem dX10_gcd_4 : decode cX10_gcd 4 = .ok (.lstore 6, 2) := by decide +kernel
theorem dX10_gcd_6 : decode cX10_gcd 6 = .ok (.lload 6, 2) := by decide +kernel
theorem dX10_gcd_8 : decode cX10_gcd 8 = .ok (.lconst 0, 1) := by decide +kernel
theorem dX10_gcd_9 : decode cX10_gcd 9 = .ok (.lcmp, 1) := by decide +kernel
theorem dX10_gcd_10 : decode cX10_gcd 10 = .ok (.ifCond .eq 21, 3) := by decide +kernel
theorem dX10_gcd_13 : decode cX10_gcd 13 = .ok (.lload 4, 2) := by decide +kernel
theorem dX10_gcd_15 : decode cX10_gcd 15 = .ok (.lload 6, 2) := by decide +kernel
theorem dX10_gcd_17 : decode cX10_gcd 17 = .ok (.lrem, 1) := by decide +kernel
theorem dX10_gcd_18 : decode cX10_gcd 18 = .ok (.lstore 8, 2) := by decide +kernel
theorem dX10_gcd_20 : decode cX10_gcd 20 = .ok (.lload 6, 2) := by decide +kernel
theorem dX10_gcd_22 : decode cX10_gcd 22 = .ok (.lstore 4, 2) := by decide +kernel
theorem dX10_gcd_24 : decode cX10_gcd 24 = .ok (.lload 8, 2) := by decide +kernel
theorem dX10_gcd_26 : decode cX10_gcd 26 = .ok (.lstore 6, 2) := by decide +kernel
theorem dX10_gcd_28 : decode cX10_gcd 28 = .ok (.goto (-22), 3) := by decide +kernel
theorem dX10_gcd_31 : decode cX10_gcd 31 = .ok (.lload 4, 2) := by decide +kernel
theorem dX10_gcd_33 : decode cX10_gcd 33 = .ok (.lreturn, 1) := by decide +kernel
set_option maxRecDepth 20000 in
theorem ggX10_odds_X10_isRunner : GoodIn wsX10_odds wsX10_isRunner := goodIn_r _ [8, 9, 10, 11, 7, 12, 61, 62, 63, 64, 65, 66, 67, 68, 69, 70, 71, 72, 73, 74, 75, 76, 77, 78, 79, 80, 81, 82, 83, 84, 85, 86, 87, 88, 89, 90, 91] (by decide +kernel) (by decide +kernel)
set_option maxRecDepth 20000 in
theorem gX10_odds_X10_isRunner : GoodIn wsX10_odds (wsV RX10 147 RX10 yX10_isRunner wsX10_isRunner) := goodIn_app (goodIn_of _ (by decide +kernel)) ggX10_odds_X10_isRunner
set_option maxRecDepth 20000 in
theorem ggX10_odds_X10_in : GoodIn wsX10_odds wsX10_in := goodIn_r _ [12] (by decide +kernel) (by decide +kernel)
set_option maxRecDepth 20000 in
theorem gX10_odds_X10_in : GoodIn wsX10_odds (va_wsS RX10 61 yX10_in wsX10_in) := goodIn_app (goodIn_of _ (by decide +kernel)) ggX10_odds_X10_in
set_option maxRecDepth 20000 in
theorem ggX10_odds_X10_oddsBy : GoodIn wsX10_odds wsX10_oddsBy := goodIn_r _ [16, 17, 18, 19, 20, 21, 22, 7, 23, 24, 25, 26, 3, 27, 28, 29, 30, 31, 32, 33, 34, 35, 36, 37, 38, 39, 40, 41, 42, 43, 44, 45, 46, 47, 48, 49, 50, 51, 52, 53, 54, 55, 56, 57, 61, 62, 63, 64, 65, 66, 67, 68, 69, 70, 71, 72, 73, 74, 75, 76, 77, 78, 79, 80, 81, 82, 83, 84, 85, 86, 87, 88, 89, 90, 91] (by decide +kernel) (by decide +kernel)
set_option maxRecDepth 20000 in
theorem gX10_odds_X10_oddsBy : GoodIn wsX10_odds (wsV RX10 205 RX10 yX10_oddsBy wsX10_oddsBy) := goodIn_app (goodIn_of _ (by decide +kernel)) ggX10_odds_X10_oddsBy
set_option maxRecDepth 20000 in
theorem ggX10_odds_X10_gcd : GoodIn wsX10_odds wsX10_gcd := goodIn_r _ [60] (by decide +kernel) (by decide +kernel)
set_option maxRecDepth 20000 in
theorem gX10_odds_X10_gcd : GoodIn wsX10_odds (va_wsS RX10 209 yX10_gcd wsX10_gcd) := goodIn_app (goodIn_of _ (by decide +kernel)) ggX10_odds_X10_gcd
theorem dX10_odds_0 : decode cX10_odds 0 = .ok (.aload_n 0, 1) := by decide +kernel
theorem dX10_odds_1 : decode cX10_odds 1 = .ok (.iconst 0, 1) := by decide +kernel
theorem dX10_odds_2 : decode cX10_odds 2 = .ok (.putfield 58, 3) := by decide +kernel
theorem dX10_odds_5 : decode cX10_odds 5 = .ok (.aload_n 0, 1) := by decide +kernel
theorem dX10_odds_6 : decode cX10_odds 6 = .ok (.iload_n 1, 1) := by decide +kernel
theorem dX10_odds_7 : decode cX10_odds 7 = .ok (.invokevirtual 147, 3) := by decide +kernel
theorem dX10_odds_10 : decode cX10_odds 10 = .ok (.ifCond .eq 22, 3) := by decide +kernel
theorem dX10_odds_13 : decode cX10_odds 13 = .ok (.iload_n 2, 1) := by decide +kernel
theorem dX10_odds_14 : decode cX10_odds 14 = .ok (.iconst 0, 1) := by decide +kernel
theorem dX10_odds_15 : decode cX10_odds 15 = .ok (.bipush 24, 2) := by decide +kernel
theorem dX10_odds_17 : decode cX10_odds 17 = .ok (.invokestatic 61, 3) := by decide +kernel
theorem dX10_odds_20 : decode cX10_odds 20 = .ok (.ifCond .eq 12, 3) := by decide +kernel
theorem dX10_odds_23 : decode cX10_odds 23 = .ok (.iload_n 3, 1) := by decide +kernel
theorem dX10_odds_24 : decode cX10_odds 24 = .ok (.iconst 0, 1) := by decide +kernel
theorem dX10_odds_25 : decode cX10_odds 25 = .ok (.iconst 1, 1) := by decide +kernel
theorem dX10_odds_26 : decode cX10_odds 26 = .ok (.invokestatic 61, 3) := by decide +kernel
theorem dX10_odds_29 : decode cX10_odds 29 = .ok (.ifCond .ne 7, 3) := by decide +kernel
theorem dX10_odds_32 : decode cX10_odds 32 = .ok (.ldc2_w 203, 3) := by decide +kernel
theorem dX10_odds_35 : decode cX10_odds 35 = .ok (.lreturn, 1) := by decide +kernel
theorem dX10_odds_36 : decode cX10_odds 36 = .ok (.aload_n 0, 1) := by decide +kernel
theorem dX10_odds_37 : decode cX10_odds 37 = .ok (.iload_n 1, 1) := by decide +kernel
theorem dX10_odds_38 : decode cX10_odds 38 = .ok (.iload_n 2, 1) := by decide +kernel
theorem dX10_odds_39 : decode cX10_odds 39 = .ok (.invokevirtual 205, 3) := by decide +kernel
theorem dX10_odds_42 : decode cX10_odds 42 = .ok (.lstore 4, 2) := by decide +kernel
theorem dX10_odds_44 : decode cX10_odds 44 = .ok (.lload 4, 2) := by decide +kernel
theorem dX10_odds_46 : decode cX10_odds 46 = .ok (.ldc2_w 189, 3) := by decide +kernel
theorem dX10_odds_49 : decode cX10_odds 49 = .ok (.invokestatic 209, 3) := by decide +kernel
theorem dX10_odds_52 : decode cX10_odds 52 = .ok (.lstore 6, 2) := by decide +kernel
theorem dX10_odds_54 : decode cX10_odds 54 = .ok (.iload_n 3, 1) := by decide +kernel
theorem dX10_odds_55 : decode cX10_odds 55 = .ok (.ifCond .ne 11, 3) := by decide +kernel
theorem dX10_odds_58 : decode cX10_odds 58 = .ok (.lload 4, 2) := by decide +kernel
theorem dX10_odds_60 : decode cX10_odds 60 = .ok (.lload 6, 2) := by decide +kernel
theorem dX10_odds_62 : decode cX10_odds 62 = .ok (.ldiv, 1) := by decide +kernel
theorem dX10_odds_63 : decode cX10_odds 63 = .ok (.goto 9, 3) := by decide +kernel
theorem dX10_odds_66 : decode cX10_odds 66 = .ok (.ldc2_w 189, 3) := by decide +kernel
theorem dX10_odds_69 : decode cX10_odds 69 = .ok (.lload 6, 2) := by decide +kernel
theorem dX10_odds_71 : decode cX10_odds 71 = .ok (.ldiv, 1) := by decide +kernel
theorem dX10_odds_72 : decode cX10_odds 72 = .ok (.lreturn, 1) := by decide +kernel
set_option maxRecDepth 20000 in
theorem ggX10_enough_X10_isRunner : GoodIn wsX10_enough wsX10_isRunner := goodIn_r _ [7, 8, 9, 10, 6, 11, 58, 59, 60, 61, 62, 63, 64, 65, 66, 67, 68, 69, 70, 71, 72, 73, 74, 75, 76, 77, 78, 79, 80, 81, 82, 83, 84, 85, 86, 87, 88] (by decide +kernel) (by decide +kernel)
set_option maxRecDepth 20000 in
theorem gX10_enough_X10_isRunner : GoodIn wsX10_enough (wsV RX10 147 RX10 yX10_isRunner wsX10_isRunner) := goodIn_app (goodIn_of _ (by decide +kernel)) ggX10_enough_X10_isRunner
set_option maxRecDepth 20000 in
theorem ggX10_enough_X10_in : GoodIn wsX10_enough wsX10_in := goodIn_r _ [11] (by decide +kernel) (by decide +kernel)
set_option maxRecDepth 20000 in
theorem gX10_enough_X10_in : GoodIn wsX10_enough (va_wsS RX10 61 yX10_in wsX10_in) := goodIn_app (goodIn_of _ (by decide +kernel)) ggX10_enough_X10_in
set_option maxRecDepth 20000 in
theorem ggX10_enough_X10_oddsBy : GoodIn wsX10_enough wsX10_oddsBy := goodIn_r _ [15, 16, 17, 18, 19, 20, 21, 6, 22, 23, 24, 25, 26, 27, 28, 29, 30, 31, 32, 33, 34, 35, 36, 37, 38, 39, 40, 41, 42, 43, 44, 45, 46, 47, 48, 49, 50, 51, 52, 53, 54, 55, 56, 57, 58, 59, 60, 61, 62, 63, 64, 65, 66, 67, 68, 69, 70, 71, 72, 73, 74, 75, 76, 77, 78, 79, 80, 81, 82, 83, 84, 85, 86, 87, 88] (by decide +kernel) (by decide +kernel)
set_option maxRecDepth 20000 in
theorem gX10_enough_X10_oddsBy : GoodIn wsX10_enough (wsV RX10 205 RX10 yX10_oddsBy wsX10_oddsBy) := goodIn_app (goodIn_of _ (by decide +kernel)) ggX10_enough_X10_oddsBy
theorem dX10_enough_0 : decode cX10_enough 0 = .ok (.aload_n 0, 1) := by decide +kernel
theorem dX10_enough_1 : decode cX10_enough 1 = .ok (.iconst 0, 1) := by decide +kernel
theorem dX10_enough_2 : decode cX10_enough 2 = .ok (.putfield 58, 3) := by decide +kernel
theorem dX10_enough_5 : decode cX10_enough 5 = .ok (.aload_n 0, 1) := by decide +kernel
theorem dX10_enough_6 : decode cX10_enough 6 = .ok (.iload_n 1, 1) := by decide +kernel
theorem dX10_enough_7 : decode cX10_enough 7 = .ok (.invokevirtual 147, 3) := by decide +kernel
theorem dX10_enough_10 : decode cX10_enough 10 = .ok (.ifCond .eq 13, 3) := by decide +kernel
theorem dX10_enough_13 : decode cX10_enough 13 = .ok (.iload_n 2, 1) := by decide +kernel
theorem dX10_enough_14 : decode cX10_enough 14 = .ok (.iconst 0, 1) := by decide +kernel
theorem dX10_enough_15 : decode cX10_enough 15 = .ok (.bipush 10, 2) := by decide +kernel
theorem dX10_enough_17 : decode cX10_enough 17 = .ok (.invokestatic 61, 3) := by decide +kernel
theorem dX10_enough_20 : decode cX10_enough 20 = .ok (.ifCond .ne 5, 3) := by decide +kernel
theorem dX10_enough_23 : decode cX10_enough 23 = .ok (.iconst (-1), 1) := by decide +kernel
theorem dX10_enough_24 : decode cX10_enough 24 = .ok (.ireturn, 1) := by decide +kernel
theorem dX10_enough_25 : decode cX10_enough 25 = .ok (.iconst 0, 1) := by decide +kernel
theorem dX10_enough_26 : decode cX10_enough 26 = .ok (.istore_n 3, 1) := by decide +kernel
theorem dX10_enough_27 : decode cX10_enough 27 = .ok (.iload_n 3, 1) := by decide +kernel
theorem dX10_enough_28 : decode cX10_enough 28 = .ok (.bipush 25, 2) := by decide +kernel
theorem dX10_enough_30 : decode cX10_enough 30 = .ok (.if_icmp .ge 27, 3) := by decide +kernel
theorem dX10_enough_33 : decode cX10_enough 33 = .ok (.aload_n 0, 1) := by decide +kernel
theorem dX10_enough_34 : decode cX10_enough 34 = .ok (.iload_n 1, 1) := by decide +kernel
theorem dX10_enough_35 : decode cX10_enough 35 = .ok (.iload_n 3, 1) := by decide +kernel
theorem dX10_enough_36 : decode cX10_enough 36 = .ok (.invokevirtual 205, 3) := by decide +kernel
theorem dX10_enough_39 : decode cX10_enough 39 = .ok (.ldc2_w 212, 3) := by decide +kernel
theorem dX10_enough_42 : decode cX10_enough 42 = .ok (.iload_n 2, 1) := by decide +kernel
theorem dX10_enough_43 : decode cX10_enough 43 = .ok (.i2l, 1) := by decide +kernel
theorem dX10_enough_44 : decode cX10_enough 44 = .ok (.lmul, 1) := by decide +kernel
theorem dX10_enough_45 : decode cX10_enough 45 = .ok (.lcmp, 1) := by decide +kernel
theorem dX10_enough_46 : decode cX10_enough 46 = .ok (.ifCond .lt 5, 3) := by decide +kernel
theorem dX10_enough_49 : decode cX10_enough 49 = .ok (.iload_n 3, 1) := by decide +kernel
theorem dX10_enough_50 : decode cX10_enough 50 = .ok (.ireturn, 1) := by decide +kernel
theorem dX10_enough_51 : decode cX10_enough 51 = .ok (.iinc 3 1, 3) := by decide +kernel
theorem dX10_enough_54 : decode cX10_enough 54 = .ok (.goto (-27), 3) := by decide +kernel
theorem dX10_enough_57 : decode cX10_enough 57 = .ok (.bipush (-9), 2) := by decide +kernel
theorem dX10_enough_59 : decode cX10_enough 59 = .ok (.ireturn, 1) := by decide +kernel
set_option maxRecDepth 20000 in
theorem ggX10_picture_X10_in : GoodIn wsX10_picture wsX10_in := goodIn_r _ [7] (by decide +kernel) (by decide +kernel)
set_option maxRecDepth 20000 in
theorem gX10_picture_X10_in : GoodIn wsX10_picture (va_wsS RX10 61 yX10_in wsX10_in) := goodIn_app (goodIn_of _ (by decide +kernel)) ggX10_picture_X10_in
theorem dX10_picture_0 : decode cX10_picture 0 = .ok (.aload_n 0, 1) := by decide +kernel
theorem dX10_picture_1 : decode cX10_picture 1 = .ok (.iconst 0, 1) := by decide +kernel
theorem dX10_picture_2 : decode cX10_picture 2 = .ok (.putfield 58, 3) := by decide +kernel
theorem dX10_picture_5 : decode cX10_picture 5 = .ok (.iload_n 1, 1) := by decide +kernel
theorem dX10_picture_6 : decode cX10_picture 6 = .ok (.iconst 1, 1) := by decide +kernel
theorem dX10_picture_7 : decode cX10_picture 7 = .ok (.bipush 8, 2) := by decide +kernel
theorem dX10_picture_9 : decode cX10_picture 9 = .ok (.invokestatic 61, 3) := by decide +kernel
theorem dX10_picture_12 : decode cX10_picture 12 = .ok (.ifCond .eq 12, 3) := by decide +kernel
theorem dX10_picture_15 : decode cX10_picture 15 = .ok (.iload_n 2, 1) := by decide +kernel
theorem dX10_picture_16 : decode cX10_picture 16 = .ok (.iconst 0, 1) := by decide +kernel
theorem dX10_picture_17 : decode cX10_picture 17 = .ok (.iconst 3, 1) := by decide +kernel
theorem dX10_picture_18 : decode cX10_picture 18 = .ok (.invokestatic 61, 3) := by decide +kernel
theorem dX10_picture_21 : decode cX10_picture 21 = .ok (.ifCond .ne 5, 3) := by decide +kernel
theorem dX10_picture_24 : decode cX10_picture 24 = .ok (.iconst (-1), 1) := by decide +kernel
theorem dX10_picture_25 : decode cX10_picture 25 = .ok (.ireturn, 1) := by decide +kernel
theorem dX10_picture_26 : decode cX10_picture 26 = .ok (.aload_n 0, 1) := by decide +kernel
theorem dX10_picture_27 : decode cX10_picture 27 = .ok (.getfield 141, 3) := by decide +kernel
theorem dX10_picture_30 : decode cX10_picture 30 = .ok (.bipush 6, 2) := by decide +kernel
theorem dX10_picture_32 : decode cX10_picture 32 = .ok (.if_icmp .ne 6, 3) := by decide +kernel
theorem dX10_picture_35 : decode cX10_picture 35 = .ok (.bipush (-3), 2) := by decide +kernel
theorem dX10_picture_37 : decode cX10_picture 37 = .ok (.ireturn, 1) := by decide +kernel
theorem dX10_picture_38 : decode cX10_picture 38 = .ok (.aload_n 0, 1) := by decide +kernel
theorem dX10_picture_39 : decode cX10_picture 39 = .ok (.getfield 41, 3) := by decide +kernel
theorem dX10_picture_42 : decode cX10_picture 42 = .ok (.iconst 2, 1) := by decide +kernel
theorem dX10_picture_43 : decode cX10_picture 43 = .ok (.aload_n 0, 1) := by decide +kernel
theorem dX10_picture_44 : decode cX10_picture 44 = .ok (.getfield 141, 3) := by decide +kernel
theorem dX10_picture_47 : decode cX10_picture 47 = .ok (.imul, 1) := by decide +kernel
theorem dX10_picture_48 : decode cX10_picture 48 = .ok (.iload_n 1, 1) := by decide +kernel
theorem dX10_picture_49 : decode cX10_picture 49 = .ok (.iastore, 1) := by decide +kernel
theorem dX10_picture_50 : decode cX10_picture 50 = .ok (.aload_n 0, 1) := by decide +kernel
theorem dX10_picture_51 : decode cX10_picture 51 = .ok (.getfield 41, 3) := by decide +kernel
theorem dX10_picture_54 : decode cX10_picture 54 = .ok (.iconst 2, 1) := by decide +kernel
theorem dX10_picture_55 : decode cX10_picture 55 = .ok (.aload_n 0, 1) := by decide +kernel
theorem dX10_picture_56 : decode cX10_picture 56 = .ok (.getfield 141, 3) := by decide +kernel
theorem dX10_picture_59 : decode cX10_picture 59 = .ok (.imul, 1) := by decide +kernel
theorem dX10_picture_60 : decode cX10_picture 60 = .ok (.iconst 1, 1) := by decide +kernel
theorem dX10_picture_61 : decode cX10_picture 61 = .ok (.iadd, 1) := by decide +kernel
theorem dX10_picture_62 : decode cX10_picture 62 = .ok (.iload_n 2, 1) := by decide +kernel
theorem dX10_picture_63 : decode cX10_picture 63 = .ok (.iastore, 1) := by decide +kernel
theorem dX10_picture_64 : decode cX10_picture 64 = .ok (.aload_n 0, 1) := by decide +kernel
theorem dX10_picture_65 : decode cX10_picture 65 = .ok (.dup, 1) := by decide +kernel
theorem dX10_picture_66 : decode cX10_picture 66 = .ok (.getfield 141, 3) := by decide +kernel
theorem dX10_picture_69 : decode cX10_picture 69 = .ok (.iconst 1, 1) := by decide +kernel
theorem dX10_picture_70 : decode cX10_picture 70 = .ok (.iadd, 1) := by decide +kernel
theorem dX10_picture_71 : decode cX10_picture 71 = .ok (.putfield 141, 3) := by decide +kernel
theorem dX10_picture_74 : decode cX10_picture 74 = .ok (.aload_n 0, 1) := by decide +kernel
theorem dX10_picture_75 : decode cX10_picture 75 = .ok (.getfield 141, 3) := by decide +kernel
theorem dX10_picture_78 : decode cX10_picture 78 = .ok (.ireturn, 1) := by decide +kernel
theorem dX10_forget_0 : decode cX10_forget 0 = .ok (.aload_n 0, 1) := by decide +kernel
theorem dX10_forget_1 : decode cX10_forget 1 = .ok (.iconst 0, 1) := by decide +kernel
theorem dX10_forget_2 : decode cX10_forget 2 = .ok (.putfield 58, 3) := by decide +kernel
theorem dX10_forget_5 : decode cX10_forget 5 = .ok (.aload_n 0, 1) := by decide +kernel
theorem dX10_forget_6 : decode cX10_forget 6 = .ok (.getfield 141, 3) := by decide +kernel
theorem dX10_forget_9 : decode cX10_forget 9 = .ok (.istore_n 1, 1) := by decide +kernel
theorem dX10_forget_10 : decode cX10_forget 10 = .ok (.aload_n 0, 1) := by decide +kernel
theorem dX10_forget_11 : decode cX10_forget 11 = .ok (.iconst 0, 1) := by decide +kernel
theorem dX10_forget_12 : decode cX10_forget 12 = .ok (.putfield 141, 3) := by decide +kernel
theorem dX10_forget_15 : decode cX10_forget 15 = .ok (.iload_n 1, 1) := by decide +kernel
theorem dX10_forget_16 : decode cX10_forget 16 = .ok (.ireturn, 1) := by decide +kernel
theorem dX10_isAsPictured_0 : decode cX10_isAsPictured 0 = .ok (.iconst 1, 1) := by decide +kernel
theorem dX10_isAsPictured_1 : decode cX10_isAsPictured 1 = .ok (.istore_n 3, 1) := by decide +kernel
theorem dX10_isAsPictured_2 : decode cX10_isAsPictured 2 = .ok (.iconst 0, 1) := by decide +kernel
theorem dX10_isAsPictured_3 : decode cX10_isAsPictured 3 = .ok (.istore 4, 2) := by decide +kernel
theorem dX10_isAsPictured_5 : decode cX10_isAsPictured 5 = .ok (.iload 4, 2) := by decide +kernel
theorem dX10_isAsPictured_7 : decode cX10_isAsPictured 7 = .ok (.aload_n 0, 1) := by decide +kernel
theorem dX10_isAsPictured_8 : decode cX10_isAsPictured 8 = .ok (.getfield 141, 3) := by decide +kernel
theorem dX10_isAsPictured_11 : decode cX10_isAsPictured 11 = .ok (.if_icmp .ge 60, 3) := by decide +kernel
theorem dX10_isAsPictured_14 : decode cX10_isAsPictured 14 = .ok (.aload_n 0, 1) := by decide +kernel
theorem dX10_isAsPictured_15 : decode cX10_isAsPictured 15 = .ok (.getfield 41, 3) := by decide +kernel
theorem dX10_isAsPictured_18 : decode cX10_isAsPictured 18 = .ok (.iconst 2, 1) := by decide +kernel
theorem dX10_isAsPictured_19 : decode cX10_isAsPictured 19 = .ok (.iload 4, 2) := by decide +kernel
theorem dX10_isAsPictured_21 : decode cX10_isAsPictured 21 = .ok (.imul, 1) := by decide +kernel
theorem dX10_isAsPictured_22 : decode cX10_isAsPictured 22 = .ok (.iaload, 1) := by decide +kernel
theorem dX10_isAsPictured_23 : decode cX10_isAsPictured 23 = .ok (.istore 5, 2) := by decide +kernel
theorem dX10_isAsPictured_25 : decode cX10_isAsPictured 25 = .ok (.iload_n 3, 1) := by decide +kernel
theorem dX10_isAsPictured_26 : decode cX10_isAsPictured 26 = .ok (.ifCond .eq 37, 3) := by decide +kernel
theorem dX10_isAsPictured_29 : decode cX10_isAsPictured 29 = .ok (.iload 5, 2) := by decide +kernel
theorem dX10_isAsPictured_31 : decode cX10_isAsPictured 31 = .ok (.iconst 2, 1) := by decide +kernel
theorem dX10_isAsPictured_32 : decode cX10_isAsPictured 32 = .ok (.iload_n 1, 1) := by decide +kernel
theorem dX10_isAsPictured_33 : decode cX10_isAsPictured 33 = .ok (.imul, 1) := by decide +kernel
theorem dX10_isAsPictured_34 : decode cX10_isAsPictured 34 = .ok (.if_icmp .ge 29, 3) := by decide +kernel
theorem dX10_isAsPictured_37 : decode cX10_isAsPictured 37 = .ok (.iload_n 2, 1) := by decide +kernel
theorem dX10_isAsPictured_38 : decode cX10_isAsPictured 38 = .ok (.iload 5, 2) := by decide +kernel
theorem dX10_isAsPictured_40 : decode cX10_isAsPictured 40 = .ok (.imul, 1) := by decide +kernel
theorem dX10_isAsPictured_41 : decode cX10_isAsPictured 41 = .ok (.iconst 2, 1) := by decide +kernel
theorem dX10_isAsPictured_42 : decode cX10_isAsPictured 42 = .ok (.idiv, 1) := by decide +kernel
theorem dX10_isAsPictured_43 : decode cX10_isAsPictured 43 = .ok (.iconst 4, 1) := by decide +kernel
theorem dX10_isAsPictured_44 : decode cX10_isAsPictured 44 = .ok (.irem, 1) := by decide +kernel
theorem dX10_isAsPictured_45 : decode cX10_isAsPictured 45 = .ok (.aload_n 0, 1) := by decide +kernel
theorem dX10_isAsPictured_46 : decode cX10_isAsPictured 46 = .ok (.getfield 41, 3) := by decide +kernel
theorem dX10_isAsPictured_49 : decode cX10_isAsPictured 49 = .ok (.iconst 2, 1) := by decide +kernel
theorem dX10_isAsPictured_50 : decode cX10_isAsPictured 50 = .ok (.iload 4, 2) := by decide +kernel
theorem dX10_isAsPictured_52 : decode cX10_isAsPictured 52 = .ok (.imul, 1) := by decide +kernel
theorem dX10_isAsPictured_53 : decode cX10_isAsPictured 53 = .ok (.iconst 1, 1) := by decide +kernel
theorem dX10_isAsPictured_54 : decode cX10_isAsPictured 54 = .ok (.iadd, 1) := by decide +kernel
theorem dX10_isAsPictured_55 : decode cX10_isAsPictured 55 = .ok (.iaload, 1) := by decide +kernel
theorem dX10_isAsPictured_56 : decode cX10_isAsPictured 56 = .ok (.if_icmp .ne 7, 3) := by decide +kernel
theorem dX10_isAsPictured_59 : decode cX10_isAsPictured 59 = .ok (.iconst 1, 1) := by decide +kernel
theorem dX10_isAsPictured_60 : decode cX10_isAsPictured 60 = .ok (.goto 4, 3) := by decide +kernel
theorem dX10_isAsPictured_63 : decode cX10_isAsPictured 63 = .ok (.iconst 0, 1) := by decide +kernel
theorem dX10_isAsPictured_64 : decode cX10_isAsPictured 64 = .ok (.istore_n 3, 1) := by decide +kernel
theorem dX10_isAsPictured_65 : decode cX10_isAsPictured 65 = .ok (.iinc 4 1, 3) := by decide +kernel
theorem dX10_isAsPictured_68 : decode cX10_isAsPictured 68 = .ok (.goto (-63), 3) := by decide +kernel
theorem dX10_isAsPictured_71 : decode cX10_isAsPictured 71 = .ok (.iload_n 3, 1) := by decide +kernel
theorem dX10_isAsPictured_72 : decode cX10_isAsPictured 72 = .ok (.ireturn, 1) := by decide +kernel
set_option maxRecDepth 20000 in
theorem ggX10_could_X10_in : GoodIn wsX10_could wsX10_in := goodIn_r _ [5] (by decide +kernel) (by decide +kernel)
set_option maxRecDepth 20000 in
theorem gX10_could_X10_in : GoodIn wsX10_could (va_wsS RX10 61 yX10_in wsX10_in) := goodIn_app (goodIn_of _ (by decide +kernel)) ggX10_could_X10_in
set_option maxRecDepth 20000 in
theorem ggX10_could_X10_isAsPictured : GoodIn wsX10_could wsX10_isAsPictured := goodIn_r _ [9, 10, 11, 12, 13, 14, 15, 16, 17, 18, 19, 20, 21, 22, 23, 24, 25, 26, 27, 28, 29, 30, 31, 32, 33, 34, 35, 36, 37, 38, 39, 40, 41, 42] (by decide +kernel) (by decide +kernel)
set_option maxRecDepth 20000 in
theorem gX10_could_X10_isAsPictured : GoodIn wsX10_could (wsV RX10 214 RX10 yX10_isAsPictured wsX10_isAsPictured) := goodIn_app (goodIn_of _ (by decide +kernel)) ggX10_could_X10_isAsPictured
theorem dX10_could_0 : decode cX10_could 0 = .ok (.aload_n 0, 1) := by decide +kernel
theorem dX10_could_1 : decode cX10_could 1 = .ok (.iconst 0, 1) := by decide +kernel
theorem dX10_could_2 : decode cX10_could 2 = .ok (.putfield 58, 3) := by decide +kernel
theorem dX10_could_5 : decode cX10_could 5 = .ok (.iload_n 1, 1) := by decide +kernel
theorem dX10_could_6 : decode cX10_could 6 = .ok (.iconst 0, 1) := by decide +kernel
theorem dX10_could_7 : decode cX10_could 7 = .ok (.iconst 1, 1) := by decide +kernel
theorem dX10_could_8 : decode cX10_could 8 = .ok (.invokestatic 61, 3) := by decide +kernel
theorem dX10_could_11 : decode cX10_could 11 = .ok (.ifCond .ne 5, 3) := by decide +kernel
theorem dX10_could_14 : decode cX10_could 14 = .ok (.iconst (-1), 1) := by decide +kernel
theorem dX10_could_15 : decode cX10_could 15 = .ok (.ireturn, 1) := by decide +kernel
theorem dX10_could_16 : decode cX10_could 16 = .ok (.iconst 0, 1) := by decide +kernel
theorem dX10_could_17 : decode cX10_could 17 = .ok (.istore_n 2, 1) := by decide +kernel
theorem dX10_could_18 : decode cX10_could 18 = .ok (.iconst 1, 1) := by decide +kernel
theorem dX10_could_19 : decode cX10_could 19 = .ok (.istore_n 3, 1) := by decide +kernel
theorem dX10_could_20 : decode cX10_could 20 = .ok (.iload_n 3, 1) := by decide +kernel
theorem dX10_could_21 : decode cX10_could 21 = .ok (.iconst 5, 1) := by decide +kernel
theorem dX10_could_22 : decode cX10_could 22 = .ok (.if_icmp .ge 57, 3) := by decide +kernel
theorem dX10_could_25 : decode cX10_could 25 = .ok (.iconst 0, 1) := by decide +kernel
theorem dX10_could_26 : decode cX10_could 26 = .ok (.istore 4, 2) := by decide +kernel
theorem dX10_could_28 : decode cX10_could 28 = .ok (.iload 4, 2) := by decide +kernel
theorem dX10_could_30 : decode cX10_could 30 = .ok (.bipush 8, 2) := by decide +kernel
theorem dX10_could_32 : decode cX10_could 32 = .ok (.if_icmp .ge 41, 3) := by decide +kernel
theorem dX10_could_35 : decode cX10_could 35 = .ok (.iload_n 2, 1) := by decide +kernel
theorem dX10_could_36 : decode cX10_could 36 = .ok (.aload_n 0, 1) := by decide +kernel
theorem dX10_could_37 : decode cX10_could 37 = .ok (.iload_n 3, 1) := by decide +kernel
theorem dX10_could_38 : decode cX10_could 38 = .ok (.iload 4, 2) := by decide +kernel
theorem dX10_could_40 : decode cX10_could 40 = .ok (.invokevirtual 214, 3) := by decide +kernel
theorem dX10_could_43 : decode cX10_could 43 = .ok (.ifCond .eq 21, 3) := by decide +kernel
theorem dX10_could_46 : decode cX10_could 46 = .ok (.iload_n 1, 1) := by decide +kernel
theorem dX10_could_47 : decode cX10_could 47 = .ok (.ifCond .eq 13, 3) := by decide +kernel
theorem dX10_could_50 : decode cX10_could 50 = .ok (.iload 4, 2) := by decide +kernel
theorem dX10_could_52 : decode cX10_could 52 = .ok (.iload_n 3, 1) := by decide +kernel
theorem dX10_could_53 : decode cX10_could 53 = .ok (.imul, 1) := by decide +kernel
theorem dX10_could_54 : decode cX10_could 54 = .ok (.iconst 4, 1) := by decide +kernel
theorem dX10_could_55 : decode cX10_could 55 = .ok (.irem, 1) := by decide +kernel
theorem dX10_could_56 : decode cX10_could 56 = .ok (.iconst 2, 1) := by decide +kernel
theorem dX10_could_57 : decode cX10_could 57 = .ok (.if_icmp .ne 7, 3) := by decide +kernel
theorem dX10_could_60 : decode cX10_could 60 = .ok (.iconst 1, 1) := by decide +kernel
theorem dX10_could_61 : decode cX10_could 61 = .ok (.goto 4, 3) := by decide +kernel
theorem dX10_could_64 : decode cX10_could 64 = .ok (.iconst 0, 1) := by decide +kernel
theorem dX10_could_65 : decode cX10_could 65 = .ok (.iadd, 1) := by decide +kernel
theorem dX10_could_66 : decode cX10_could 66 = .ok (.istore_n 2, 1) := by decide +kernel
theorem dX10_could_67 : decode cX10_could 67 = .ok (.iinc 4 1, 3) := by decide +kernel
theorem dX10_could_70 : decode cX10_could 70 = .ok (.goto (-42), 3) := by decide +kernel
theorem dX10_could_73 : decode cX10_could 73 = .ok (.iinc 3 1, 3) := by decide +kernel
theorem dX10_could_76 : decode cX10_could 76 = .ok (.goto (-56), 3) := by decide +kernel
theorem dX10_could_79 : decode cX10_could 79 = .ok (.iload_n 2, 1) := by decide +kernel
theorem dX10_could_80 : decode cX10_could 80 = .ok (.ireturn, 1) := by decide +kernel
set_option maxRecDepth 20000 in
theorem ggX10_towns_X10_in : GoodIn wsX10_towns wsX10_in := goodIn_r _ [5] (by decide +kernel) (by decide +kernel)
set_option maxRecDepth 20000 in
theorem gX10_towns_X10_in : GoodIn wsX10_towns (va_wsS RX10 61 yX10_in wsX10_in) := goodIn_app (goodIn_of _ (by decide +kernel)) ggX10_towns_X10_in
set_option maxRecDepth 20000 in
theorem ggX10_towns_X10_gcd : GoodIn wsX10_towns wsX10_gcd := goodIn_r _ [8] (by decide +kernel) (by decide +kernel)
set_option maxRecDepth 20000 in
theorem gX10_towns_X10_gcd : GoodIn wsX10_towns (va_wsS RX10 209 yX10_gcd wsX10_gcd) := goodIn_app (goodIn_of _ (by decide +kernel)) ggX10_towns_X10_gcd
theorem dX10_towns_0 : decode cX10_towns 0 = .ok (.aload_n 0, 1) := by decide +kernel
theorem dX10_towns_1 : decode cX10_towns 1 = .ok (.iconst 0, 1) := by decide +kernel
theorem dX10_towns_2 : decode cX10_towns 2 = .ok (.putfield 58, 3) := by decide +kernel
theorem dX10_towns_5 : decode cX10_towns 5 = .ok (.iload_n 1, 1) := by decide +kernel
theorem dX10_towns_6 : decode cX10_towns 6 = .ok (.iconst 0, 1) := by decide +kernel
theorem dX10_towns_7 : decode cX10_towns 7 = .ok (.sipush 999, 3) := by decide +kernel
theorem dX10_towns_10 : decode cX10_towns 10 = .ok (.invokestatic 61, 3) := by decide +kernel
theorem dX10_towns_13 : decode cX10_towns 13 = .ok (.ifCond .eq 45, 3) := by decide +kernel
theorem dX10_towns_16 : decode cX10_towns 16 = .ok (.iload_n 2, 1) := by decide +kernel
theorem dX10_towns_17 : decode cX10_towns 17 = .ok (.iconst 0, 1) := by decide +kernel
theorem dX10_towns_18 : decode cX10_towns 18 = .ok (.bipush 99, 2) := by decide +kernel
theorem dX10_towns_20 : decode cX10_towns 20 = .ok (.invokestatic 61, 3) := by decide +kernel
theorem dX10_towns_23 : decode cX10_towns 23 = .ok (.ifCond .eq 35, 3) := by decide +kernel
theorem dX10_towns_26 : decode cX10_towns 26 = .ok (.iload_n 3, 1) := by decide +kernel
theorem dX10_towns_27 : decode cX10_towns 27 = .ok (.iconst 0, 1) := by decide +kernel
theorem dX10_towns_28 : decode cX10_towns 28 = .ok (.sipush 999, 3) := by decide +kernel
theorem dX10_towns_31 : decode cX10_towns 31 = .ok (.invokestatic 61, 3) := by decide +kernel
theorem dX10_towns_34 : decode cX10_towns 34 = .ok (.ifCond .eq 24, 3) := by decide +kernel
theorem dX10_towns_37 : decode cX10_towns 37 = .ok (.iload 4, 2) := by decide +kernel
theorem dX10_towns_39 : decode cX10_towns 39 = .ok (.iconst 0, 1) := by decide +kernel
theorem dX10_towns_40 : decode cX10_towns 40 = .ok (.bipush 99, 2) := by decide +kernel
theorem dX10_towns_42 : decode cX10_towns 42 = .ok (.invokestatic 61, 3) := by decide +kernel
theorem dX10_towns_45 : decode cX10_towns 45 = .ok (.ifCond .eq 13, 3) := by decide +kernel
theorem dX10_towns_48 : decode cX10_towns 48 = .ok (.iload 5, 2) := by decide +kernel
theorem dX10_towns_50 : decode cX10_towns 50 = .ok (.iconst 0, 1) := by decide +kernel
theorem dX10_towns_51 : decode cX10_towns 51 = .ok (.iconst 1, 1) := by decide +kernel
theorem dX10_towns_52 : decode cX10_towns 52 = .ok (.invokestatic 61, 3) := by decide +kernel
theorem dX10_towns_55 : decode cX10_towns 55 = .ok (.ifCond .ne 5, 3) := by decide +kernel
theorem dX10_towns_58 : decode cX10_towns 58 = .ok (.iconst (-1), 1) := by decide +kernel
theorem dX10_towns_59 : decode cX10_towns 59 = .ok (.ireturn, 1) := by decide +kernel
theorem dX10_towns_60 : decode cX10_towns 60 = .ok (.iconst 0, 1) := by decide +kernel
theorem dX10_towns_61 : decode cX10_towns 61 = .ok (.istore 6, 2) := by decide +kernel
theorem dX10_towns_63 : decode cX10_towns 63 = .ok (.iload_n 1, 1) := by decide +kernel
theorem dX10_towns_64 : decode cX10_towns 64 = .ok (.iload_n 2, 1) := by decide +kernel
theorem dX10_towns_65 : decode cX10_towns 65 = .ok (.isub, 1) := by decide +kernel
theorem dX10_towns_66 : decode cX10_towns 66 = .ok (.istore 7, 2) := by decide +kernel
theorem dX10_towns_68 : decode cX10_towns 68 = .ok (.iload 7, 2) := by decide +kernel
theorem dX10_towns_70 : decode cX10_towns 70 = .ok (.iload_n 1, 1) := by decide +kernel
theorem dX10_towns_71 : decode cX10_towns 71 = .ok (.iload_n 2, 1) := by decide +kernel
theorem dX10_towns_72 : decode cX10_towns 72 = .ok (.iadd, 1) := by decide +kernel
theorem dX10_towns_73 : decode cX10_towns 73 = .ok (.if_icmp .gt 47, 3) := by decide +kernel
theorem dX10_towns_76 : decode cX10_towns 76 = .ok (.iload_n 3, 1) := by decide +kernel
theorem dX10_towns_77 : decode cX10_towns 77 = .ok (.iload 4, 2) := by decide +kernel
theorem dX10_towns_79 : decode cX10_towns 79 = .ok (.isub, 1) := by decide +kernel
theorem dX10_towns_80 : decode cX10_towns 80 = .ok (.istore 8, 2) := by decide +kernel
theorem dX10_towns_82 : decode cX10_towns 82 = .ok (.iload 8, 2) := by decide +kernel
theorem dX10_towns_84 : decode cX10_towns 84 = .ok (.iload_n 3, 1) := by decide +kernel
theorem dX10_towns_85 : decode cX10_towns 85 = .ok (.iload 4, 2) := by decide +kernel
theorem dX10_towns_87 : decode cX10_towns 87 = .ok (.iadd, 1) := by decide +kernel
theorem dX10_towns_88 : decode cX10_towns 88 = .ok (.if_icmp .gt 26, 3) := by decide +kernel
theorem dX10_towns_91 : decode cX10_towns 91 = .ok (.iload 6, 2) := by decide +kernel
theorem dX10_towns_93 : decode cX10_towns 93 = .ok (.iload 7, 2) := by decide +kernel
theorem dX10_towns_95 : decode cX10_towns 95 = .ok (.iload 8, 2) := by decide +kernel
theorem dX10_towns_97 : decode cX10_towns 97 = .ok (.if_icmp .ge 7, 3) := by decide +kernel
theorem dX10_towns_100 : decode cX10_towns 100 = .ok (.iconst 1, 1) := by decide +kernel
theorem dX10_towns_101 : decode cX10_towns 101 = .ok (.goto 4, 3) := by decide +kernel
theorem dX10_towns_104 : decode cX10_towns 104 = .ok (.iconst 0, 1) := by decide +kernel
theorem dX10_towns_105 : decode cX10_towns 105 = .ok (.iadd, 1) := by decide +kernel
theorem dX10_towns_106 : decode cX10_towns 106 = .ok (.istore 6, 2) := by decide +kernel
theorem dX10_towns_108 : decode cX10_towns 108 = .ok (.iinc 8 1, 3) := by decide +kernel
theorem dX10_towns_111 : decode cX10_towns 111 = .ok (.goto (-29), 3) := by decide +kernel
theorem dX10_towns_114 : decode cX10_towns 114 = .ok (.iinc 7 1, 3) := by decide +kernel
theorem dX10_towns_117 : decode cX10_towns 117 = .ok (.goto (-49), 3) := by decide +kernel
theorem dX10_towns_120 : decode cX10_towns 120 = .ok (.iconst 2, 1) := by decide +kernel
theorem dX10_towns_121 : decode cX10_towns 121 = .ok (.iload_n 2, 1) := by decide +kernel
theorem dX10_towns_122 : decode cX10_towns 122 = .ok (.imul, 1) := by decide +kernel
theorem dX10_towns_123 : decode cX10_towns 123 = .ok (.iconst 1, 1) := by decide +kernel
theorem dX10_towns_124 : decode cX10_towns 124 = .ok (.iadd, 1) := by decide +kernel
theorem dX10_towns_125 : decode cX10_towns 125 = .ok (.iconst 2, 1) := by decide +kernel
theorem dX10_towns_126 : decode cX10_towns 126 = .ok (.iload 4, 2) := by decide +kernel
theorem dX10_towns_128 : decode cX10_towns 128 = .ok (.imul, 1) := by decide +kernel
theorem dX10_towns_129 : decode cX10_towns 129 = .ok (.iconst 1, 1) := by decide +kernel
theorem dX10_towns_130 : decode cX10_towns 130 = .ok (.iadd, 1) := by decide +kernel
theorem dX10_towns_131 : decode cX10_towns 131 = .ok (.imul, 1) := by decide +kernel
theorem dX10_towns_132 : decode cX10_towns 132 = .ok (.istore 7, 2) := by decide +kernel
theorem dX10_towns_134 : decode cX10_towns 134 = .ok (.iload 6, 2) := by decide +kernel
theorem dX10_towns_136 : decode cX10_towns 136 = .ok (.i2l, 1) := by decide +kernel
theorem dX10_towns_137 : decode cX10_towns 137 = .ok (.iload 7, 2) := by decide +kernel
theorem dX10_towns_139 : decode cX10_towns 139 = .ok (.i2l, 1) := by decide +kernel
theorem dX10_towns_140 : decode cX10_towns 140 = .ok (.invokestatic 209, 3) := by decide +kernel
theorem dX10_towns_143 : decode cX10_towns 143 = .ok (.l2i, 1) := by decide +kernel
theorem dX10_towns_144 : decode cX10_towns 144 = .ok (.istore 8, 2) := by decide +kernel
theorem dX10_towns_146 : decode cX10_towns 146 = .ok (.iload 5, 2) := by decide +kernel
theorem dX10_towns_148 : decode cX10_towns 148 = .ok (.ifCond .ne 11, 3) := by decide +kernel
theorem dX10_towns_151 : decode cX10_towns 151 = .ok (.iload 6, 2) := by decide +kernel
theorem dX10_towns_153 : decode cX10_towns 153 = .ok (.iload 8, 2) := by decide +kernel
theorem dX10_towns_155 : decode cX10_towns 155 = .ok (.idiv, 1) := by decide +kernel
theorem dX10_towns_156 : decode cX10_towns 156 = .ok (.goto 8, 3) := by decide +kernel
theorem dX10_towns_159 : decode cX10_towns 159 = .ok (.iload 7, 2) := by decide +kernel
theorem dX10_towns_161 : decode cX10_towns 161 = .ok (.iload 8, 2) := by decide +kernel
theorem dX10_towns_163 : decode cX10_towns 163 = .ok (.idiv, 1) := by decide +kernel
theorem dX10_towns_164 : decode cX10_towns 164 = .ok (.ireturn, 1) := by decide +kernel
set_option maxRecDepth 20000 in
theorem ggX10_rate_X10_in : GoodIn wsX10_rate wsX10_in := goodIn_r _ [13] (by decide +kernel) (by decide +kernel)
set_option maxRecDepth 20000 in
theorem gX10_rate_X10_in : GoodIn wsX10_rate (va_wsS RX10 61 yX10_in wsX10_in) := goodIn_app (goodIn_of _ (by decide +kernel)) ggX10_rate_X10_in
theorem dX10_rate_0 : decode cX10_rate 0 = .ok (.aload_n 0, 1) := by decide +kernel
theorem dX10_rate_1 : decode cX10_rate 1 = .ok (.iconst 0, 1) := by decide +kernel
theorem dX10_rate_2 : decode cX10_rate 2 = .ok (.putfield 58, 3) := by decide +kernel
theorem dX10_rate_5 : decode cX10_rate 5 = .ok (.iload_n 1, 1) := by decide +kernel
theorem dX10_rate_6 : decode cX10_rate 6 = .ok (.iconst 0, 1) := by decide +kernel
theorem dX10_rate_7 : decode cX10_rate 7 = .ok (.iconst 5, 1) := by decide +kernel
theorem dX10_rate_8 : decode cX10_rate 8 = .ok (.invokestatic 61, 3) := by decide +kernel
theorem dX10_rate_11 : decode cX10_rate 11 = .ok (.ifCond .eq 22, 3) := by decide +kernel
theorem dX10_rate_14 : decode cX10_rate 14 = .ok (.iload_n 2, 1) := by decide +kernel
theorem dX10_rate_15 : decode cX10_rate 15 = .ok (.iconst 1, 1) := by decide +kernel
theorem dX10_rate_16 : decode cX10_rate 16 = .ok (.iconst 4, 1) := by decide +kernel
theorem dX10_rate_17 : decode cX10_rate 17 = .ok (.invokestatic 61, 3) := by decide +kernel
theorem dX10_rate_20 : decode cX10_rate 20 = .ok (.ifCond .eq 13, 3) := by decide +kernel
theorem dX10_rate_23 : decode cX10_rate 23 = .ok (.iload_n 3, 1) := by decide +kernel
theorem dX10_rate_24 : decode cX10_rate 24 = .ok (.iconst 0, 1) := by decide +kernel
theorem dX10_rate_25 : decode cX10_rate 25 = .ok (.bipush 7, 2) := by decide +kernel
theorem dX10_rate_27 : decode cX10_rate 27 = .ok (.invokestatic 61, 3) := by decide +kernel
theorem dX10_rate_30 : decode cX10_rate 30 = .ok (.ifCond .ne 6, 3) := by decide +kernel
theorem dX10_rate_33 : decode cX10_rate 33 = .ok (.ldc 166, 2) := by decide +kernel
theorem dX10_rate_35 : decode cX10_rate 35 = .ok (.ireturn, 1) := by decide +kernel
theorem dX10_rate_36 : decode cX10_rate 36 = .ok (.iconst 2, 1) := by decide +kernel
theorem dX10_rate_37 : decode cX10_rate 37 = .ok (.iload_n 2, 1) := by decide +kernel
theorem dX10_rate_38 : decode cX10_rate 38 = .ok (.imul, 1) := by decide +kernel
theorem dX10_rate_39 : decode cX10_rate 39 = .ok (.istore 4, 2) := by decide +kernel
theorem dX10_rate_41 : decode cX10_rate 41 = .ok (.aload_n 0, 1) := by decide +kernel
theorem dX10_rate_42 : decode cX10_rate 42 = .ok (.dup, 1) := by decide +kernel
theorem dX10_rate_43 : decode cX10_rate 43 = .ok (.getfield 218, 3) := by decide +kernel
theorem dX10_rate_46 : decode cX10_rate 46 = .ok (.iload_n 1, 1) := by decide +kernel
theorem dX10_rate_47 : decode cX10_rate 47 = .ok (.ifCond .ne 7, 3) := by decide +kernel
theorem dX10_rate_50 : decode cX10_rate 50 = .ok (.lconst 1, 1) := by decide +kernel
theorem dX10_rate_51 : decode cX10_rate 51 = .ok (.goto 50, 3) := by decide +kernel
theorem dX10_rate_54 : decode cX10_rate 54 = .ok (.iload_n 1, 1) := by decide +kernel
theorem dX10_rate_55 : decode cX10_rate 55 = .ok (.iconst 1, 1) := by decide +kernel
theorem dX10_rate_56 : decode cX10_rate 56 = .ok (.if_icmp .ne 9, 3) := by decide +kernel
theorem dX10_rate_59 : decode cX10_rate 59 = .ok (.ldc2_w 222, 3) := by decide +kernel
theorem dX10_rate_62 : decode cX10_rate 62 = .ok (.goto 39, 3) := by decide +kernel
theorem dX10_rate_65 : decode cX10_rate 65 = .ok (.iload_n 1, 1) := by decide +kernel
theorem dX10_rate_66 : decode cX10_rate 66 = .ok (.iconst 2, 1) := by decide +kernel
theorem dX10_rate_67 : decode cX10_rate 67 = .ok (.if_icmp .ne 9, 3) := by decide +kernel
theorem dX10_rate_70 : decode cX10_rate 70 = .ok (.ldc2_w 224, 3) := by decide +kernel
theorem dX10_rate_73 : decode cX10_rate 73 = .ok (.goto 28, 3) := by decide +kernel
theorem dX10_rate_76 : decode cX10_rate 76 = .ok (.iload_n 1, 1) := by decide +kernel
theorem dX10_rate_77 : decode cX10_rate 77 = .ok (.iconst 3, 1) := by decide +kernel
theorem dX10_rate_78 : decode cX10_rate 78 = .ok (.if_icmp .ne 9, 3) := by decide +kernel
theorem dX10_rate_81 : decode cX10_rate 81 = .ok (.ldc2_w 226, 3) := by decide +kernel
theorem dX10_rate_84 : decode cX10_rate 84 = .ok (.goto 17, 3) := by decide +kernel
theorem dX10_rate_87 : decode cX10_rate 87 = .ok (.iload_n 1, 1) := by decide +kernel
theorem dX10_rate_88 : decode cX10_rate 88 = .ok (.iconst 4, 1) := by decide +kernel
theorem dX10_rate_89 : decode cX10_rate 89 = .ok (.if_icmp .ne 9, 3) := by decide +kernel
theorem dX10_rate_92 : decode cX10_rate 92 = .ok (.ldc2_w 228, 3) := by decide +kernel
theorem dX10_rate_95 : decode cX10_rate 95 = .ok (.goto 6, 3) := by decide +kernel
theorem dX10_rate_98 : decode cX10_rate 98 = .ok (.ldc2_w 230, 3) := by decide +kernel
theorem dX10_rate_101 : decode cX10_rate 101 = .ok (.ladd, 1) := by decide +kernel
theorem dX10_rate_102 : decode cX10_rate 102 = .ok (.putfield 218, 3) := by decide +kernel
theorem dX10_rate_105 : decode cX10_rate 105 = .ok (.iload_n 1, 1) := by decide +kernel
theorem dX10_rate_106 : decode cX10_rate 106 = .ok (.ifCond .ne 8, 3) := by decide +kernel
theorem dX10_rate_109 : decode cX10_rate 109 = .ok (.iload 4, 2) := by decide +kernel
theorem dX10_rate_111 : decode cX10_rate 111 = .ok (.goto 74, 3) := by decide +kernel
theorem dX10_rate_114 : decode cX10_rate 114 = .ok (.iload_n 1, 1) := by decide +kernel
theorem dX10_rate_115 : decode cX10_rate 115 = .ok (.iconst 1, 1) := by decide +kernel
theorem dX10_rate_116 : decode cX10_rate 116 = .ok (.if_icmp .ne 12, 3) := by decide +kernel
theorem dX10_rate_119 : decode cX10_rate 119 = .ok (.iload 4, 2) := by decide +kernel
theorem dX10_rate_121 : decode cX10_rate 121 = .ok (.iload_n 3, 1) := by decide +kernel
theorem dX10_rate_122 : decode cX10_rate 122 = .ok (.iload_n 2, 1) := by decide +kernel
theorem dX10_rate_123 : decode cX10_rate 123 = .ok (.imul, 1) := by decide +kernel
theorem dX10_rate_124 : decode cX10_rate 124 = .ok (.iadd, 1) := by decide +kernel
theorem dX10_rate_125 : decode cX10_rate 125 = .ok (.goto 60, 3) := by decide +kernel
theorem dX10_rate_128 : decode cX10_rate 128 = .ok (.iload_n 1, 1) := by decide +kernel
theorem dX10_rate_129 : decode cX10_rate 129 = .ok (.iconst 2, 1) := by decide +kernel
theorem dX10_rate_130 : decode cX10_rate 130 = .ok (.if_icmp .ne 10, 3) := by decide +kernel
theorem dX10_rate_133 : decode cX10_rate 133 = .ok (.iload 4, 2) := by decide +kernel
theorem dX10_rate_135 : decode cX10_rate 135 = .ok (.iload_n 3, 1) := by decide +kernel
theorem dX10_rate_136 : decode cX10_rate 136 = .ok (.isub, 1) := by decide +kernel
theorem dX10_rate_137 : decode cX10_rate 137 = .ok (.goto 48, 3) := by decide +kernel
theorem dX10_rate_140 : decode cX10_rate 140 = .ok (.iload_n 1, 1) := by decide +kernel
theorem dX10_rate_141 : decode cX10_rate 141 = .ok (.iconst 3, 1) := by decide +kernel
theorem dX10_rate_142 : decode cX10_rate 142 = .ok (.if_icmp .ne 14, 3) := by decide +kernel
theorem dX10_rate_145 : decode cX10_rate 145 = .ok (.iconst 2, 1) := by decide +kernel
theorem dX10_rate_146 : decode cX10_rate 146 = .ok (.iload 4, 2) := by decide +kernel
theorem dX10_rate_148 : decode cX10_rate 148 = .ok (.iload_n 3, 1) := by decide +kernel
theorem dX10_rate_149 : decode cX10_rate 149 = .ok (.iload_n 2, 1) := by decide +kernel
theorem dX10_rate_150 : decode cX10_rate 150 = .ok (.imul, 1) := by decide +kernel
theorem dX10_rate_151 : decode cX10_rate 151 = .ok (.iadd, 1) := by decide +kernel
theorem dX10_rate_152 : decode cX10_rate 152 = .ok (.imul, 1) := by decide +kernel
theorem dX10_rate_153 : decode cX10_rate 153 = .ok (.goto 32, 3) := by decide +kernel
theorem dX10_rate_156 : decode cX10_rate 156 = .ok (.iload_n 1, 1) := by decide +kernel
theorem dX10_rate_157 : decode cX10_rate 157 = .ok (.iconst 4, 1) := by decide +kernel
theorem dX10_rate_158 : decode cX10_rate 158 = .ok (.if_icmp .ne 18, 3) := by decide +kernel
theorem dX10_rate_161 : decode cX10_rate 161 = .ok (.iload 4, 2) := by decide +kernel
theorem dX10_rate_163 : decode cX10_rate 163 = .ok (.iload_n 3, 1) := by decide +kernel
theorem dX10_rate_164 : decode cX10_rate 164 = .ok (.isub, 1) := by decide +kernel
theorem dX10_rate_165 : decode cX10_rate 165 = .ok (.aload_n 0, 1) := by decide +kernel
theorem dX10_rate_166 : decode cX10_rate 166 = .ok (.getfield 25, 3) := by decide +kernel
theorem dX10_rate_169 : decode cX10_rate 169 = .ok (.bipush 6, 2) := by decide +kernel
theorem dX10_rate_171 : decode cX10_rate 171 = .ok (.iaload, 1) := by decide +kernel
theorem dX10_rate_172 : decode cX10_rate 172 = .ok (.iadd, 1) := by decide +kernel
theorem dX10_rate_173 : decode cX10_rate 173 = .ok (.goto 12, 3) := by decide +kernel
theorem dX10_rate_176 : decode cX10_rate 176 = .ok (.iload 4, 2) := by decide +kernel
theorem dX10_rate_178 : decode cX10_rate 178 = .ok (.aload_n 0, 1) := by decide +kernel
theorem dX10_rate_179 : decode cX10_rate 179 = .ok (.getfield 25, 3) := by decide +kernel
theorem dX10_rate_182 : decode cX10_rate 182 = .ok (.iconst 4, 1) := by decide +kernel
theorem dX10_rate_183 : decode cX10_rate 183 = .ok (.iaload, 1) := by decide +kernel
theorem dX10_rate_184 : decode cX10_rate 184 = .ok (.isub, 1) := by decide +kernel
theorem dX10_rate_185 : decode cX10_rate 185 = .ok (.ireturn, 1) := by decide +kernel
set_option maxRecDepth 20000 in
theorem ggX10_manyHome_X10_isHome : GoodIn wsX10_manyHome wsX10_isHome := goodIn_r _ [6, 7, 8, 9, 10, 11, 12, 13, 14, 15, 16, 17, 18, 19, 20, 21, 22, 23, 24, 25, 26, 27, 28, 29, 30, 31, 32, 33, 34, 35, 36, 37, 38, 39, 40] (by decide +kernel) (by decide +kernel)
set_option maxRecDepth 20000 in
theorem gX10_manyHome_X10_isHome : GoodIn wsX10_manyHome (wsV RX10 150 RX10 yX10_isHome wsX10_isHome) := goodIn_app (goodIn_of _ (by decide +kernel)) ggX10_manyHome_X10_isHome
theorem dX10_manyHome_0 : decode cX10_manyHome 0 = .ok (.iconst 0, 1) := by decide +kernel
theorem dX10_manyHome_1 : decode cX10_manyHome 1 = .ok (.istore_n 1, 1) := by decide +kernel
theorem dX10_manyHome_2 : decode cX10_manyHome 2 = .ok (.iconst 0, 1) := by decide +kernel
theorem dX10_manyHome_3 : decode cX10_manyHome 3 = .ok (.istore_n 2, 1) := by decide +kernel
theorem dX10_manyHome_4 : decode cX10_manyHome 4 = .ok (.iload_n 2, 1) := by decide +kernel
theorem dX10_manyHome_5 : decode cX10_manyHome 5 = .ok (.aload_n 0, 1) := by decide +kernel
theorem dX10_manyHome_6 : decode cX10_manyHome 6 = .ok (.getfield 135, 3) := by decide +kernel
theorem dX10_manyHome_9 : decode cX10_manyHome 9 = .ok (.if_icmp .ge 25, 3) := by decide +kernel
theorem dX10_manyHome_12 : decode cX10_manyHome 12 = .ok (.iload_n 1, 1) := by decide +kernel
theorem dX10_manyHome_13 : decode cX10_manyHome 13 = .ok (.aload_n 0, 1) := by decide +kernel
theorem dX10_manyHome_14 : decode cX10_manyHome 14 = .ok (.iload_n 2, 1) := by decide +kernel
theorem dX10_manyHome_15 : decode cX10_manyHome 15 = .ok (.invokevirtual 150, 3) := by decide +kernel
theorem dX10_manyHome_18 : decode cX10_manyHome 18 = .ok (.ifCond .eq 7, 3) := by decide +kernel
theorem dX10_manyHome_21 : decode cX10_manyHome 21 = .ok (.iconst 1, 1) := by decide +kernel
theorem dX10_manyHome_22 : decode cX10_manyHome 22 = .ok (.goto 4, 3) := by decide +kernel
theorem dX10_manyHome_25 : decode cX10_manyHome 25 = .ok (.iconst 0, 1) := by decide +kernel
theorem dX10_manyHome_26 : decode cX10_manyHome 26 = .ok (.iadd, 1) := by decide +kernel
theorem dX10_manyHome_27 : decode cX10_manyHome 27 = .ok (.istore_n 1, 1) := by decide +kernel
theorem dX10_manyHome_28 : decode cX10_manyHome 28 = .ok (.iinc 2 1, 3) := by decide +kernel
theorem dX10_manyHome_31 : decode cX10_manyHome 31 = .ok (.goto (-27), 3) := by decide +kernel
theorem dX10_manyHome_34 : decode cX10_manyHome 34 = .ok (.iload_n 1, 1) := by decide +kernel
theorem dX10_manyHome_35 : decode cX10_manyHome 35 = .ok (.ireturn, 1) := by decide +kernel
set_option maxRecDepth 20000 in
theorem ggX10_keep_X10_in : GoodIn wsX10_keep wsX10_in := goodIn_r _ [8] (by decide +kernel) (by decide +kernel)
set_option maxRecDepth 20000 in
theorem gX10_keep_X10_in : GoodIn wsX10_keep (va_wsS RX10 61 yX10_in wsX10_in) := goodIn_app (goodIn_of _ (by decide +kernel)) ggX10_keep_X10_in
set_option maxRecDepth 20000 in
theorem ggX10_keep_X10_manyHome : GoodIn wsX10_keep wsX10_manyHome := goodIn_r _ [12, 13, 14, 15, 16, 7, 17, 3, 18, 19, 20, 21, 22, 23, 24, 25, 26, 27, 28, 29, 30, 31, 32, 33, 34, 35, 36, 37, 38, 39, 40, 41, 42, 43, 44, 45, 46, 47, 48, 49, 50] (by decide +kernel) (by decide +kernel)
set_option maxRecDepth 20000 in
theorem gX10_keep_X10_manyHome : GoodIn wsX10_keep (wsV RX10 232 RX10 yX10_manyHome wsX10_manyHome) := goodIn_app (goodIn_of _ (by decide +kernel)) ggX10_keep_X10_manyHome
theorem dX10_keep_0 : decode cX10_keep 0 = .ok (.aload_n 0, 1) := by decide +kernel
theorem dX10_keep_1 : decode cX10_keep 1 = .ok (.iconst 0, 1) := by decide +kernel
theorem dX10_keep_2 : decode cX10_keep 2 = .ok (.putfield 58, 3) := by decide +kernel
theorem dX10_keep_5 : decode cX10_keep 5 = .ok (.iload_n 1, 1) := by decide +kernel
theorem dX10_keep_6 : decode cX10_keep 6 = .ok (.iconst 0, 1) := by decide +kernel
theorem dX10_keep_7 : decode cX10_keep 7 = .ok (.iconst 1, 1) := by decide +kernel
theorem dX10_keep_8 : decode cX10_keep 8 = .ok (.invokestatic 61, 3) := by decide +kernel
theorem dX10_keep_11 : decode cX10_keep 11 = .ok (.ifCond .ne 5, 3) := by decide +kernel
theorem dX10_keep_14 : decode cX10_keep 14 = .ok (.iconst (-1), 1) := by decide +kernel
theorem dX10_keep_15 : decode cX10_keep 15 = .ok (.ireturn, 1) := by decide +kernel
theorem dX10_keep_16 : decode cX10_keep 16 = .ok (.iconst 0, 1) := by decide +kernel
theorem dX10_keep_17 : decode cX10_keep 17 = .ok (.istore_n 2, 1) := by decide +kernel
theorem dX10_keep_18 : decode cX10_keep 18 = .ok (.iload_n 2, 1) := by decide +kernel
theorem dX10_keep_19 : decode cX10_keep 19 = .ok (.bipush 10, 2) := by decide +kernel
theorem dX10_keep_21 : decode cX10_keep 21 = .ok (.if_icmp .ge 26, 3) := by decide +kernel
theorem dX10_keep_24 : decode cX10_keep 24 = .ok (.aload_n 0, 1) := by decide +kernel
theorem dX10_keep_25 : decode cX10_keep 25 = .ok (.getfield 31, 3) := by decide +kernel
theorem dX10_keep_28 : decode cX10_keep 28 = .ok (.bipush 10, 2) := by decide +kernel
theorem dX10_keep_30 : decode cX10_keep 30 = .ok (.iload_n 1, 1) := by decide +kernel
theorem dX10_keep_31 : decode cX10_keep 31 = .ok (.imul, 1) := by decide +kernel
theorem dX10_keep_32 : decode cX10_keep 32 = .ok (.iload_n 2, 1) := by decide +kernel
theorem dX10_keep_33 : decode cX10_keep 33 = .ok (.iadd, 1) := by decide +kernel
theorem dX10_keep_34 : decode cX10_keep 34 = .ok (.aload_n 0, 1) := by decide +kernel
theorem dX10_keep_35 : decode cX10_keep 35 = .ok (.getfield 28, 3) := by decide +kernel
theorem dX10_keep_38 : decode cX10_keep 38 = .ok (.iload_n 2, 1) := by decide +kernel
theorem dX10_keep_39 : decode cX10_keep 39 = .ok (.iaload, 1) := by decide +kernel
theorem dX10_keep_40 : decode cX10_keep 40 = .ok (.iastore, 1) := by decide +kernel
theorem dX10_keep_41 : decode cX10_keep 41 = .ok (.iinc 2 1, 3) := by decide +kernel
theorem dX10_keep_44 : decode cX10_keep 44 = .ok (.goto (-26), 3) := by decide +kernel
theorem dX10_keep_47 : decode cX10_keep 47 = .ok (.aload_n 0, 1) := by decide +kernel
theorem dX10_keep_48 : decode cX10_keep 48 = .ok (.getfield 34, 3) := by decide +kernel
theorem dX10_keep_51 : decode cX10_keep 51 = .ok (.iload_n 1, 1) := by decide +kernel
theorem dX10_keep_52 : decode cX10_keep 52 = .ok (.iconst 1, 1) := by decide +kernel
theorem dX10_keep_53 : decode cX10_keep 53 = .ok (.bastore, 1) := by decide +kernel
theorem dX10_keep_54 : decode cX10_keep 54 = .ok (.aload_n 0, 1) := by decide +kernel
theorem dX10_keep_55 : decode cX10_keep 55 = .ok (.invokevirtual 232, 3) := by decide +kernel
theorem dX10_keep_58 : decode cX10_keep 58 = .ok (.ireturn, 1) := by decide +kernel
set_option maxRecDepth 20000 in
theorem ggX10_back_X10_in : GoodIn wsX10_back wsX10_in := goodIn_r _ [9] (by decide +kernel) (by decide +kernel)
set_option maxRecDepth 20000 in
theorem gX10_back_X10_in : GoodIn wsX10_back (va_wsS RX10 61 yX10_in wsX10_in) := goodIn_app (goodIn_of _ (by decide +kernel)) ggX10_back_X10_in
set_option maxRecDepth 20000 in
theorem ggX10_back_X10_manyHome : GoodIn wsX10_back wsX10_manyHome := goodIn_r _ [13, 14, 15, 16, 17, 8, 18, 3, 19, 20, 21, 22, 23, 24, 25, 26, 27, 28, 29, 30, 31, 32, 33, 34, 35, 36, 37, 38, 39, 40, 41, 42, 43, 44, 45, 46, 47, 48, 49, 50, 51] (by decide +kernel) (by decide +kernel)
set_option maxRecDepth 20000 in
theorem gX10_back_X10_manyHome : GoodIn wsX10_back (wsV RX10 232 RX10 yX10_manyHome wsX10_manyHome) := goodIn_app (goodIn_of _ (by decide +kernel)) ggX10_back_X10_manyHome
theorem dX10_back_0 : decode cX10_back 0 = .ok (.aload_n 0, 1) := by decide +kernel
theorem dX10_back_1 : decode cX10_back 1 = .ok (.iconst 0, 1) := by decide +kernel
theorem dX10_back_2 : decode cX10_back 2 = .ok (.putfield 58, 3) := by decide +kernel
theorem dX10_back_5 : decode cX10_back 5 = .ok (.iload_n 1, 1) := by decide +kernel
theorem dX10_back_6 : decode cX10_back 6 = .ok (.iconst 0, 1) := by decide +kernel
theorem dX10_back_7 : decode cX10_back 7 = .ok (.iconst 1, 1) := by decide +kernel
theorem dX10_back_8 : decode cX10_back 8 = .ok (.invokestatic 61, 3) := by decide +kernel
theorem dX10_back_11 : decode cX10_back 11 = .ok (.ifCond .ne 5, 3) := by decide +kernel
theorem dX10_back_14 : decode cX10_back 14 = .ok (.iconst (-1), 1) := by decide +kernel
theorem dX10_back_15 : decode cX10_back 15 = .ok (.ireturn, 1) := by decide +kernel
theorem dX10_back_16 : decode cX10_back 16 = .ok (.aload_n 0, 1) := by decide +kernel
theorem dX10_back_17 : decode cX10_back 17 = .ok (.getfield 34, 3) := by decide +kernel
theorem dX10_back_20 : decode cX10_back 20 = .ok (.iload_n 1, 1) := by decide +kernel
theorem dX10_back_21 : decode cX10_back 21 = .ok (.baload, 1) := by decide +kernel
theorem dX10_back_22 : decode cX10_back 22 = .ok (.ifCond .ne 6, 3) := by decide +kernel
theorem dX10_back_25 : decode cX10_back 25 = .ok (.bipush (-2), 2) := by decide +kernel
theorem dX10_back_27 : decode cX10_back 27 = .ok (.ireturn, 1) := by decide +kernel
theorem dX10_back_28 : decode cX10_back 28 = .ok (.iconst 0, 1) := by decide +kernel
theorem dX10_back_29 : decode cX10_back 29 = .ok (.istore_n 2, 1) := by decide +kernel
theorem dX10_back_30 : decode cX10_back 30 = .ok (.iload_n 2, 1) := by decide +kernel
theorem dX10_back_31 : decode cX10_back 31 = .ok (.bipush 10, 2) := by decide +kernel
theorem dX10_back_33 : decode cX10_back 33 = .ok (.if_icmp .ge 26, 3) := by decide +kernel
theorem dX10_back_36 : decode cX10_back 36 = .ok (.aload_n 0, 1) := by decide +kernel
theorem dX10_back_37 : decode cX10_back 37 = .ok (.getfield 28, 3) := by decide +kernel
theorem dX10_back_40 : decode cX10_back 40 = .ok (.iload_n 2, 1) := by decide +kernel
theorem dX10_back_41 : decode cX10_back 41 = .ok (.aload_n 0, 1) := by decide +kernel
theorem dX10_back_42 : decode cX10_back 42 = .ok (.getfield 31, 3) := by decide +kernel
theorem dX10_back_45 : decode cX10_back 45 = .ok (.bipush 10, 2) := by decide +kernel
theorem dX10_back_47 : decode cX10_back 47 = .ok (.iload_n 1, 1) := by decide +kernel
theorem dX10_back_48 : decode cX10_back 48 = .ok (.imul, 1) := by decide +kernel
theorem dX10_back_49 : decode cX10_back 49 = .ok (.iload_n 2, 1) := by decide +kernel
theorem dX10_back_50 : decode cX10_back 50 = .ok (.iadd, 1) := by decide +kernel
theorem dX10_back_51 : decode cX10_back 51 = .ok (.iaload, 1) := by decide +kernel
theorem dX10_back_52 : decode cX10_back 52 = .ok (.iastore, 1) := by decide +kernel
theorem dX10_back_53 : decode cX10_back 53 = .ok (.iinc 2 1, 3) := by decide +kernel
theorem dX10_back_56 : decode cX10_back 56 = .ok (.goto (-26), 3) := by decide +kernel
theorem dX10_back_59 : decode cX10_back 59 = .ok (.aload_n 0, 1) := by decide +kernel
theorem dX10_back_60 : decode cX10_back 60 = .ok (.iconst 0, 1) := by decide +kernel
theorem dX10_back_61 : decode cX10_back 61 = .ok (.putfield 138, 3) := by decide +kernel
theorem dX10_back_64 : decode cX10_back 64 = .ok (.aload_n 0, 1) := by decide +kernel
theorem dX10_back_65 : decode cX10_back 65 = .ok (.invokevirtual 232, 3) := by decide +kernel
theorem dX10_back_68 : decode cX10_back 68 = .ok (.ireturn, 1) := by decide +kernel
theorem dX10_count_0 : decode cX10_count 0 = .ok (.aload_n 0, 1) := by decide +kernel
theorem dX10_count_1 : decode cX10_count 1 = .ok (.iconst 0, 1) := by decide +kernel
theorem dX10_count_2 : decode cX10_count 2 = .ok (.putfield 58, 3) := by decide +kernel
theorem dX10_count_5 : decode cX10_count 5 = .ok (.iload_n 1, 1) := by decide +kernel
theorem dX10_count_6 : decode cX10_count 6 = .ok (.ifCond .ne 10, 3) := by decide +kernel
theorem dX10_count_9 : decode cX10_count 9 = .ok (.aload_n 0, 1) := by decide +kernel
theorem dX10_count_10 : decode cX10_count 10 = .ok (.getfield 135, 3) := by decide +kernel
theorem dX10_count_13 : decode cX10_count 13 = .ok (.goto 40, 3) := by decide +kernel
theorem dX10_count_16 : decode cX10_count 16 = .ok (.iload_n 1, 1) := by decide +kernel
theorem dX10_count_17 : decode cX10_count 17 = .ok (.iconst 1, 1) := by decide +kernel
theorem dX10_count_18 : decode cX10_count 18 = .ok (.if_icmp .ne 10, 3) := by decide +kernel
theorem dX10_count_21 : decode cX10_count 21 = .ok (.aload_n 0, 1) := by decide +kernel
theorem dX10_count_22 : decode cX10_count 22 = .ok (.getfield 141, 3) := by decide +kernel
theorem dX10_count_25 : decode cX10_count 25 = .ok (.goto 28, 3) := by decide +kernel
theorem dX10_count_28 : decode cX10_count 28 = .ok (.iload_n 1, 1) := by decide +kernel
theorem dX10_count_29 : decode cX10_count 29 = .ok (.iconst 2, 1) := by decide +kernel
theorem dX10_count_30 : decode cX10_count 30 = .ok (.if_icmp .ne 10, 3) := by decide +kernel
theorem dX10_count_33 : decode cX10_count 33 = .ok (.aload_n 0, 1) := by decide +kernel
theorem dX10_count_34 : decode cX10_count 34 = .ok (.getfield 138, 3) := by decide +kernel
theorem dX10_count_37 : decode cX10_count 37 = .ok (.goto 16, 3) := by decide +kernel
theorem dX10_count_40 : decode cX10_count 40 = .ok (.iload_n 1, 1) := by decide +kernel
theorem dX10_count_41 : decode cX10_count 41 = .ok (.iconst 3, 1) := by decide +kernel
theorem dX10_count_42 : decode cX10_count 42 = .ok (.if_icmp .ne 10, 3) := by decide +kernel
theorem dX10_count_45 : decode cX10_count 45 = .ok (.aload_n 0, 1) := by decide +kernel
theorem dX10_count_46 : decode cX10_count 46 = .ok (.getfield 65, 3) := by decide +kernel
theorem dX10_count_49 : decode cX10_count 49 = .ok (.goto 4, 3) := by decide +kernel
theorem dX10_count_52 : decode cX10_count 52 = .ok (.iconst (-1), 1) := by decide +kernel
theorem dX10_count_53 : decode cX10_count 53 = .ok (.ireturn, 1) := by decide +kernel
theorem dX10_trace_0 : decode cX10_trace 0 = .ok (.aload_n 0, 1) := by decide +kernel
theorem dX10_trace_1 : decode cX10_trace 1 = .ok (.iconst 0, 1) := by decide +kernel
theorem dX10_trace_2 : decode cX10_trace 2 = .ok (.putfield 58, 3) := by decide +kernel
theorem dX10_trace_5 : decode cX10_trace 5 = .ok (.aload_n 0, 1) := by decide +kernel
theorem dX10_trace_6 : decode cX10_trace 6 = .ok (.getfield 218, 3) := by decide +kernel
theorem dX10_trace_9 : decode cX10_trace 9 = .ok (.lreturn, 1) := by decide +kernel
theorem dJ6_bitCount_0f7a4_0 : decode cJ6_bitCount_0f7a4 0 = .ok (.iload_n 0, 1) := by decide +kernel
theorem dJ6_bitCount_0f7a4_1 : decode cJ6_bitCount_0f7a4 1 = .ok (.iload_n 0, 1) := by decide +kernel
theorem dJ6_bitCount_0f7a4_2 : decode cJ6_bitCount_0f7a4 2 = .ok (.iconst 1, 1) := by decide +kernel
theorem dJ6_bitCount_0f7a4_3 : decode cJ6_bitCount_0f7a4 3 = .ok (.iushr, 1) := by decide +kernel
theorem dJ6_bitCount_0f7a4_4 : decode cJ6_bitCount_0f7a4 4 = .ok (.ldc_w 265, 3) := by decide +kernel
theorem dJ6_bitCount_0f7a4_7 : decode cJ6_bitCount_0f7a4 7 = .ok (.iand, 1) := by decide +kernel
theorem dJ6_bitCount_0f7a4_8 : decode cJ6_bitCount_0f7a4 8 = .ok (.isub, 1) := by decide +kernel
theorem dJ6_bitCount_0f7a4_9 : decode cJ6_bitCount_0f7a4 9 = .ok (.istore_n 0, 1) := by decide +kernel
theorem dJ6_bitCount_0f7a4_10 : decode cJ6_bitCount_0f7a4 10 = .ok (.iload_n 0, 1) := by decide +kernel
theorem dJ6_bitCount_0f7a4_11 : decode cJ6_bitCount_0f7a4 11 = .ok (.ldc_w 266, 3) := by decide +kernel
theorem dJ6_bitCount_0f7a4_14 : decode cJ6_bitCount_0f7a4 14 = .ok (.iand, 1) := by decide +kernel
theorem dJ6_bitCount_0f7a4_15 : decode cJ6_bitCount_0f7a4 15 = .ok (.iload_n 0, 1) := by decide +kernel
theorem dJ6_bitCount_0f7a4_16 : decode cJ6_bitCount_0f7a4 16 = .ok (.iconst 2, 1) := by decide +kernel
theorem dJ6_bitCount_0f7a4_17 : decode cJ6_bitCount_0f7a4 17 = .ok (.iushr, 1) := by decide +kernel
theorem dJ6_bitCount_0f7a4_18 : decode cJ6_bitCount_0f7a4 18 = .ok (.ldc_w 266, 3) := by decide +kernel
theorem dJ6_bitCount_0f7a4_21 : decode cJ6_bitCount_0f7a4 21 = .ok (.iand, 1) := by decide +kernel
theorem dJ6_bitCount_0f7a4_22 : decode cJ6_bitCount_0f7a4 22 = .ok (.iadd, 1) := by decide +kernel
theorem dJ6_bitCount_0f7a4_23 : decode cJ6_bitCount_0f7a4 23 = .ok (.istore_n 0, 1) := by decide +kernel
theorem dJ6_bitCount_0f7a4_24 : decode cJ6_bitCount_0f7a4 24 = .ok (.iload_n 0, 1) := by decide +kernel
theorem dJ6_bitCount_0f7a4_25 : decode cJ6_bitCount_0f7a4 25 = .ok (.iload_n 0, 1) := by decide +kernel
theorem dJ6_bitCount_0f7a4_26 : decode cJ6_bitCount_0f7a4 26 = .ok (.iconst 4, 1) := by decide +kernel
theorem dJ6_bitCount_0f7a4_27 : decode cJ6_bitCount_0f7a4 27 = .ok (.iushr, 1) := by decide +kernel
theorem dJ6_bitCount_0f7a4_28 : decode cJ6_bitCount_0f7a4 28 = .ok (.iadd, 1) := by decide +kernel
theorem dJ6_bitCount_0f7a4_29 : decode cJ6_bitCount_0f7a4 29 = .ok (.ldc_w 267, 3) := by decide +kernel
theorem dJ6_bitCount_0f7a4_32 : decode cJ6_bitCount_0f7a4 32 = .ok (.iand, 1) := by decide +kernel
theorem dJ6_bitCount_0f7a4_33 : decode cJ6_bitCount_0f7a4 33 = .ok (.istore_n 0, 1) := by decide +kernel
theorem dJ6_bitCount_0f7a4_34 : decode cJ6_bitCount_0f7a4 34 = .ok (.iload_n 0, 1) := by decide +kernel
theorem dJ6_bitCount_0f7a4_35 : decode cJ6_bitCount_0f7a4 35 = .ok (.iload_n 0, 1) := by decide +kernel
theorem dJ6_bitCount_0f7a4_36 : decode cJ6_bitCount_0f7a4 36 = .ok (.bipush 8, 2) := by decide +kernel
theorem dJ6_bitCount_0f7a4_38 : decode cJ6_bitCount_0f7a4 38 = .ok (.iushr, 1) := by decide +kernel
theorem dJ6_bitCount_0f7a4_39 : decode cJ6_bitCount_0f7a4 39 = .ok (.iadd, 1) := by decide +kernel
theorem dJ6_bitCount_0f7a4_40 : decode cJ6_bitCount_0f7a4 40 = .ok (.istore_n 0, 1) := by decide +kernel
theorem dJ6_bitCount_0f7a4_41 : decode cJ6_bitCount_0f7a4 41 = .ok (.iload_n 0, 1) := by decide +kernel
theorem dJ6_bitCount_0f7a4_42 : decode cJ6_bitCount_0f7a4 42 = .ok (.iload_n 0, 1) := by decide +kernel
theorem dJ6_bitCount_0f7a4_43 : decode cJ6_bitCount_0f7a4 43 = .ok (.bipush 16, 2) := by decide +kernel
theorem dJ6_bitCount_0f7a4_45 : decode cJ6_bitCount_0f7a4 45 = .ok (.iushr, 1) := by decide +kernel
theorem dJ6_bitCount_0f7a4_46 : decode cJ6_bitCount_0f7a4 46 = .ok (.iadd, 1) := by decide +kernel
theorem dJ6_bitCount_0f7a4_47 : decode cJ6_bitCount_0f7a4 47 = .ok (.istore_n 0, 1) := by decide +kernel
theorem dJ6_bitCount_0f7a4_48 : decode cJ6_bitCount_0f7a4 48 = .ok (.iload_n 0, 1) := by decide +kernel
theorem dJ6_bitCount_0f7a4_49 : decode cJ6_bitCount_0f7a4 49 = .ok (.bipush 63, 2) := by decide +kernel
theorem dJ6_bitCount_0f7a4_51 : decode cJ6_bitCount_0f7a4 51 = .ok (.iand, 1) := by decide +kernel
theorem dJ6_bitCount_0f7a4_52 : decode cJ6_bitCount_0f7a4 52 = .ok (.ireturn, 1) := by decide +kernel
theorem dJ9_abs_0f7a4_0 : decode cJ9_abs_0f7a4 0 = .ok (.iload_n 0, 1) := by decide +kernel
theorem dJ9_abs_0f7a4_1 : decode cJ9_abs_0f7a4 1 = .ok (.ifCond .ge 8, 3) := by decide +kernel
theorem dJ9_abs_0f7a4_4 : decode cJ9_abs_0f7a4 4 = .ok (.iload_n 0, 1) := by decide +kernel
theorem dJ9_abs_0f7a4_5 : decode cJ9_abs_0f7a4 5 = .ok (.ineg, 1) := by decide +kernel
theorem dJ9_abs_0f7a4_6 : decode cJ9_abs_0f7a4 6 = .ok (.goto 4, 3) := by decide +kernel
theorem dJ9_abs_0f7a4_9 : decode cJ9_abs_0f7a4 9 = .ok (.iload_n 0, 1) := by decide +kernel
theorem dJ9_abs_0f7a4_10 : decode cJ9_abs_0f7a4 10 = .ok (.ireturn, 1) := by decide +kernel
theorem dJ9_max_7cf53_0 : decode cJ9_max_7cf53 0 = .ok (.iload_n 0, 1) := by decide +kernel
theorem dJ9_max_7cf53_1 : decode cJ9_max_7cf53 1 = .ok (.iload_n 1, 1) := by decide +kernel
theorem dJ9_max_7cf53_2 : decode cJ9_max_7cf53 2 = .ok (.if_icmp .lt 7, 3) := by decide +kernel
theorem dJ9_max_7cf53_5 : decode cJ9_max_7cf53 5 = .ok (.iload_n 0, 1) := by decide +kernel
theorem dJ9_max_7cf53_6 : decode cJ9_max_7cf53 6 = .ok (.goto 4, 3) := by decide +kernel
theorem dJ9_max_7cf53_9 : decode cJ9_max_7cf53 9 = .ok (.iload_n 1, 1) := by decide +kernel
theorem dJ9_max_7cf53_10 : decode cJ9_max_7cf53 10 = .ok (.ireturn, 1) := by decide +kernel
theorem dJ9_max_f86c9_0 : decode cJ9_max_f86c9 0 = .ok (.lload_n 0, 1) := by decide +kernel
theorem dJ9_max_f86c9_1 : decode cJ9_max_f86c9 1 = .ok (.lload_n 2, 1) := by decide +kernel
theorem dJ9_max_f86c9_2 : decode cJ9_max_f86c9 2 = .ok (.lcmp, 1) := by decide +kernel
theorem dJ9_max_f86c9_3 : decode cJ9_max_f86c9 3 = .ok (.ifCond .lt 7, 3) := by decide +kernel
theorem dJ9_max_f86c9_6 : decode cJ9_max_f86c9 6 = .ok (.lload_n 0, 1) := by decide +kernel
theorem dJ9_max_f86c9_7 : decode cJ9_max_f86c9 7 = .ok (.goto 4, 3) := by decide +kernel
theorem dJ9_max_f86c9_10 : decode cJ9_max_f86c9 10 = .ok (.lload_n 2, 1) := by decide +kernel
theorem dJ9_max_f86c9_11 : decode cJ9_max_f86c9 11 = .ok (.lreturn, 1) := by decide +kernel
theorem dJ9_min_7cf53_0 : decode cJ9_min_7cf53 0 = .ok (.iload_n 0, 1) := by decide +kernel
theorem dJ9_min_7cf53_1 : decode cJ9_min_7cf53 1 = .ok (.iload_n 1, 1) := by decide +kernel
theorem dJ9_min_7cf53_2 : decode cJ9_min_7cf53 2 = .ok (.if_icmp .gt 7, 3) := by decide +kernel
theorem dJ9_min_7cf53_5 : decode cJ9_min_7cf53 5 = .ok (.iload_n 0, 1) := by decide +kernel
theorem dJ9_min_7cf53_6 : decode cJ9_min_7cf53 6 = .ok (.goto 4, 3) := by decide +kernel
theorem dJ9_min_7cf53_9 : decode cJ9_min_7cf53 9 = .ok (.iload_n 1, 1) := by decide +kernel
theorem dJ9_min_7cf53_10 : decode cJ9_min_7cf53 10 = .ok (.ireturn, 1) := by decide +kernel
set_option maxRecDepth 20000 in
theorem ggJ0_length_8abf5_J0_coder_7d493 : GoodIn wsJ0_length_8abf5 wsJ0_coder_7d493 := goodIn_r _ [6, 7, 8] (by decide +kernel) (by decide +kernel)
set_option maxRecDepth 20000 in
theorem gJ0_length_8abf5_J0_coder_7d493 : GoodIn wsJ0_length_8abf5 (wsV RJ0 335 RJ0 yJ0_coder_7d493 wsJ0_coder_7d493) := goodIn_app (goodIn_of _ (by decide +kernel)) ggJ0_length_8abf5_J0_coder_7d493
theorem dJ0_length_8abf5_0 : decode cJ0_length_8abf5 0 = .ok (.aload_n 0, 1) := by decide +kernel
theorem dJ0_length_8abf5_1 : decode cJ0_length_8abf5 1 = .ok (.getfield 9, 3) := by decide +kernel
theorem dJ0_length_8abf5_4 : decode cJ0_length_8abf5 4 = .ok (.arraylength, 1) := by decide +kernel
theorem dJ0_length_8abf5_5 : decode cJ0_length_8abf5 5 = .ok (.aload_n 0, 1) := by decide +kernel
theorem dJ0_length_8abf5_6 : decode cJ0_length_8abf5 6 = .ok (.invokevirtual 335, 3) := by decide +kernel
theorem dJ0_length_8abf5_9 : decode cJ0_length_8abf5 9 = .ok (.ishr, 1) := by decide +kernel
theorem dJ0_length_8abf5_10 : decode cJ0_length_8abf5 10 = .ok (.ireturn, 1) := by decide +kernel
set_option maxRecDepth 20000 in
theorem ggJ0_charAt_5068e_J0_isLatin1_aae02 : GoodIn wsJ0_charAt_5068e wsJ0_isLatin1_aae02 := goodIn_r _ [6, 7, 8] (by decide +kernel) (by decide +kernel)
set_option maxRecDepth 20000 in
theorem gJ0_charAt_5068e_J0_isLatin1_aae02 : GoodIn wsJ0_charAt_5068e (wsV RJ0 492 RJ0 yJ0_isLatin1_aae02 wsJ0_isLatin1_aae02) := goodIn_app (goodIn_of _ (by decide +kernel)) ggJ0_charAt_5068e_J0_isLatin1_aae02
set_option maxRecDepth 20000 in
theorem ggJ0_charAt_5068e_J1_charAt_3b067 : GoodIn wsJ0_charAt_5068e wsJ1_charAt_3b067 := goodIn_r _ [12, 13, 14, 5, 15, 16, 17, 18, 19, 20] (by decide +kernel) (by decide +kernel)
set_option maxRecDepth 20000 in
theorem gJ0_charAt_5068e_J1_charAt_3b067 : GoodIn wsJ0_charAt_5068e (va_wsS RJ0 495 yJ1_charAt_3b067 wsJ1_charAt_3b067) := goodIn_app (goodIn_of _ (by decide +kernel)) ggJ0_charAt_5068e_J1_charAt_3b067
set_option maxRecDepth 20000 in
theorem ggJ0_charAt_5068e_J2_charAt_3b067 : GoodIn wsJ0_charAt_5068e wsJ2_charAt_3b067 := goodIn_r _ [24, 25, 26, 23, 27, 28, 29, 30, 31, 14, 5, 15, 16, 17, 18, 19, 20, 32, 33, 34, 35, 36, 37] (by decide +kernel) (by decide +kernel)
set_option maxRecDepth 20000 in
theorem gJ0_charAt_5068e_J2_charAt_3b067 : GoodIn wsJ0_charAt_5068e (va_wsS RJ0 498 yJ2_charAt_3b067 wsJ2_charAt_3b067) := goodIn_app (goodIn_of _ (by decide +kernel)) ggJ0_charAt_5068e_J2_charAt_3b067
theorem dJ0_charAt_5068e_0 : decode cJ0_charAt_5068e 0 = .ok (.aload_n 0, 1) := by decide +kernel
theorem dJ0_charAt_5068e_1 : decode cJ0_charAt_5068e 1 = .ok (.invokevirtual 492, 3) := by decide +kernel
theorem dJ0_charAt_5068e_4 : decode cJ0_charAt_5068e 4 = .ok (.ifCond .eq 12, 3) := by decide +kernel
theorem dJ0_charAt_5068e_7 : decode cJ0_charAt_5068e 7 = .ok (.aload_n 0, 1) := by decide +kernel
theorem dJ0_charAt_5068e_8 : decode cJ0_charAt_5068e 8 = .ok (.getfield 9, 3) := by decide +kernel
theorem dJ0_charAt_5068e_11 : decode cJ0_charAt_5068e 11 = .ok (.iload_n 1, 1) := by decide +kernel
theorem dJ0_charAt_5068e_12 : decode cJ0_charAt_5068e 12 = .ok (.invokestatic 495, 3) := by decide +kernel
theorem dJ0_charAt_5068e_15 : decode cJ0_charAt_5068e 15 = .ok (.ireturn, 1) := by decide +kernel
theorem dJ0_charAt_5068e_16 : decode cJ0_charAt_5068e 16 = .ok (.aload_n 0, 1) := by decide +kernel
theorem dJ0_charAt_5068e_17 : decode cJ0_charAt_5068e 17 = .ok (.getfield 9, 3) := by decide +kernel
theorem dJ0_charAt_5068e_20 : decode cJ0_charAt_5068e 20 = .ok (.iload_n 1, 1) := by decide +kernel
theorem dJ0_charAt_5068e_21 : decode cJ0_charAt_5068e 21 = .ok (.invokestatic 498, 3) := by decide +kernel
theorem dJ0_charAt_5068e_24 : decode cJ0_charAt_5068e 24 = .ok (.ireturn, 1) := by decide +kernel
theorem dJ0_coder_7d493_0 : decode cJ0_coder_7d493 0 = .ok (.getstatic 38, 3) := by decide +kernel
theorem dJ0_coder_7d493_3 : decode cJ0_coder_7d493 3 = .ok (.ifCond .eq 10, 3) := by decide +kernel
theorem dJ0_coder_7d493_6 : decode cJ0_coder_7d493 6 = .ok (.aload_n 0, 1) := by decide +kernel
theorem dJ0_coder_7d493_7 : decode cJ0_coder_7d493 7 = .ok (.getfield 15, 3) := by decide +kernel
theorem dJ0_coder_7d493_10 : decode cJ0_coder_7d493 10 = .ok (.goto 4, 3) := by decide +kernel
theorem dJ0_coder_7d493_13 : decode cJ0_coder_7d493 13 = .ok (.iconst 1, 1) := by decide +kernel
theorem dJ0_coder_7d493_14 : decode cJ0_coder_7d493 14 = .ok (.ireturn, 1) := by decide +kernel
theorem dJ0_isLatin1_aae02_0 : decode cJ0_isLatin1_aae02 0 = .ok (.getstatic 38, 3) := by decide +kernel
theorem dJ0_isLatin1_aae02_3 : decode cJ0_isLatin1_aae02 3 = .ok (.ifCond .eq 14, 3) := by decide +kernel
theorem dJ0_isLatin1_aae02_6 : decode cJ0_isLatin1_aae02 6 = .ok (.aload_n 0, 1) := by decide +kernel
theorem dJ0_isLatin1_aae02_7 : decode cJ0_isLatin1_aae02 7 = .ok (.getfield 15, 3) := by decide +kernel
theorem dJ0_isLatin1_aae02_10 : decode cJ0_isLatin1_aae02 10 = .ok (.ifCond .ne 7, 3) := by decide +kernel
theorem dJ0_isLatin1_aae02_13 : decode cJ0_isLatin1_aae02 13 = .ok (.iconst 1, 1) := by decide +kernel
theorem dJ0_isLatin1_aae02_14 : decode cJ0_isLatin1_aae02 14 = .ok (.goto 4, 3) := by decide +kernel
theorem dJ0_isLatin1_aae02_17 : decode cJ0_isLatin1_aae02 17 = .ok (.iconst 0, 1) := by decide +kernel
theorem dJ0_isLatin1_aae02_18 : decode cJ0_isLatin1_aae02 18 = .ok (.ireturn, 1) := by decide +kernel
set_option maxRecDepth 20000 in
theorem ggJ0_checkIndex_df160_J3_checkIndex_8e157 : GoodIn wsJ0_checkIndex_df160 wsJ3_checkIndex_8e157 := goodIn_r _ [5] (by decide +kernel) (by decide +kernel)
set_option maxRecDepth 20000 in
theorem gJ0_checkIndex_df160_J3_checkIndex_8e157 : GoodIn wsJ0_checkIndex_df160 (va_wsS RJ0 1059 yJ3_checkIndex_8e157 wsJ3_checkIndex_8e157) := goodIn_app (goodIn_of _ (by decide +kernel)) ggJ0_checkIndex_df160_J3_checkIndex_8e157
theorem dJ0_checkIndex_df160_0 : decode cJ0_checkIndex_df160 0 = .ok (.iload_n 0, 1) := by decide +kernel
theorem dJ0_checkIndex_df160_1 : decode cJ0_checkIndex_df160 1 = .ok (.iload_n 1, 1) := by decide +kernel
theorem dJ0_checkIndex_df160_2 : decode cJ0_checkIndex_df160 2 = .ok (.getstatic 1053, 3) := by decide +kernel
theorem dJ0_checkIndex_df160_5 : decode cJ0_checkIndex_df160 5 = .ok (.invokestatic 1059, 3) := by decide +kernel
theorem dJ0_checkIndex_df160_8 : decode cJ0_checkIndex_df160 8 = .ok (.pop, 1) := by decide +kernel
theorem dJ0_checkIndex_df160_9 : decode cJ0_checkIndex_df160 9 = .ok (.return_, 1) := by decide +kernel
set_option maxRecDepth 20000 in
theorem ggJ1_charAt_3b067_J0_checkIndex_df160 : GoodIn wsJ1_charAt_3b067 wsJ0_checkIndex_df160 := goodIn_r _ [4, 5, 6, 7, 8, 9] (by decide +kernel) (by decide +kernel)
set_option maxRecDepth 20000 in
theorem gJ1_charAt_3b067_J0_checkIndex_df160 : GoodIn wsJ1_charAt_3b067 (va_wsS RJ1 9 yJ0_checkIndex_df160 wsJ0_checkIndex_df160) := goodIn_app (goodIn_of _ (by decide +kernel)) ggJ1_charAt_3b067_J0_checkIndex_df160
theorem dJ1_charAt_3b067_0 : decode cJ1_charAt_3b067 0 = .ok (.iload_n 1, 1) := by decide +kernel
theorem dJ1_charAt_3b067_1 : decode cJ1_charAt_3b067 1 = .ok (.aload_n 0, 1) := by decide +kernel
theorem dJ1_charAt_3b067_2 : decode cJ1_charAt_3b067 2 = .ok (.arraylength, 1) := by decide +kernel
theorem dJ1_charAt_3b067_3 : decode cJ1_charAt_3b067 3 = .ok (.invokestatic 9, 3) := by decide +kernel
theorem dJ1_charAt_3b067_6 : decode cJ1_charAt_3b067 6 = .ok (.aload_n 0, 1) := by decide +kernel
theorem dJ1_charAt_3b067_7 : decode cJ1_charAt_3b067 7 = .ok (.iload_n 1, 1) := by decide +kernel
theorem dJ1_charAt_3b067_8 : decode cJ1_charAt_3b067 8 = .ok (.baload, 1) := by decide +kernel
theorem dJ1_charAt_3b067_9 : decode cJ1_charAt_3b067 9 = .ok (.sipush 255, 3) := by decide +kernel
theorem dJ1_charAt_3b067_12 : decode cJ1_charAt_3b067 12 = .ok (.iand, 1) := by decide +kernel
theorem dJ1_charAt_3b067_13 : decode cJ1_charAt_3b067 13 = .ok (.i2c, 1) := by decide +kernel
theorem dJ1_charAt_3b067_14 : decode cJ1_charAt_3b067 14 = .ok (.ireturn, 1) := by decide +kernel
set_option maxRecDepth 20000 in
theorem ggJ2_getChar_3b067_J2_length_9d52b : GoodIn wsJ2_getChar_3b067 wsJ2_length_9d52b := goodIn_r _ [7] (by decide +kernel) (by decide +kernel)
set_option maxRecDepth 20000 in
theorem gJ2_getChar_3b067_J2_length_9d52b : GoodIn wsJ2_getChar_3b067 (va_wsS RJ2 48 yJ2_length_9d52b wsJ2_length_9d52b) := goodIn_app (goodIn_of _ (by decide +kernel)) ggJ2_getChar_3b067_J2_length_9d52b
theorem dJ2_getChar_3b067_0 : decode cJ2_getChar_3b067 0 = .ok (.getstatic 44, 3) := by decide +kernel
theorem dJ2_getChar_3b067_3 : decode cJ2_getChar_3b067 3 = .ok (.ifCond .ne 25, 3) := by decide +kernel
theorem dJ2_getChar_3b067_6 : decode cJ2_getChar_3b067 6 = .ok (.iload_n 1, 1) := by decide +kernel
theorem dJ2_getChar_3b067_7 : decode cJ2_getChar_3b067 7 = .ok (.ifCond .lt 11, 3) := by decide +kernel
theorem dJ2_getChar_3b067_10 : decode cJ2_getChar_3b067 10 = .ok (.iload_n 1, 1) := by decide +kernel
theorem dJ2_getChar_3b067_11 : decode cJ2_getChar_3b067 11 = .ok (.aload_n 0, 1) := by decide +kernel
theorem dJ2_getChar_3b067_12 : decode cJ2_getChar_3b067 12 = .ok (.invokestatic 48, 3) := by decide +kernel
theorem dJ2_getChar_3b067_15 : decode cJ2_getChar_3b067 15 = .ok (.if_icmp .lt 13, 3) := by decide +kernel
theorem dJ2_getChar_3b067_18 : decode cJ2_getChar_3b067 18 = .ok (.new 52, 3) := by decide +kernel
theorem dJ2_getChar_3b067_21 : decode cJ2_getChar_3b067 21 = .ok (.dup, 1) := by decide +kernel
theorem dJ2_getChar_3b067_22 : decode cJ2_getChar_3b067 22 = .ok (.ldc 54, 2) := by decide +kernel
theorem dJ2_getChar_3b067_24 : decode cJ2_getChar_3b067 24 = .ok (.invokespecial 56, 3) := by decide +kernel
theorem dJ2_getChar_3b067_27 : decode cJ2_getChar_3b067 27 = .ok (.athrow, 1) := by decide +kernel
theorem dJ2_getChar_3b067_28 : decode cJ2_getChar_3b067 28 = .ok (.iload_n 1, 1) := by decide +kernel
theorem dJ2_getChar_3b067_29 : decode cJ2_getChar_3b067 29 = .ok (.iconst 1, 1) := by decide +kernel
theorem dJ2_getChar_3b067_30 : decode cJ2_getChar_3b067 30 = .ok (.ishl, 1) := by decide +kernel
theorem dJ2_getChar_3b067_31 : decode cJ2_getChar_3b067 31 = .ok (.istore_n 1, 1) := by decide +kernel
theorem dJ2_getChar_3b067_32 : decode cJ2_getChar_3b067 32 = .ok (.aload_n 0, 1) := by decide +kernel
theorem dJ2_getChar_3b067_33 : decode cJ2_getChar_3b067 33 = .ok (.iload_n 1, 1) := by decide +kernel
theorem dJ2_getChar_3b067_34 : decode cJ2_getChar_3b067 34 = .ok (.iinc 1 1, 3) := by decide +kernel
theorem dJ2_getChar_3b067_37 : decode cJ2_getChar_3b067 37 = .ok (.baload, 1) := by decide +kernel
theorem dJ2_getChar_3b067_38 : decode cJ2_getChar_3b067 38 = .ok (.sipush 255, 3) := by decide +kernel
theorem dJ2_getChar_3b067_41 : decode cJ2_getChar_3b067 41 = .ok (.iand, 1) := by decide +kernel
theorem dJ2_getChar_3b067_42 : decode cJ2_getChar_3b067 42 = .ok (.getstatic 59, 3) := by decide +kernel
theorem dJ2_getChar_3b067_45 : decode cJ2_getChar_3b067 45 = .ok (.ishl, 1) := by decide +kernel
theorem dJ2_getChar_3b067_46 : decode cJ2_getChar_3b067 46 = .ok (.aload_n 0, 1) := by decide +kernel
theorem dJ2_getChar_3b067_47 : decode cJ2_getChar_3b067 47 = .ok (.iload_n 1, 1) := by decide +kernel
theorem dJ2_getChar_3b067_48 : decode cJ2_getChar_3b067 48 = .ok (.baload, 1) := by decide +kernel
theorem dJ2_getChar_3b067_49 : decode cJ2_getChar_3b067 49 = .ok (.sipush 255, 3) := by decide +kernel
theorem dJ2_getChar_3b067_52 : decode cJ2_getChar_3b067 52 = .ok (.iand, 1) := by decide +kernel
theorem dJ2_getChar_3b067_53 : decode cJ2_getChar_3b067 53 = .ok (.getstatic 63, 3) := by decide +kernel
theorem dJ2_getChar_3b067_56 : decode cJ2_getChar_3b067 56 = .ok (.ishl, 1) := by decide +kernel
theorem dJ2_getChar_3b067_57 : decode cJ2_getChar_3b067 57 = .ok (.ior, 1) := by decide +kernel
theorem dJ2_getChar_3b067_58 : decode cJ2_getChar_3b067 58 = .ok (.i2c, 1) := by decide +kernel
theorem dJ2_getChar_3b067_59 : decode cJ2_getChar_3b067 59 = .ok (.ireturn, 1) := by decide +kernel
theorem dJ2_length_9d52b_0 : decode cJ2_length_9d52b 0 = .ok (.aload_n 0, 1) := by decide +kernel
theorem dJ2_length_9d52b_1 : decode cJ2_length_9d52b 1 = .ok (.arraylength, 1) := by decide +kernel
theorem dJ2_length_9d52b_2 : decode cJ2_length_9d52b 2 = .ok (.iconst 1, 1) := by decide +kernel
theorem dJ2_length_9d52b_3 : decode cJ2_length_9d52b 3 = .ok (.ishr, 1) := by decide +kernel
theorem dJ2_length_9d52b_4 : decode cJ2_length_9d52b 4 = .ok (.ireturn, 1) := by decide +kernel
set_option maxRecDepth 20000 in
theorem ggJ2_charAt_3b067_J2_checkIndex_2214a : GoodIn wsJ2_charAt_3b067 wsJ2_checkIndex_2214a := goodIn_r _ [4, 5, 6, 3, 7, 8, 9, 10, 11, 12, 13, 14, 15, 16] (by decide +kernel) (by decide +kernel)
set_option maxRecDepth 20000 in
theorem gJ2_charAt_3b067_J2_checkIndex_2214a : GoodIn wsJ2_charAt_3b067 (va_wsS RJ2 67 yJ2_checkIndex_2214a wsJ2_checkIndex_2214a) := goodIn_app (goodIn_of _ (by decide +kernel)) ggJ2_charAt_3b067_J2_checkIndex_2214a
set_option maxRecDepth 20000 in
theorem ggJ2_charAt_3b067_J2_getChar_3b067 : GoodIn wsJ2_charAt_3b067 wsJ2_getChar_3b067 := goodIn_r _ [19, 20, 21, 22, 5, 6, 3, 7] (by decide +kernel) (by decide +kernel)
set_option maxRecDepth 20000 in
theorem gJ2_charAt_3b067_J2_getChar_3b067 : GoodIn wsJ2_charAt_3b067 (va_wsS RJ2 71 yJ2_getChar_3b067 wsJ2_getChar_3b067) := goodIn_app (goodIn_of _ (by decide +kernel)) ggJ2_charAt_3b067_J2_getChar_3b067
theorem dJ2_charAt_3b067_0 : decode cJ2_charAt_3b067 0 = .ok (.iload_n 1, 1) := by decide +kernel
theorem dJ2_charAt_3b067_1 : decode cJ2_charAt_3b067 1 = .ok (.aload_n 0, 1) := by decide +kernel
theorem dJ2_charAt_3b067_2 : decode cJ2_charAt_3b067 2 = .ok (.invokestatic 67, 3) := by decide +kernel
theorem dJ2_charAt_3b067_5 : decode cJ2_charAt_3b067 5 = .ok (.aload_n 0, 1) := by decide +kernel
theorem dJ2_charAt_3b067_6 : decode cJ2_charAt_3b067 6 = .ok (.iload_n 1, 1) := by decide +kernel
theorem dJ2_charAt_3b067_7 : decode cJ2_charAt_3b067 7 = .ok (.invokestatic 71, 3) := by decide +kernel
theorem dJ2_charAt_3b067_10 : decode cJ2_charAt_3b067 10 = .ok (.ireturn, 1) := by decide +kernel
set_option maxRecDepth 20000 in
theorem ggJ2_checkIndex_2214a_J2_length_9d52b : GoodIn wsJ2_checkIndex_2214a wsJ2_length_9d52b := goodIn_r _ [4] (by decide +kernel) (by decide +kernel)
set_option maxRecDepth 20000 in
theorem gJ2_checkIndex_2214a_J2_length_9d52b : GoodIn wsJ2_checkIndex_2214a (va_wsS RJ2 48 yJ2_length_9d52b wsJ2_length_9d52b) := goodIn_app (goodIn_of _ (by decide +kernel)) ggJ2_checkIndex_2214a_J2_length_9d52b
set_option maxRecDepth 20000 in
theorem ggJ2_checkIndex_2214a_J0_checkIndex_df160 : GoodIn wsJ2_checkIndex_2214a wsJ0_checkIndex_df160 := goodIn_r _ [8, 9, 10, 11, 12, 13] (by decide +kernel) (by decide +kernel)
set_option maxRecDepth 20000 in
theorem gJ2_checkIndex_2214a_J0_checkIndex_df160 : GoodIn wsJ2_checkIndex_2214a (va_wsS RJ2 414 yJ0_checkIndex_df160 wsJ0_checkIndex_df160) := goodIn_app (goodIn_of _ (by decide +kernel)) ggJ2_checkIndex_2214a_J0_checkIndex_df160
theorem dJ2_checkIndex_2214a_0 : decode cJ2_checkIndex_2214a 0 = .ok (.iload_n 0, 1) := by decide +kernel
theorem dJ2_checkIndex_2214a_1 : decode cJ2_checkIndex_2214a 1 = .ok (.aload_n 1, 1) := by decide +kernel
theorem dJ2_checkIndex_2214a_2 : decode cJ2_checkIndex_2214a 2 = .ok (.invokestatic 48, 3) := by decide +kernel
theorem dJ2_checkIndex_2214a_5 : decode cJ2_checkIndex_2214a 5 = .ok (.invokestatic 414, 3) := by decide +kernel
theorem dJ2_checkIndex_2214a_8 : decode cJ2_checkIndex_2214a 8 = .ok (.return_, 1) := by decide +kernel
theorem dJ3_checkIndex_8e157_0 : decode cJ3_checkIndex_8e157 0 = .ok (.iload_n 0, 1) := by decide +kernel
theorem dJ3_checkIndex_8e157_1 : decode cJ3_checkIndex_8e157 1 = .ok (.ifCond .lt 8, 3) := by decide +kernel
theorem dJ3_checkIndex_8e157_4 : decode cJ3_checkIndex_8e157 4 = .ok (.iload_n 0, 1) := by decide +kernel
theorem dJ3_checkIndex_8e157_5 : decode cJ3_checkIndex_8e157 5 = .ok (.iload_n 1, 1) := by decide +kernel
theorem dJ3_checkIndex_8e157_6 : decode cJ3_checkIndex_8e157 6 = .ok (.if_icmp .lt 10, 3) := by decide +kernel
theorem dJ3_checkIndex_8e157_9 : decode cJ3_checkIndex_8e157 9 = .ok (.aload_n 2, 1) := by decide +kernel
theorem dJ3_checkIndex_8e157_10 : decode cJ3_checkIndex_8e157 10 = .ok (.iload_n 0, 1) := by decide +kernel
theorem dJ3_checkIndex_8e157_11 : decode cJ3_checkIndex_8e157 11 = .ok (.iload_n 1, 1) := by decide +kernel
theorem dJ3_checkIndex_8e157_12 : decode cJ3_checkIndex_8e157 12 = .ok (.invokestatic 95, 3) := by decide +kernel
theorem dJ3_checkIndex_8e157_15 : decode cJ3_checkIndex_8e157 15 = .ok (.athrow, 1) := by decide +kernel
theorem dJ3_checkIndex_8e157_16 : decode cJ3_checkIndex_8e157 16 = .ok (.iload_n 0, 1) := by decide +kernel
theorem dJ3_checkIndex_8e157_17 : decode cJ3_checkIndex_8e157 17 = .ok (.ireturn, 1) := by decide +kernel
set_option maxRecDepth 20000 in
theorem ggL_law_X9_init : GoodIn wsL_law wsX9_init := goodIn_r _ [9, 10, 11, 12, 13, 14, 15, 16, 17, 18, 19, 20, 21, 22, 23, 24, 25, 26, 27, 28, 29, 30, 31, 32, 33, 34, 35, 36, 37, 38, 39, 40, 41, 42, 43, 44, 45, 46, 47, 48, 49, 50, 51, 52, 53, 54, 55, 56, 57, 58, 59, 60, 61, 62, 63, 64, 65, 66, 67, 68, 69, 70, 71, 72, 73, 74, 75, 76, 77, 78, 79, 80, 81, 82, 83, 84, 85, 86, 87, 88, 89, 90, 91, 92, 93, 94, 95, 96, 97, 98, 99, 100, 101, 102, 103, 104, 105, 106, 107, 108, 109, 110, 111, 112, 113, 114, 115, 116, 117, 118, 119, 120, 121, 122, 884, 885, 886, 887, 888, 889, 841, 842, 843, 844, 845, 846, 847, 848, 849, 850, 851, 852, 890, 891, 892, 893, 894, 895, 896, 897, 898, 899, 900, 901, 902, 903, 904, 905, 906, 907, 908, 909, 910, 911, 912, 913, 914, 915, 916, 917, 918, 919, 920, 921, 922, 923] (by decide +kernel) (by decide +kernel)
set_option maxRecDepth 20000 in
theorem gL_law_X9_init : GoodIn wsL_law (wsX9_init) := ggL_law_X9_init
set_option maxRecDepth 20000 in
theorem ggL_law_X10_init : GoodIn wsL_law wsX10_init := goodIn_r _ [125, 126, 11, 12, 64, 127, 128, 129, 130, 131, 132, 133, 134, 114, 135, 136, 137, 104, 138, 139, 140, 141, 853, 854, 855, 856, 857, 858, 859, 860, 861, 862, 863, 864, 865, 866, 867, 868, 869, 870, 871, 872, 873, 874, 875, 876, 877, 878, 879, 880, 881, 882, 883] (by decide +kernel) (by decide +kernel)
set_option maxRecDepth 20000 in
theorem gL_law_X10_init : GoodIn wsL_law (wsX10_init) := ggL_law_X10_init
set_option maxRecDepth 20000 in
theorem ggL_law_X9_type : GoodIn wsL_law wsX9_type := goodIn_r _ [145, 17, 146, 147, 148, 54, 149, 66, 65, 841, 842, 843, 844, 845, 846, 847, 848, 849, 850, 851, 852, 922, 923] (by decide +kernel) (by decide +kernel)
set_option maxRecDepth 20000 in
theorem gL_law_X9_type : GoodIn wsL_law (wsV RL 15 RX9 yX9_type wsX9_type) := goodIn_app (goodIn_of _ (by decide +kernel)) ggL_law_X9_type
set_option maxRecDepth 20000 in
theorem ggL_law_X10_type : GoodIn wsL_law wsX10_type := goodIn_r _ [153, 154, 155, 127, 156, 157, 158, 5, 159, 853, 854, 855, 856, 857, 858, 859, 860, 861, 862, 863, 864, 865, 866, 867, 868, 869, 870, 871, 872, 873, 874, 875, 876, 877, 878, 879, 880, 881, 882, 883] (by decide +kernel) (by decide +kernel)
set_option maxRecDepth 20000 in
theorem gL_law_X10_type : GoodIn wsL_law (wsV RL 19 RX10 yX10_type wsX10_type) := goodIn_app (goodIn_of _ (by decide +kernel)) ggL_law_X10_type
set_option maxRecDepth 20000 in
theorem ggL_law_X9_clear : GoodIn wsL_law wsX9_clear := goodIn_r _ [163, 17, 841, 842, 843, 844, 845, 846, 847, 848, 849, 850, 851, 852, 922, 923] (by decide +kernel) (by decide +kernel)
set_option maxRecDepth 20000 in
theorem gL_law_X9_clear : GoodIn wsL_law (wsV RL 20 RX9 yX9_clear wsX9_clear) := goodIn_app (goodIn_of _ (by decide +kernel)) ggL_law_X9_clear
set_option maxRecDepth 20000 in
theorem ggL_law_X10_clear : GoodIn wsL_law wsX10_clear := goodIn_r _ [167, 154, 155, 853, 854, 855, 856, 857, 858, 859, 860, 861, 862, 863, 864, 865, 866, 867, 868, 869, 870, 871, 872, 873, 874, 875, 876, 877, 878, 879, 880, 881, 882, 883] (by decide +kernel) (by decide +kernel)
set_option maxRecDepth 20000 in
theorem gL_law_X10_clear : GoodIn wsL_law (wsV RL 24 RX10 yX10_clear wsX10_clear) := goodIn_app (goodIn_of _ (by decide +kernel)) ggL_law_X10_clear
set_option maxRecDepth 20000 in
theorem ggL_law_X9_lane : GoodIn wsL_law wsX9_lane := goodIn_r _ [171, 16, 47, 46, 17, 21, 30, 34, 25, 26, 172, 173, 174, 15, 175, 56, 60, 58, 59, 176, 177, 178, 45, 179, 113, 115, 118, 119, 120, 121, 122, 180, 181, 182, 183, 57, 55, 184, 185, 186, 187, 188, 189, 190, 54, 191, 66, 65, 192, 193, 194, 195, 196, 197, 198, 199, 200, 201, 202, 203, 204, 205, 206, 207, 208, 209, 210, 211, 212, 213, 214, 215, 216, 217, 218, 219, 220, 221, 222, 223, 224, 225, 226, 227, 228, 229, 230, 231, 232, 233, 234, 235, 236, 237, 238, 239, 240, 241, 242, 243, 244, 245, 246, 247, 248, 249, 250, 251, 252, 253, 254, 255, 256, 257, 258, 259, 260, 261, 262, 263, 264, 265, 266, 267, 268, 269, 270, 271, 272, 273, 274, 275, 276, 277, 278, 279, 280, 281, 282, 283, 284, 285, 286, 287, 288, 289, 290, 291, 292, 116, 117, 293, 294, 295, 296, 297, 298, 299, 20, 300, 301, 302, 303, 304, 70, 71, 72, 841, 842, 843, 844, 845, 846, 847, 848, 849, 850, 851, 852, 922, 923, 896, 897, 898, 899, 900, 901, 902, 903, 894, 895, 884, 885, 886, 887, 888, 889, 913, 914, 915, 916, 917, 918, 919, 920, 921, 890, 891, 892, 893] (by decide +kernel) (by decide +kernel)
set_option maxRecDepth 20000 in
theorem gL_law_X9_lane : GoodIn wsL_law (wsV RL 25 RX9 yX9_lane wsX9_lane) := goodIn_app (goodIn_of _ (by decide +kernel)) ggL_law_X9_lane
set_option maxRecDepth 20000 in
theorem ggL_law_X10_lane : GoodIn wsL_law wsX10_lane := goodIn_r _ [308, 154, 309, 310, 311, 312, 128, 129, 132, 313, 314, 315, 316, 5, 317, 318, 319, 320, 321, 322, 323, 155, 127, 157, 158, 159, 324, 325, 326, 327, 328, 329, 330, 331, 332, 333, 334, 335, 336, 337, 338, 339, 340, 341, 342, 343, 344, 345, 346, 347, 348, 349, 130, 131, 350, 351, 352, 353, 354, 355, 356, 357, 141, 358, 133, 359, 360, 135, 853, 854, 855, 856, 857, 858, 859, 860, 861, 862, 863, 864, 865, 866, 867, 868, 869, 870, 871, 872, 873, 874, 875, 876, 877, 878, 879, 880, 881, 882, 883] (by decide +kernel) (by decide +kernel)
set_option maxRecDepth 20000 in
theorem gL_law_X10_lane : GoodIn wsL_law (wsV RL 28 RX10 yX10_lane wsX10_lane) := goodIn_app (goodIn_of _ (by decide +kernel)) ggL_law_X10_lane
set_option maxRecDepth 20000 in
theorem ggL_law_X9_yard : GoodIn wsL_law wsX9_yard := goodIn_r _ [364, 46, 365, 366, 367, 45, 368, 118, 369, 370, 371, 372, 113, 373, 374, 375, 376, 115, 377, 841, 842, 843, 844, 845, 846, 847, 848, 849, 850, 851, 852, 913, 914, 915, 916, 917, 918, 919, 920, 921] (by decide +kernel) (by decide +kernel)
set_option maxRecDepth 20000 in
theorem gL_law_X9_yard : GoodIn wsL_law (wsV RL 29 RX9 yX9_yard wsX9_yard) := goodIn_app (goodIn_of _ (by decide +kernel)) ggL_law_X9_yard
set_option maxRecDepth 20000 in
theorem ggL_law_X10_yard : GoodIn wsL_law wsX10_yard := goodIn_r _ [381, 154, 128, 129, 382, 383, 384, 5, 385, 141, 157, 158, 159, 853, 854, 855, 856, 857, 858, 859, 860, 861, 862, 863, 864, 865, 866, 867, 868, 869, 870, 871, 872, 873, 874, 875, 876, 877, 878, 879, 880, 881, 882, 883] (by decide +kernel) (by decide +kernel)
set_option maxRecDepth 20000 in
theorem gL_law_X10_yard : GoodIn wsL_law (wsV RL 33 RX10 yX10_yard wsX10_yard) := goodIn_app (goodIn_of _ (by decide +kernel)) ggL_law_X10_yard
set_option maxRecDepth 20000 in
theorem ggL_law_X9_told : GoodIn wsL_law wsX9_told := goodIn_r _ [389, 46, 841, 842, 843, 844, 845, 846, 847, 848, 849, 850, 851, 852, 913, 914, 915, 916, 917, 918, 919, 920, 921] (by decide +kernel) (by decide +kernel)
set_option maxRecDepth 20000 in
theorem gL_law_X9_told : GoodIn wsL_law (wsV RL 34 RX9 yX9_told wsX9_told) := goodIn_app (goodIn_of _ (by decide +kernel)) ggL_law_X9_told
set_option maxRecDepth 20000 in
theorem ggL_law_X10_told : GoodIn wsL_law wsX10_told := goodIn_r _ [393, 154, 141, 132, 157, 158, 5, 159, 853, 854, 855, 856, 857, 858, 859, 860, 861, 862, 863, 864, 865, 866, 867, 868, 869, 870, 871, 872, 873, 874, 875, 876, 877, 878, 879, 880, 881, 882, 883] (by decide +kernel) (by decide +kernel)
set_option maxRecDepth 20000 in
theorem gL_law_X10_told : GoodIn wsL_law (wsV RL 38 RX10 yX10_told wsX10_told) := goodIn_app (goodIn_of _ (by decide +kernel)) ggL_law_X10_told
set_option maxRecDepth 20000 in
theorem ggL_law_X9_runner : GoodIn wsL_law wsX9_runner := goodIn_r _ [397, 46, 21, 398, 399, 400, 45, 401, 119, 402, 403, 404, 405, 116, 406, 407, 408, 409, 117, 410, 411, 412, 20, 413, 70, 414, 415, 416, 417, 71, 418, 419, 420, 421, 72, 422, 423, 424, 2, 425, 426, 427, 428, 429, 841, 842, 843, 844, 845, 846, 847, 848, 849, 850, 851, 852, 913, 914, 915, 916, 917, 918, 919, 920, 921, 890, 891, 892, 893] (by decide +kernel) (by decide +kernel)
set_option maxRecDepth 20000 in
theorem gL_law_X9_runner : GoodIn wsL_law (wsV RL 39 RX9 yX9_runner wsX9_runner) := goodIn_app (goodIn_of _ (by decide +kernel)) ggL_law_X9_runner
set_option maxRecDepth 20000 in
theorem ggL_law_X10_runner : GoodIn wsL_law wsX10_runner := goodIn_r _ [433, 154, 130, 131, 133, 434, 435, 436, 5, 437, 358, 157, 158, 159, 438, 439, 440, 441, 141, 132, 853, 854, 855, 856, 857, 858, 859, 860, 861, 862, 863, 864, 865, 866, 867, 868, 869, 870, 871, 872, 873, 874, 875, 876, 877, 878, 879, 880, 881, 882, 883] (by decide +kernel) (by decide +kernel)
set_option maxRecDepth 20000 in
theorem gL_law_X10_runner : GoodIn wsL_law (wsV RL 42 RX10 yX10_runner wsX10_runner) := goodIn_app (goodIn_of _ (by decide +kernel)) ggL_law_X10_runner
set_option maxRecDepth 20000 in
theorem ggL_law_X9_comes : GoodIn wsL_law wsX9_comes := goodIn_r _ [445, 46, 446, 398, 399, 400, 45, 401, 119, 365, 366, 367, 368, 118, 447, 448, 2, 449, 450, 451, 452, 453, 454, 455, 456, 457, 370, 371, 372, 113, 458, 459, 460, 461, 462, 463, 464, 465, 466, 467, 468, 260, 261, 262, 469, 403, 404, 405, 116, 470, 471, 472, 473, 474, 475, 476, 477, 478, 479, 480, 481, 482, 483, 484, 485, 486, 487, 488, 407, 408, 409, 117, 489, 374, 375, 376, 115, 377, 841, 842, 843, 844, 845, 846, 847, 848, 849, 850, 851, 852, 913, 914, 915, 916, 917, 918, 919, 920, 921] (by decide +kernel) (by decide +kernel)
set_option maxRecDepth 20000 in
theorem gL_law_X9_comes : GoodIn wsL_law (wsV RL 43 RX9 yX9_comes wsX9_comes) := goodIn_app (goodIn_of _ (by decide +kernel)) ggL_law_X9_comes
set_option maxRecDepth 20000 in
theorem ggL_law_X10_comes : GoodIn wsL_law wsX10_comes := goodIn_r _ [493, 154, 494, 495, 496, 497, 434, 435, 436, 5, 437, 358, 157, 158, 159, 382, 383, 384, 385, 141, 498, 499, 500, 501, 502, 503, 504, 128, 130, 131, 129, 853, 854, 855, 856, 857, 858, 859, 860, 861, 862, 863, 864, 865, 866, 867, 868, 869, 870, 871, 872, 873, 874, 875, 876, 877, 878, 879, 880, 881, 882, 883] (by decide +kernel) (by decide +kernel)
set_option maxRecDepth 20000 in
theorem gL_law_X10_comes : GoodIn wsL_law (wsV RL 47 RX10 yX10_comes wsX10_comes) := goodIn_app (goodIn_of _ (by decide +kernel)) ggL_law_X10_comes
set_option maxRecDepth 20000 in
theorem ggL_law_X9_best : GoodIn wsL_law wsX9_best := goodIn_r _ [508, 46, 38, 398, 399, 400, 45, 401, 119, 365, 366, 367, 368, 118, 450, 451, 2, 452, 509, 510, 511, 37, 512, 97, 98, 99, 100, 513, 514, 515, 474, 475, 470, 471, 472, 516, 477, 478, 479, 480, 481, 261, 482, 468, 260, 262, 483, 484, 485, 486, 459, 460, 461, 462, 463, 464, 465, 466, 467, 469, 403, 404, 405, 116, 487, 454, 455, 456, 457, 370, 371, 372, 113, 488, 407, 408, 409, 117, 489, 374, 375, 376, 115, 377, 517, 518, 519, 520, 841, 842, 843, 844, 845, 846, 847, 848, 849, 850, 851, 852, 904, 905, 906, 907, 913, 914, 915, 916, 917, 918, 919, 920, 921] (by decide +kernel) (by decide +kernel)
set_option maxRecDepth 20000 in
theorem gL_law_X9_best : GoodIn wsL_law (wsV RL 48 RX9 yX9_best wsX9_best) := goodIn_app (goodIn_of _ (by decide +kernel)) ggL_law_X9_best
set_option maxRecDepth 20000 in
theorem ggL_law_X10_best : GoodIn wsL_law wsX10_best := goodIn_r _ [524, 154, 434, 435, 436, 5, 437, 358, 157, 158, 159, 382, 383, 384, 385, 141, 525, 526, 527, 528, 132, 497, 501, 502, 503, 504, 128, 495, 130, 496, 131, 129, 529, 530, 531, 532, 853, 854, 855, 856, 857, 858, 859, 860, 861, 862, 863, 864, 865, 866, 867, 868, 869, 870, 871, 872, 873, 874, 875, 876, 877, 878, 879, 880, 881, 882, 883] (by decide +kernel) (by decide +kernel)
set_option maxRecDepth 20000 in
theorem gL_law_X10_best : GoodIn wsL_law (wsV RL 52 RX10 yX10_best wsX10_best) := goodIn_app (goodIn_of _ (by decide +kernel)) ggL_law_X10_best
set_option maxRecDepth 20000 in
theorem ggL_law_X9_runs : GoodIn wsL_law wsX9_runs := goodIn_r _ [536, 46, 30, 21, 398, 399, 400, 45, 401, 119, 426, 427, 428, 2, 429, 410, 411, 412, 20, 413, 70, 537, 538, 539, 29, 540, 87, 83, 84, 85, 86, 541, 542, 543, 544, 545, 546, 415, 416, 417, 71, 547, 419, 420, 421, 72, 548, 465, 466, 467, 118, 468, 260, 261, 262, 469, 403, 404, 405, 116, 414, 418, 549, 302, 303, 304, 841, 842, 843, 844, 845, 846, 847, 848, 849, 850, 851, 852, 913, 914, 915, 916, 917, 918, 919, 920, 921, 890, 891, 892, 893, 896, 897, 898, 899, 900] (by decide +kernel) (by decide +kernel)
set_option maxRecDepth 20000 in
theorem gL_law_X9_runs : GoodIn wsL_law (wsV RL 53 RX9 yX9_runs wsX9_runs) := goodIn_app (goodIn_of _ (by decide +kernel)) ggL_law_X9_runs
set_option maxRecDepth 20000 in
theorem ggL_law_X10_runs : GoodIn wsL_law wsX10_runs := goodIn_r _ [553, 154, 133, 141, 130, 434, 435, 436, 5, 437, 358, 157, 158, 159, 554, 555, 556, 557, 359, 136, 853, 854, 855, 856, 857, 858, 859, 860, 861, 862, 863, 864, 865, 866, 867, 868, 869, 870, 871, 872, 873, 874, 875, 876, 877, 878, 879, 880, 881, 882, 883] (by decide +kernel) (by decide +kernel)
set_option maxRecDepth 20000 in
theorem gL_law_X10_runs : GoodIn wsL_law (wsV RL 56 RX10 yX10_runs wsX10_runs) := goodIn_app (goodIn_of _ (by decide +kernel)) ggL_law_X10_runs
set_option maxRecDepth 20000 in
theorem ggL_law_X9_toss : GoodIn wsL_law wsX9_toss := goodIn_r _ [561, 46, 30, 21, 398, 399, 400, 45, 401, 119, 447, 448, 2, 449, 450, 451, 452, 426, 427, 428, 429, 410, 411, 412, 20, 413, 70, 537, 538, 539, 29, 540, 87, 83, 84, 85, 86, 541, 542, 543, 544, 545, 546, 415, 416, 417, 71, 547, 419, 420, 421, 72, 562, 563, 564, 565, 73, 566, 476, 477, 478, 479, 480, 481, 261, 482, 468, 260, 262, 483, 484, 485, 486, 459, 460, 461, 462, 463, 464, 465, 466, 467, 118, 469, 403, 404, 405, 116, 487, 454, 455, 456, 457, 370, 371, 372, 113, 488, 407, 408, 409, 117, 471, 472, 489, 374, 375, 376, 115, 377, 366, 367, 368, 473, 474, 475, 470, 414, 567, 458, 418, 549, 302, 303, 304, 841, 842, 843, 844, 845, 846, 847, 848, 849, 850, 851, 852, 913, 914, 915, 916, 917, 918, 919, 920, 921, 890, 891, 892, 893, 896, 897, 898, 899, 900] (by decide +kernel) (by decide +kernel)
set_option maxRecDepth 20000 in
theorem gL_law_X9_toss : GoodIn wsL_law (wsV RL 57 RX9 yX9_toss wsX9_toss) := goodIn_app (goodIn_of _ (by decide +kernel)) ggL_law_X9_toss
set_option maxRecDepth 20000 in
theorem ggL_law_X10_toss : GoodIn wsL_law wsX10_toss := goodIn_r _ [571, 154, 133, 141, 572, 573, 497, 132, 496, 434, 435, 436, 5, 437, 358, 157, 158, 159, 498, 499, 500, 554, 555, 556, 557, 359, 136, 501, 502, 503, 504, 128, 495, 130, 131, 129, 853, 854, 855, 856, 857, 858, 859, 860, 861, 862, 863, 864, 865, 866, 867, 868, 869, 870, 871, 872, 873, 874, 875, 876, 877, 878, 879, 880, 881, 882, 883] (by decide +kernel) (by decide +kernel)
set_option maxRecDepth 20000 in
theorem gL_law_X10_toss : GoodIn wsL_law (wsV RL 61 RX10 yX10_toss wsX10_toss) := goodIn_app (goodIn_of _ (by decide +kernel)) ggL_law_X10_toss
set_option maxRecDepth 20000 in
theorem ggL_law_X9_undo : GoodIn wsL_law wsX9_undo := goodIn_r _ [577, 30, 21, 578, 579, 580, 29, 581, 87, 83, 84, 85, 86, 582, 302, 303, 20, 304, 70, 71, 72, 841, 842, 843, 844, 845, 846, 847, 848, 849, 850, 851, 852, 896, 897, 898, 899, 900, 890, 891, 892, 893] (by decide +kernel) (by decide +kernel)
set_option maxRecDepth 20000 in
theorem gL_law_X9_undo : GoodIn wsL_law (wsV RL 62 RX9 yX9_undo wsX9_undo) := goodIn_app (goodIn_of _ (by decide +kernel)) ggL_law_X9_undo
set_option maxRecDepth 20000 in
theorem ggL_law_X10_undo : GoodIn wsL_law wsX10_undo := goodIn_r _ [586, 154, 359, 133, 136, 853, 854, 855, 856, 857, 858, 859, 860, 861, 862, 863, 864, 865, 866, 867, 868, 869, 870, 871, 872, 873, 874, 875, 876, 877, 878, 879, 880, 881, 882, 883] (by decide +kernel) (by decide +kernel)
set_option maxRecDepth 20000 in
theorem gL_law_X10_undo : GoodIn wsL_law (wsV RL 65 RX10 yX10_undo wsX10_undo) := goodIn_app (goodIn_of _ (by decide +kernel)) ggL_law_X10_undo
set_option maxRecDepth 20000 in
theorem ggL_law_X9_lot : GoodIn wsL_law wsX9_lot := goodIn_r _ [590, 21, 841, 842, 843, 844, 845, 846, 847, 848, 849, 850, 851, 852, 890, 891, 892, 893] (by decide +kernel) (by decide +kernel)
set_option maxRecDepth 20000 in
theorem gL_law_X9_lot : GoodIn wsL_law (wsV RL 66 RX9 yX9_lot wsX9_lot) := goodIn_app (goodIn_of _ (by decide +kernel)) ggL_law_X9_lot
set_option maxRecDepth 20000 in
theorem ggL_law_X10_lot : GoodIn wsL_law wsX10_lot := goodIn_r _ [594, 154, 133, 853, 854, 855, 856, 857, 858, 859, 860, 861, 862, 863, 864, 865, 866, 867, 868, 869, 870, 871, 872, 873, 874, 875, 876, 877, 878, 879, 880, 881, 882, 883] (by decide +kernel) (by decide +kernel)
set_option maxRecDepth 20000 in
theorem gL_law_X10_lot : GoodIn wsL_law (wsV RL 69 RX10 yX10_lot wsX10_lot) := goodIn_app (goodIn_of _ (by decide +kernel)) ggL_law_X10_lot
set_option maxRecDepth 20000 in
theorem ggL_law_X9_home : GoodIn wsL_law wsX9_home := goodIn_r _ [598, 450, 451, 2, 452, 599, 600, 601, 602, 46, 422, 423, 424, 425, 21, 426, 427, 428, 429, 410, 411, 412, 20, 413, 70, 418, 419, 420, 421, 72, 603, 604, 605, 606, 414, 415, 416, 417, 71, 841, 842, 843, 844, 845, 846, 847, 848, 849, 850, 851, 852, 913, 914, 915, 916, 917, 918, 919, 920, 921, 890, 891, 892, 893] (by decide +kernel) (by decide +kernel)
set_option maxRecDepth 20000 in
theorem gL_law_X9_home : GoodIn wsL_law (wsV RL 70 RX9 yX9_home wsX9_home) := goodIn_app (goodIn_of _ (by decide +kernel)) ggL_law_X9_home
set_option maxRecDepth 20000 in
theorem ggL_law_X10_home : GoodIn wsL_law wsX10_home := goodIn_r _ [610, 154, 358, 133, 438, 439, 440, 5, 441, 141, 132, 853, 854, 855, 856, 857, 858, 859, 860, 861, 862, 863, 864, 865, 866, 867, 868, 869, 870, 871, 872, 873, 874, 875, 876, 877, 878, 879, 880, 881, 882, 883] (by decide +kernel) (by decide +kernel)
set_option maxRecDepth 20000 in
theorem gL_law_X10_home : GoodIn wsL_law (wsV RL 73 RX10 yX10_home wsX10_home) := goodIn_app (goodIn_of _ (by decide +kernel)) ggL_law_X10_home
set_option maxRecDepth 20000 in
theorem ggL_law_X9_odds : GoodIn wsL_law wsX9_odds := goodIn_r _ [614, 46, 615, 42, 38, 616, 398, 399, 400, 45, 401, 119, 450, 451, 2, 452, 617, 618, 619, 41, 620, 106, 108, 107, 109, 621, 510, 511, 37, 512, 97, 98, 99, 100, 513, 514, 515, 474, 475, 470, 471, 472, 516, 477, 478, 479, 480, 481, 261, 482, 468, 260, 262, 483, 484, 485, 486, 459, 460, 461, 462, 463, 464, 465, 466, 467, 118, 469, 403, 404, 405, 116, 487, 454, 455, 456, 457, 370, 371, 372, 113, 488, 407, 408, 409, 117, 489, 374, 375, 376, 115, 377, 366, 367, 368, 622, 623, 624, 625, 626, 627, 628, 629, 630, 631, 632, 633, 634, 105, 635, 636, 637, 638, 639, 640, 641, 642, 643, 644, 645, 646, 647, 648, 649, 650, 651, 652, 21, 653, 418, 419, 420, 20, 421, 72, 414, 415, 416, 417, 71, 410, 411, 412, 413, 70, 654, 655, 656, 657, 841, 842, 843, 844, 845, 846, 847, 848, 849, 850, 851, 852, 913, 914, 915, 916, 917, 918, 919, 920, 921, 908, 909, 910, 911, 912, 904, 905, 906, 907, 890, 891, 892, 893] (by decide +kernel) (by decide +kernel)
set_option maxRecDepth 20000 in
theorem gL_law_X9_odds : GoodIn wsL_law (wsV RL 74 RX9 yX9_odds wsX9_odds) := goodIn_app (goodIn_of _ (by decide +kernel)) ggL_law_X9_odds
set_option maxRecDepth 20000 in
theorem ggL_law_X10_odds : GoodIn wsL_law wsX10_odds := goodIn_r _ [661, 154, 662, 663, 434, 435, 436, 5, 437, 358, 157, 158, 159, 664, 665, 666, 667, 133, 132, 138, 668, 669, 670, 671, 141, 139, 140, 130, 525, 526, 527, 528, 497, 501, 502, 503, 504, 128, 495, 496, 131, 129, 672, 673, 674, 675, 676, 677, 678, 679, 529, 530, 531, 532, 680, 681, 682, 683, 684, 685, 686, 853, 854, 855, 856, 857, 858, 859, 860, 861, 862, 863, 864, 865, 866, 867, 868, 869, 870, 871, 872, 873, 874, 875, 876, 877, 878, 879, 880, 881, 882, 883] (by decide +kernel) (by decide +kernel)
set_option maxRecDepth 20000 in
theorem gL_law_X10_odds : GoodIn wsL_law (wsV RL 78 RX10 yX10_odds wsX10_odds) := goodIn_app (goodIn_of _ (by decide +kernel)) ggL_law_X10_odds
set_option maxRecDepth 20000 in
theorem ggL_law_X9_enough : GoodIn wsL_law wsX9_enough := goodIn_r _ [690, 46, 42, 38, 691, 616, 398, 399, 400, 45, 401, 119, 617, 618, 619, 41, 620, 106, 108, 107, 109, 621, 510, 511, 37, 512, 97, 98, 99, 100, 513, 514, 515, 474, 2, 475, 470, 471, 472, 516, 477, 478, 479, 480, 481, 261, 482, 468, 260, 262, 483, 484, 485, 486, 459, 460, 461, 462, 463, 464, 465, 466, 467, 118, 469, 403, 404, 405, 116, 487, 454, 455, 456, 457, 370, 371, 372, 113, 488, 407, 408, 409, 117, 489, 374, 375, 376, 115, 377, 366, 367, 368, 622, 623, 624, 625, 626, 627, 628, 629, 630, 631, 632, 633, 634, 105, 635, 636, 637, 638, 639, 640, 641, 642, 643, 644, 645, 646, 647, 648, 649, 650, 651, 652, 21, 653, 418, 419, 420, 20, 421, 72, 414, 415, 416, 417, 71, 410, 411, 412, 413, 70, 654, 841, 842, 843, 844, 845, 846, 847, 848, 849, 850, 851, 852, 913, 914, 915, 916, 917, 918, 919, 920, 921, 908, 909, 910, 911, 912, 904, 905, 906, 907, 890, 891, 892, 893] (by decide +kernel) (by decide +kernel)
set_option maxRecDepth 20000 in
theorem gL_law_X9_enough : GoodIn wsL_law (wsV RL 79 RX9 yX9_enough wsX9_enough) := goodIn_app (goodIn_of _ (by decide +kernel)) ggL_law_X9_enough
set_option maxRecDepth 20000 in
theorem ggL_law_X10_enough : GoodIn wsL_law wsX10_enough := goodIn_r _ [695, 154, 696, 434, 435, 436, 5, 437, 358, 157, 158, 159, 664, 665, 666, 667, 133, 132, 138, 668, 669, 670, 671, 141, 139, 140, 663, 130, 525, 526, 527, 528, 497, 501, 502, 503, 504, 128, 495, 496, 131, 129, 672, 673, 674, 675, 676, 677, 678, 679, 529, 530, 531, 532, 680, 681, 682, 683, 853, 854, 855, 856, 857, 858, 859, 860, 861, 862, 863, 864, 865, 866, 867, 868, 869, 870, 871, 872, 873, 874, 875, 876, 877, 878, 879, 880, 881, 882, 883] (by decide +kernel) (by decide +kernel)
set_option maxRecDepth 20000 in
theorem gL_law_X10_enough : GoodIn wsL_law (wsV RL 82 RX10 yX10_enough wsX10_enough) := goodIn_app (goodIn_of _ (by decide +kernel)) ggL_law_X10_enough
set_option maxRecDepth 20000 in
theorem ggL_law_X9_picture : GoodIn wsL_law wsX9_picture := goodIn_r _ [700, 34, 701, 702, 703, 33, 704, 93, 91, 92, 841, 842, 843, 844, 845, 846, 847, 848, 849, 850, 851, 852, 901, 902, 903] (by decide +kernel) (by decide +kernel)
set_option maxRecDepth 20000 in
theorem gL_law_X9_picture : GoodIn wsL_law (wsV RL 83 RX9 yX9_picture wsX9_picture) := goodIn_app (goodIn_of _ (by decide +kernel)) ggL_law_X9_picture
set_option maxRecDepth 20000 in
theorem ggL_law_X10_picture : GoodIn wsL_law wsX10_picture := goodIn_r _ [708, 154, 360, 137, 157, 158, 5, 159, 853, 854, 855, 856, 857, 858, 859, 860, 861, 862, 863, 864, 865, 866, 867, 868, 869, 870, 871, 872, 873, 874, 875, 876, 877, 878, 879, 880, 881, 882, 883] (by decide +kernel) (by decide +kernel)
set_option maxRecDepth 20000 in
theorem gL_law_X10_picture : GoodIn wsL_law (wsV RL 86 RX10 yX10_picture wsX10_picture) := goodIn_app (goodIn_of _ (by decide +kernel)) ggL_law_X10_picture
set_option maxRecDepth 20000 in
theorem ggL_law_X9_forget : GoodIn wsL_law wsX9_forget := goodIn_r _ [712, 34, 841, 842, 843, 844, 845, 846, 847, 848, 849, 850, 851, 852, 901, 902, 903] (by decide +kernel) (by decide +kernel)
set_option maxRecDepth 20000 in
theorem gL_law_X9_forget : GoodIn wsL_law (wsV RL 87 RX9 yX9_forget wsX9_forget) := goodIn_app (goodIn_of _ (by decide +kernel)) ggL_law_X9_forget
set_option maxRecDepth 20000 in
theorem ggL_law_X10_forget : GoodIn wsL_law wsX10_forget := goodIn_r _ [716, 154, 360, 853, 854, 855, 856, 857, 858, 859, 860, 861, 862, 863, 864, 865, 866, 867, 868, 869, 870, 871, 872, 873, 874, 875, 876, 877, 878, 879, 880, 881, 882, 883] (by decide +kernel) (by decide +kernel)
set_option maxRecDepth 20000 in
theorem gL_law_X10_forget : GoodIn wsL_law (wsV RL 90 RX10 yX10_forget wsX10_forget) := goodIn_app (goodIn_of _ (by decide +kernel)) ggL_law_X10_forget
set_option maxRecDepth 20000 in
theorem ggL_law_X9_could : GoodIn wsL_law wsX9_could := goodIn_r _ [720, 34, 450, 451, 2, 452, 721, 722, 723, 33, 724, 93, 91, 92, 462, 463, 473, 474, 475, 470, 471, 472, 841, 842, 843, 844, 845, 846, 847, 848, 849, 850, 851, 852, 901, 902, 903] (by decide +kernel) (by decide +kernel)
set_option maxRecDepth 20000 in
theorem gL_law_X9_could : GoodIn wsL_law (wsV RL 91 RX9 yX9_could wsX9_could) := goodIn_app (goodIn_of _ (by decide +kernel)) ggL_law_X9_could
set_option maxRecDepth 20000 in
theorem ggL_law_X10_could : GoodIn wsL_law wsX10_could := goodIn_r _ [728, 154, 157, 158, 5, 159, 729, 730, 731, 732, 360, 137, 853, 854, 855, 856, 857, 858, 859, 860, 861, 862, 863, 864, 865, 866, 867, 868, 869, 870, 871, 872, 873, 874, 875, 876, 877, 878, 879, 880, 881, 882, 883] (by decide +kernel) (by decide +kernel)
set_option maxRecDepth 20000 in
theorem gL_law_X10_could : GoodIn wsL_law (wsV RL 94 RX10 yX10_could wsX10_could) := goodIn_app (goodIn_of _ (by decide +kernel)) ggL_law_X10_could
set_option maxRecDepth 20000 in
theorem ggL_law_X9_towns : GoodIn wsL_law wsX9_towns := goodIn_r _ [736, 737, 260, 261, 262, 653, 484, 485, 738, 739, 2, 740, 450, 451, 452, 655, 656, 657] (by decide +kernel) (by decide +kernel)
set_option maxRecDepth 20000 in
theorem gL_law_X9_towns : GoodIn wsL_law (wsV RL 95 RX9 yX9_towns wsX9_towns) := goodIn_app (goodIn_of _ (by decide +kernel)) ggL_law_X9_towns
set_option maxRecDepth 20000 in
theorem ggL_law_X10_towns : GoodIn wsL_law wsX10_towns := goodIn_r _ [744, 154, 157, 158, 5, 159, 684, 685, 686, 853, 854, 855, 856, 857, 858, 859, 860, 861, 862, 863, 864, 865, 866, 867, 868, 869, 870, 871, 872, 873, 874, 875, 876, 877, 878, 879, 880, 881, 882, 883] (by decide +kernel) (by decide +kernel)
set_option maxRecDepth 20000 in
theorem gL_law_X10_towns : GoodIn wsL_law (wsV RL 98 RX10 yX10_towns wsX10_towns) := goodIn_app (goodIn_of _ (by decide +kernel)) ggL_law_X10_towns
set_option maxRecDepth 20000 in
theorem ggL_law_X9_rate : GoodIn wsL_law wsX9_rate := goodIn_r _ [748, 446, 749, 750, 751, 2, 752, 48, 567, 462, 463, 753, 754, 755, 756, 691, 470, 471, 472, 757, 758, 759, 760, 761, 762, 763, 764, 765, 766, 767, 768, 769, 770, 771, 46, 772, 773, 774, 775, 776, 841, 842, 843, 844, 845, 846, 847, 848, 849, 850, 851, 852, 913, 914, 915, 916, 917, 918, 919, 920, 921] (by decide +kernel) (by decide +kernel)
set_option maxRecDepth 20000 in
theorem gL_law_X9_rate : GoodIn wsL_law (wsV RL 99 RX9 yX9_rate wsX9_rate) := goodIn_app (goodIn_of _ (by decide +kernel)) ggL_law_X9_rate
set_option maxRecDepth 20000 in
theorem ggL_law_X10_rate : GoodIn wsL_law wsX10_rate := goodIn_r _ [780, 154, 494, 781, 782, 783, 784, 785, 786, 132, 157, 158, 5, 159, 853, 854, 855, 856, 857, 858, 859, 860, 861, 862, 863, 864, 865, 866, 867, 868, 869, 870, 871, 872, 873, 874, 875, 876, 877, 878, 879, 880, 881, 882, 883] (by decide +kernel) (by decide +kernel)
set_option maxRecDepth 20000 in
theorem gL_law_X10_rate : GoodIn wsL_law (wsV RL 103 RX10 yX10_rate wsX10_rate) := goodIn_app (goodIn_of _ (by decide +kernel)) ggL_law_X10_rate
set_option maxRecDepth 20000 in
theorem ggL_law_X9_keep : GoodIn wsL_law wsX9_keep := goodIn_r _ [790, 21, 450, 451, 2, 452, 791, 792, 793, 794, 25, 26, 795, 796, 797, 20, 798, 73, 799, 411, 412, 413, 70, 800, 415, 416, 417, 71, 801, 419, 420, 421, 72, 301, 302, 303, 304, 599, 600, 601, 602, 46, 422, 423, 424, 425, 426, 427, 428, 429, 410, 418, 802, 803, 804, 805, 806, 807, 808, 894, 895, 841, 842, 843, 844, 845, 846, 847, 848, 849, 850, 851, 852, 890, 891, 892, 893, 913, 914, 915, 916, 917, 918, 919, 920, 921] (by decide +kernel) (by decide +kernel)
set_option maxRecDepth 20000 in
theorem gL_law_X9_keep : GoodIn wsL_law (wsV RL 104 RX9 yX9_keep wsX9_keep) := goodIn_app (goodIn_of _ (by decide +kernel)) ggL_law_X9_keep
set_option maxRecDepth 20000 in
theorem ggL_law_X10_keep : GoodIn wsL_law wsX10_keep := goodIn_r _ [812, 154, 134, 133, 135, 157, 158, 5, 159, 813, 814, 815, 816, 358, 438, 439, 440, 441, 141, 132, 853, 854, 855, 856, 857, 858, 859, 860, 861, 862, 863, 864, 865, 866, 867, 868, 869, 870, 871, 872, 873, 874, 875, 876, 877, 878, 879, 880, 881, 882, 883] (by decide +kernel) (by decide +kernel)
set_option maxRecDepth 20000 in
theorem gL_law_X10_keep : GoodIn wsL_law (wsV RL 107 RX10 yX10_keep wsX10_keep) := goodIn_app (goodIn_of _ (by decide +kernel)) ggL_law_X10_keep
set_option maxRecDepth 20000 in
theorem ggL_law_X9_back : GoodIn wsL_law wsX9_back := goodIn_r _ [820, 21, 30, 450, 451, 2, 452, 791, 792, 793, 794, 25, 26, 795, 796, 797, 20, 798, 73, 799, 411, 412, 413, 70, 800, 415, 416, 417, 71, 801, 419, 420, 421, 72, 301, 302, 303, 304, 599, 600, 601, 602, 46, 422, 423, 424, 425, 426, 427, 428, 429, 410, 418, 802, 803, 804, 805, 806, 807, 808, 894, 895, 841, 842, 843, 844, 845, 846, 847, 848, 849, 850, 851, 852, 896, 897, 898, 899, 900, 890, 891, 892, 893, 913, 914, 915, 916, 917, 918, 919, 920, 921] (by decide +kernel) (by decide +kernel)
set_option maxRecDepth 20000 in
theorem gL_law_X9_back : GoodIn wsL_law (wsV RL 108 RX9 yX9_back wsX9_back) := goodIn_app (goodIn_of _ (by decide +kernel)) ggL_law_X9_back
set_option maxRecDepth 20000 in
theorem ggL_law_X10_back : GoodIn wsL_law wsX10_back := goodIn_r _ [824, 154, 135, 133, 134, 359, 157, 158, 5, 159, 813, 814, 815, 816, 358, 438, 439, 440, 441, 141, 132, 853, 854, 855, 856, 857, 858, 859, 860, 861, 862, 863, 864, 865, 866, 867, 868, 869, 870, 871, 872, 873, 874, 875, 876, 877, 878, 879, 880, 881, 882, 883] (by decide +kernel) (by decide +kernel)
set_option maxRecDepth 20000 in
theorem gL_law_X10_back : GoodIn wsL_law (wsV RL 111 RX10 yX10_back wsX10_back) := goodIn_app (goodIn_of _ (by decide +kernel)) ggL_law_X10_back
set_option maxRecDepth 20000 in
theorem ggL_law_X9_count : GoodIn wsL_law wsX9_count := goodIn_r _ [828, 46, 34, 30, 17, 841, 842, 843, 844, 845, 846, 847, 848, 849, 850, 851, 852, 913, 914, 915, 916, 917, 918, 919, 920, 921, 901, 902, 903, 896, 897, 898, 899, 900, 922, 923] (by decide +kernel) (by decide +kernel)
set_option maxRecDepth 20000 in
theorem gL_law_X9_count : GoodIn wsL_law (wsV RL 112 RX9 yX9_count wsX9_count) := goodIn_app (goodIn_of _ (by decide +kernel)) ggL_law_X9_count
set_option maxRecDepth 20000 in
theorem ggL_law_X10_count : GoodIn wsL_law wsX10_count := goodIn_r _ [832, 154, 358, 360, 359, 155, 853, 854, 855, 856, 857, 858, 859, 860, 861, 862, 863, 864, 865, 866, 867, 868, 869, 870, 871, 872, 873, 874, 875, 876, 877, 878, 879, 880, 881, 882, 883] (by decide +kernel) (by decide +kernel)
set_option maxRecDepth 20000 in
theorem gL_law_X10_count : GoodIn wsL_law (wsV RL 115 RX10 yX10_count wsX10_count) := goodIn_app (goodIn_of _ (by decide +kernel)) ggL_law_X10_count
set_option maxRecDepth 20000 in
theorem ggL_law_X9_trace : GoodIn wsL_law wsX9_trace := goodIn_r _ [836, 48, 841, 842, 843, 844, 845, 846, 847, 848, 849, 850, 851, 852] (by decide +kernel) (by decide +kernel)
set_option maxRecDepth 20000 in
theorem gL_law_X9_trace : GoodIn wsL_law (wsV RL 116 RX9 yX9_trace wsX9_trace) := goodIn_app (goodIn_of _ (by decide +kernel)) ggL_law_X9_trace
set_option maxRecDepth 20000 in
theorem ggL_law_X10_trace : GoodIn wsL_law wsX10_trace := goodIn_r _ [840, 154, 781, 853, 854, 855, 856, 857, 858, 859, 860, 861, 862, 863, 864, 865, 866, 867, 868, 869, 870, 871, 872, 873, 874, 875, 876, 877, 878, 879, 880, 881, 882, 883] (by decide +kernel) (by decide +kernel)
set_option maxRecDepth 20000 in
theorem gL_law_X10_trace : GoodIn wsL_law (wsV RL 120 RX10 yX10_trace wsX10_trace) := goodIn_app (goodIn_of _ (by decide +kernel)) ggL_law_X10_trace
theorem dL_law_0 : decode cL_law 0 = .ok (.new 7, 3) := by decide +kernel
theorem dL_law_3 : decode cL_law 3 = .ok (.dup, 1) := by decide +kernel
theorem dL_law_4 : decode cL_law 4 = .ok (.invokespecial 9, 3) := by decide +kernel
theorem dL_law_7 : decode cL_law 7 = .ok (.astore_n 1, 1) := by decide +kernel
theorem dL_law_8 : decode cL_law 8 = .ok (.new 10, 3) := by decide +kernel
theorem dL_law_11 : decode cL_law 11 = .ok (.dup, 1) := by decide +kernel
theorem dL_law_12 : decode cL_law 12 = .ok (.invokespecial 12, 3) := by decide +kernel
theorem dL_law_15 : decode cL_law 15 = .ok (.astore_n 2, 1) := by decide +kernel
theorem dL_law_16 : decode cL_law 16 = .ok (.iconst 0, 1) := by decide +kernel
theorem dL_law_17 : decode cL_law 17 = .ok (.istore_n 3, 1) := by decide +kernel
theorem dL_law_18 : decode cL_law 18 = .ok (.iload_n 3, 1) := by decide +kernel
theorem dL_law_19 : decode cL_law 19 = .ok (.aload_n 0, 1) := by decide +kernel
theorem dL_law_20 : decode cL_law 20 = .ok (.arraylength, 1) := by decide +kernel
theorem dL_law_21 : decode cL_law 21 = .ok (.bipush 8, 2) := by decide +kernel
theorem dL_law_23 : decode cL_law 23 = .ok (.isub, 1) := by decide +kernel
theorem dL_law_24 : decode cL_law 24 = .ok (.if_icmp .gt 934, 3) := by decide +kernel
theorem dL_law_27 : decode cL_law 27 = .ok (.aload_n 0, 1) := by decide +kernel
theorem dL_law_28 : decode cL_law 28 = .ok (.iload_n 3, 1) := by decide +kernel
theorem dL_law_29 : decode cL_law 29 = .ok (.iaload, 1) := by decide +kernel
theorem dL_law_30 : decode cL_law 30 = .ok (.bipush 31, 2) := by decide +kernel
theorem dL_law_32 : decode cL_law 32 = .ok (.iand, 1) := by decide +kernel
theorem dL_law_33 : decode cL_law 33 = .ok (.tableswitch 919 0 23 #[111, 174, 187, 200, 233, 256, 289, 376, 429, 462, 525, 538, 561, 584, 628, 661, 694, 707, 730, 793, 836, 859, 882, 905], 111) := by decide +kernel
theorem dL_law_144 : decode cL_law 144 = .ok (.aload_n 1, 1) := by decide +kernel
theorem dL_law_145 : decode cL_law 145 = .ok (.aload_n 0, 1) := by decide +kernel
theorem dL_law_146 : decode cL_law 146 = .ok (.iload_n 3, 1) := by decide +kernel
theorem dL_law_147 : decode cL_law 147 = .ok (.iconst 1, 1) := by decide +kernel
theorem dL_law_148 : decode cL_law 148 = .ok (.iadd, 1) := by decide +kernel
theorem dL_law_149 : decode cL_law 149 = .ok (.iaload, 1) := by decide +kernel
theorem dL_law_150 : decode cL_law 150 = .ok (.i2l, 1) := by decide +kernel
theorem dL_law_151 : decode cL_law 151 = .ok (.bipush 32, 2) := by decide +kernel
theorem dL_law_153 : decode cL_law 153 = .ok (.lshl, 1) := by decide +kernel
theorem dL_law_154 : decode cL_law 154 = .ok (.aload_n 0, 1) := by decide +kernel
theorem dL_law_155 : decode cL_law 155 = .ok (.iload_n 3, 1) := by decide +kernel
theorem dL_law_156 : decode cL_law 156 = .ok (.iconst 2, 1) := by decide +kernel
theorem dL_law_157 : decode cL_law 157 = .ok (.iadd, 1) := by decide +kernel
theorem dL_law_158 : decode cL_law 158 = .ok (.iaload, 1) := by decide +kernel
theorem dL_law_159 : decode cL_law 159 = .ok (.i2l, 1) := by decide +kernel
theorem dL_law_160 : decode cL_law 160 = .ok (.ldc2_w 13, 3) := by decide +kernel
