theorem dX9_comes_109 : decode cX9_comes 109 = .ok (.iload 5, 2) := by decide +kernel
theorem dX9_comes_111 : decode cX9_comes 111 = .ok (.invokestatic 170, 3) := by decide +kernel
theorem dX9_comes_114 : decode cX9_comes 114 = .ok (.ifCond .eq 7, 3) := by decide +kernel
theorem dX9_comes_117 : decode cX9_comes 117 = .ok (.iconst 1, 1) := by decide +kernel
theorem dX9_comes_118 : decode cX9_comes 118 = .ok (.goto 4, 3) := by decide +kernel
theorem dX9_comes_121 : decode cX9_comes 121 = .ok (.iconst 0, 1) := by decide +kernel
theorem dX9_comes_122 : decode cX9_comes 122 = .ok (.ireturn, 1) := by decide +kernel
theorem dX9_comes_123 : decode cX9_comes 123 = .ok (.aload_n 0, 1) := by decide +kernel
theorem dX9_comes_124 : decode cX9_comes 124 = .ok (.getfield 69, 3) := by decide +kernel
theorem dX9_comes_127 : decode cX9_comes 127 = .ok (.iload_n 1, 1) := by decide +kernel
theorem dX9_comes_128 : decode cX9_comes 128 = .ok (.iload_n 2, 1) := by decide +kernel
theorem dX9_comes_129 : decode cX9_comes 129 = .ok (.iload_n 3, 1) := by decide +kernel
theorem dX9_comes_130 : decode cX9_comes 130 = .ok (.iload 4, 2) := by decide +kernel
theorem dX9_comes_132 : decode cX9_comes 132 = .ok (.iload 5, 2) := by decide +kernel
theorem dX9_comes_134 : decode cX9_comes 134 = .ok (.iload 6, 2) := by decide +kernel
theorem dX9_comes_136 : decode cX9_comes 136 = .ok (.invokevirtual 174, 3) := by decide +kernel
theorem dX9_comes_139 : decode cX9_comes 139 = .ok (.ireturn, 1) := by decide +kernel
theorem dX9_comes_140 : decode cX9_comes 140 = .ok (.ldc 157, 2) := by decide +kernel
theorem dX9_comes_142 : decode cX9_comes 142 = .ok (.ireturn, 1) := by decide +kernel
set_option maxRecDepth 20000 in
theorem ggX9_best_X3_isRunner : GoodIn wsX9_best wsX3_isRunner := goodIn_r _ [7, 8, 104, 105, 106, 107, 108, 109, 110, 111, 112] (by decide +kernel) (by decide +kernel)
set_option maxRecDepth 20000 in
theorem gX9_best_X3_isRunner : GoodIn wsX9_best (wsV RX9 132 RX3 yX3_isRunner wsX3_isRunner) := goodIn_app (goodIn_of _ (by decide +kernel)) ggX9_best_X3_isRunner
set_option maxRecDepth 20000 in
theorem ggX9_best_X3_isYard : GoodIn wsX9_best wsX3_isYard := goodIn_r _ [12, 13, 104, 105, 106, 107, 108, 109, 110, 111, 112] (by decide +kernel) (by decide +kernel)
set_option maxRecDepth 20000 in
theorem gX9_best_X3_isYard : GoodIn wsX9_best (wsV RX9 109 RX3 yX3_isYard wsX3_isYard) := goodIn_app (goodIn_of _ (by decide +kernel)) ggX9_best_X3_isYard
set_option maxRecDepth 20000 in
theorem ggX9_best_X9_isBit : GoodIn wsX9_best wsX9_isBit := goodIn_r _ [17] (by decide +kernel) (by decide +kernel)
set_option maxRecDepth 20000 in
theorem gX9_best_X9_isBit : GoodIn wsX9_best (va_wsS RX9 178 yX9_isBit wsX9_isBit) := goodIn_app (goodIn_of _ (by decide +kernel)) ggX9_best_X9_isBit
set_option maxRecDepth 20000 in
theorem ggX9_best_X1_find : GoodIn wsX9_best wsX1_find := goodIn_r _ [22, 23, 24, 25, 26, 27, 28, 21, 29, 30, 16, 31, 32, 33, 34, 35, 36, 37, 6, 38, 39, 40, 41, 42, 43, 44, 45, 46, 47, 48, 49, 50, 51, 52, 53, 54, 55, 56, 57, 58, 13, 59, 60, 61, 62, 63, 64, 65, 66, 67, 68, 69, 70, 71, 72, 73, 74, 75, 76, 77, 78, 79, 80, 81, 82, 83, 10, 11, 12, 100, 101, 102, 103, 104, 105, 106, 107, 108, 109, 110, 111, 112] (by decide +kernel) (by decide +kernel)
set_option maxRecDepth 20000 in
theorem gX9_best_X1_find : GoodIn wsX9_best (wsV RX9 181 RX1 yX1_find wsX1_find) := goodIn_app (goodIn_of _ (by decide +kernel)) ggX9_best_X1_find
set_option maxRecDepth 20000 in
theorem ggX9_best_X1_number : GoodIn wsX9_best wsX1_number := goodIn_r _ [87, 24, 25, 26, 100, 101, 102, 103] (by decide +kernel) (by decide +kernel)
set_option maxRecDepth 20000 in
theorem gX9_best_X1_number : GoodIn wsX9_best (wsV RX9 188 RX1 yX1_number wsX1_number) := goodIn_app (goodIn_of _ (by decide +kernel)) ggX9_best_X1_number
theorem dX9_best_0 : decode cX9_best 0 = .ok (.aload_n 0, 1) := by decide +kernel
theorem dX9_best_1 : decode cX9_best 1 = .ok (.getfield 69, 3) := by decide +kernel
theorem dX9_best_4 : decode cX9_best 4 = .ok (.iload_n 1, 1) := by decide +kernel
theorem dX9_best_5 : decode cX9_best 5 = .ok (.invokevirtual 132, 3) := by decide +kernel
theorem dX9_best_8 : decode cX9_best 8 = .ok (.ifCond .eq 29, 3) := by decide +kernel
theorem dX9_best_11 : decode cX9_best 11 = .ok (.aload_n 0, 1) := by decide +kernel
theorem dX9_best_12 : decode cX9_best 12 = .ok (.getfield 69, 3) := by decide +kernel
theorem dX9_best_15 : decode cX9_best 15 = .ok (.iload_n 2, 1) := by decide +kernel
theorem dX9_best_16 : decode cX9_best 16 = .ok (.invokevirtual 109, 3) := by decide +kernel
theorem dX9_best_19 : decode cX9_best 19 = .ok (.ifCond .eq 18, 3) := by decide +kernel
theorem dX9_best_22 : decode cX9_best 22 = .ok (.iload_n 3, 1) := by decide +kernel
theorem dX9_best_23 : decode cX9_best 23 = .ok (.invokestatic 178, 3) := by decide +kernel
theorem dX9_best_26 : decode cX9_best 26 = .ok (.ifCond .eq 11, 3) := by decide +kernel
theorem dX9_best_29 : decode cX9_best 29 = .ok (.iload 4, 2) := by decide +kernel
theorem dX9_best_31 : decode cX9_best 31 = .ok (.invokestatic 178, 3) := by decide +kernel
theorem dX9_best_34 : decode cX9_best 34 = .ok (.ifCond .ne 5, 3) := by decide +kernel
theorem dX9_best_37 : decode cX9_best 37 = .ok (.iconst (-1), 1) := by decide +kernel
theorem dX9_best_38 : decode cX9_best 38 = .ok (.ireturn, 1) := by decide +kernel
theorem dX9_best_39 : decode cX9_best 39 = .ok (.aload_n 0, 1) := by decide +kernel
theorem dX9_best_40 : decode cX9_best 40 = .ok (.getfield 55, 3) := by decide +kernel
theorem dX9_best_43 : decode cX9_best 43 = .ok (.aload_n 0, 1) := by decide +kernel
theorem dX9_best_44 : decode cX9_best 44 = .ok (.getfield 69, 3) := by decide +kernel
theorem dX9_best_47 : decode cX9_best 47 = .ok (.iload_n 1, 1) := by decide +kernel
theorem dX9_best_48 : decode cX9_best 48 = .ok (.iload_n 2, 1) := by decide +kernel
theorem dX9_best_49 : decode cX9_best 49 = .ok (.iload_n 3, 1) := by decide +kernel
theorem dX9_best_50 : decode cX9_best 50 = .ok (.invokevirtual 181, 3) := by decide +kernel
theorem dX9_best_53 : decode cX9_best 53 = .ok (.iload 4, 2) := by decide +kernel
theorem dX9_best_55 : decode cX9_best 55 = .ok (.ifCond .ne 13, 3) := by decide +kernel
theorem dX9_best_58 : decode cX9_best 58 = .ok (.aload_n 0, 1) := by decide +kernel
theorem dX9_best_59 : decode cX9_best 59 = .ok (.getfield 55, 3) := by decide +kernel
theorem dX9_best_62 : decode cX9_best 62 = .ok (.getfield 185, 3) := by decide +kernel
theorem dX9_best_65 : decode cX9_best 65 = .ok (.goto 10, 3) := by decide +kernel
theorem dX9_best_68 : decode cX9_best 68 = .ok (.aload_n 0, 1) := by decide +kernel
theorem dX9_best_69 : decode cX9_best 69 = .ok (.getfield 55, 3) := by decide +kernel
theorem dX9_best_72 : decode cX9_best 72 = .ok (.invokevirtual 188, 3) := by decide +kernel
theorem dX9_best_75 : decode cX9_best 75 = .ok (.ireturn, 1) := by decide +kernel
set_option maxRecDepth 20000 in
theorem ggX9_runs_X3_isRunner : GoodIn wsX9_runs wsX3_isRunner := goodIn_r _ [8, 9, 78, 79, 80, 81, 82, 83, 84, 85, 86] (by decide +kernel) (by decide +kernel)
set_option maxRecDepth 20000 in
theorem gX9_runs_X3_isRunner : GoodIn wsX9_runs (wsV RX9 132 RX3 yX3_isRunner wsX3_isRunner) := goodIn_app (goodIn_of _ (by decide +kernel)) ggX9_runs_X3_isRunner
set_option maxRecDepth 20000 in
theorem ggX9_runs_X9_isAtEnd : GoodIn wsX9_runs wsX9_isAtEnd := goodIn_r _ [14, 3, 1, 15, 16, 17, 18, 19, 20, 66, 67, 68, 69, 70, 71, 72, 73, 74, 75, 76, 77, 78, 79, 80, 81, 82, 83, 84, 85, 86, 87, 88, 89, 90] (by decide +kernel) (by decide +kernel)
set_option maxRecDepth 20000 in
theorem gX9_runs_X9_isAtEnd : GoodIn wsX9_runs (wsV RX9 191 RX9 yX9_isAtEnd wsX9_isAtEnd) := goodIn_app (goodIn_of _ (by decide +kernel)) ggX9_runs_X9_isAtEnd
set_option maxRecDepth 20000 in
theorem ggX9_runs_X0_remember : GoodIn wsX9_runs wsX0_remember := goodIn_r _ [25, 26, 27, 28, 29, 30, 31, 32, 33, 24, 34, 35, 16, 17, 18, 19, 20, 36, 37, 38, 39, 40, 41, 42, 43, 44, 45, 91, 92, 93, 94, 95, 87, 88, 89, 90] (by decide +kernel) (by decide +kernel)
set_option maxRecDepth 20000 in
theorem gX9_runs_X0_remember : GoodIn wsX9_runs (wsV RX9 194 RX0 yX0_remember wsX0_remember) := goodIn_app (goodIn_of _ (by decide +kernel)) ggX9_runs_X0_remember
set_option maxRecDepth 20000 in
theorem ggX9_runs_X7_yardOf : GoodIn wsX9_runs wsX7_yardOf := goodIn_r _ [19, 20, 87, 88, 89, 90] (by decide +kernel) (by decide +kernel)
set_option maxRecDepth 20000 in
theorem gX9_runs_X7_yardOf : GoodIn wsX9_runs (wsV RX9 141 RX7 yX7_yardOf wsX7_yardOf) := goodIn_app (goodIn_of _ (by decide +kernel)) ggX9_runs_X7_yardOf
set_option maxRecDepth 20000 in
theorem ggX9_runs_X3_yardOnRun : GoodIn wsX9_runs wsX3_yardOnRun := goodIn_r _ [49, 50, 51, 52, 53, 54, 55, 56, 57, 7, 58, 59, 78, 79, 80, 81, 82, 83, 84, 85, 86] (by decide +kernel) (by decide +kernel)
set_option maxRecDepth 20000 in
theorem gX9_runs_X3_yardOnRun : GoodIn wsX9_runs (wsV RX9 198 RX3 yX3_yardOnRun wsX3_yardOnRun) := goodIn_app (goodIn_of _ (by decide +kernel)) ggX9_runs_X3_yardOnRun
set_option maxRecDepth 20000 in
theorem ggX9_runs_X7_beatsOf : GoodIn wsX9_runs wsX7_beatsOf := goodIn_r _ [39, 40, 87, 88, 89, 90] (by decide +kernel) (by decide +kernel)
set_option maxRecDepth 20000 in
theorem gX9_runs_X7_beatsOf : GoodIn wsX9_runs (wsV RX9 144 RX7 yX7_beatsOf wsX7_beatsOf) := goodIn_app (goodIn_of _ (by decide +kernel)) ggX9_runs_X7_beatsOf
set_option maxRecDepth 20000 in
theorem ggX9_runs_X7_goodOf : GoodIn wsX9_runs wsX7_goodOf := goodIn_r _ [44, 45, 87, 88, 89, 90] (by decide +kernel) (by decide +kernel)
set_option maxRecDepth 20000 in
theorem gX9_runs_X7_goodOf : GoodIn wsX9_runs (wsV RX9 147 RX7 yX7_goodOf wsX7_goodOf) := goodIn_app (goodIn_of _ (by decide +kernel)) ggX9_runs_X7_goodOf
set_option maxRecDepth 20000 in
theorem ggX9_runs_X7_put : GoodIn wsX9_runs wsX7_put := goodIn_r _ [65, 20, 40, 45, 87, 88, 89, 90] (by decide +kernel) (by decide +kernel)
set_option maxRecDepth 20000 in
theorem gX9_runs_X7_put : GoodIn wsX9_runs (wsV RX9 201 RX7 yX7_put wsX7_put) := goodIn_app (goodIn_of _ (by decide +kernel)) ggX9_runs_X7_put
theorem dX9_runs_0 : decode cX9_runs 0 = .ok (.aload_n 0, 1) := by decide +kernel
theorem dX9_runs_1 : decode cX9_runs 1 = .ok (.getfield 69, 3) := by decide +kernel
theorem dX9_runs_4 : decode cX9_runs 4 = .ok (.iload_n 1, 1) := by decide +kernel
theorem dX9_runs_5 : decode cX9_runs 5 = .ok (.invokevirtual 132, 3) := by decide +kernel
theorem dX9_runs_8 : decode cX9_runs 8 = .ok (.ifCond .eq 14, 3) := by decide +kernel
theorem dX9_runs_11 : decode cX9_runs 11 = .ok (.iload_n 2, 1) := by decide +kernel
theorem dX9_runs_12 : decode cX9_runs 12 = .ok (.iconst 1, 1) := by decide +kernel
theorem dX9_runs_13 : decode cX9_runs 13 = .ok (.if_icmp .lt 9, 3) := by decide +kernel
theorem dX9_runs_16 : decode cX9_runs 16 = .ok (.iload_n 2, 1) := by decide +kernel
theorem dX9_runs_17 : decode cX9_runs 17 = .ok (.bipush 9, 2) := by decide +kernel
theorem dX9_runs_19 : decode cX9_runs 19 = .ok (.if_icmp .le 5, 3) := by decide +kernel
theorem dX9_runs_22 : decode cX9_runs 22 = .ok (.iconst (-1), 1) := by decide +kernel
theorem dX9_runs_23 : decode cX9_runs 23 = .ok (.ireturn, 1) := by decide +kernel
theorem dX9_runs_24 : decode cX9_runs 24 = .ok (.aload_n 0, 1) := by decide +kernel
theorem dX9_runs_25 : decode cX9_runs 25 = .ok (.iload_n 1, 1) := by decide +kernel
theorem dX9_runs_26 : decode cX9_runs 26 = .ok (.invokevirtual 191, 3) := by decide +kernel
theorem dX9_runs_29 : decode cX9_runs 29 = .ok (.ifCond .eq 6, 3) := by decide +kernel
theorem dX9_runs_32 : decode cX9_runs 32 = .ok (.bipush (-2), 2) := by decide +kernel
theorem dX9_runs_34 : decode cX9_runs 34 = .ok (.ireturn, 1) := by decide +kernel
theorem dX9_runs_35 : decode cX9_runs 35 = .ok (.aload_n 0, 1) := by decide +kernel
theorem dX9_runs_36 : decode cX9_runs 36 = .ok (.getfield 41, 3) := by decide +kernel
theorem dX9_runs_39 : decode cX9_runs 39 = .ok (.iload_n 1, 1) := by decide +kernel
theorem dX9_runs_40 : decode cX9_runs 40 = .ok (.aload_n 0, 1) := by decide +kernel
theorem dX9_runs_41 : decode cX9_runs 41 = .ok (.getfield 24, 3) := by decide +kernel
theorem dX9_runs_44 : decode cX9_runs 44 = .ok (.invokevirtual 194, 3) := by decide +kernel
theorem dX9_runs_47 : decode cX9_runs 47 = .ok (.aload_n 0, 1) := by decide +kernel
theorem dX9_runs_48 : decode cX9_runs 48 = .ok (.getfield 69, 3) := by decide +kernel
theorem dX9_runs_51 : decode cX9_runs 51 = .ok (.iload_n 1, 1) := by decide +kernel
theorem dX9_runs_52 : decode cX9_runs 52 = .ok (.aload_n 0, 1) := by decide +kernel
theorem dX9_runs_53 : decode cX9_runs 53 = .ok (.getfield 24, 3) := by decide +kernel
theorem dX9_runs_56 : decode cX9_runs 56 = .ok (.iload_n 1, 1) := by decide +kernel
theorem dX9_runs_57 : decode cX9_runs 57 = .ok (.invokevirtual 141, 3) := by decide +kernel
theorem dX9_runs_60 : decode cX9_runs 60 = .ok (.iload_n 2, 1) := by decide +kernel
theorem dX9_runs_61 : decode cX9_runs 61 = .ok (.invokevirtual 198, 3) := by decide +kernel
theorem dX9_runs_64 : decode cX9_runs 64 = .ok (.istore_n 3, 1) := by decide +kernel
theorem dX9_runs_65 : decode cX9_runs 65 = .ok (.aload_n 0, 1) := by decide +kernel
theorem dX9_runs_66 : decode cX9_runs 66 = .ok (.getfield 24, 3) := by decide +kernel
theorem dX9_runs_69 : decode cX9_runs 69 = .ok (.iload_n 1, 1) := by decide +kernel
theorem dX9_runs_70 : decode cX9_runs 70 = .ok (.iload_n 3, 1) := by decide +kernel
theorem dX9_runs_71 : decode cX9_runs 71 = .ok (.aload_n 0, 1) := by decide +kernel
theorem dX9_runs_72 : decode cX9_runs 72 = .ok (.getfield 24, 3) := by decide +kernel
theorem dX9_runs_75 : decode cX9_runs 75 = .ok (.iload_n 1, 1) := by decide +kernel
theorem dX9_runs_76 : decode cX9_runs 76 = .ok (.invokevirtual 144, 3) := by decide +kernel
theorem dX9_runs_79 : decode cX9_runs 79 = .ok (.iload_n 2, 1) := by decide +kernel
theorem dX9_runs_80 : decode cX9_runs 80 = .ok (.iadd, 1) := by decide +kernel
theorem dX9_runs_81 : decode cX9_runs 81 = .ok (.aload_n 0, 1) := by decide +kernel
theorem dX9_runs_82 : decode cX9_runs 82 = .ok (.getfield 24, 3) := by decide +kernel
theorem dX9_runs_85 : decode cX9_runs 85 = .ok (.iload_n 1, 1) := by decide +kernel
theorem dX9_runs_86 : decode cX9_runs 86 = .ok (.invokevirtual 147, 3) := by decide +kernel
theorem dX9_runs_89 : decode cX9_runs 89 = .ok (.invokevirtual 201, 3) := by decide +kernel
theorem dX9_runs_92 : decode cX9_runs 92 = .ok (.iload_n 3, 1) := by decide +kernel
theorem dX9_runs_93 : decode cX9_runs 93 = .ok (.ireturn, 1) := by decide +kernel
set_option maxRecDepth 20000 in
theorem ggX9_toss_X3_isRunner : GoodIn wsX9_toss wsX3_isRunner := goodIn_r _ [8, 9, 137, 138, 139, 140, 141, 142, 143, 144, 145] (by decide +kernel) (by decide +kernel)
set_option maxRecDepth 20000 in
theorem gX9_toss_X3_isRunner : GoodIn wsX9_toss (wsV RX9 132 RX3 yX3_isRunner wsX3_isRunner) := goodIn_app (goodIn_of _ (by decide +kernel)) ggX9_toss_X3_isRunner
set_option maxRecDepth 20000 in
theorem ggX9_toss_X9_isToss : GoodIn wsX9_toss wsX9_isToss := goodIn_r _ [13, 14, 15, 12, 16] (by decide +kernel) (by decide +kernel)
set_option maxRecDepth 20000 in
theorem gX9_toss_X9_isToss : GoodIn wsX9_toss (va_wsS RX9 153 yX9_isToss wsX9_isToss) := goodIn_app (goodIn_of _ (by decide +kernel)) ggX9_toss_X9_isToss
set_option maxRecDepth 20000 in
theorem ggX9_toss_X9_isAtEnd : GoodIn wsX9_toss wsX9_isAtEnd := goodIn_r _ [20, 3, 1, 21, 22, 23, 24, 25, 26, 125, 126, 127, 128, 129, 130, 131, 132, 133, 134, 135, 136, 137, 138, 139, 140, 141, 142, 143, 144, 145, 146, 147, 148, 149] (by decide +kernel) (by decide +kernel)
set_option maxRecDepth 20000 in
theorem gX9_toss_X9_isAtEnd : GoodIn wsX9_toss (wsV RX9 191 RX9 yX9_isAtEnd wsX9_isAtEnd) := goodIn_app (goodIn_of _ (by decide +kernel)) ggX9_toss_X9_isAtEnd
set_option maxRecDepth 20000 in
theorem ggX9_toss_X0_remember : GoodIn wsX9_toss wsX0_remember := goodIn_r _ [31, 32, 33, 34, 35, 36, 37, 38, 39, 30, 40, 41, 22, 23, 24, 25, 26, 42, 43, 44, 45, 46, 47, 48, 49, 50, 51, 150, 151, 152, 153, 154, 146, 147, 148, 149] (by decide +kernel) (by decide +kernel)
set_option maxRecDepth 20000 in
theorem gX9_toss_X0_remember : GoodIn wsX9_toss (wsV RX9 194 RX0 yX0_remember wsX0_remember) := goodIn_app (goodIn_of _ (by decide +kernel)) ggX9_toss_X0_remember
set_option maxRecDepth 20000 in
theorem ggX9_toss_X7_yardOf : GoodIn wsX9_toss wsX7_yardOf := goodIn_r _ [25, 26, 146, 147, 148, 149] (by decide +kernel) (by decide +kernel)
set_option maxRecDepth 20000 in
theorem gX9_toss_X7_yardOf : GoodIn wsX9_toss (wsV RX9 141 RX7 yX7_yardOf wsX7_yardOf) := goodIn_app (goodIn_of _ (by decide +kernel)) ggX9_toss_X7_yardOf
set_option maxRecDepth 20000 in
theorem ggX9_toss_X7_draw : GoodIn wsX9_toss wsX7_draw := goodIn_r _ [55, 56, 57, 146, 147, 148, 149] (by decide +kernel) (by decide +kernel)
set_option maxRecDepth 20000 in
theorem gX9_toss_X7_draw : GoodIn wsX9_toss (wsV RX9 205 RX7 yX7_draw wsX7_draw) := goodIn_app (goodIn_of _ (by decide +kernel)) ggX9_toss_X7_draw
set_option maxRecDepth 20000 in
theorem ggX9_toss_X3_catchOf : GoodIn wsX9_toss wsX3_catchOf := goodIn_r _ [61, 62, 63, 64, 65, 66, 67, 68, 69, 70, 71, 72, 73, 74, 7, 75, 76, 12, 77, 78, 79, 80, 81, 82, 83, 84, 85, 86, 87, 88, 89, 90, 91, 92, 93, 94, 95, 96, 97, 98, 99, 100, 101, 102, 103, 104, 105, 106, 107, 108, 109, 110, 111, 112, 137, 138, 139, 140, 141, 142, 143, 144, 145] (by decide +kernel) (by decide +kernel)
set_option maxRecDepth 20000 in
theorem gX9_toss_X3_catchOf : GoodIn wsX9_toss (wsV RX9 174 RX3 yX3_catchOf wsX3_catchOf) := goodIn_app (goodIn_of _ (by decide +kernel)) ggX9_toss_X3_catchOf
set_option maxRecDepth 20000 in
theorem ggX9_toss_X9_isTurned : GoodIn wsX9_toss wsX9_isTurned := goodIn_r _ [115, 116, 102, 12, 103] (by decide +kernel) (by decide +kernel)
set_option maxRecDepth 20000 in
theorem gX9_toss_X9_isTurned : GoodIn wsX9_toss (va_wsS RX9 170 yX9_isTurned wsX9_isTurned) := goodIn_app (goodIn_of _ (by decide +kernel)) ggX9_toss_X9_isTurned
set_option maxRecDepth 20000 in
theorem ggX9_toss_X7_beatsOf : GoodIn wsX9_toss wsX7_beatsOf := goodIn_r _ [45, 46, 146, 147, 148, 149] (by decide +kernel) (by decide +kernel)
set_option maxRecDepth 20000 in
theorem gX9_toss_X7_beatsOf : GoodIn wsX9_toss (wsV RX9 144 RX7 yX7_beatsOf wsX7_beatsOf) := goodIn_app (goodIn_of _ (by decide +kernel)) ggX9_toss_X7_beatsOf
set_option maxRecDepth 20000 in
theorem ggX9_toss_X9_beatsInAir : GoodIn wsX9_toss wsX9_beatsInAir := goodIn_r _ [77] (by decide +kernel) (by decide +kernel)
set_option maxRecDepth 20000 in
theorem gX9_toss_X9_beatsInAir : GoodIn wsX9_toss (va_wsS RX9 208 yX9_beatsInAir wsX9_beatsInAir) := goodIn_app (goodIn_of _ (by decide +kernel)) ggX9_toss_X9_beatsInAir
set_option maxRecDepth 20000 in
theorem ggX9_toss_X3_yardAfter : GoodIn wsX9_toss wsX3_yardAfter := goodIn_r _ [75, 76, 12, 77, 78, 79, 80, 7, 81, 82, 66, 67, 64, 68, 83, 84, 85, 86, 87, 137, 138, 139, 140, 141, 142, 143, 144, 145] (by decide +kernel) (by decide +kernel)
set_option maxRecDepth 20000 in
theorem gX9_toss_X3_yardAfter : GoodIn wsX9_toss (wsV RX9 162 RX3 yX3_yardAfter wsX3_yardAfter) := goodIn_app (goodIn_of _ (by decide +kernel)) ggX9_toss_X3_yardAfter
set_option maxRecDepth 20000 in
theorem ggX9_toss_X7_goodOf : GoodIn wsX9_toss wsX7_goodOf := goodIn_r _ [50, 51, 146, 147, 148, 149] (by decide +kernel) (by decide +kernel)
set_option maxRecDepth 20000 in
theorem gX9_toss_X7_goodOf : GoodIn wsX9_toss (wsV RX9 147 RX7 yX7_goodOf wsX7_goodOf) := goodIn_app (goodIn_of _ (by decide +kernel)) ggX9_toss_X7_goodOf
set_option maxRecDepth 20000 in
theorem ggX9_toss_X7_put : GoodIn wsX9_toss wsX7_put := goodIn_r _ [124, 26, 46, 51, 146, 147, 148, 149] (by decide +kernel) (by decide +kernel)
set_option maxRecDepth 20000 in
theorem gX9_toss_X7_put : GoodIn wsX9_toss (wsV RX9 201 RX7 yX7_put wsX7_put) := goodIn_app (goodIn_of _ (by decide +kernel)) ggX9_toss_X7_put
theorem dX9_toss_0 : decode cX9_toss 0 = .ok (.aload_n 0, 1) := by decide +kernel
theorem dX9_toss_1 : decode cX9_toss 1 = .ok (.getfield 69, 3) := by decide +kernel
theorem dX9_toss_4 : decode cX9_toss 4 = .ok (.iload_n 1, 1) := by decide +kernel
theorem dX9_toss_5 : decode cX9_toss 5 = .ok (.invokevirtual 132, 3) := by decide +kernel
theorem dX9_toss_8 : decode cX9_toss 8 = .ok (.ifCond .eq 15, 3) := by decide +kernel
theorem dX9_toss_11 : decode cX9_toss 11 = .ok (.iload_n 2, 1) := by decide +kernel
theorem dX9_toss_12 : decode cX9_toss 12 = .ok (.iload_n 3, 1) := by decide +kernel
theorem dX9_toss_13 : decode cX9_toss 13 = .ok (.iload 4, 2) := by decide +kernel
theorem dX9_toss_15 : decode cX9_toss 15 = .ok (.iload 5, 2) := by decide +kernel
theorem dX9_toss_17 : decode cX9_toss 17 = .ok (.invokestatic 153, 3) := by decide +kernel
theorem dX9_toss_20 : decode cX9_toss 20 = .ok (.ifCond .ne 5, 3) := by decide +kernel
theorem dX9_toss_23 : decode cX9_toss 23 = .ok (.iconst (-1), 1) := by decide +kernel
theorem dX9_toss_24 : decode cX9_toss 24 = .ok (.ireturn, 1) := by decide +kernel
theorem dX9_toss_25 : decode cX9_toss 25 = .ok (.aload_n 0, 1) := by decide +kernel
theorem dX9_toss_26 : decode cX9_toss 26 = .ok (.iload_n 1, 1) := by decide +kernel
theorem dX9_toss_27 : decode cX9_toss 27 = .ok (.invokevirtual 191, 3) := by decide +kernel
theorem dX9_toss_30 : decode cX9_toss 30 = .ok (.ifCond .eq 6, 3) := by decide +kernel
theorem dX9_toss_33 : decode cX9_toss 33 = .ok (.bipush (-2), 2) := by decide +kernel
theorem dX9_toss_35 : decode cX9_toss 35 = .ok (.ireturn, 1) := by decide +kernel
theorem dX9_toss_36 : decode cX9_toss 36 = .ok (.aload_n 0, 1) := by decide +kernel
theorem dX9_toss_37 : decode cX9_toss 37 = .ok (.getfield 41, 3) := by decide +kernel
theorem dX9_toss_40 : decode cX9_toss 40 = .ok (.iload_n 1, 1) := by decide +kernel
theorem dX9_toss_41 : decode cX9_toss 41 = .ok (.aload_n 0, 1) := by decide +kernel
theorem dX9_toss_42 : decode cX9_toss 42 = .ok (.getfield 24, 3) := by decide +kernel
theorem dX9_toss_45 : decode cX9_toss 45 = .ok (.invokevirtual 194, 3) := by decide +kernel
theorem dX9_toss_48 : decode cX9_toss 48 = .ok (.aload_n 0, 1) := by decide +kernel
theorem dX9_toss_49 : decode cX9_toss 49 = .ok (.getfield 24, 3) := by decide +kernel
theorem dX9_toss_52 : decode cX9_toss 52 = .ok (.iload_n 1, 1) := by decide +kernel
theorem dX9_toss_53 : decode cX9_toss 53 = .ok (.invokevirtual 141, 3) := by decide +kernel
theorem dX9_toss_56 : decode cX9_toss 56 = .ok (.istore 6, 2) := by decide +kernel
theorem dX9_toss_58 : decode cX9_toss 58 = .ok (.aload_n 0, 1) := by decide +kernel
theorem dX9_toss_59 : decode cX9_toss 59 = .ok (.getfield 24, 3) := by decide +kernel
theorem dX9_toss_62 : decode cX9_toss 62 = .ok (.invokevirtual 205, 3) := by decide +kernel
theorem dX9_toss_65 : decode cX9_toss 65 = .ok (.aload_n 0, 1) := by decide +kernel
theorem dX9_toss_66 : decode cX9_toss 66 = .ok (.getfield 69, 3) := by decide +kernel
theorem dX9_toss_69 : decode cX9_toss 69 = .ok (.iload_n 1, 1) := by decide +kernel
theorem dX9_toss_70 : decode cX9_toss 70 = .ok (.iload 6, 2) := by decide +kernel
theorem dX9_toss_72 : decode cX9_toss 72 = .ok (.iload_n 2, 1) := by decide +kernel
theorem dX9_toss_73 : decode cX9_toss 73 = .ok (.iload_n 3, 1) := by decide +kernel
theorem dX9_toss_74 : decode cX9_toss 74 = .ok (.iload 4, 2) := by decide +kernel
theorem dX9_toss_76 : decode cX9_toss 76 = .ok (.iload 5, 2) := by decide +kernel
theorem dX9_toss_78 : decode cX9_toss 78 = .ok (.invokevirtual 174, 3) := by decide +kernel
theorem dX9_toss_81 : decode cX9_toss 81 = .ok (.if_icmp .ge 7, 3) := by decide +kernel
theorem dX9_toss_84 : decode cX9_toss 84 = .ok (.iconst 1, 1) := by decide +kernel
theorem dX9_toss_85 : decode cX9_toss 85 = .ok (.goto 4, 3) := by decide +kernel
theorem dX9_toss_88 : decode cX9_toss 88 = .ok (.iconst 0, 1) := by decide +kernel
theorem dX9_toss_89 : decode cX9_toss 89 = .ok (.istore 7, 2) := by decide +kernel
theorem dX9_toss_91 : decode cX9_toss 91 = .ok (.iload 7, 2) := by decide +kernel
theorem dX9_toss_93 : decode cX9_toss 93 = .ok (.ifCond .eq 27, 3) := by decide +kernel
theorem dX9_toss_96 : decode cX9_toss 96 = .ok (.iload_n 2, 1) := by decide +kernel
theorem dX9_toss_97 : decode cX9_toss 97 = .ok (.iload 4, 2) := by decide +kernel
theorem dX9_toss_99 : decode cX9_toss 99 = .ok (.invokestatic 170, 3) := by decide +kernel
theorem dX9_toss_102 : decode cX9_toss 102 = .ok (.ifCond .eq 18, 3) := by decide +kernel
theorem dX9_toss_105 : decode cX9_toss 105 = .ok (.iload_n 2, 1) := by decide +kernel
theorem dX9_toss_106 : decode cX9_toss 106 = .ok (.aload_n 0, 1) := by decide +kernel
theorem dX9_toss_107 : decode cX9_toss 107 = .ok (.getfield 69, 3) := by decide +kernel
theorem dX9_toss_110 : decode cX9_toss 110 = .ok (.getfield 123, 3) := by decide +kernel
theorem dX9_toss_113 : decode cX9_toss 113 = .ok (.if_icmp .lt 7, 3) := by decide +kernel
theorem dX9_toss_116 : decode cX9_toss 116 = .ok (.iconst 1, 1) := by decide +kernel
theorem dX9_toss_117 : decode cX9_toss 117 = .ok (.goto 4, 3) := by decide +kernel
theorem dX9_toss_120 : decode cX9_toss 120 = .ok (.iconst 0, 1) := by decide +kernel
theorem dX9_toss_121 : decode cX9_toss 121 = .ok (.istore 8, 2) := by decide +kernel
theorem dX9_toss_123 : decode cX9_toss 123 = .ok (.aload_n 0, 1) := by decide +kernel
theorem dX9_toss_124 : decode cX9_toss 124 = .ok (.getfield 24, 3) := by decide +kernel
theorem dX9_toss_127 : decode cX9_toss 127 = .ok (.iload_n 1, 1) := by decide +kernel
theorem dX9_toss_128 : decode cX9_toss 128 = .ok (.invokevirtual 144, 3) := by decide +kernel
theorem dX9_toss_131 : decode cX9_toss 131 = .ok (.iload_n 2, 1) := by decide +kernel
theorem dX9_toss_132 : decode cX9_toss 132 = .ok (.invokestatic 208, 3) := by decide +kernel
theorem dX9_toss_135 : decode cX9_toss 135 = .ok (.iadd, 1) := by decide +kernel
theorem dX9_toss_136 : decode cX9_toss 136 = .ok (.iload 7, 2) := by decide +kernel
theorem dX9_toss_138 : decode cX9_toss 138 = .ok (.ifCond .eq 7, 3) := by decide +kernel
theorem dX9_toss_141 : decode cX9_toss 141 = .ok (.iconst 0, 1) := by decide +kernel
theorem dX9_toss_142 : decode cX9_toss 142 = .ok (.goto 10, 3) := by decide +kernel
theorem dX9_toss_145 : decode cX9_toss 145 = .ok (.aload_n 0, 1) := by decide +kernel
theorem dX9_toss_146 : decode cX9_toss 146 = .ok (.getfield 69, 3) := by decide +kernel
theorem dX9_toss_149 : decode cX9_toss 149 = .ok (.getfield 129, 3) := by decide +kernel
theorem dX9_toss_152 : decode cX9_toss 152 = .ok (.iadd, 1) := by decide +kernel
theorem dX9_toss_153 : decode cX9_toss 153 = .ok (.istore 9, 2) := by decide +kernel
theorem dX9_toss_155 : decode cX9_toss 155 = .ok (.aload_n 0, 1) := by decide +kernel
theorem dX9_toss_156 : decode cX9_toss 156 = .ok (.getfield 24, 3) := by decide +kernel
theorem dX9_toss_159 : decode cX9_toss 159 = .ok (.iload_n 1, 1) := by decide +kernel
theorem dX9_toss_160 : decode cX9_toss 160 = .ok (.aload_n 0, 1) := by decide +kernel
theorem dX9_toss_161 : decode cX9_toss 161 = .ok (.getfield 69, 3) := by decide +kernel
theorem dX9_toss_164 : decode cX9_toss 164 = .ok (.iload_n 1, 1) := by decide +kernel
theorem dX9_toss_165 : decode cX9_toss 165 = .ok (.iload 6, 2) := by decide +kernel
theorem dX9_toss_167 : decode cX9_toss 167 = .ok (.iload_n 2, 1) := by decide +kernel
theorem dX9_toss_168 : decode cX9_toss 168 = .ok (.iload 5, 2) := by decide +kernel
theorem dX9_toss_170 : decode cX9_toss 170 = .ok (.invokevirtual 162, 3) := by decide +kernel
theorem dX9_toss_173 : decode cX9_toss 173 = .ok (.iload 9, 2) := by decide +kernel
theorem dX9_toss_175 : decode cX9_toss 175 = .ok (.aload_n 0, 1) := by decide +kernel
theorem dX9_toss_176 : decode cX9_toss 176 = .ok (.getfield 24, 3) := by decide +kernel
theorem dX9_toss_179 : decode cX9_toss 179 = .ok (.iload_n 1, 1) := by decide +kernel
theorem dX9_toss_180 : decode cX9_toss 180 = .ok (.invokevirtual 147, 3) := by decide +kernel
theorem dX9_toss_183 : decode cX9_toss 183 = .ok (.iload 8, 2) := by decide +kernel
theorem dX9_toss_185 : decode cX9_toss 185 = .ok (.ifCond .eq 7, 3) := by decide +kernel
theorem dX9_toss_188 : decode cX9_toss 188 = .ok (.iconst 1, 1) := by decide +kernel
theorem dX9_toss_189 : decode cX9_toss 189 = .ok (.goto 4, 3) := by decide +kernel
theorem dX9_toss_192 : decode cX9_toss 192 = .ok (.iconst 0, 1) := by decide +kernel
theorem dX9_toss_193 : decode cX9_toss 193 = .ok (.iadd, 1) := by decide +kernel
theorem dX9_toss_194 : decode cX9_toss 194 = .ok (.invokevirtual 201, 3) := by decide +kernel
theorem dX9_toss_197 : decode cX9_toss 197 = .ok (.iload 8, 2) := by decide +kernel
theorem dX9_toss_199 : decode cX9_toss 199 = .ok (.ifCond .eq 7, 3) := by decide +kernel
theorem dX9_toss_202 : decode cX9_toss 202 = .ok (.iconst 2, 1) := by decide +kernel
theorem dX9_toss_203 : decode cX9_toss 203 = .ok (.goto 13, 3) := by decide +kernel
theorem dX9_toss_206 : decode cX9_toss 206 = .ok (.iload 7, 2) := by decide +kernel
theorem dX9_toss_208 : decode cX9_toss 208 = .ok (.ifCond .eq 7, 3) := by decide +kernel
theorem dX9_toss_211 : decode cX9_toss 211 = .ok (.iconst 1, 1) := by decide +kernel
theorem dX9_toss_212 : decode cX9_toss 212 = .ok (.goto 4, 3) := by decide +kernel
theorem dX9_toss_215 : decode cX9_toss 215 = .ok (.iconst 0, 1) := by decide +kernel
theorem dX9_toss_216 : decode cX9_toss 216 = .ok (.ireturn, 1) := by decide +kernel
set_option maxRecDepth 20000 in
theorem ggX9_undo_X0_takeBackLast : GoodIn wsX9_undo wsX0_takeBackLast := goodIn_r _ [7, 8, 9, 10, 11, 12, 13, 14, 15, 16, 17, 18, 19, 20, 33, 34, 35, 36, 37, 38, 39, 40, 41] (by decide +kernel) (by decide +kernel)
set_option maxRecDepth 20000 in
theorem gX9_undo_X0_takeBackLast : GoodIn wsX9_undo (wsV RX9 211 RX0 yX0_takeBackLast wsX0_takeBackLast) := goodIn_app (goodIn_of _ (by decide +kernel)) ggX9_undo_X0_takeBackLast
theorem dX9_undo_0 : decode cX9_undo 0 = .ok (.aload_n 0, 1) := by decide +kernel
theorem dX9_undo_1 : decode cX9_undo 1 = .ok (.getfield 41, 3) := by decide +kernel
theorem dX9_undo_4 : decode cX9_undo 4 = .ok (.getfield 101, 3) := by decide +kernel
theorem dX9_undo_7 : decode cX9_undo 7 = .ok (.ifCond .ne 6, 3) := by decide +kernel
theorem dX9_undo_10 : decode cX9_undo 10 = .ok (.bipush (-2), 2) := by decide +kernel
theorem dX9_undo_12 : decode cX9_undo 12 = .ok (.ireturn, 1) := by decide +kernel
theorem dX9_undo_13 : decode cX9_undo 13 = .ok (.aload_n 0, 1) := by decide +kernel
theorem dX9_undo_14 : decode cX9_undo 14 = .ok (.getfield 41, 3) := by decide +kernel
theorem dX9_undo_17 : decode cX9_undo 17 = .ok (.aload_n 0, 1) := by decide +kernel
theorem dX9_undo_18 : decode cX9_undo 18 = .ok (.getfield 24, 3) := by decide +kernel
theorem dX9_undo_21 : decode cX9_undo 21 = .ok (.invokevirtual 211, 3) := by decide +kernel
theorem dX9_undo_24 : decode cX9_undo 24 = .ok (.aload_n 0, 1) := by decide +kernel
theorem dX9_undo_25 : decode cX9_undo 25 = .ok (.getfield 41, 3) := by decide +kernel
theorem dX9_undo_28 : decode cX9_undo 28 = .ok (.getfield 101, 3) := by decide +kernel
theorem dX9_undo_31 : decode cX9_undo 31 = .ok (.ireturn, 1) := by decide +kernel
theorem dX9_lot_0 : decode cX9_lot 0 = .ok (.aload_n 0, 1) := by decide +kernel
theorem dX9_lot_1 : decode cX9_lot 1 = .ok (.getfield 24, 3) := by decide +kernel
theorem dX9_lot_4 : decode cX9_lot 4 = .ok (.getfield 215, 3) := by decide +kernel
theorem dX9_lot_7 : decode cX9_lot 7 = .ok (.istore_n 2, 1) := by decide +kernel
theorem dX9_lot_8 : decode cX9_lot 8 = .ok (.aload_n 0, 1) := by decide +kernel
theorem dX9_lot_9 : decode cX9_lot 9 = .ok (.getfield 24, 3) := by decide +kernel
theorem dX9_lot_12 : decode cX9_lot 12 = .ok (.iload_n 1, 1) := by decide +kernel
theorem dX9_lot_13 : decode cX9_lot 13 = .ok (.putfield 215, 3) := by decide +kernel
theorem dX9_lot_16 : decode cX9_lot 16 = .ok (.iload_n 2, 1) := by decide +kernel
theorem dX9_lot_17 : decode cX9_lot 17 = .ok (.ireturn, 1) := by decide +kernel
set_option maxRecDepth 20000 in
theorem ggX9_home_X9_isBit : GoodIn wsX9_home wsX9_isBit := goodIn_r _ [4] (by decide +kernel) (by decide +kernel)
set_option maxRecDepth 20000 in
theorem gX9_home_X9_isBit : GoodIn wsX9_home (va_wsS RX9 178 yX9_isBit wsX9_isBit) := goodIn_app (goodIn_of _ (by decide +kernel)) ggX9_home_X9_isBit
set_option maxRecDepth 20000 in
theorem ggX9_home_X9_homeBits : GoodIn wsX9_home wsX9_homeBits := goodIn_r _ [8, 9, 10, 11, 12, 3, 13, 14, 15, 16, 17, 18, 19, 20, 21, 22, 23, 24, 25, 26, 27, 28, 29, 39, 40, 41, 42, 43, 44, 45, 46, 47, 48, 49, 50, 51, 52, 53, 54, 55, 56, 57, 58, 59, 60, 61, 62, 63] (by decide +kernel) (by decide +kernel)
set_option maxRecDepth 20000 in
theorem gX9_home_X9_homeBits : GoodIn wsX9_home (wsV RX9 218 RX9 yX9_homeBits wsX9_homeBits) := goodIn_app (goodIn_of _ (by decide +kernel)) ggX9_home_X9_homeBits
set_option maxRecDepth 20000 in
theorem ggX9_home_X9_firstHome : GoodIn wsX9_home wsX9_firstHome := goodIn_r _ [33, 9, 14, 10, 11, 12, 3, 13, 15, 16, 17, 18, 19, 20, 21, 22, 23, 24, 25, 26, 27, 28, 29, 34, 35, 36, 37, 38, 39, 40, 41, 42, 43, 44, 45, 46, 47, 48, 49, 50, 51, 52, 53, 54, 55, 56, 57, 58, 59, 60, 61, 62, 63] (by decide +kernel) (by decide +kernel)
set_option maxRecDepth 20000 in
theorem gX9_home_X9_firstHome : GoodIn wsX9_home (wsV RX9 221 RX9 yX9_firstHome wsX9_firstHome) := goodIn_app (goodIn_of _ (by decide +kernel)) ggX9_home_X9_firstHome
theorem dX9_home_0 : decode cX9_home 0 = .ok (.iload_n 1, 1) := by decide +kernel
theorem dX9_home_1 : decode cX9_home 1 = .ok (.invokestatic 178, 3) := by decide +kernel
theorem dX9_home_4 : decode cX9_home 4 = .ok (.ifCond .ne 5, 3) := by decide +kernel
theorem dX9_home_7 : decode cX9_home 7 = .ok (.iconst (-1), 1) := by decide +kernel
theorem dX9_home_8 : decode cX9_home 8 = .ok (.ireturn, 1) := by decide +kernel
theorem dX9_home_9 : decode cX9_home 9 = .ok (.iload_n 1, 1) := by decide +kernel
theorem dX9_home_10 : decode cX9_home 10 = .ok (.ifCond .ne 10, 3) := by decide +kernel
theorem dX9_home_13 : decode cX9_home 13 = .ok (.aload_n 0, 1) := by decide +kernel
theorem dX9_home_14 : decode cX9_home 14 = .ok (.invokevirtual 218, 3) := by decide +kernel
theorem dX9_home_17 : decode cX9_home 17 = .ok (.goto 7, 3) := by decide +kernel
theorem dX9_home_20 : decode cX9_home 20 = .ok (.aload_n 0, 1) := by decide +kernel
theorem dX9_home_21 : decode cX9_home 21 = .ok (.invokevirtual 221, 3) := by decide +kernel
theorem dX9_home_24 : decode cX9_home 24 = .ok (.ireturn, 1) := by decide +kernel
set_option maxRecDepth 20000 in
theorem ggX9_odds_X3_isRunner : GoodIn wsX9_odds wsX3_isRunner := goodIn_r _ [10, 11, 161, 162, 163, 164, 165, 166, 167, 168, 169] (by decide +kernel) (by decide +kernel)
set_option maxRecDepth 20000 in
theorem gX9_odds_X3_isRunner : GoodIn wsX9_odds (wsV RX9 132 RX3 yX3_isRunner wsX3_isRunner) := goodIn_app (goodIn_of _ (by decide +kernel)) ggX9_odds_X3_isRunner
set_option maxRecDepth 20000 in
theorem ggX9_odds_X9_isBit : GoodIn wsX9_odds wsX9_isBit := goodIn_r _ [15] (by decide +kernel) (by decide +kernel)
set_option maxRecDepth 20000 in
theorem gX9_odds_X9_isBit : GoodIn wsX9_odds (va_wsS RX9 178 yX9_isBit wsX9_isBit) := goodIn_app (goodIn_of _ (by decide +kernel)) ggX9_odds_X9_isBit
set_option maxRecDepth 20000 in
theorem ggX9_odds_X4_fill : GoodIn wsX9_odds wsX4_fill := goodIn_r _ [20, 21, 22, 23, 24, 25, 26, 27, 28, 29, 30, 31, 32, 33, 34, 35, 36, 37, 14, 38, 39, 40, 41, 42, 43, 44, 9, 45, 46, 47, 48, 49, 50, 51, 52, 53, 54, 55, 56, 57, 58, 59, 60, 61, 62, 63, 64, 65, 66, 67, 68, 69, 70, 71, 72, 73, 74, 75, 76, 77, 78, 79, 80, 81, 82, 83, 84, 85, 86, 87, 88, 89, 90, 91, 92, 93, 94, 95, 96, 97, 19, 98, 99, 100, 101, 102, 103, 104, 105, 106, 107, 108, 109, 110, 111, 112, 113, 114, 115, 116, 117, 118, 119, 120, 121, 122, 161, 162, 163, 164, 165, 166, 167, 168, 169, 170, 171, 172, 173, 174, 175, 176, 177, 178] (by decide +kernel) (by decide +kernel)
set_option maxRecDepth 20000 in
theorem gX9_odds_X4_fill : GoodIn wsX9_odds (wsV RX9 226 RX4 yX4_fill wsX4_fill) := goodIn_app (goodIn_of _ (by decide +kernel)) ggX9_odds_X4_fill
set_option maxRecDepth 20000 in
theorem ggX9_odds_X9_oddsBy : GoodIn wsX9_odds wsX9_oddsBy := goodIn_r _ [126, 1, 127, 128, 54, 48, 55, 3, 129, 130, 131, 132, 133, 134, 135, 136, 137, 138, 139, 140, 141, 142, 143, 144, 145, 105, 106, 19, 107, 108, 109, 110, 111, 149, 150, 151, 152, 153, 154, 155, 156, 157, 158, 159, 160, 161, 162, 163, 164, 165, 166, 167, 168, 169, 179, 180, 181, 182, 170, 171, 172, 173, 174] (by decide +kernel) (by decide +kernel)
set_option maxRecDepth 20000 in
theorem gX9_odds_X9_oddsBy : GoodIn wsX9_odds (wsV RX9 230 RX9 yX9_oddsBy wsX9_oddsBy) := goodIn_app (goodIn_of _ (by decide +kernel)) ggX9_odds_X9_oddsBy
set_option maxRecDepth 20000 in
theorem ggX9_odds_X9_inLeastTerms : GoodIn wsX9_odds wsX9_inLeastTerms := goodIn_r _ [148] (by decide +kernel) (by decide +kernel)
set_option maxRecDepth 20000 in
theorem gX9_odds_X9_inLeastTerms : GoodIn wsX9_odds (va_wsS RX9 236 yX9_inLeastTerms wsX9_inLeastTerms) := goodIn_app (goodIn_of _ (by decide +kernel)) ggX9_odds_X9_inLeastTerms
theorem dX9_odds_0 : decode cX9_odds 0 = .ok (.aload_n 0, 1) := by decide +kernel
theorem dX9_odds_1 : decode cX9_odds 1 = .ok (.getfield 69, 3) := by decide +kernel
theorem dX9_odds_4 : decode cX9_odds 4 = .ok (.iload_n 1, 1) := by decide +kernel
theorem dX9_odds_5 : decode cX9_odds 5 = .ok (.invokevirtual 132, 3) := by decide +kernel
theorem dX9_odds_8 : decode cX9_odds 8 = .ok (.ifCond .eq 20, 3) := by decide +kernel
theorem dX9_odds_11 : decode cX9_odds 11 = .ok (.iload_n 2, 1) := by decide +kernel
theorem dX9_odds_12 : decode cX9_odds 12 = .ok (.ifCond .lt 16, 3) := by decide +kernel
theorem dX9_odds_15 : decode cX9_odds 15 = .ok (.iload_n 2, 1) := by decide +kernel
theorem dX9_odds_16 : decode cX9_odds 16 = .ok (.bipush 24, 2) := by decide +kernel
theorem dX9_odds_18 : decode cX9_odds 18 = .ok (.if_icmp .gt 10, 3) := by decide +kernel
theorem dX9_odds_21 : decode cX9_odds 21 = .ok (.iload_n 3, 1) := by decide +kernel
theorem dX9_odds_22 : decode cX9_odds 22 = .ok (.invokestatic 178, 3) := by decide +kernel
theorem dX9_odds_25 : decode cX9_odds 25 = .ok (.ifCond .ne 7, 3) := by decide +kernel
theorem dX9_odds_28 : decode cX9_odds 28 = .ok (.ldc2_w 224, 3) := by decide +kernel
theorem dX9_odds_31 : decode cX9_odds 31 = .ok (.lreturn, 1) := by decide +kernel
theorem dX9_odds_32 : decode cX9_odds 32 = .ok (.aload_n 0, 1) := by decide +kernel
theorem dX9_odds_33 : decode cX9_odds 33 = .ok (.getfield 62, 3) := by decide +kernel
theorem dX9_odds_36 : decode cX9_odds 36 = .ok (.aload_n 0, 1) := by decide +kernel
theorem dX9_odds_37 : decode cX9_odds 37 = .ok (.getfield 69, 3) := by decide +kernel
theorem dX9_odds_40 : decode cX9_odds 40 = .ok (.iload_n 1, 1) := by decide +kernel
theorem dX9_odds_41 : decode cX9_odds 41 = .ok (.aload_n 0, 1) := by decide +kernel
theorem dX9_odds_42 : decode cX9_odds 42 = .ok (.getfield 55, 3) := by decide +kernel
theorem dX9_odds_45 : decode cX9_odds 45 = .ok (.invokevirtual 226, 3) := by decide +kernel
theorem dX9_odds_48 : decode cX9_odds 48 = .ok (.aload_n 0, 1) := by decide +kernel
theorem dX9_odds_49 : decode cX9_odds 49 = .ok (.iload_n 1, 1) := by decide +kernel
theorem dX9_odds_50 : decode cX9_odds 50 = .ok (.iload_n 2, 1) := by decide +kernel
theorem dX9_odds_51 : decode cX9_odds 51 = .ok (.invokevirtual 230, 3) := by decide +kernel
theorem dX9_odds_54 : decode cX9_odds 54 = .ok (.ldc2_w 234, 3) := by decide +kernel
theorem dX9_odds_57 : decode cX9_odds 57 = .ok (.iload_n 3, 1) := by decide +kernel
theorem dX9_odds_58 : decode cX9_odds 58 = .ok (.invokestatic 236, 3) := by decide +kernel
theorem dX9_odds_61 : decode cX9_odds 61 = .ok (.lreturn, 1) := by decide +kernel
set_option maxRecDepth 20000 in
theorem ggX9_enough_X3_isRunner : GoodIn wsX9_enough wsX3_isRunner := goodIn_r _ [10, 11, 155, 156, 157, 158, 159, 160, 161, 162, 163] (by decide +kernel) (by decide +kernel)
set_option maxRecDepth 20000 in
theorem gX9_enough_X3_isRunner : GoodIn wsX9_enough (wsV RX9 132 RX3 yX3_isRunner wsX3_isRunner) := goodIn_app (goodIn_of _ (by decide +kernel)) ggX9_enough_X3_isRunner
set_option maxRecDepth 20000 in
theorem ggX9_enough_X4_fill : GoodIn wsX9_enough wsX4_fill := goodIn_r _ [16, 17, 18, 19, 20, 21, 22, 23, 24, 25, 26, 27, 28, 29, 30, 31, 32, 33, 34, 35, 36, 37, 38, 39, 40, 41, 9, 42, 43, 44, 45, 46, 47, 48, 49, 50, 51, 52, 53, 54, 55, 56, 57, 58, 59, 60, 61, 62, 63, 64, 65, 66, 67, 68, 69, 70, 71, 72, 73, 74, 75, 76, 77, 78, 79, 80, 81, 82, 83, 84, 85, 86, 87, 88, 89, 90, 91, 92, 93, 94, 15, 95, 96, 97, 98, 99, 100, 101, 102, 103, 104, 105, 106, 107, 108, 109, 110, 111, 112, 113, 114, 115, 116, 117, 118, 119, 155, 156, 157, 158, 159, 160, 161, 162, 163, 164, 165, 166, 167, 168, 169, 170, 171, 172] (by decide +kernel) (by decide +kernel)
set_option maxRecDepth 20000 in
theorem gX9_enough_X4_fill : GoodIn wsX9_enough (wsV RX9 226 RX4 yX4_fill wsX4_fill) := goodIn_app (goodIn_of _ (by decide +kernel)) ggX9_enough_X4_fill
set_option maxRecDepth 20000 in
theorem ggX9_enough_X9_oddsBy : GoodIn wsX9_enough wsX9_oddsBy := goodIn_r _ [123, 1, 124, 125, 51, 45, 52, 2, 126, 127, 128, 129, 130, 131, 132, 133, 134, 135, 136, 137, 138, 139, 140, 141, 142, 102, 103, 15, 104, 105, 106, 107, 108, 143, 144, 145, 146, 147, 148, 149, 150, 151, 152, 153, 154, 155, 156, 157, 158, 159, 160, 161, 162, 163, 173, 174, 175, 176, 164, 165, 166, 167, 168] (by decide +kernel) (by decide +kernel)
set_option maxRecDepth 20000 in
theorem gX9_enough_X9_oddsBy : GoodIn wsX9_enough (wsV RX9 230 RX9 yX9_oddsBy wsX9_oddsBy) := goodIn_app (goodIn_of _ (by decide +kernel)) ggX9_enough_X9_oddsBy
theorem dX9_enough_0 : decode cX9_enough 0 = .ok (.aload_n 0, 1) := by decide +kernel
theorem dX9_enough_1 : decode cX9_enough 1 = .ok (.getfield 69, 3) := by decide +kernel
theorem dX9_enough_4 : decode cX9_enough 4 = .ok (.iload_n 1, 1) := by decide +kernel
theorem dX9_enough_5 : decode cX9_enough 5 = .ok (.invokevirtual 132, 3) := by decide +kernel
theorem dX9_enough_8 : decode cX9_enough 8 = .ok (.ifCond .eq 13, 3) := by decide +kernel
theorem dX9_enough_11 : decode cX9_enough 11 = .ok (.iload_n 2, 1) := by decide +kernel
theorem dX9_enough_12 : decode cX9_enough 12 = .ok (.ifCond .lt 9, 3) := by decide +kernel
theorem dX9_enough_15 : decode cX9_enough 15 = .ok (.iload_n 2, 1) := by decide +kernel
theorem dX9_enough_16 : decode cX9_enough 16 = .ok (.bipush 10, 2) := by decide +kernel
theorem dX9_enough_18 : decode cX9_enough 18 = .ok (.if_icmp .le 5, 3) := by decide +kernel
theorem dX9_enough_21 : decode cX9_enough 21 = .ok (.iconst (-1), 1) := by decide +kernel
theorem dX9_enough_22 : decode cX9_enough 22 = .ok (.ireturn, 1) := by decide +kernel
theorem dX9_enough_23 : decode cX9_enough 23 = .ok (.aload_n 0, 1) := by decide +kernel
theorem dX9_enough_24 : decode cX9_enough 24 = .ok (.getfield 62, 3) := by decide +kernel
theorem dX9_enough_27 : decode cX9_enough 27 = .ok (.aload_n 0, 1) := by decide +kernel
theorem dX9_enough_28 : decode cX9_enough 28 = .ok (.getfield 69, 3) := by decide +kernel
theorem dX9_enough_31 : decode cX9_enough 31 = .ok (.iload_n 1, 1) := by decide +kernel
theorem dX9_enough_32 : decode cX9_enough 32 = .ok (.aload_n 0, 1) := by decide +kernel
theorem dX9_enough_33 : decode cX9_enough 33 = .ok (.getfield 55, 3) := by decide +kernel
theorem dX9_enough_36 : decode cX9_enough 36 = .ok (.invokevirtual 226, 3) := by decide +kernel
theorem dX9_enough_39 : decode cX9_enough 39 = .ok (.iconst 0, 1) := by decide +kernel
theorem dX9_enough_40 : decode cX9_enough 40 = .ok (.istore_n 3, 1) := by decide +kernel
theorem dX9_enough_41 : decode cX9_enough 41 = .ok (.iload_n 3, 1) := by decide +kernel
theorem dX9_enough_42 : decode cX9_enough 42 = .ok (.bipush 24, 2) := by decide +kernel
theorem dX9_enough_44 : decode cX9_enough 44 = .ok (.if_icmp .gt 31, 3) := by decide +kernel
theorem dX9_enough_47 : decode cX9_enough 47 = .ok (.aload_n 0, 1) := by decide +kernel
theorem dX9_enough_48 : decode cX9_enough 48 = .ok (.iload_n 1, 1) := by decide +kernel
theorem dX9_enough_49 : decode cX9_enough 49 = .ok (.iload_n 3, 1) := by decide +kernel
theorem dX9_enough_50 : decode cX9_enough 50 = .ok (.invokevirtual 230, 3) := by decide +kernel
theorem dX9_enough_53 : decode cX9_enough 53 = .ok (.ldc2_w 240, 3) := by decide +kernel
theorem dX9_enough_56 : decode cX9_enough 56 = .ok (.lmul, 1) := by decide +kernel
theorem dX9_enough_57 : decode cX9_enough 57 = .ok (.iload_n 2, 1) := by decide +kernel
theorem dX9_enough_58 : decode cX9_enough 58 = .ok (.i2l, 1) := by decide +kernel
theorem dX9_enough_59 : decode cX9_enough 59 = .ok (.ldc2_w 234, 3) := by decide +kernel
theorem dX9_enough_62 : decode cX9_enough 62 = .ok (.lmul, 1) := by decide +kernel
theorem dX9_enough_63 : decode cX9_enough 63 = .ok (.lcmp, 1) := by decide +kernel
theorem dX9_enough_64 : decode cX9_enough 64 = .ok (.ifCond .lt 5, 3) := by decide +kernel
theorem dX9_enough_67 : decode cX9_enough 67 = .ok (.iload_n 3, 1) := by decide +kernel
theorem dX9_enough_68 : decode cX9_enough 68 = .ok (.ireturn, 1) := by decide +kernel
theorem dX9_enough_69 : decode cX9_enough 69 = .ok (.iinc 3 1, 3) := by decide +kernel
theorem dX9_enough_72 : decode cX9_enough 72 = .ok (.goto (-31), 3) := by decide +kernel
theorem dX9_enough_75 : decode cX9_enough 75 = .ok (.bipush (-9), 2) := by decide +kernel
theorem dX9_enough_77 : decode cX9_enough 77 = .ok (.ireturn, 1) := by decide +kernel
set_option maxRecDepth 20000 in
theorem ggX9_picture_X5_append : GoodIn wsX9_picture wsX5_append := goodIn_r _ [6, 7, 8, 9, 22, 23, 24] (by decide +kernel) (by decide +kernel)
set_option maxRecDepth 20000 in
theorem gX9_picture_X5_append : GoodIn wsX9_picture (wsV RX9 242 RX5 yX5_append wsX5_append) := goodIn_app (goodIn_of _ (by decide +kernel)) ggX9_picture_X5_append
theorem dX9_picture_0 : decode cX9_picture 0 = .ok (.iload_n 1, 1) := by decide +kernel
theorem dX9_picture_1 : decode cX9_picture 1 = .ok (.iconst 1, 1) := by decide +kernel
theorem dX9_picture_2 : decode cX9_picture 2 = .ok (.if_icmp .lt 18, 3) := by decide +kernel
theorem dX9_picture_5 : decode cX9_picture 5 = .ok (.iload_n 1, 1) := by decide +kernel
theorem dX9_picture_6 : decode cX9_picture 6 = .ok (.bipush 8, 2) := by decide +kernel
theorem dX9_picture_8 : decode cX9_picture 8 = .ok (.if_icmp .gt 12, 3) := by decide +kernel
theorem dX9_picture_11 : decode cX9_picture 11 = .ok (.iload_n 2, 1) := by decide +kernel
theorem dX9_picture_12 : decode cX9_picture 12 = .ok (.ifCond .lt 8, 3) := by decide +kernel
theorem dX9_picture_15 : decode cX9_picture 15 = .ok (.iload_n 2, 1) := by decide +kernel
theorem dX9_picture_16 : decode cX9_picture 16 = .ok (.iconst 3, 1) := by decide +kernel
theorem dX9_picture_17 : decode cX9_picture 17 = .ok (.if_icmp .le 5, 3) := by decide +kernel
theorem dX9_picture_20 : decode cX9_picture 20 = .ok (.iconst (-1), 1) := by decide +kernel
theorem dX9_picture_21 : decode cX9_picture 21 = .ok (.ireturn, 1) := by decide +kernel
theorem dX9_picture_22 : decode cX9_picture 22 = .ok (.aload_n 0, 1) := by decide +kernel
theorem dX9_picture_23 : decode cX9_picture 23 = .ok (.getfield 48, 3) := by decide +kernel
theorem dX9_picture_26 : decode cX9_picture 26 = .ok (.getfield 104, 3) := by decide +kernel
theorem dX9_picture_29 : decode cX9_picture 29 = .ok (.bipush 6, 2) := by decide +kernel
theorem dX9_picture_31 : decode cX9_picture 31 = .ok (.if_icmp .lt 6, 3) := by decide +kernel
theorem dX9_picture_34 : decode cX9_picture 34 = .ok (.bipush (-3), 2) := by decide +kernel
theorem dX9_picture_36 : decode cX9_picture 36 = .ok (.ireturn, 1) := by decide +kernel
theorem dX9_picture_37 : decode cX9_picture 37 = .ok (.aload_n 0, 1) := by decide +kernel
theorem dX9_picture_38 : decode cX9_picture 38 = .ok (.getfield 48, 3) := by decide +kernel
theorem dX9_picture_41 : decode cX9_picture 41 = .ok (.iload_n 1, 1) := by decide +kernel
theorem dX9_picture_42 : decode cX9_picture 42 = .ok (.iload_n 2, 1) := by decide +kernel
theorem dX9_picture_43 : decode cX9_picture 43 = .ok (.invokevirtual 242, 3) := by decide +kernel
theorem dX9_picture_46 : decode cX9_picture 46 = .ok (.aload_n 0, 1) := by decide +kernel
theorem dX9_picture_47 : decode cX9_picture 47 = .ok (.getfield 48, 3) := by decide +kernel
theorem dX9_picture_50 : decode cX9_picture 50 = .ok (.getfield 104, 3) := by decide +kernel
theorem dX9_picture_53 : decode cX9_picture 53 = .ok (.ireturn, 1) := by decide +kernel
theorem dX9_forget_0 : decode cX9_forget 0 = .ok (.aload_n 0, 1) := by decide +kernel
theorem dX9_forget_1 : decode cX9_forget 1 = .ok (.getfield 48, 3) := by decide +kernel
theorem dX9_forget_4 : decode cX9_forget 4 = .ok (.getfield 104, 3) := by decide +kernel
theorem dX9_forget_7 : decode cX9_forget 7 = .ok (.istore_n 1, 1) := by decide +kernel
theorem dX9_forget_8 : decode cX9_forget 8 = .ok (.aload_n 0, 1) := by decide +kernel
theorem dX9_forget_9 : decode cX9_forget 9 = .ok (.getfield 48, 3) := by decide +kernel
theorem dX9_forget_12 : decode cX9_forget 12 = .ok (.iconst 0, 1) := by decide +kernel
theorem dX9_forget_13 : decode cX9_forget 13 = .ok (.putfield 104, 3) := by decide +kernel
theorem dX9_forget_16 : decode cX9_forget 16 = .ok (.iload_n 1, 1) := by decide +kernel
theorem dX9_forget_17 : decode cX9_forget 17 = .ok (.ireturn, 1) := by decide +kernel
set_option maxRecDepth 20000 in
theorem ggX9_could_X9_isBit : GoodIn wsX9_could wsX9_isBit := goodIn_r _ [5] (by decide +kernel) (by decide +kernel)
set_option maxRecDepth 20000 in
theorem gX9_could_X9_isBit : GoodIn wsX9_could (va_wsS RX9 178 yX9_isBit wsX9_isBit) := goodIn_app (goodIn_of _ (by decide +kernel)) ggX9_could_X9_isBit
set_option maxRecDepth 20000 in
theorem ggX9_could_X5_allow : GoodIn wsX9_could wsX5_allow := goodIn_r _ [10, 11, 12, 13, 14, 4, 15, 34, 35, 36] (by decide +kernel) (by decide +kernel)
set_option maxRecDepth 20000 in
theorem gX9_could_X5_allow : GoodIn wsX9_could (wsV RX9 245 RX5 yX5_allow wsX5_allow) := goodIn_app (goodIn_of _ (by decide +kernel)) ggX9_could_X5_allow
set_option maxRecDepth 20000 in
theorem ggX9_could_X9_isTurned : GoodIn wsX9_could wsX9_isTurned := goodIn_r _ [18, 19, 20, 4, 21] (by decide +kernel) (by decide +kernel)
set_option maxRecDepth 20000 in
theorem gX9_could_X9_isTurned : GoodIn wsX9_could (va_wsS RX9 170 yX9_isTurned wsX9_isTurned) := goodIn_app (goodIn_of _ (by decide +kernel)) ggX9_could_X9_isTurned
theorem dX9_could_0 : decode cX9_could 0 = .ok (.iload_n 1, 1) := by decide +kernel
theorem dX9_could_1 : decode cX9_could 1 = .ok (.invokestatic 178, 3) := by decide +kernel
theorem dX9_could_4 : decode cX9_could 4 = .ok (.ifCond .ne 5, 3) := by decide +kernel
theorem dX9_could_7 : decode cX9_could 7 = .ok (.iconst (-1), 1) := by decide +kernel
theorem dX9_could_8 : decode cX9_could 8 = .ok (.ireturn, 1) := by decide +kernel
theorem dX9_could_9 : decode cX9_could 9 = .ok (.iconst 0, 1) := by decide +kernel
theorem dX9_could_10 : decode cX9_could 10 = .ok (.istore_n 2, 1) := by decide +kernel
theorem dX9_could_11 : decode cX9_could 11 = .ok (.iconst 1, 1) := by decide +kernel
theorem dX9_could_12 : decode cX9_could 12 = .ok (.istore_n 3, 1) := by decide +kernel
theorem dX9_could_13 : decode cX9_could 13 = .ok (.iload_n 3, 1) := by decide +kernel
theorem dX9_could_14 : decode cX9_could 14 = .ok (.iconst 4, 1) := by decide +kernel
theorem dX9_could_15 : decode cX9_could 15 = .ok (.if_icmp .gt 54, 3) := by decide +kernel
theorem dX9_could_18 : decode cX9_could 18 = .ok (.iconst 0, 1) := by decide +kernel
theorem dX9_could_19 : decode cX9_could 19 = .ok (.istore 4, 2) := by decide +kernel
theorem dX9_could_21 : decode cX9_could 21 = .ok (.iload 4, 2) := by decide +kernel
theorem dX9_could_23 : decode cX9_could 23 = .ok (.bipush 7, 2) := by decide +kernel
theorem dX9_could_25 : decode cX9_could 25 = .ok (.if_icmp .gt 38, 3) := by decide +kernel
theorem dX9_could_28 : decode cX9_could 28 = .ok (.aload_n 0, 1) := by decide +kernel
theorem dX9_could_29 : decode cX9_could 29 = .ok (.getfield 48, 3) := by decide +kernel
theorem dX9_could_32 : decode cX9_could 32 = .ok (.iload_n 3, 1) := by decide +kernel
theorem dX9_could_33 : decode cX9_could 33 = .ok (.iload 4, 2) := by decide +kernel
theorem dX9_could_35 : decode cX9_could 35 = .ok (.invokevirtual 245, 3) := by decide +kernel
theorem dX9_could_38 : decode cX9_could 38 = .ok (.ifCond .eq 19, 3) := by decide +kernel
theorem dX9_could_41 : decode cX9_could 41 = .ok (.iload_n 1, 1) := by decide +kernel
theorem dX9_could_42 : decode cX9_could 42 = .ok (.ifCond .eq 12, 3) := by decide +kernel
theorem dX9_could_45 : decode cX9_could 45 = .ok (.iload_n 3, 1) := by decide +kernel
theorem dX9_could_46 : decode cX9_could 46 = .ok (.iload 4, 2) := by decide +kernel
theorem dX9_could_48 : decode cX9_could 48 = .ok (.invokestatic 170, 3) := by decide +kernel
theorem dX9_could_51 : decode cX9_could 51 = .ok (.ifCond .eq 6, 3) := by decide +kernel
theorem dX9_could_54 : decode cX9_could 54 = .ok (.iinc 2 1, 3) := by decide +kernel
theorem dX9_could_57 : decode cX9_could 57 = .ok (.iinc 4 1, 3) := by decide +kernel
theorem dX9_could_60 : decode cX9_could 60 = .ok (.goto (-39), 3) := by decide +kernel
theorem dX9_could_63 : decode cX9_could 63 = .ok (.iinc 3 1, 3) := by decide +kernel
theorem dX9_could_66 : decode cX9_could 66 = .ok (.goto (-53), 3) := by decide +kernel
theorem dX9_could_69 : decode cX9_could 69 = .ok (.iload_n 2, 1) := by decide +kernel
theorem dX9_could_70 : decode cX9_could 70 = .ok (.ireturn, 1) := by decide +kernel
set_option maxRecDepth 20000 in
theorem ggX9_towns_X9_isClock : GoodIn wsX9_towns wsX9_isClock := goodIn_r _ [11] (by decide +kernel) (by decide +kernel)
set_option maxRecDepth 20000 in
theorem gX9_towns_X9_isClock : GoodIn wsX9_towns (va_wsS RX9 248 yX9_isClock wsX9_isClock) := goodIn_app (goodIn_of _ (by decide +kernel)) ggX9_towns_X9_isClock
set_option maxRecDepth 20000 in
theorem ggX9_towns_X9_isBit : GoodIn wsX9_towns wsX9_isBit := goodIn_r _ [14] (by decide +kernel) (by decide +kernel)
set_option maxRecDepth 20000 in
theorem gX9_towns_X9_isBit : GoodIn wsX9_towns (va_wsS RX9 178 yX9_isBit wsX9_isBit) := goodIn_app (goodIn_of _ (by decide +kernel)) ggX9_towns_X9_isBit
set_option maxRecDepth 20000 in
theorem ggX9_towns_X9_inLeastTerms : GoodIn wsX9_towns wsX9_inLeastTerms := goodIn_r _ [17] (by decide +kernel) (by decide +kernel)
set_option maxRecDepth 20000 in
theorem gX9_towns_X9_inLeastTerms : GoodIn wsX9_towns (va_wsS RX9 236 yX9_inLeastTerms wsX9_inLeastTerms) := goodIn_app (goodIn_of _ (by decide +kernel)) ggX9_towns_X9_inLeastTerms
theorem dX9_towns_0 : decode cX9_towns 0 = .ok (.iload_n 1, 1) := by decide +kernel
theorem dX9_towns_1 : decode cX9_towns 1 = .ok (.iload_n 2, 1) := by decide +kernel
theorem dX9_towns_2 : decode cX9_towns 2 = .ok (.invokestatic 248, 3) := by decide +kernel
theorem dX9_towns_5 : decode cX9_towns 5 = .ok (.ifCond .eq 20, 3) := by decide +kernel
theorem dX9_towns_8 : decode cX9_towns 8 = .ok (.iload_n 3, 1) := by decide +kernel
theorem dX9_towns_9 : decode cX9_towns 9 = .ok (.iload 4, 2) := by decide +kernel
theorem dX9_towns_11 : decode cX9_towns 11 = .ok (.invokestatic 248, 3) := by decide +kernel
theorem dX9_towns_14 : decode cX9_towns 14 = .ok (.ifCond .eq 11, 3) := by decide +kernel
theorem dX9_towns_17 : decode cX9_towns 17 = .ok (.iload 5, 2) := by decide +kernel
theorem dX9_towns_19 : decode cX9_towns 19 = .ok (.invokestatic 178, 3) := by decide +kernel
theorem dX9_towns_22 : decode cX9_towns 22 = .ok (.ifCond .ne 5, 3) := by decide +kernel
theorem dX9_towns_25 : decode cX9_towns 25 = .ok (.iconst (-1), 1) := by decide +kernel
theorem dX9_towns_26 : decode cX9_towns 26 = .ok (.ireturn, 1) := by decide +kernel
theorem dX9_towns_27 : decode cX9_towns 27 = .ok (.iconst 2, 1) := by decide +kernel
theorem dX9_towns_28 : decode cX9_towns 28 = .ok (.iload 4, 2) := by decide +kernel
theorem dX9_towns_30 : decode cX9_towns 30 = .ok (.imul, 1) := by decide +kernel
theorem dX9_towns_31 : decode cX9_towns 31 = .ok (.iconst 1, 1) := by decide +kernel
theorem dX9_towns_32 : decode cX9_towns 32 = .ok (.iadd, 1) := by decide +kernel
theorem dX9_towns_33 : decode cX9_towns 33 = .ok (.istore 6, 2) := by decide +kernel
theorem dX9_towns_35 : decode cX9_towns 35 = .ok (.iconst 0, 1) := by decide +kernel
theorem dX9_towns_36 : decode cX9_towns 36 = .ok (.istore 7, 2) := by decide +kernel
theorem dX9_towns_38 : decode cX9_towns 38 = .ok (.iload_n 1, 1) := by decide +kernel
theorem dX9_towns_39 : decode cX9_towns 39 = .ok (.iload_n 2, 1) := by decide +kernel
theorem dX9_towns_40 : decode cX9_towns 40 = .ok (.isub, 1) := by decide +kernel
theorem dX9_towns_41 : decode cX9_towns 41 = .ok (.istore 8, 2) := by decide +kernel
theorem dX9_towns_43 : decode cX9_towns 43 = .ok (.iload 8, 2) := by decide +kernel
theorem dX9_towns_45 : decode cX9_towns 45 = .ok (.iload_n 1, 1) := by decide +kernel
theorem dX9_towns_46 : decode cX9_towns 46 = .ok (.iload_n 2, 1) := by decide +kernel
theorem dX9_towns_47 : decode cX9_towns 47 = .ok (.iadd, 1) := by decide +kernel
theorem dX9_towns_48 : decode cX9_towns 48 = .ok (.if_icmp .gt 30, 3) := by decide +kernel
theorem dX9_towns_51 : decode cX9_towns 51 = .ok (.iload 7, 2) := by decide +kernel
theorem dX9_towns_53 : decode cX9_towns 53 = .ok (.iconst 0, 1) := by decide +kernel
theorem dX9_towns_54 : decode cX9_towns 54 = .ok (.iload 6, 2) := by decide +kernel
theorem dX9_towns_56 : decode cX9_towns 56 = .ok (.iload_n 3, 1) := by decide +kernel
theorem dX9_towns_57 : decode cX9_towns 57 = .ok (.iload 4, 2) := by decide +kernel
theorem dX9_towns_59 : decode cX9_towns 59 = .ok (.iadd, 1) := by decide +kernel
theorem dX9_towns_60 : decode cX9_towns 60 = .ok (.iload 8, 2) := by decide +kernel
theorem dX9_towns_62 : decode cX9_towns 62 = .ok (.isub, 1) := by decide +kernel
theorem dX9_towns_63 : decode cX9_towns 63 = .ok (.invokestatic 251, 3) := by decide +kernel
theorem dX9_towns_66 : decode cX9_towns 66 = .ok (.invokestatic 256, 3) := by decide +kernel
theorem dX9_towns_69 : decode cX9_towns 69 = .ok (.iadd, 1) := by decide +kernel
theorem dX9_towns_70 : decode cX9_towns 70 = .ok (.istore 7, 2) := by decide +kernel
theorem dX9_towns_72 : decode cX9_towns 72 = .ok (.iinc 8 1, 3) := by decide +kernel
theorem dX9_towns_75 : decode cX9_towns 75 = .ok (.goto (-32), 3) := by decide +kernel
theorem dX9_towns_78 : decode cX9_towns 78 = .ok (.iload 7, 2) := by decide +kernel
theorem dX9_towns_80 : decode cX9_towns 80 = .ok (.i2l, 1) := by decide +kernel
theorem dX9_towns_81 : decode cX9_towns 81 = .ok (.iconst 2, 1) := by decide +kernel
theorem dX9_towns_82 : decode cX9_towns 82 = .ok (.iload_n 2, 1) := by decide +kernel
theorem dX9_towns_83 : decode cX9_towns 83 = .ok (.imul, 1) := by decide +kernel
theorem dX9_towns_84 : decode cX9_towns 84 = .ok (.iconst 1, 1) := by decide +kernel
theorem dX9_towns_85 : decode cX9_towns 85 = .ok (.iadd, 1) := by decide +kernel
theorem dX9_towns_86 : decode cX9_towns 86 = .ok (.iload 6, 2) := by decide +kernel
theorem dX9_towns_88 : decode cX9_towns 88 = .ok (.imul, 1) := by decide +kernel
theorem dX9_towns_89 : decode cX9_towns 89 = .ok (.i2l, 1) := by decide +kernel
theorem dX9_towns_90 : decode cX9_towns 90 = .ok (.iload 5, 2) := by decide +kernel
theorem dX9_towns_92 : decode cX9_towns 92 = .ok (.invokestatic 236, 3) := by decide +kernel
theorem dX9_towns_95 : decode cX9_towns 95 = .ok (.l2i, 1) := by decide +kernel
theorem dX9_towns_96 : decode cX9_towns 96 = .ok (.ireturn, 1) := by decide +kernel
set_option maxRecDepth 20000 in
theorem ggX9_rate_X9_rateToss : GoodIn wsX9_rate wsX9_rateToss := goodIn_r _ [6, 7, 8, 9, 5, 10, 40, 41, 42, 43, 44, 45, 46, 47, 48, 49, 50, 51] (by decide +kernel) (by decide +kernel)
set_option maxRecDepth 20000 in
theorem gX9_rate_X9_rateToss : GoodIn wsX9_rate (wsV RX9 259 RX9 yX9_rateToss wsX9_rateToss) := goodIn_app (goodIn_of _ (by decide +kernel)) ggX9_rate_X9_rateToss
set_option maxRecDepth 20000 in
theorem ggX9_rate_X9_rateStanding : GoodIn wsX9_rate wsX9_rateStanding := goodIn_r _ [14, 7, 15, 2, 3, 4, 5, 6, 8, 9, 10, 16, 17, 18, 40, 41, 42, 43, 44, 45, 46, 47, 48, 49, 50, 51] (by decide +kernel) (by decide +kernel)
set_option maxRecDepth 20000 in
theorem gX9_rate_X9_rateStanding : GoodIn wsX9_rate (wsV RX9 262 RX9 yX9_rateStanding wsX9_rateStanding) := goodIn_app (goodIn_of _ (by decide +kernel)) ggX9_rate_X9_rateStanding
set_option maxRecDepth 20000 in
theorem ggX9_rate_X9_rateRunning : GoodIn wsX9_rate wsX9_rateRunning := goodIn_r _ [22, 7, 23, 2, 3, 4, 5, 6, 8, 9, 10, 40, 41, 42, 43, 44, 45, 46, 47, 48, 49, 50, 51] (by decide +kernel) (by decide +kernel)
set_option maxRecDepth 20000 in
theorem gX9_rate_X9_rateRunning : GoodIn wsX9_rate (wsV RX9 265 RX9 yX9_rateRunning wsX9_rateRunning) := goodIn_app (goodIn_of _ (by decide +kernel)) ggX9_rate_X9_rateRunning
set_option maxRecDepth 20000 in
theorem ggX9_rate_X9_rateFolded : GoodIn wsX9_rate wsX9_rateFolded := goodIn_r _ [27, 7, 28, 11, 12, 13, 5, 14, 15, 2, 3, 4, 6, 8, 9, 10, 16, 17, 18, 40, 41, 42, 43, 44, 45, 46, 47, 48, 49, 50, 51] (by decide +kernel) (by decide +kernel)
set_option maxRecDepth 20000 in
theorem gX9_rate_X9_rateFolded : GoodIn wsX9_rate (wsV RX9 268 RX9 yX9_rateFolded wsX9_rateFolded) := goodIn_app (goodIn_of _ (by decide +kernel)) ggX9_rate_X9_rateFolded
set_option maxRecDepth 20000 in
theorem ggX9_rate_X9_rateDropped : GoodIn wsX9_rate wsX9_rateDropped := goodIn_r _ [32, 7, 33, 34, 19, 20, 21, 5, 22, 23, 2, 3, 4, 6, 8, 9, 10, 40, 41, 42, 43, 44, 45, 46, 47, 48, 49, 50, 51, 52, 53, 54, 55, 56, 57, 58, 59, 60] (by decide +kernel) (by decide +kernel)
set_option maxRecDepth 20000 in
theorem gX9_rate_X9_rateDropped : GoodIn wsX9_rate (wsV RX9 271 RX9 yX9_rateDropped wsX9_rateDropped) := goodIn_app (goodIn_of _ (by decide +kernel)) ggX9_rate_X9_rateDropped
set_option maxRecDepth 20000 in
theorem ggX9_rate_X9_rateLow : GoodIn wsX9_rate wsX9_rateLow := goodIn_r _ [38, 7, 39, 34, 2, 3, 4, 5, 6, 8, 9, 10, 40, 41, 42, 43, 44, 45, 46, 47, 48, 49, 50, 51, 52, 53, 54, 55, 56, 57, 58, 59, 60] (by decide +kernel) (by decide +kernel)
set_option maxRecDepth 20000 in
theorem gX9_rate_X9_rateLow : GoodIn wsX9_rate (wsV RX9 274 RX9 yX9_rateLow wsX9_rateLow) := goodIn_app (goodIn_of _ (by decide +kernel)) ggX9_rate_X9_rateLow
theorem dX9_rate_0 : decode cX9_rate 0 = .ok (.iload_n 2, 1) := by decide +kernel
theorem dX9_rate_1 : decode cX9_rate 1 = .ok (.iconst 1, 1) := by decide +kernel
theorem dX9_rate_2 : decode cX9_rate 2 = .ok (.if_icmp .lt 18, 3) := by decide +kernel
theorem dX9_rate_5 : decode cX9_rate 5 = .ok (.iload_n 2, 1) := by decide +kernel
theorem dX9_rate_6 : decode cX9_rate 6 = .ok (.iconst 4, 1) := by decide +kernel
theorem dX9_rate_7 : decode cX9_rate 7 = .ok (.if_icmp .gt 13, 3) := by decide +kernel
theorem dX9_rate_10 : decode cX9_rate 10 = .ok (.iload_n 3, 1) := by decide +kernel
theorem dX9_rate_11 : decode cX9_rate 11 = .ok (.ifCond .lt 9, 3) := by decide +kernel
theorem dX9_rate_14 : decode cX9_rate 14 = .ok (.iload_n 3, 1) := by decide +kernel
theorem dX9_rate_15 : decode cX9_rate 15 = .ok (.bipush 7, 2) := by decide +kernel
theorem dX9_rate_17 : decode cX9_rate 17 = .ok (.if_icmp .le 6, 3) := by decide +kernel
theorem dX9_rate_20 : decode cX9_rate 20 = .ok (.ldc 157, 2) := by decide +kernel
theorem dX9_rate_22 : decode cX9_rate 22 = .ok (.ireturn, 1) := by decide +kernel
theorem dX9_rate_23 : decode cX9_rate 23 = .ok (.iload_n 1, 1) := by decide +kernel
theorem dX9_rate_24 : decode cX9_rate 24 = .ok (.tableswitch 80 0 5 #[40, 46, 53, 60, 67, 74], 40) := by decide +kernel
theorem dX9_rate_64 : decode cX9_rate 64 = .ok (.aload_n 0, 1) := by decide +kernel
theorem dX9_rate_65 : decode cX9_rate 65 = .ok (.iload_n 2, 1) := by decide +kernel
theorem dX9_rate_66 : decode cX9_rate 66 = .ok (.invokevirtual 259, 3) := by decide +kernel
theorem dX9_rate_69 : decode cX9_rate 69 = .ok (.ireturn, 1) := by decide +kernel
theorem dX9_rate_70 : decode cX9_rate 70 = .ok (.aload_n 0, 1) := by decide +kernel
theorem dX9_rate_71 : decode cX9_rate 71 = .ok (.iload_n 2, 1) := by decide +kernel
theorem dX9_rate_72 : decode cX9_rate 72 = .ok (.iload_n 3, 1) := by decide +kernel
theorem dX9_rate_73 : decode cX9_rate 73 = .ok (.invokevirtual 262, 3) := by decide +kernel
theorem dX9_rate_76 : decode cX9_rate 76 = .ok (.ireturn, 1) := by decide +kernel
theorem dX9_rate_77 : decode cX9_rate 77 = .ok (.aload_n 0, 1) := by decide +kernel
theorem dX9_rate_78 : decode cX9_rate 78 = .ok (.iload_n 2, 1) := by decide +kernel
theorem dX9_rate_79 : decode cX9_rate 79 = .ok (.iload_n 3, 1) := by decide +kernel
theorem dX9_rate_80 : decode cX9_rate 80 = .ok (.invokevirtual 265, 3) := by decide +kernel
theorem dX9_rate_83 : decode cX9_rate 83 = .ok (.ireturn, 1) := by decide +kernel
theorem dX9_rate_84 : decode cX9_rate 84 = .ok (.aload_n 0, 1) := by decide +kernel
theorem dX9_rate_85 : decode cX9_rate 85 = .ok (.iload_n 2, 1) := by decide +kernel
theorem dX9_rate_86 : decode cX9_rate 86 = .ok (.iload_n 3, 1) := by decide +kernel
theorem dX9_rate_87 : decode cX9_rate 87 = .ok (.invokevirtual 268, 3) := by decide +kernel
theorem dX9_rate_90 : decode cX9_rate 90 = .ok (.ireturn, 1) := by decide +kernel
theorem dX9_rate_91 : decode cX9_rate 91 = .ok (.aload_n 0, 1) := by decide +kernel
theorem dX9_rate_92 : decode cX9_rate 92 = .ok (.iload_n 2, 1) := by decide +kernel
theorem dX9_rate_93 : decode cX9_rate 93 = .ok (.iload_n 3, 1) := by decide +kernel
theorem dX9_rate_94 : decode cX9_rate 94 = .ok (.invokevirtual 271, 3) := by decide +kernel
theorem dX9_rate_97 : decode cX9_rate 97 = .ok (.ireturn, 1) := by decide +kernel
theorem dX9_rate_98 : decode cX9_rate 98 = .ok (.aload_n 0, 1) := by decide +kernel
theorem dX9_rate_99 : decode cX9_rate 99 = .ok (.iload_n 2, 1) := by decide +kernel
theorem dX9_rate_100 : decode cX9_rate 100 = .ok (.invokevirtual 274, 3) := by decide +kernel
theorem dX9_rate_103 : decode cX9_rate 103 = .ok (.ireturn, 1) := by decide +kernel
theorem dX9_rate_104 : decode cX9_rate 104 = .ok (.ldc 157, 2) := by decide +kernel
theorem dX9_rate_106 : decode cX9_rate 106 = .ok (.ireturn, 1) := by decide +kernel
set_option maxRecDepth 20000 in
theorem ggX9_keep_X9_isBit : GoodIn wsX9_keep wsX9_isBit := goodIn_r _ [5] (by decide +kernel) (by decide +kernel)
set_option maxRecDepth 20000 in
theorem gX9_keep_X9_isBit : GoodIn wsX9_keep (va_wsS RX9 178 yX9_isBit wsX9_isBit) := goodIn_app (goodIn_of _ (by decide +kernel)) ggX9_keep_X9_isBit
set_option maxRecDepth 20000 in
theorem ggX9_keep_X9_imageOf : GoodIn wsX9_keep wsX9_imageOf := goodIn_r _ [9, 10, 11, 61, 62, 63, 64, 65, 66, 67, 68, 69, 70, 71, 72] (by decide +kernel) (by decide +kernel)
set_option maxRecDepth 20000 in
theorem gX9_keep_X9_imageOf : GoodIn wsX9_keep (wsV RX9 277 RX9 yX9_imageOf wsX9_imageOf) := goodIn_app (goodIn_of _ (by decide +kernel)) ggX9_keep_X9_imageOf
set_option maxRecDepth 20000 in
theorem ggX9_keep_X7_copyFrom : GoodIn wsX9_keep wsX7_copyFrom := goodIn_r _ [16, 17, 18, 19, 20, 15, 21, 22, 23, 24, 25, 26, 27, 28, 29, 30, 31, 32, 33, 34, 35, 36, 73, 74, 75, 76] (by decide +kernel) (by decide +kernel)
set_option maxRecDepth 20000 in
theorem gX9_keep_X7_copyFrom : GoodIn wsX9_keep (wsV RX9 284 RX7 yX7_copyFrom wsX7_copyFrom) := goodIn_app (goodIn_of _ (by decide +kernel)) ggX9_keep_X7_copyFrom
set_option maxRecDepth 20000 in
theorem ggX9_keep_X9_homeBits : GoodIn wsX9_keep wsX9_homeBits := goodIn_r _ [40, 41, 42, 43, 44, 4, 45, 1, 46, 47, 48, 49, 50, 19, 20, 15, 21, 22, 51, 29, 30, 31, 32, 61, 62, 63, 64, 65, 66, 67, 68, 69, 70, 71, 72, 77, 78, 79, 80, 81, 82, 83, 84, 85, 73, 74, 75, 76] (by decide +kernel) (by decide +kernel)
set_option maxRecDepth 20000 in
theorem gX9_keep_X9_homeBits : GoodIn wsX9_keep (wsV RX9 218 RX9 yX9_homeBits wsX9_homeBits) := goodIn_app (goodIn_of _ (by decide +kernel)) ggX9_keep_X9_homeBits
set_option maxRecDepth 20000 in
theorem ggX9_keep_J6_bitCount_0f7a4 : GoodIn wsX9_keep wsJ6_bitCount_0f7a4 := goodIn_r _ [55, 56, 57, 58] (by decide +kernel) (by decide +kernel)
set_option maxRecDepth 20000 in
theorem gX9_keep_J6_bitCount_0f7a4 : GoodIn wsX9_keep (va_wsS RX9 287 yJ6_bitCount_0f7a4 wsJ6_bitCount_0f7a4) := goodIn_app (goodIn_of _ (by decide +kernel)) ggX9_keep_J6_bitCount_0f7a4
theorem dX9_keep_0 : decode cX9_keep 0 = .ok (.iload_n 1, 1) := by decide +kernel
theorem dX9_keep_1 : decode cX9_keep 1 = .ok (.invokestatic 178, 3) := by decide +kernel
theorem dX9_keep_4 : decode cX9_keep 4 = .ok (.ifCond .ne 5, 3) := by decide +kernel
theorem dX9_keep_7 : decode cX9_keep 7 = .ok (.iconst (-1), 1) := by decide +kernel
theorem dX9_keep_8 : decode cX9_keep 8 = .ok (.ireturn, 1) := by decide +kernel
theorem dX9_keep_9 : decode cX9_keep 9 = .ok (.aload_n 0, 1) := by decide +kernel
theorem dX9_keep_10 : decode cX9_keep 10 = .ok (.iload_n 1, 1) := by decide +kernel
theorem dX9_keep_11 : decode cX9_keep 11 = .ok (.invokevirtual 277, 3) := by decide +kernel
theorem dX9_keep_14 : decode cX9_keep 14 = .ok (.astore_n 2, 1) := by decide +kernel
theorem dX9_keep_15 : decode cX9_keep 15 = .ok (.aload_n 2, 1) := by decide +kernel
theorem dX9_keep_16 : decode cX9_keep 16 = .ok (.getfield 281, 3) := by decide +kernel
theorem dX9_keep_19 : decode cX9_keep 19 = .ok (.aload_n 0, 1) := by decide +kernel
theorem dX9_keep_20 : decode cX9_keep 20 = .ok (.getfield 24, 3) := by decide +kernel
theorem dX9_keep_23 : decode cX9_keep 23 = .ok (.invokevirtual 284, 3) := by decide +kernel
theorem dX9_keep_26 : decode cX9_keep 26 = .ok (.aload_n 2, 1) := by decide +kernel
theorem dX9_keep_27 : decode cX9_keep 27 = .ok (.iconst 1, 1) := by decide +kernel
theorem dX9_keep_28 : decode cX9_keep 28 = .ok (.putfield 105, 3) := by decide +kernel
theorem dX9_keep_31 : decode cX9_keep 31 = .ok (.aload_n 0, 1) := by decide +kernel
theorem dX9_keep_32 : decode cX9_keep 32 = .ok (.invokevirtual 218, 3) := by decide +kernel
theorem dX9_keep_35 : decode cX9_keep 35 = .ok (.invokestatic 287, 3) := by decide +kernel
theorem dX9_keep_38 : decode cX9_keep 38 = .ok (.ireturn, 1) := by decide +kernel
set_option maxRecDepth 20000 in
theorem ggX9_back_X9_isBit : GoodIn wsX9_back wsX9_isBit := goodIn_r _ [6] (by decide +kernel) (by decide +kernel)
set_option maxRecDepth 20000 in
theorem gX9_back_X9_isBit : GoodIn wsX9_back (va_wsS RX9 178 yX9_isBit wsX9_isBit) := goodIn_app (goodIn_of _ (by decide +kernel)) ggX9_back_X9_isBit
set_option maxRecDepth 20000 in
theorem ggX9_back_X9_imageOf : GoodIn wsX9_back wsX9_imageOf := goodIn_r _ [10, 11, 12, 62, 63, 64, 65, 66, 67, 68, 69, 70, 71, 72, 73] (by decide +kernel) (by decide +kernel)
set_option maxRecDepth 20000 in
theorem gX9_back_X9_imageOf : GoodIn wsX9_back (wsV RX9 277 RX9 yX9_imageOf wsX9_imageOf) := goodIn_app (goodIn_of _ (by decide +kernel)) ggX9_back_X9_imageOf
set_option maxRecDepth 20000 in
theorem ggX9_back_X7_copyFrom : GoodIn wsX9_back wsX7_copyFrom := goodIn_r _ [17, 18, 19, 20, 21, 16, 22, 23, 24, 25, 26, 27, 28, 29, 30, 31, 32, 33, 34, 35, 36, 37, 79, 80, 81, 82] (by decide +kernel) (by decide +kernel)
set_option maxRecDepth 20000 in
theorem gX9_back_X7_copyFrom : GoodIn wsX9_back (wsV RX9 284 RX7 yX7_copyFrom wsX7_copyFrom) := goodIn_app (goodIn_of _ (by decide +kernel)) ggX9_back_X7_copyFrom
set_option maxRecDepth 20000 in
theorem ggX9_back_X9_homeBits : GoodIn wsX9_back wsX9_homeBits := goodIn_r _ [41, 42, 43, 44, 45, 5, 46, 1, 47, 48, 49, 50, 51, 20, 21, 16, 22, 23, 52, 30, 31, 32, 33, 62, 63, 64, 65, 66, 67, 68, 69, 70, 71, 72, 73, 83, 84, 85, 86, 87, 88, 89, 90, 91, 79, 80, 81, 82] (by decide +kernel) (by decide +kernel)
set_option maxRecDepth 20000 in
theorem gX9_back_X9_homeBits : GoodIn wsX9_back (wsV RX9 218 RX9 yX9_homeBits wsX9_homeBits) := goodIn_app (goodIn_of _ (by decide +kernel)) ggX9_back_X9_homeBits
set_option maxRecDepth 20000 in
theorem ggX9_back_J6_bitCount_0f7a4 : GoodIn wsX9_back wsJ6_bitCount_0f7a4 := goodIn_r _ [56, 57, 58, 59] (by decide +kernel) (by decide +kernel)
set_option maxRecDepth 20000 in
theorem gX9_back_J6_bitCount_0f7a4 : GoodIn wsX9_back (va_wsS RX9 287 yJ6_bitCount_0f7a4 wsJ6_bitCount_0f7a4) := goodIn_app (goodIn_of _ (by decide +kernel)) ggX9_back_J6_bitCount_0f7a4
theorem dX9_back_0 : decode cX9_back 0 = .ok (.iload_n 1, 1) := by decide +kernel
theorem dX9_back_1 : decode cX9_back 1 = .ok (.invokestatic 178, 3) := by decide +kernel
theorem dX9_back_4 : decode cX9_back 4 = .ok (.ifCond .ne 5, 3) := by decide +kernel
theorem dX9_back_7 : decode cX9_back 7 = .ok (.iconst (-1), 1) := by decide +kernel
theorem dX9_back_8 : decode cX9_back 8 = .ok (.ireturn, 1) := by decide +kernel
theorem dX9_back_9 : decode cX9_back 9 = .ok (.aload_n 0, 1) := by decide +kernel
theorem dX9_back_10 : decode cX9_back 10 = .ok (.iload_n 1, 1) := by decide +kernel
theorem dX9_back_11 : decode cX9_back 11 = .ok (.invokevirtual 277, 3) := by decide +kernel
theorem dX9_back_14 : decode cX9_back 14 = .ok (.astore_n 2, 1) := by decide +kernel
theorem dX9_back_15 : decode cX9_back 15 = .ok (.aload_n 2, 1) := by decide +kernel
theorem dX9_back_16 : decode cX9_back 16 = .ok (.getfield 105, 3) := by decide +kernel
theorem dX9_back_19 : decode cX9_back 19 = .ok (.ifCond .ne 6, 3) := by decide +kernel
theorem dX9_back_22 : decode cX9_back 22 = .ok (.bipush (-2), 2) := by decide +kernel
theorem dX9_back_24 : decode cX9_back 24 = .ok (.ireturn, 1) := by decide +kernel
theorem dX9_back_25 : decode cX9_back 25 = .ok (.aload_n 0, 1) := by decide +kernel
theorem dX9_back_26 : decode cX9_back 26 = .ok (.getfield 24, 3) := by decide +kernel
theorem dX9_back_29 : decode cX9_back 29 = .ok (.aload_n 2, 1) := by decide +kernel
theorem dX9_back_30 : decode cX9_back 30 = .ok (.getfield 281, 3) := by decide +kernel
theorem dX9_back_33 : decode cX9_back 33 = .ok (.invokevirtual 284, 3) := by decide +kernel
theorem dX9_back_36 : decode cX9_back 36 = .ok (.aload_n 0, 1) := by decide +kernel
theorem dX9_back_37 : decode cX9_back 37 = .ok (.getfield 41, 3) := by decide +kernel
theorem dX9_back_40 : decode cX9_back 40 = .ok (.iconst 0, 1) := by decide +kernel
theorem dX9_back_41 : decode cX9_back 41 = .ok (.putfield 101, 3) := by decide +kernel
theorem dX9_back_44 : decode cX9_back 44 = .ok (.aload_n 0, 1) := by decide +kernel
theorem dX9_back_45 : decode cX9_back 45 = .ok (.invokevirtual 218, 3) := by decide +kernel
theorem dX9_back_48 : decode cX9_back 48 = .ok (.invokestatic 287, 3) := by decide +kernel
theorem dX9_back_51 : decode cX9_back 51 = .ok (.ireturn, 1) := by decide +kernel
theorem dX9_count_0 : decode cX9_count 0 = .ok (.iload_n 1, 1) := by decide +kernel
theorem dX9_count_1 : decode cX9_count 1 = .ok (.tableswitch 63 0 3 #[31, 39, 47, 55], 31) := by decide +kernel
theorem dX9_count_32 : decode cX9_count 32 = .ok (.aload_n 0, 1) := by decide +kernel
theorem dX9_count_33 : decode cX9_count 33 = .ok (.getfield 69, 3) := by decide +kernel
theorem dX9_count_36 : decode cX9_count 36 = .ok (.getfield 292, 3) := by decide +kernel
theorem dX9_count_39 : decode cX9_count 39 = .ok (.ireturn, 1) := by decide +kernel
theorem dX9_count_40 : decode cX9_count 40 = .ok (.aload_n 0, 1) := by decide +kernel
theorem dX9_count_41 : decode cX9_count 41 = .ok (.getfield 48, 3) := by decide +kernel
theorem dX9_count_44 : decode cX9_count 44 = .ok (.getfield 104, 3) := by decide +kernel
theorem dX9_count_47 : decode cX9_count 47 = .ok (.ireturn, 1) := by decide +kernel
theorem dX9_count_48 : decode cX9_count 48 = .ok (.aload_n 0, 1) := by decide +kernel
theorem dX9_count_49 : decode cX9_count 49 = .ok (.getfield 41, 3) := by decide +kernel
theorem dX9_count_52 : decode cX9_count 52 = .ok (.getfield 101, 3) := by decide +kernel
theorem dX9_count_55 : decode cX9_count 55 = .ok (.ireturn, 1) := by decide +kernel
theorem dX9_count_56 : decode cX9_count 56 = .ok (.aload_n 0, 1) := by decide +kernel
theorem dX9_count_57 : decode cX9_count 57 = .ok (.getfield 20, 3) := by decide +kernel
theorem dX9_count_60 : decode cX9_count 60 = .ok (.getfield 80, 3) := by decide +kernel
theorem dX9_count_63 : decode cX9_count 63 = .ok (.ireturn, 1) := by decide +kernel
theorem dX9_count_64 : decode cX9_count 64 = .ok (.iconst (-1), 1) := by decide +kernel
theorem dX9_count_65 : decode cX9_count 65 = .ok (.ireturn, 1) := by decide +kernel
theorem dX9_trace_0 : decode cX9_trace 0 = .ok (.aload_n 0, 1) := by decide +kernel
theorem dX9_trace_1 : decode cX9_trace 1 = .ok (.getfield 76, 3) := by decide +kernel
theorem dX9_trace_4 : decode cX9_trace 4 = .ok (.lreturn, 1) := by decide +kernel
set_option maxRecDepth 20000 in
theorem ggX9_isAtEnd_X7_yardOf : GoodIn wsX9_isAtEnd wsX7_yardOf := goodIn_r _ [7, 8, 30, 31, 32, 33] (by decide +kernel) (by decide +kernel)
set_option maxRecDepth 20000 in
theorem gX9_isAtEnd_X7_yardOf : GoodIn wsX9_isAtEnd (wsV RX9 141 RX7 yX7_yardOf wsX7_yardOf) := goodIn_app (goodIn_of _ (by decide +kernel)) ggX9_isAtEnd_X7_yardOf
theorem dX9_isAtEnd_0 : decode cX9_isAtEnd 0 = .ok (.aload_n 0, 1) := by decide +kernel
theorem dX9_isAtEnd_1 : decode cX9_isAtEnd 1 = .ok (.getfield 24, 3) := by decide +kernel
theorem dX9_isAtEnd_4 : decode cX9_isAtEnd 4 = .ok (.iload_n 1, 1) := by decide +kernel
theorem dX9_isAtEnd_5 : decode cX9_isAtEnd 5 = .ok (.invokevirtual 141, 3) := by decide +kernel
theorem dX9_isAtEnd_8 : decode cX9_isAtEnd 8 = .ok (.aload_n 0, 1) := by decide +kernel
theorem dX9_isAtEnd_9 : decode cX9_isAtEnd 9 = .ok (.getfield 69, 3) := by decide +kernel
theorem dX9_isAtEnd_12 : decode cX9_isAtEnd 12 = .ok (.getfield 120, 3) := by decide +kernel
theorem dX9_isAtEnd_15 : decode cX9_isAtEnd 15 = .ok (.if_icmp .lt 7, 3) := by decide +kernel
theorem dX9_isAtEnd_18 : decode cX9_isAtEnd 18 = .ok (.iconst 1, 1) := by decide +kernel
theorem dX9_isAtEnd_19 : decode cX9_isAtEnd 19 = .ok (.goto 4, 3) := by decide +kernel
theorem dX9_isAtEnd_22 : decode cX9_isAtEnd 22 = .ok (.iconst 0, 1) := by decide +kernel
theorem dX9_isAtEnd_23 : decode cX9_isAtEnd 23 = .ok (.ireturn, 1) := by decide +kernel
set_option maxRecDepth 20000 in
theorem ggX9_isHome_X9_isAtEnd : GoodIn wsX9_isHome wsX9_isAtEnd := goodIn_r _ [7, 1, 2, 8, 9, 10, 11, 12, 13, 19, 20, 21, 22, 23, 24, 25, 26, 27, 28, 29, 30, 31, 32, 33, 34, 35, 36, 37, 38, 39, 40, 41, 42, 43] (by decide +kernel) (by decide +kernel)
set_option maxRecDepth 20000 in
theorem gX9_isHome_X9_isAtEnd : GoodIn wsX9_isHome (wsV RX9 191 RX9 yX9_isAtEnd wsX9_isAtEnd) := goodIn_app (goodIn_of _ (by decide +kernel)) ggX9_isHome_X9_isAtEnd
set_option maxRecDepth 20000 in
theorem ggX9_isHome_X7_goodOf : GoodIn wsX9_isHome wsX7_goodOf := goodIn_r _ [17, 18, 40, 41, 42, 43] (by decide +kernel) (by decide +kernel)
set_option maxRecDepth 20000 in
theorem gX9_isHome_X7_goodOf : GoodIn wsX9_isHome (wsV RX9 147 RX7 yX7_goodOf wsX7_goodOf) := goodIn_app (goodIn_of _ (by decide +kernel)) ggX9_isHome_X7_goodOf
theorem dX9_isHome_0 : decode cX9_isHome 0 = .ok (.aload_n 0, 1) := by decide +kernel
theorem dX9_isHome_1 : decode cX9_isHome 1 = .ok (.iload_n 1, 1) := by decide +kernel
theorem dX9_isHome_2 : decode cX9_isHome 2 = .ok (.invokevirtual 191, 3) := by decide +kernel
theorem dX9_isHome_5 : decode cX9_isHome 5 = .ok (.ifCond .eq 25, 3) := by decide +kernel
theorem dX9_isHome_8 : decode cX9_isHome 8 = .ok (.aload_n 0, 1) := by decide +kernel
theorem dX9_isHome_9 : decode cX9_isHome 9 = .ok (.getfield 24, 3) := by decide +kernel
theorem dX9_isHome_12 : decode cX9_isHome 12 = .ok (.iload_n 1, 1) := by decide +kernel
theorem dX9_isHome_13 : decode cX9_isHome 13 = .ok (.invokevirtual 147, 3) := by decide +kernel
theorem dX9_isHome_16 : decode cX9_isHome 16 = .ok (.aload_n 0, 1) := by decide +kernel
theorem dX9_isHome_17 : decode cX9_isHome 17 = .ok (.getfield 69, 3) := by decide +kernel
theorem dX9_isHome_20 : decode cX9_isHome 20 = .ok (.getfield 126, 3) := by decide +kernel
theorem dX9_isHome_23 : decode cX9_isHome 23 = .ok (.if_icmp .lt 7, 3) := by decide +kernel
theorem dX9_isHome_26 : decode cX9_isHome 26 = .ok (.iconst 1, 1) := by decide +kernel
theorem dX9_isHome_27 : decode cX9_isHome 27 = .ok (.goto 4, 3) := by decide +kernel
theorem dX9_isHome_30 : decode cX9_isHome 30 = .ok (.iconst 0, 1) := by decide +kernel
theorem dX9_isHome_31 : decode cX9_isHome 31 = .ok (.ireturn, 1) := by decide +kernel
set_option maxRecDepth 20000 in
theorem ggX9_homeBits_X9_isHome : GoodIn wsX9_homeBits wsX9_isHome := goodIn_r _ [6, 7, 1, 8, 9, 10, 5, 11, 12, 13, 14, 15, 16, 17, 18, 19, 20, 21, 22, 23, 24, 25, 26, 27, 28, 29, 30, 31, 32, 33, 34, 35, 36, 37, 38, 39, 40, 41, 42, 43, 44, 45, 46, 47] (by decide +kernel) (by decide +kernel)
set_option maxRecDepth 20000 in
theorem gX9_homeBits_X9_isHome : GoodIn wsX9_homeBits (wsV RX9 150 RX9 yX9_isHome wsX9_isHome) := goodIn_app (goodIn_of _ (by decide +kernel)) ggX9_homeBits_X9_isHome
theorem dX9_homeBits_0 : decode cX9_homeBits 0 = .ok (.iconst 0, 1) := by decide +kernel
theorem dX9_homeBits_1 : decode cX9_homeBits 1 = .ok (.istore_n 1, 1) := by decide +kernel
theorem dX9_homeBits_2 : decode cX9_homeBits 2 = .ok (.iconst 0, 1) := by decide +kernel
theorem dX9_homeBits_3 : decode cX9_homeBits 3 = .ok (.istore_n 2, 1) := by decide +kernel
theorem dX9_homeBits_4 : decode cX9_homeBits 4 = .ok (.iload_n 2, 1) := by decide +kernel
theorem dX9_homeBits_5 : decode cX9_homeBits 5 = .ok (.aload_n 0, 1) := by decide +kernel
theorem dX9_homeBits_6 : decode cX9_homeBits 6 = .ok (.getfield 69, 3) := by decide +kernel
theorem dX9_homeBits_9 : decode cX9_homeBits 9 = .ok (.getfield 292, 3) := by decide +kernel
theorem dX9_homeBits_12 : decode cX9_homeBits 12 = .ok (.if_icmp .ge 23, 3) := by decide +kernel
theorem dX9_homeBits_15 : decode cX9_homeBits 15 = .ok (.aload_n 0, 1) := by decide +kernel
theorem dX9_homeBits_16 : decode cX9_homeBits 16 = .ok (.iload_n 2, 1) := by decide +kernel
theorem dX9_homeBits_17 : decode cX9_homeBits 17 = .ok (.invokevirtual 150, 3) := by decide +kernel
theorem dX9_homeBits_20 : decode cX9_homeBits 20 = .ok (.ifCond .eq 9, 3) := by decide +kernel
theorem dX9_homeBits_23 : decode cX9_homeBits 23 = .ok (.iload_n 1, 1) := by decide +kernel
theorem dX9_homeBits_24 : decode cX9_homeBits 24 = .ok (.iconst 1, 1) := by decide +kernel
theorem dX9_homeBits_25 : decode cX9_homeBits 25 = .ok (.iload_n 2, 1) := by decide +kernel
theorem dX9_homeBits_26 : decode cX9_homeBits 26 = .ok (.ishl, 1) := by decide +kernel
theorem dX9_homeBits_27 : decode cX9_homeBits 27 = .ok (.ior, 1) := by decide +kernel
theorem dX9_homeBits_28 : decode cX9_homeBits 28 = .ok (.istore_n 1, 1) := by decide +kernel
theorem dX9_homeBits_29 : decode cX9_homeBits 29 = .ok (.iinc 2 1, 3) := by decide +kernel
theorem dX9_homeBits_32 : decode cX9_homeBits 32 = .ok (.goto (-28), 3) := by decide +kernel
theorem dX9_homeBits_35 : decode cX9_homeBits 35 = .ok (.iload_n 1, 1) := by decide +kernel
theorem dX9_homeBits_36 : decode cX9_homeBits 36 = .ok (.ireturn, 1) := by decide +kernel
set_option maxRecDepth 20000 in
theorem ggX9_firstHome_X9_isHome : GoodIn wsX9_firstHome wsX9_isHome := goodIn_r _ [7, 2, 1, 8, 9, 10, 6, 11, 12, 13, 14, 15, 16, 17, 18, 19, 20, 21, 22, 28, 29, 30, 31, 32, 33, 34, 35, 36, 37, 38, 39, 40, 41, 42, 43, 44, 45, 46, 47, 48, 49, 50, 51, 52] (by decide +kernel) (by decide +kernel)
set_option maxRecDepth 20000 in
theorem gX9_firstHome_X9_isHome : GoodIn wsX9_firstHome (wsV RX9 150 RX9 yX9_isHome wsX9_isHome) := goodIn_app (goodIn_of _ (by decide +kernel)) ggX9_firstHome_X9_isHome
set_option maxRecDepth 20000 in
theorem ggX9_firstHome_X7_beatsOf : GoodIn wsX9_firstHome wsX7_beatsOf := goodIn_r _ [26, 27, 49, 50, 51, 52] (by decide +kernel) (by decide +kernel)
set_option maxRecDepth 20000 in
theorem gX9_firstHome_X7_beatsOf : GoodIn wsX9_firstHome (wsV RX9 144 RX7 yX7_beatsOf wsX7_beatsOf) := goodIn_app (goodIn_of _ (by decide +kernel)) ggX9_firstHome_X7_beatsOf
theorem dX9_firstHome_0 : decode cX9_firstHome 0 = .ok (.bipush (-9), 2) := by decide +kernel
theorem dX9_firstHome_2 : decode cX9_firstHome 2 = .ok (.istore_n 1, 1) := by decide +kernel
theorem dX9_firstHome_3 : decode cX9_firstHome 3 = .ok (.iconst 0, 1) := by decide +kernel
theorem dX9_firstHome_4 : decode cX9_firstHome 4 = .ok (.istore_n 2, 1) := by decide +kernel
theorem dX9_firstHome_5 : decode cX9_firstHome 5 = .ok (.iconst 0, 1) := by decide +kernel
theorem dX9_firstHome_6 : decode cX9_firstHome 6 = .ok (.istore_n 3, 1) := by decide +kernel
theorem dX9_firstHome_7 : decode cX9_firstHome 7 = .ok (.iload_n 3, 1) := by decide +kernel
theorem dX9_firstHome_8 : decode cX9_firstHome 8 = .ok (.aload_n 0, 1) := by decide +kernel
theorem dX9_firstHome_9 : decode cX9_firstHome 9 = .ok (.getfield 69, 3) := by decide +kernel
theorem dX9_firstHome_12 : decode cX9_firstHome 12 = .ok (.getfield 292, 3) := by decide +kernel
theorem dX9_firstHome_15 : decode cX9_firstHome 15 = .ok (.if_icmp .ge 46, 3) := by decide +kernel
theorem dX9_firstHome_18 : decode cX9_firstHome 18 = .ok (.aload_n 0, 1) := by decide +kernel
theorem dX9_firstHome_19 : decode cX9_firstHome 19 = .ok (.iload_n 3, 1) := by decide +kernel
theorem dX9_firstHome_20 : decode cX9_firstHome 20 = .ok (.invokevirtual 150, 3) := by decide +kernel
theorem dX9_firstHome_23 : decode cX9_firstHome 23 = .ok (.ifCond .eq 32, 3) := by decide +kernel
theorem dX9_firstHome_26 : decode cX9_firstHome 26 = .ok (.iload_n 1, 1) := by decide +kernel
theorem dX9_firstHome_27 : decode cX9_firstHome 27 = .ok (.bipush (-9), 2) := by decide +kernel
theorem dX9_firstHome_29 : decode cX9_firstHome 29 = .ok (.if_icmp .eq 15, 3) := by decide +kernel
theorem dX9_firstHome_32 : decode cX9_firstHome 32 = .ok (.aload_n 0, 1) := by decide +kernel
theorem dX9_firstHome_33 : decode cX9_firstHome 33 = .ok (.getfield 24, 3) := by decide +kernel
theorem dX9_firstHome_36 : decode cX9_firstHome 36 = .ok (.iload_n 3, 1) := by decide +kernel
theorem dX9_firstHome_37 : decode cX9_firstHome 37 = .ok (.invokevirtual 144, 3) := by decide +kernel
theorem dX9_firstHome_40 : decode cX9_firstHome 40 = .ok (.iload_n 2, 1) := by decide +kernel
theorem dX9_firstHome_41 : decode cX9_firstHome 41 = .ok (.if_icmp .ge 14, 3) := by decide +kernel
theorem dX9_firstHome_44 : decode cX9_firstHome 44 = .ok (.iload_n 3, 1) := by decide +kernel
theorem dX9_firstHome_45 : decode cX9_firstHome 45 = .ok (.istore_n 1, 1) := by decide +kernel
theorem dX9_firstHome_46 : decode cX9_firstHome 46 = .ok (.aload_n 0, 1) := by decide +kernel
theorem dX9_firstHome_47 : decode cX9_firstHome 47 = .ok (.getfield 24, 3) := by decide +kernel
theorem dX9_firstHome_50 : decode cX9_firstHome 50 = .ok (.iload_n 3, 1) := by decide +kernel
theorem dX9_firstHome_51 : decode cX9_firstHome 51 = .ok (.invokevirtual 144, 3) := by decide +kernel
theorem dX9_firstHome_54 : decode cX9_firstHome 54 = .ok (.istore_n 2, 1) := by decide +kernel
theorem dX9_firstHome_55 : decode cX9_firstHome 55 = .ok (.iinc 3 1, 3) := by decide +kernel
theorem dX9_firstHome_58 : decode cX9_firstHome 58 = .ok (.goto (-51), 3) := by decide +kernel
theorem dX9_firstHome_61 : decode cX9_firstHome 61 = .ok (.iload_n 1, 1) := by decide +kernel
theorem dX9_firstHome_62 : decode cX9_firstHome 62 = .ok (.ireturn, 1) := by decide +kernel
set_option maxRecDepth 20000 in
theorem ggX9_oddsBy_X7_goodOf : GoodIn wsX9_oddsBy wsX7_goodOf := goodIn_r _ [12, 13, 54, 55, 56, 57] (by decide +kernel) (by decide +kernel)
set_option maxRecDepth 20000 in
theorem gX9_oddsBy_X7_goodOf : GoodIn wsX9_oddsBy (wsV RX9 147 RX7 yX7_goodOf wsX7_goodOf) := goodIn_app (goodIn_of _ (by decide +kernel)) ggX9_oddsBy_X7_goodOf
set_option maxRecDepth 20000 in
theorem ggX9_oddsBy_X7_beatsOf : GoodIn wsX9_oddsBy wsX7_beatsOf := goodIn_r _ [17, 18, 54, 55, 56, 57] (by decide +kernel) (by decide +kernel)
set_option maxRecDepth 20000 in
theorem gX9_oddsBy_X7_beatsOf : GoodIn wsX9_oddsBy (wsV RX9 144 RX7 yX7_beatsOf wsX7_beatsOf) := goodIn_app (goodIn_of _ (by decide +kernel)) ggX9_oddsBy_X7_beatsOf
set_option maxRecDepth 20000 in
theorem ggX9_oddsBy_X7_yardOf : GoodIn wsX9_oddsBy wsX7_yardOf := goodIn_r _ [22, 23, 54, 55, 56, 57] (by decide +kernel) (by decide +kernel)
set_option maxRecDepth 20000 in
theorem gX9_oddsBy_X7_yardOf : GoodIn wsX9_oddsBy (wsV RX9 141 RX7 yX7_yardOf wsX7_yardOf) := goodIn_app (goodIn_of _ (by decide +kernel)) ggX9_oddsBy_X7_yardOf
set_option maxRecDepth 20000 in
theorem ggX9_oddsBy_X4_chance : GoodIn wsX9_oddsBy wsX4_chance := goodIn_r _ [28, 29, 30, 31, 27, 32, 58, 59, 60, 61, 62] (by decide +kernel) (by decide +kernel)
set_option maxRecDepth 20000 in
theorem gX9_oddsBy_X4_chance : GoodIn wsX9_oddsBy (wsV RX9 294 RX4 yX4_chance wsX4_chance) := goodIn_app (goodIn_of _ (by decide +kernel)) ggX9_oddsBy_X4_chance
theorem dX9_oddsBy_0 : decode cX9_oddsBy 0 = .ok (.iconst 0, 1) := by decide +kernel
theorem dX9_oddsBy_1 : decode cX9_oddsBy 1 = .ok (.aload_n 0, 1) := by decide +kernel
theorem dX9_oddsBy_2 : decode cX9_oddsBy 2 = .ok (.getfield 69, 3) := by decide +kernel
theorem dX9_oddsBy_5 : decode cX9_oddsBy 5 = .ok (.getfield 126, 3) := by decide +kernel
theorem dX9_oddsBy_8 : decode cX9_oddsBy 8 = .ok (.aload_n 0, 1) := by decide +kernel
theorem dX9_oddsBy_9 : decode cX9_oddsBy 9 = .ok (.getfield 24, 3) := by decide +kernel
theorem dX9_oddsBy_12 : decode cX9_oddsBy 12 = .ok (.iload_n 1, 1) := by decide +kernel
theorem dX9_oddsBy_13 : decode cX9_oddsBy 13 = .ok (.invokevirtual 147, 3) := by decide +kernel
theorem dX9_oddsBy_16 : decode cX9_oddsBy 16 = .ok (.isub, 1) := by decide +kernel
theorem dX9_oddsBy_17 : decode cX9_oddsBy 17 = .ok (.invokestatic 256, 3) := by decide +kernel
theorem dX9_oddsBy_20 : decode cX9_oddsBy 20 = .ok (.istore_n 3, 1) := by decide +kernel
theorem dX9_oddsBy_21 : decode cX9_oddsBy 21 = .ok (.aload_n 0, 1) := by decide +kernel
theorem dX9_oddsBy_22 : decode cX9_oddsBy 22 = .ok (.getfield 62, 3) := by decide +kernel
theorem dX9_oddsBy_25 : decode cX9_oddsBy 25 = .ok (.iload_n 2, 1) := by decide +kernel
theorem dX9_oddsBy_26 : decode cX9_oddsBy 26 = .ok (.aload_n 0, 1) := by decide +kernel
theorem dX9_oddsBy_27 : decode cX9_oddsBy 27 = .ok (.getfield 24, 3) := by decide +kernel
theorem dX9_oddsBy_30 : decode cX9_oddsBy 30 = .ok (.iload_n 1, 1) := by decide +kernel
theorem dX9_oddsBy_31 : decode cX9_oddsBy 31 = .ok (.invokevirtual 144, 3) := by decide +kernel
theorem dX9_oddsBy_34 : decode cX9_oddsBy 34 = .ok (.isub, 1) := by decide +kernel
theorem dX9_oddsBy_35 : decode cX9_oddsBy 35 = .ok (.aload_n 0, 1) := by decide +kernel
theorem dX9_oddsBy_36 : decode cX9_oddsBy 36 = .ok (.getfield 24, 3) := by decide +kernel
theorem dX9_oddsBy_39 : decode cX9_oddsBy 39 = .ok (.iload_n 1, 1) := by decide +kernel
theorem dX9_oddsBy_40 : decode cX9_oddsBy 40 = .ok (.invokevirtual 141, 3) := by decide +kernel
theorem dX9_oddsBy_43 : decode cX9_oddsBy 43 = .ok (.iload_n 3, 1) := by decide +kernel
theorem dX9_oddsBy_44 : decode cX9_oddsBy 44 = .ok (.invokevirtual 294, 3) := by decide +kernel
theorem dX9_oddsBy_47 : decode cX9_oddsBy 47 = .ok (.lreturn, 1) := by decide +kernel
theorem dX9_imageOf_0 : decode cX9_imageOf 0 = .ok (.iload_n 1, 1) := by decide +kernel
theorem dX9_imageOf_1 : decode cX9_imageOf 1 = .ok (.ifCond .ne 10, 3) := by decide +kernel
theorem dX9_imageOf_4 : decode cX9_imageOf 4 = .ok (.aload_n 0, 1) := by decide +kernel
theorem dX9_imageOf_5 : decode cX9_imageOf 5 = .ok (.getfield 31, 3) := by decide +kernel
theorem dX9_imageOf_8 : decode cX9_imageOf 8 = .ok (.goto 7, 3) := by decide +kernel
theorem dX9_imageOf_11 : decode cX9_imageOf 11 = .ok (.aload_n 0, 1) := by decide +kernel
theorem dX9_imageOf_12 : decode cX9_imageOf 12 = .ok (.getfield 35, 3) := by decide +kernel
theorem dX9_imageOf_15 : decode cX9_imageOf 15 = .ok (.areturn, 1) := by decide +kernel
set_option maxRecDepth 20000 in
theorem ggX9_rateToss_X9_beatsInAir : GoodIn wsX9_rateToss wsX9_beatsInAir := goodIn_r _ [5] (by decide +kernel) (by decide +kernel)
set_option maxRecDepth 20000 in
theorem gX9_rateToss_X9_beatsInAir : GoodIn wsX9_rateToss (va_wsS RX9 208 yX9_beatsInAir wsX9_beatsInAir) := goodIn_app (goodIn_of _ (by decide +kernel)) ggX9_rateToss_X9_beatsInAir
theorem dX9_rateToss_0 : decode cX9_rateToss 0 = .ok (.aload_n 0, 1) := by decide +kernel
theorem dX9_rateToss_1 : decode cX9_rateToss 1 = .ok (.dup, 1) := by decide +kernel
theorem dX9_rateToss_2 : decode cX9_rateToss 2 = .ok (.getfield 76, 3) := by decide +kernel
theorem dX9_rateToss_5 : decode cX9_rateToss 5 = .ok (.lconst 1, 1) := by decide +kernel
theorem dX9_rateToss_6 : decode cX9_rateToss 6 = .ok (.ladd, 1) := by decide +kernel
theorem dX9_rateToss_7 : decode cX9_rateToss 7 = .ok (.putfield 76, 3) := by decide +kernel
theorem dX9_rateToss_10 : decode cX9_rateToss 10 = .ok (.iload_n 1, 1) := by decide +kernel
theorem dX9_rateToss_11 : decode cX9_rateToss 11 = .ok (.invokestatic 208, 3) := by decide +kernel
theorem dX9_rateToss_14 : decode cX9_rateToss 14 = .ok (.ireturn, 1) := by decide +kernel
set_option maxRecDepth 20000 in
theorem ggX9_rateStanding_X9_rateToss : GoodIn wsX9_rateStanding wsX9_rateToss := goodIn_r _ [7, 1, 8, 9, 6, 10, 14, 15, 16, 17, 18, 19, 20, 21, 22, 23, 24, 25] (by decide +kernel) (by decide +kernel)
set_option maxRecDepth 20000 in
theorem gX9_rateStanding_X9_rateToss : GoodIn wsX9_rateStanding (wsV RX9 259 RX9 yX9_rateToss wsX9_rateToss) := goodIn_app (goodIn_of _ (by decide +kernel)) ggX9_rateStanding_X9_rateToss
set_option maxRecDepth 20000 in
theorem ggX9_rateStanding_X9_quarters : GoodIn wsX9_rateStanding wsX9_quarters := goodIn_r _ [13] (by decide +kernel) (by decide +kernel)
set_option maxRecDepth 20000 in
theorem gX9_rateStanding_X9_quarters : GoodIn wsX9_rateStanding (va_wsS RX9 166 yX9_quarters wsX9_quarters) := goodIn_app (goodIn_of _ (by decide +kernel)) ggX9_rateStanding_X9_quarters
theorem dX9_rateStanding_0 : decode cX9_rateStanding 0 = .ok (.aload_n 0, 1) := by decide +kernel
theorem dX9_rateStanding_1 : decode cX9_rateStanding 1 = .ok (.dup, 1) := by decide +kernel
theorem dX9_rateStanding_2 : decode cX9_rateStanding 2 = .ok (.getfield 76, 3) := by decide +kernel
theorem dX9_rateStanding_5 : decode cX9_rateStanding 5 = .ok (.ldc2_w 240, 3) := by decide +kernel
theorem dX9_rateStanding_8 : decode cX9_rateStanding 8 = .ok (.ladd, 1) := by decide +kernel
theorem dX9_rateStanding_9 : decode cX9_rateStanding 9 = .ok (.putfield 76, 3) := by decide +kernel
theorem dX9_rateStanding_12 : decode cX9_rateStanding 12 = .ok (.aload_n 0, 1) := by decide +kernel
theorem dX9_rateStanding_13 : decode cX9_rateStanding 13 = .ok (.iload_n 1, 1) := by decide +kernel
theorem dX9_rateStanding_14 : decode cX9_rateStanding 14 = .ok (.invokevirtual 259, 3) := by decide +kernel
theorem dX9_rateStanding_17 : decode cX9_rateStanding 17 = .ok (.iload_n 1, 1) := by decide +kernel
theorem dX9_rateStanding_18 : decode cX9_rateStanding 18 = .ok (.iload_n 2, 1) := by decide +kernel
theorem dX9_rateStanding_19 : decode cX9_rateStanding 19 = .ok (.invokestatic 166, 3) := by decide +kernel
theorem dX9_rateStanding_22 : decode cX9_rateStanding 22 = .ok (.iadd, 1) := by decide +kernel
theorem dX9_rateStanding_23 : decode cX9_rateStanding 23 = .ok (.ireturn, 1) := by decide +kernel
set_option maxRecDepth 20000 in
theorem ggX9_rateRunning_X9_rateToss : GoodIn wsX9_rateRunning wsX9_rateToss := goodIn_r _ [7, 1, 8, 9, 6, 10, 11, 12, 13, 14, 15, 16, 17, 18, 19, 20, 21, 22] (by decide +kernel) (by decide +kernel)
set_option maxRecDepth 20000 in
theorem gX9_rateRunning_X9_rateToss : GoodIn wsX9_rateRunning (wsV RX9 259 RX9 yX9_rateToss wsX9_rateToss) := goodIn_app (goodIn_of _ (by decide +kernel)) ggX9_rateRunning_X9_rateToss
theorem dX9_rateRunning_0 : decode cX9_rateRunning 0 = .ok (.aload_n 0, 1) := by decide +kernel
theorem dX9_rateRunning_1 : decode cX9_rateRunning 1 = .ok (.dup, 1) := by decide +kernel
theorem dX9_rateRunning_2 : decode cX9_rateRunning 2 = .ok (.getfield 76, 3) := by decide +kernel
theorem dX9_rateRunning_5 : decode cX9_rateRunning 5 = .ok (.ldc2_w 298, 3) := by decide +kernel
theorem dX9_rateRunning_8 : decode cX9_rateRunning 8 = .ok (.ladd, 1) := by decide +kernel
theorem dX9_rateRunning_9 : decode cX9_rateRunning 9 = .ok (.putfield 76, 3) := by decide +kernel
theorem dX9_rateRunning_12 : decode cX9_rateRunning 12 = .ok (.aload_n 0, 1) := by decide +kernel
theorem dX9_rateRunning_13 : decode cX9_rateRunning 13 = .ok (.iload_n 1, 1) := by decide +kernel
theorem dX9_rateRunning_14 : decode cX9_rateRunning 14 = .ok (.invokevirtual 259, 3) := by decide +kernel
theorem dX9_rateRunning_17 : decode cX9_rateRunning 17 = .ok (.iload_n 2, 1) := by decide +kernel
theorem dX9_rateRunning_18 : decode cX9_rateRunning 18 = .ok (.isub, 1) := by decide +kernel
theorem dX9_rateRunning_19 : decode cX9_rateRunning 19 = .ok (.ireturn, 1) := by decide +kernel
set_option maxRecDepth 20000 in
theorem ggX9_rateFolded_X9_rateStanding : GoodIn wsX9_rateFolded wsX9_rateStanding := goodIn_r _ [7, 1, 8, 9, 10, 11, 6, 12, 13, 14, 15, 16, 17, 18, 19, 20, 21, 22, 23, 24, 25, 26, 27, 28, 29, 30] (by decide +kernel) (by decide +kernel)
set_option maxRecDepth 20000 in
theorem gX9_rateFolded_X9_rateStanding : GoodIn wsX9_rateFolded (wsV RX9 262 RX9 yX9_rateStanding wsX9_rateStanding) := goodIn_app (goodIn_of _ (by decide +kernel)) ggX9_rateFolded_X9_rateStanding
theorem dX9_rateFolded_0 : decode cX9_rateFolded 0 = .ok (.aload_n 0, 1) := by decide +kernel
theorem dX9_rateFolded_1 : decode cX9_rateFolded 1 = .ok (.dup, 1) := by decide +kernel
theorem dX9_rateFolded_2 : decode cX9_rateFolded 2 = .ok (.getfield 76, 3) := by decide +kernel
theorem dX9_rateFolded_5 : decode cX9_rateFolded 5 = .ok (.ldc2_w 300, 3) := by decide +kernel
theorem dX9_rateFolded_8 : decode cX9_rateFolded 8 = .ok (.ladd, 1) := by decide +kernel
theorem dX9_rateFolded_9 : decode cX9_rateFolded 9 = .ok (.putfield 76, 3) := by decide +kernel
theorem dX9_rateFolded_12 : decode cX9_rateFolded 12 = .ok (.iconst 2, 1) := by decide +kernel
theorem dX9_rateFolded_13 : decode cX9_rateFolded 13 = .ok (.aload_n 0, 1) := by decide +kernel
theorem dX9_rateFolded_14 : decode cX9_rateFolded 14 = .ok (.iload_n 1, 1) := by decide +kernel
theorem dX9_rateFolded_15 : decode cX9_rateFolded 15 = .ok (.iload_n 2, 1) := by decide +kernel
theorem dX9_rateFolded_16 : decode cX9_rateFolded 16 = .ok (.invokevirtual 262, 3) := by decide +kernel
theorem dX9_rateFolded_19 : decode cX9_rateFolded 19 = .ok (.imul, 1) := by decide +kernel
theorem dX9_rateFolded_20 : decode cX9_rateFolded 20 = .ok (.ireturn, 1) := by decide +kernel
set_option maxRecDepth 20000 in
theorem ggX9_rateDropped_X9_rateRunning : GoodIn wsX9_rateDropped wsX9_rateRunning := goodIn_r _ [8, 1, 9, 10, 11, 12, 7, 13, 14, 15, 16, 17, 18, 19, 20, 21, 22, 23, 24, 25, 26, 27, 28] (by decide +kernel) (by decide +kernel)
set_option maxRecDepth 20000 in
theorem gX9_rateDropped_X9_rateRunning : GoodIn wsX9_rateDropped (wsV RX9 265 RX9 yX9_rateRunning wsX9_rateRunning) := goodIn_app (goodIn_of _ (by decide +kernel)) ggX9_rateDropped_X9_rateRunning
theorem dX9_rateDropped_0 : decode cX9_rateDropped 0 = .ok (.aload_n 0, 1) := by decide +kernel
theorem dX9_rateDropped_1 : decode cX9_rateDropped 1 = .ok (.dup, 1) := by decide +kernel
theorem dX9_rateDropped_2 : decode cX9_rateDropped 2 = .ok (.getfield 76, 3) := by decide +kernel
theorem dX9_rateDropped_5 : decode cX9_rateDropped 5 = .ok (.ldc2_w 302, 3) := by decide +kernel
theorem dX9_rateDropped_8 : decode cX9_rateDropped 8 = .ok (.ladd, 1) := by decide +kernel
theorem dX9_rateDropped_9 : decode cX9_rateDropped 9 = .ok (.putfield 76, 3) := by decide +kernel
theorem dX9_rateDropped_12 : decode cX9_rateDropped 12 = .ok (.aload_n 0, 1) := by decide +kernel
theorem dX9_rateDropped_13 : decode cX9_rateDropped 13 = .ok (.iload_n 1, 1) := by decide +kernel
theorem dX9_rateDropped_14 : decode cX9_rateDropped 14 = .ok (.iload_n 2, 1) := by decide +kernel
theorem dX9_rateDropped_15 : decode cX9_rateDropped 15 = .ok (.invokevirtual 265, 3) := by decide +kernel
theorem dX9_rateDropped_18 : decode cX9_rateDropped 18 = .ok (.aload_n 0, 1) := by decide +kernel
theorem dX9_rateDropped_19 : decode cX9_rateDropped 19 = .ok (.getfield 69, 3) := by decide +kernel
theorem dX9_rateDropped_22 : decode cX9_rateDropped 22 = .ok (.getfield 129, 3) := by decide +kernel
theorem dX9_rateDropped_25 : decode cX9_rateDropped 25 = .ok (.iadd, 1) := by decide +kernel
theorem dX9_rateDropped_26 : decode cX9_rateDropped 26 = .ok (.ireturn, 1) := by decide +kernel
set_option maxRecDepth 20000 in
theorem ggX9_rateLow_X9_rateToss : GoodIn wsX9_rateLow wsX9_rateToss := goodIn_r _ [8, 1, 9, 10, 7, 11, 12, 13, 14, 15, 16, 17, 18, 19, 20, 21, 22, 23] (by decide +kernel) (by decide +kernel)
set_option maxRecDepth 20000 in
theorem gX9_rateLow_X9_rateToss : GoodIn wsX9_rateLow (wsV RX9 259 RX9 yX9_rateToss wsX9_rateToss) := goodIn_app (goodIn_of _ (by decide +kernel)) ggX9_rateLow_X9_rateToss
theorem dX9_rateLow_0 : decode cX9_rateLow 0 = .ok (.aload_n 0, 1) := by decide +kernel
theorem dX9_rateLow_1 : decode cX9_rateLow 1 = .ok (.dup, 1) := by decide +kernel
theorem dX9_rateLow_2 : decode cX9_rateLow 2 = .ok (.getfield 76, 3) := by decide +kernel
theorem dX9_rateLow_5 : decode cX9_rateLow 5 = .ok (.ldc2_w 304, 3) := by decide +kernel
theorem dX9_rateLow_8 : decode cX9_rateLow 8 = .ok (.ladd, 1) := by decide +kernel
theorem dX9_rateLow_9 : decode cX9_rateLow 9 = .ok (.putfield 76, 3) := by decide +kernel
theorem dX9_rateLow_12 : decode cX9_rateLow 12 = .ok (.aload_n 0, 1) := by decide +kernel
theorem dX9_rateLow_13 : decode cX9_rateLow 13 = .ok (.iload_n 1, 1) := by decide +kernel
theorem dX9_rateLow_14 : decode cX9_rateLow 14 = .ok (.invokevirtual 259, 3) := by decide +kernel
theorem dX9_rateLow_17 : decode cX9_rateLow 17 = .ok (.aload_n 0, 1) := by decide +kernel
theorem dX9_rateLow_18 : decode cX9_rateLow 18 = .ok (.getfield 69, 3) := by decide +kernel
theorem dX9_rateLow_21 : decode cX9_rateLow 21 = .ok (.getfield 123, 3) := by decide +kernel
theorem dX9_rateLow_24 : decode cX9_rateLow 24 = .ok (.isub, 1) := by decide +kernel
theorem dX9_rateLow_25 : decode cX9_rateLow 25 = .ok (.ireturn, 1) := by decide +kernel
theorem dX9_isBit_0 : decode cX9_isBit 0 = .ok (.iload_n 0, 1) := by decide +kernel
theorem dX9_isBit_1 : decode cX9_isBit 1 = .ok (.ifCond .eq 8, 3) := by decide +kernel
theorem dX9_isBit_4 : decode cX9_isBit 4 = .ok (.iload_n 0, 1) := by decide +kernel
theorem dX9_isBit_5 : decode cX9_isBit 5 = .ok (.iconst 1, 1) := by decide +kernel
theorem dX9_isBit_6 : decode cX9_isBit 6 = .ok (.if_icmp .ne 7, 3) := by decide +kernel
theorem dX9_isBit_9 : decode cX9_isBit 9 = .ok (.iconst 1, 1) := by decide +kernel
theorem dX9_isBit_10 : decode cX9_isBit 10 = .ok (.goto 4, 3) := by decide +kernel
theorem dX9_isBit_13 : decode cX9_isBit 13 = .ok (.iconst 0, 1) := by decide +kernel
theorem dX9_isBit_14 : decode cX9_isBit 14 = .ok (.ireturn, 1) := by decide +kernel
theorem dX9_isClock_0 : decode cX9_isClock 0 = .ok (.iload_n 0, 1) := by decide +kernel
theorem dX9_isClock_1 : decode cX9_isClock 1 = .ok (.ifCond .lt 24, 3) := by decide +kernel
theorem dX9_isClock_4 : decode cX9_isClock 4 = .ok (.iload_n 0, 1) := by decide +kernel
theorem dX9_isClock_5 : decode cX9_isClock 5 = .ok (.sipush 999, 3) := by decide +kernel
theorem dX9_isClock_8 : decode cX9_isClock 8 = .ok (.if_icmp .gt 17, 3) := by decide +kernel
theorem dX9_isClock_11 : decode cX9_isClock 11 = .ok (.iload_n 1, 1) := by decide +kernel
theorem dX9_isClock_12 : decode cX9_isClock 12 = .ok (.ifCond .lt 13, 3) := by decide +kernel
theorem dX9_isClock_15 : decode cX9_isClock 15 = .ok (.iload_n 1, 1) := by decide +kernel
theorem dX9_isClock_16 : decode cX9_isClock 16 = .ok (.bipush 99, 2) := by decide +kernel
theorem dX9_isClock_18 : decode cX9_isClock 18 = .ok (.if_icmp .gt 7, 3) := by decide +kernel
theorem dX9_isClock_21 : decode cX9_isClock 21 = .ok (.iconst 1, 1) := by decide +kernel
theorem dX9_isClock_22 : decode cX9_isClock 22 = .ok (.goto 4, 3) := by decide +kernel
theorem dX9_isClock_25 : decode cX9_isClock 25 = .ok (.iconst 0, 1) := by decide +kernel
theorem dX9_isClock_26 : decode cX9_isClock 26 = .ok (.ireturn, 1) := by decide +kernel
set_option maxRecDepth 20000 in
theorem ggX9_isToss_X9_isBit : GoodIn wsX9_isToss wsX9_isBit := goodIn_r _ [4] (by decide +kernel) (by decide +kernel)
set_option maxRecDepth 20000 in
theorem gX9_isToss_X9_isBit : GoodIn wsX9_isToss (va_wsS RX9 178 yX9_isBit wsX9_isBit) := goodIn_app (goodIn_of _ (by decide +kernel)) ggX9_isToss_X9_isBit
theorem dX9_isToss_0 : decode cX9_isToss 0 = .ok (.iload_n 0, 1) := by decide +kernel
theorem dX9_isToss_1 : decode cX9_isToss 1 = .ok (.iconst 1, 1) := by decide +kernel
theorem dX9_isToss_2 : decode cX9_isToss 2 = .ok (.if_icmp .lt 39, 3) := by decide +kernel
theorem dX9_isToss_5 : decode cX9_isToss 5 = .ok (.iload_n 0, 1) := by decide +kernel
theorem dX9_isToss_6 : decode cX9_isToss 6 = .ok (.iconst 4, 1) := by decide +kernel
theorem dX9_isToss_7 : decode cX9_isToss 7 = .ok (.if_icmp .gt 34, 3) := by decide +kernel
theorem dX9_isToss_10 : decode cX9_isToss 10 = .ok (.iload_n 1, 1) := by decide +kernel
theorem dX9_isToss_11 : decode cX9_isToss 11 = .ok (.ifCond .lt 30, 3) := by decide +kernel
theorem dX9_isToss_14 : decode cX9_isToss 14 = .ok (.iload_n 1, 1) := by decide +kernel
theorem dX9_isToss_15 : decode cX9_isToss 15 = .ok (.bipush 9, 2) := by decide +kernel
theorem dX9_isToss_17 : decode cX9_isToss 17 = .ok (.if_icmp .gt 24, 3) := by decide +kernel
theorem dX9_isToss_20 : decode cX9_isToss 20 = .ok (.iload_n 2, 1) := by decide +kernel
theorem dX9_isToss_21 : decode cX9_isToss 21 = .ok (.ifCond .lt 20, 3) := by decide +kernel
theorem dX9_isToss_24 : decode cX9_isToss 24 = .ok (.iload_n 2, 1) := by decide +kernel
theorem dX9_isToss_25 : decode cX9_isToss 25 = .ok (.bipush 7, 2) := by decide +kernel
theorem dX9_isToss_27 : decode cX9_isToss 27 = .ok (.if_icmp .gt 14, 3) := by decide +kernel
theorem dX9_isToss_30 : decode cX9_isToss 30 = .ok (.iload_n 3, 1) := by decide +kernel
theorem dX9_isToss_31 : decode cX9_isToss 31 = .ok (.invokestatic 178, 3) := by decide +kernel
theorem dX9_isToss_34 : decode cX9_isToss 34 = .ok (.ifCond .eq 7, 3) := by decide +kernel
theorem dX9_isToss_37 : decode cX9_isToss 37 = .ok (.iconst 1, 1) := by decide +kernel
theorem dX9_isToss_38 : decode cX9_isToss 38 = .ok (.goto 4, 3) := by decide +kernel
theorem dX9_isToss_41 : decode cX9_isToss 41 = .ok (.iconst 0, 1) := by decide +kernel
theorem dX9_isToss_42 : decode cX9_isToss 42 = .ok (.ireturn, 1) := by decide +kernel
theorem dX9_beatsInAir_0 : decode cX9_beatsInAir 0 = .ok (.iconst 2, 1) := by decide +kernel
theorem dX9_beatsInAir_1 : decode cX9_beatsInAir 1 = .ok (.iload_n 0, 1) := by decide +kernel
theorem dX9_beatsInAir_2 : decode cX9_beatsInAir 2 = .ok (.imul, 1) := by decide +kernel
theorem dX9_beatsInAir_3 : decode cX9_beatsInAir 3 = .ok (.ireturn, 1) := by decide +kernel
theorem dX9_quarters_0 : decode cX9_quarters 0 = .ok (.iload_n 1, 1) := by decide +kernel
theorem dX9_quarters_1 : decode cX9_quarters 1 = .ok (.iload_n 0, 1) := by decide +kernel
theorem dX9_quarters_2 : decode cX9_quarters 2 = .ok (.imul, 1) := by decide +kernel
theorem dX9_quarters_3 : decode cX9_quarters 3 = .ok (.ireturn, 1) := by decide +kernel
set_option maxRecDepth 20000 in
theorem ggX9_isTurned_X9_quarters : GoodIn wsX9_isTurned wsX9_quarters := goodIn_r _ [4] (by decide +kernel) (by decide +kernel)
set_option maxRecDepth 20000 in
theorem gX9_isTurned_X9_quarters : GoodIn wsX9_isTurned (va_wsS RX9 166 yX9_quarters wsX9_quarters) := goodIn_app (goodIn_of _ (by decide +kernel)) ggX9_isTurned_X9_quarters
theorem dX9_isTurned_0 : decode cX9_isTurned 0 = .ok (.iload_n 0, 1) := by decide +kernel
