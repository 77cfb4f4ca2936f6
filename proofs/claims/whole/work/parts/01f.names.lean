theorem dX10_isHome_38 : decode cX10_isHome 38 = .ok (.iconst 0, 1) := by decide +kernel
theorem dX10_isHome_39 : decode cX10_isHome 39 = .ok (.ireturn, 1) := by decide +kernel
set_option maxRecDepth 20000 in
theorem ggX10_runner_X10_isRunner : GoodIn wsX10_runner wsX10_isRunner := goodIn_r _ [9, 10, 11, 12, 8, 13, 20, 21, 22, 23, 24, 25, 26, 27, 28, 29, 30, 31, 32, 33, 34, 35, 36, 37, 38, 39, 40, 41, 42, 43, 44, 45, 46, 47, 48, 49, 50] (by decide +kernel) (by decide +kernel)
set_option maxRecDepth 20000 in
theorem gX10_runner_X10_isRunner : GoodIn wsX10_runner (wsV RX10 147 RX10 yX10_isRunner wsX10_isRunner) := goodIn_app (goodIn_of _ (by decide +kernel)) ggX10_runner_X10_isRunner
set_option maxRecDepth 20000 in
theorem ggX10_runner_X10_in : GoodIn wsX10_runner wsX10_in := goodIn_r _ [13] (by decide +kernel) (by decide +kernel)
set_option maxRecDepth 20000 in
theorem gX10_runner_X10_in : GoodIn wsX10_runner (va_wsS RX10 61 yX10_in wsX10_in) := goodIn_app (goodIn_of _ (by decide +kernel)) ggX10_runner_X10_in
set_option maxRecDepth 20000 in
theorem ggX10_runner_X10_isHome : GoodIn wsX10_runner wsX10_isHome := goodIn_r _ [17, 4, 18, 19, 20, 21, 22, 23, 24, 25, 26, 27, 28, 29, 30, 31, 32, 33, 34, 35, 36, 37, 38, 39, 40, 41, 42, 43, 44, 45, 46, 47, 48, 49, 50] (by decide +kernel) (by decide +kernel)
set_option maxRecDepth 20000 in
theorem gX10_runner_X10_isHome : GoodIn wsX10_runner (wsV RX10 150 RX10 yX10_isHome wsX10_isHome) := goodIn_app (goodIn_of _ (by decide +kernel)) ggX10_runner_X10_isHome
theorem dX10_runner_0 : decode cX10_runner 0 = .ok (.aload_n 0, 1) := by decide +kernel
theorem dX10_runner_1 : decode cX10_runner 1 = .ok (.iconst 0, 1) := by decide +kernel
theorem dX10_runner_2 : decode cX10_runner 2 = .ok (.putfield 58, 3) := by decide +kernel
theorem dX10_runner_5 : decode cX10_runner 5 = .ok (.aload_n 0, 1) := by decide +kernel
theorem dX10_runner_6 : decode cX10_runner 6 = .ok (.iload_n 1, 1) := by decide +kernel
theorem dX10_runner_7 : decode cX10_runner 7 = .ok (.invokevirtual 147, 3) := by decide +kernel
theorem dX10_runner_10 : decode cX10_runner 10 = .ok (.ifCond .eq 12, 3) := by decide +kernel
theorem dX10_runner_13 : decode cX10_runner 13 = .ok (.iload_n 2, 1) := by decide +kernel
theorem dX10_runner_14 : decode cX10_runner 14 = .ok (.iconst 0, 1) := by decide +kernel
theorem dX10_runner_15 : decode cX10_runner 15 = .ok (.iconst 5, 1) := by decide +kernel
theorem dX10_runner_16 : decode cX10_runner 16 = .ok (.invokestatic 61, 3) := by decide +kernel
theorem dX10_runner_19 : decode cX10_runner 19 = .ok (.ifCond .ne 5, 3) := by decide +kernel
theorem dX10_runner_22 : decode cX10_runner 22 = .ok (.iconst (-1), 1) := by decide +kernel
theorem dX10_runner_23 : decode cX10_runner 23 = .ok (.ireturn, 1) := by decide +kernel
theorem dX10_runner_24 : decode cX10_runner 24 = .ok (.iload_n 2, 1) := by decide +kernel
theorem dX10_runner_25 : decode cX10_runner 25 = .ok (.iconst 2, 1) := by decide +kernel
theorem dX10_runner_26 : decode cX10_runner 26 = .ok (.if_icmp .ge 23, 3) := by decide +kernel
theorem dX10_runner_29 : decode cX10_runner 29 = .ok (.iload_n 2, 1) := by decide +kernel
theorem dX10_runner_30 : decode cX10_runner 30 = .ok (.ifCond .ne 12, 3) := by decide +kernel
theorem dX10_runner_33 : decode cX10_runner 33 = .ok (.aload_n 0, 1) := by decide +kernel
theorem dX10_runner_34 : decode cX10_runner 34 = .ok (.getfield 19, 3) := by decide +kernel
theorem dX10_runner_37 : decode cX10_runner 37 = .ok (.iload_n 1, 1) := by decide +kernel
theorem dX10_runner_38 : decode cX10_runner 38 = .ok (.iaload, 1) := by decide +kernel
theorem dX10_runner_39 : decode cX10_runner 39 = .ok (.goto 9, 3) := by decide +kernel
theorem dX10_runner_42 : decode cX10_runner 42 = .ok (.aload_n 0, 1) := by decide +kernel
theorem dX10_runner_43 : decode cX10_runner 43 = .ok (.getfield 22, 3) := by decide +kernel
theorem dX10_runner_46 : decode cX10_runner 46 = .ok (.iload_n 1, 1) := by decide +kernel
theorem dX10_runner_47 : decode cX10_runner 47 = .ok (.iaload, 1) := by decide +kernel
theorem dX10_runner_48 : decode cX10_runner 48 = .ok (.ireturn, 1) := by decide +kernel
theorem dX10_runner_49 : decode cX10_runner 49 = .ok (.iload_n 2, 1) := by decide +kernel
theorem dX10_runner_50 : decode cX10_runner 50 = .ok (.iconst 5, 1) := by decide +kernel
theorem dX10_runner_51 : decode cX10_runner 51 = .ok (.if_icmp .ge 18, 3) := by decide +kernel
theorem dX10_runner_54 : decode cX10_runner 54 = .ok (.aload_n 0, 1) := by decide +kernel
theorem dX10_runner_55 : decode cX10_runner 55 = .ok (.getfield 28, 3) := by decide +kernel
theorem dX10_runner_58 : decode cX10_runner 58 = .ok (.iconst 3, 1) := by decide +kernel
theorem dX10_runner_59 : decode cX10_runner 59 = .ok (.iload_n 1, 1) := by decide +kernel
theorem dX10_runner_60 : decode cX10_runner 60 = .ok (.imul, 1) := by decide +kernel
theorem dX10_runner_61 : decode cX10_runner 61 = .ok (.iload_n 2, 1) := by decide +kernel
theorem dX10_runner_62 : decode cX10_runner 62 = .ok (.iadd, 1) := by decide +kernel
theorem dX10_runner_63 : decode cX10_runner 63 = .ok (.iconst 2, 1) := by decide +kernel
theorem dX10_runner_64 : decode cX10_runner 64 = .ok (.isub, 1) := by decide +kernel
theorem dX10_runner_65 : decode cX10_runner 65 = .ok (.iaload, 1) := by decide +kernel
theorem dX10_runner_66 : decode cX10_runner 66 = .ok (.goto 16, 3) := by decide +kernel
theorem dX10_runner_69 : decode cX10_runner 69 = .ok (.aload_n 0, 1) := by decide +kernel
theorem dX10_runner_70 : decode cX10_runner 70 = .ok (.iload_n 1, 1) := by decide +kernel
theorem dX10_runner_71 : decode cX10_runner 71 = .ok (.invokevirtual 150, 3) := by decide +kernel
theorem dX10_runner_74 : decode cX10_runner 74 = .ok (.ifCond .eq 7, 3) := by decide +kernel
theorem dX10_runner_77 : decode cX10_runner 77 = .ok (.iconst 1, 1) := by decide +kernel
theorem dX10_runner_78 : decode cX10_runner 78 = .ok (.goto 4, 3) := by decide +kernel
theorem dX10_runner_81 : decode cX10_runner 81 = .ok (.iconst 0, 1) := by decide +kernel
theorem dX10_runner_82 : decode cX10_runner 82 = .ok (.ireturn, 1) := by decide +kernel
theorem dX10_reckons_0 : decode cX10_reckons 0 = .ok (.aload_n 0, 1) := by decide +kernel
theorem dX10_reckons_1 : decode cX10_reckons 1 = .ok (.iload_n 2, 1) := by decide +kernel
theorem dX10_reckons_2 : decode cX10_reckons 2 = .ok (.iload 4, 2) := by decide +kernel
theorem dX10_reckons_4 : decode cX10_reckons 4 = .ok (.iadd, 1) := by decide +kernel
theorem dX10_reckons_5 : decode cX10_reckons 5 = .ok (.iload_n 3, 1) := by decide +kernel
theorem dX10_reckons_6 : decode cX10_reckons 6 = .ok (.aload_n 0, 1) := by decide +kernel
theorem dX10_reckons_7 : decode cX10_reckons 7 = .ok (.getfield 13, 3) := by decide +kernel
theorem dX10_reckons_10 : decode cX10_reckons 10 = .ok (.iload_n 2, 1) := by decide +kernel
theorem dX10_reckons_11 : decode cX10_reckons 11 = .ok (.iaload, 1) := by decide +kernel
theorem dX10_reckons_12 : decode cX10_reckons 12 = .ok (.imul, 1) := by decide +kernel
theorem dX10_reckons_13 : decode cX10_reckons 13 = .ok (.isub, 1) := by decide +kernel
theorem dX10_reckons_14 : decode cX10_reckons 14 = .ok (.putfield 153, 3) := by decide +kernel
theorem dX10_reckons_17 : decode cX10_reckons 17 = .ok (.iload 6, 2) := by decide +kernel
theorem dX10_reckons_19 : decode cX10_reckons 19 = .ok (.ifCond .ne 7, 3) := by decide +kernel
theorem dX10_reckons_22 : decode cX10_reckons 22 = .ok (.iload_n 2, 1) := by decide +kernel
theorem dX10_reckons_23 : decode cX10_reckons 23 = .ok (.goto 15, 3) := by decide +kernel
theorem dX10_reckons_26 : decode cX10_reckons 26 = .ok (.iload_n 2, 1) := by decide +kernel
theorem dX10_reckons_27 : decode cX10_reckons 27 = .ok (.aload_n 0, 1) := by decide +kernel
theorem dX10_reckons_28 : decode cX10_reckons 28 = .ok (.getfield 19, 3) := by decide +kernel
theorem dX10_reckons_31 : decode cX10_reckons 31 = .ok (.iload_n 1, 1) := by decide +kernel
theorem dX10_reckons_32 : decode cX10_reckons 32 = .ok (.iaload, 1) := by decide +kernel
theorem dX10_reckons_33 : decode cX10_reckons 33 = .ok (.iconst 2, 1) := by decide +kernel
theorem dX10_reckons_34 : decode cX10_reckons 34 = .ok (.imul, 1) := by decide +kernel
theorem dX10_reckons_35 : decode cX10_reckons 35 = .ok (.iload_n 3, 1) := by decide +kernel
theorem dX10_reckons_36 : decode cX10_reckons 36 = .ok (.imul, 1) := by decide +kernel
theorem dX10_reckons_37 : decode cX10_reckons 37 = .ok (.iadd, 1) := by decide +kernel
theorem dX10_reckons_38 : decode cX10_reckons 38 = .ok (.istore 7, 2) := by decide +kernel
theorem dX10_reckons_40 : decode cX10_reckons 40 = .ok (.aload_n 0, 1) := by decide +kernel
theorem dX10_reckons_41 : decode cX10_reckons 41 = .ok (.iload 7, 2) := by decide +kernel
theorem dX10_reckons_43 : decode cX10_reckons 43 = .ok (.aload_n 0, 1) := by decide +kernel
theorem dX10_reckons_44 : decode cX10_reckons 44 = .ok (.getfield 54, 3) := by decide +kernel
theorem dX10_reckons_47 : decode cX10_reckons 47 = .ok (.if_icmp .le 10, 3) := by decide +kernel
theorem dX10_reckons_50 : decode cX10_reckons 50 = .ok (.aload_n 0, 1) := by decide +kernel
theorem dX10_reckons_51 : decode cX10_reckons 51 = .ok (.getfield 54, 3) := by decide +kernel
theorem dX10_reckons_54 : decode cX10_reckons 54 = .ok (.goto 5, 3) := by decide +kernel
theorem dX10_reckons_57 : decode cX10_reckons 57 = .ok (.iload 7, 2) := by decide +kernel
theorem dX10_reckons_59 : decode cX10_reckons 59 = .ok (.putfield 156, 3) := by decide +kernel
theorem dX10_reckons_62 : decode cX10_reckons 62 = .ok (.aload_n 0, 1) := by decide +kernel
theorem dX10_reckons_63 : decode cX10_reckons 63 = .ok (.iload 5, 2) := by decide +kernel
theorem dX10_reckons_65 : decode cX10_reckons 65 = .ok (.iload_n 3, 1) := by decide +kernel
theorem dX10_reckons_66 : decode cX10_reckons 66 = .ok (.imul, 1) := by decide +kernel
theorem dX10_reckons_67 : decode cX10_reckons 67 = .ok (.putfield 159, 3) := by decide +kernel
theorem dX10_reckons_70 : decode cX10_reckons 70 = .ok (.aload_n 0, 1) := by decide +kernel
theorem dX10_reckons_71 : decode cX10_reckons 71 = .ok (.getfield 153, 3) := by decide +kernel
theorem dX10_reckons_74 : decode cX10_reckons 74 = .ok (.aload_n 0, 1) := by decide +kernel
theorem dX10_reckons_75 : decode cX10_reckons 75 = .ok (.getfield 156, 3) := by decide +kernel
theorem dX10_reckons_78 : decode cX10_reckons 78 = .ok (.if_icmp .ge 15, 3) := by decide +kernel
theorem dX10_reckons_81 : decode cX10_reckons 81 = .ok (.aload_n 0, 1) := by decide +kernel
theorem dX10_reckons_82 : decode cX10_reckons 82 = .ok (.getfield 156, 3) := by decide +kernel
theorem dX10_reckons_85 : decode cX10_reckons 85 = .ok (.aload_n 0, 1) := by decide +kernel
theorem dX10_reckons_86 : decode cX10_reckons 86 = .ok (.getfield 153, 3) := by decide +kernel
theorem dX10_reckons_89 : decode cX10_reckons 89 = .ok (.isub, 1) := by decide +kernel
theorem dX10_reckons_90 : decode cX10_reckons 90 = .ok (.goto 12, 3) := by decide +kernel
theorem dX10_reckons_93 : decode cX10_reckons 93 = .ok (.aload_n 0, 1) := by decide +kernel
theorem dX10_reckons_94 : decode cX10_reckons 94 = .ok (.getfield 153, 3) := by decide +kernel
theorem dX10_reckons_97 : decode cX10_reckons 97 = .ok (.aload_n 0, 1) := by decide +kernel
theorem dX10_reckons_98 : decode cX10_reckons 98 = .ok (.getfield 156, 3) := by decide +kernel
theorem dX10_reckons_101 : decode cX10_reckons 101 = .ok (.isub, 1) := by decide +kernel
theorem dX10_reckons_102 : decode cX10_reckons 102 = .ok (.istore 8, 2) := by decide +kernel
theorem dX10_reckons_104 : decode cX10_reckons 104 = .ok (.aload_n 0, 1) := by decide +kernel
theorem dX10_reckons_105 : decode cX10_reckons 105 = .ok (.getfield 22, 3) := by decide +kernel
theorem dX10_reckons_108 : decode cX10_reckons 108 = .ok (.iload_n 1, 1) := by decide +kernel
theorem dX10_reckons_109 : decode cX10_reckons 109 = .ok (.iaload, 1) := by decide +kernel
theorem dX10_reckons_110 : decode cX10_reckons 110 = .ok (.iconst 3, 1) := by decide +kernel
theorem dX10_reckons_111 : decode cX10_reckons 111 = .ok (.iadd, 1) := by decide +kernel
theorem dX10_reckons_112 : decode cX10_reckons 112 = .ok (.iconst 3, 1) := by decide +kernel
theorem dX10_reckons_113 : decode cX10_reckons 113 = .ok (.iload 8, 2) := by decide +kernel
theorem dX10_reckons_115 : decode cX10_reckons 115 = .ok (.imul, 1) := by decide +kernel
theorem dX10_reckons_116 : decode cX10_reckons 116 = .ok (.isub, 1) := by decide +kernel
theorem dX10_reckons_117 : decode cX10_reckons 117 = .ok (.aload_n 0, 1) := by decide +kernel
theorem dX10_reckons_118 : decode cX10_reckons 118 = .ok (.getfield 159, 3) := by decide +kernel
theorem dX10_reckons_121 : decode cX10_reckons 121 = .ok (.iconst 2, 1) := by decide +kernel
theorem dX10_reckons_122 : decode cX10_reckons 122 = .ok (.irem, 1) := by decide +kernel
theorem dX10_reckons_123 : decode cX10_reckons 123 = .ok (.ifCond .ne 7, 3) := by decide +kernel
theorem dX10_reckons_126 : decode cX10_reckons 126 = .ok (.iconst 0, 1) := by decide +kernel
theorem dX10_reckons_127 : decode cX10_reckons 127 = .ok (.goto 4, 3) := by decide +kernel
theorem dX10_reckons_130 : decode cX10_reckons 130 = .ok (.iconst 2, 1) := by decide +kernel
theorem dX10_reckons_131 : decode cX10_reckons 131 = .ok (.isub, 1) := by decide +kernel
theorem dX10_reckons_132 : decode cX10_reckons 132 = .ok (.aload_n 0, 1) := by decide +kernel
theorem dX10_reckons_133 : decode cX10_reckons 133 = .ok (.getfield 156, 3) := by decide +kernel
theorem dX10_reckons_136 : decode cX10_reckons 136 = .ok (.aload_n 0, 1) := by decide +kernel
theorem dX10_reckons_137 : decode cX10_reckons 137 = .ok (.getfield 54, 3) := by decide +kernel
theorem dX10_reckons_140 : decode cX10_reckons 140 = .ok (.if_icmp .ge 20, 3) := by decide +kernel
theorem dX10_reckons_143 : decode cX10_reckons 143 = .ok (.aload_n 0, 1) := by decide +kernel
theorem dX10_reckons_144 : decode cX10_reckons 144 = .ok (.getfield 16, 3) := by decide +kernel
theorem dX10_reckons_147 : decode cX10_reckons 147 = .ok (.aload_n 0, 1) := by decide +kernel
theorem dX10_reckons_148 : decode cX10_reckons 148 = .ok (.getfield 156, 3) := by decide +kernel
theorem dX10_reckons_151 : decode cX10_reckons 151 = .ok (.iaload, 1) := by decide +kernel
theorem dX10_reckons_152 : decode cX10_reckons 152 = .ok (.iconst 1, 1) := by decide +kernel
theorem dX10_reckons_153 : decode cX10_reckons 153 = .ok (.if_icmp .ne 7, 3) := by decide +kernel
theorem dX10_reckons_156 : decode cX10_reckons 156 = .ok (.iconst 2, 1) := by decide +kernel
theorem dX10_reckons_157 : decode cX10_reckons 157 = .ok (.goto 4, 3) := by decide +kernel
theorem dX10_reckons_160 : decode cX10_reckons 160 = .ok (.iconst 0, 1) := by decide +kernel
theorem dX10_reckons_161 : decode cX10_reckons 161 = .ok (.isub, 1) := by decide +kernel
theorem dX10_reckons_162 : decode cX10_reckons 162 = .ok (.istore 9, 2) := by decide +kernel
theorem dX10_reckons_164 : decode cX10_reckons 164 = .ok (.iload 9, 2) := by decide +kernel
theorem dX10_reckons_166 : decode cX10_reckons 166 = .ok (.ifCond .ge 7, 3) := by decide +kernel
theorem dX10_reckons_169 : decode cX10_reckons 169 = .ok (.iconst 0, 1) := by decide +kernel
theorem dX10_reckons_170 : decode cX10_reckons 170 = .ok (.goto 17, 3) := by decide +kernel
theorem dX10_reckons_173 : decode cX10_reckons 173 = .ok (.iload 9, 2) := by decide +kernel
theorem dX10_reckons_175 : decode cX10_reckons 175 = .ok (.bipush 10, 2) := by decide +kernel
theorem dX10_reckons_177 : decode cX10_reckons 177 = .ok (.if_icmp .le 8, 3) := by decide +kernel
theorem dX10_reckons_180 : decode cX10_reckons 180 = .ok (.bipush 10, 2) := by decide +kernel
theorem dX10_reckons_182 : decode cX10_reckons 182 = .ok (.goto 5, 3) := by decide +kernel
theorem dX10_reckons_185 : decode cX10_reckons 185 = .ok (.iload 9, 2) := by decide +kernel
theorem dX10_reckons_187 : decode cX10_reckons 187 = .ok (.ireturn, 1) := by decide +kernel
set_option maxRecDepth 20000 in
theorem ggX10_comes_X10_isRunner : GoodIn wsX10_comes wsX10_isRunner := goodIn_r _ [10, 11, 12, 13, 9, 14, 31, 32, 33, 34, 35, 36, 37, 38, 39, 40, 41, 42, 43, 44, 45, 46, 47, 48, 49, 50, 51, 52, 53, 54, 55, 56, 57, 58, 59, 60, 61] (by decide +kernel) (by decide +kernel)
set_option maxRecDepth 20000 in
theorem gX10_comes_X10_isRunner : GoodIn wsX10_comes (wsV RX10 147 RX10 yX10_isRunner wsX10_isRunner) := goodIn_app (goodIn_of _ (by decide +kernel)) ggX10_comes_X10_isRunner
set_option maxRecDepth 20000 in
theorem ggX10_comes_X10_isYard : GoodIn wsX10_comes wsX10_isYard := goodIn_r _ [18, 19, 12, 13, 9, 14, 31, 32, 33, 34, 35, 36, 37, 38, 39, 40, 41, 42, 43, 44, 45, 46, 47, 48, 49, 50, 51, 52, 53, 54, 55, 56, 57, 58, 59, 60, 61] (by decide +kernel) (by decide +kernel)
set_option maxRecDepth 20000 in
theorem gX10_comes_X10_isYard : GoodIn wsX10_comes (wsV RX10 144 RX10 yX10_isYard wsX10_isYard) := goodIn_app (goodIn_of _ (by decide +kernel)) ggX10_comes_X10_isYard
set_option maxRecDepth 20000 in
theorem ggX10_comes_X10_isToss : GoodIn wsX10_comes wsX10_isToss := goodIn_r _ [22, 12, 13, 9, 14] (by decide +kernel) (by decide +kernel)
set_option maxRecDepth 20000 in
theorem gX10_comes_X10_isToss : GoodIn wsX10_comes (va_wsS RX10 162 yX10_isToss wsX10_isToss) := goodIn_app (goodIn_of _ (by decide +kernel)) ggX10_comes_X10_isToss
set_option maxRecDepth 20000 in
theorem ggX10_comes_X10_in : GoodIn wsX10_comes wsX10_in := goodIn_r _ [14] (by decide +kernel) (by decide +kernel)
set_option maxRecDepth 20000 in
theorem gX10_comes_X10_in : GoodIn wsX10_comes (va_wsS RX10 61 yX10_in wsX10_in) := goodIn_app (goodIn_of _ (by decide +kernel)) ggX10_comes_X10_in
set_option maxRecDepth 20000 in
theorem ggX10_comes_X10_reckons : GoodIn wsX10_comes wsX10_reckons := goodIn_r _ [26, 27, 3, 28, 19, 4, 5, 29, 30, 31, 32, 33, 34, 35, 36, 37, 38, 39, 40, 41, 42, 43, 44, 45, 46, 47, 48, 49, 50, 51, 52, 53, 54, 55, 56, 57, 58, 59, 60, 61] (by decide +kernel) (by decide +kernel)
set_option maxRecDepth 20000 in
theorem gX10_comes_X10_reckons : GoodIn wsX10_comes (wsV RX10 167 RX10 yX10_reckons wsX10_reckons) := goodIn_app (goodIn_of _ (by decide +kernel)) ggX10_comes_X10_reckons
theorem dX10_comes_0 : decode cX10_comes 0 = .ok (.aload_n 0, 1) := by decide +kernel
theorem dX10_comes_1 : decode cX10_comes 1 = .ok (.iconst 0, 1) := by decide +kernel
theorem dX10_comes_2 : decode cX10_comes 2 = .ok (.putfield 58, 3) := by decide +kernel
theorem dX10_comes_5 : decode cX10_comes 5 = .ok (.aload_n 0, 1) := by decide +kernel
theorem dX10_comes_6 : decode cX10_comes 6 = .ok (.iload_n 1, 1) := by decide +kernel
theorem dX10_comes_7 : decode cX10_comes 7 = .ok (.invokevirtual 147, 3) := by decide +kernel
theorem dX10_comes_10 : decode cX10_comes 10 = .ok (.ifCond .eq 34, 3) := by decide +kernel
theorem dX10_comes_13 : decode cX10_comes 13 = .ok (.aload_n 0, 1) := by decide +kernel
theorem dX10_comes_14 : decode cX10_comes 14 = .ok (.iload_n 2, 1) := by decide +kernel
theorem dX10_comes_15 : decode cX10_comes 15 = .ok (.invokevirtual 144, 3) := by decide +kernel
theorem dX10_comes_18 : decode cX10_comes 18 = .ok (.ifCond .eq 26, 3) := by decide +kernel
theorem dX10_comes_21 : decode cX10_comes 21 = .ok (.iload_n 3, 1) := by decide +kernel
theorem dX10_comes_22 : decode cX10_comes 22 = .ok (.iload 4, 2) := by decide +kernel
theorem dX10_comes_24 : decode cX10_comes 24 = .ok (.iload 5, 2) := by decide +kernel
theorem dX10_comes_26 : decode cX10_comes 26 = .ok (.iload 6, 2) := by decide +kernel
theorem dX10_comes_28 : decode cX10_comes 28 = .ok (.invokestatic 162, 3) := by decide +kernel
theorem dX10_comes_31 : decode cX10_comes 31 = .ok (.ifCond .eq 13, 3) := by decide +kernel
theorem dX10_comes_34 : decode cX10_comes 34 = .ok (.iload 7, 2) := by decide +kernel
theorem dX10_comes_36 : decode cX10_comes 36 = .ok (.iconst 0, 1) := by decide +kernel
theorem dX10_comes_37 : decode cX10_comes 37 = .ok (.iconst 4, 1) := by decide +kernel
theorem dX10_comes_38 : decode cX10_comes 38 = .ok (.invokestatic 61, 3) := by decide +kernel
theorem dX10_comes_41 : decode cX10_comes 41 = .ok (.ifCond .ne 6, 3) := by decide +kernel
theorem dX10_comes_44 : decode cX10_comes 44 = .ok (.ldc 166, 2) := by decide +kernel
theorem dX10_comes_46 : decode cX10_comes 46 = .ok (.ireturn, 1) := by decide +kernel
theorem dX10_comes_47 : decode cX10_comes 47 = .ok (.aload_n 0, 1) := by decide +kernel
theorem dX10_comes_48 : decode cX10_comes 48 = .ok (.iload_n 1, 1) := by decide +kernel
theorem dX10_comes_49 : decode cX10_comes 49 = .ok (.iload_n 2, 1) := by decide +kernel
theorem dX10_comes_50 : decode cX10_comes 50 = .ok (.iload_n 3, 1) := by decide +kernel
theorem dX10_comes_51 : decode cX10_comes 51 = .ok (.iload 4, 2) := by decide +kernel
theorem dX10_comes_53 : decode cX10_comes 53 = .ok (.iload 5, 2) := by decide +kernel
theorem dX10_comes_55 : decode cX10_comes 55 = .ok (.iload 6, 2) := by decide +kernel
theorem dX10_comes_57 : decode cX10_comes 57 = .ok (.invokevirtual 167, 3) := by decide +kernel
theorem dX10_comes_60 : decode cX10_comes 60 = .ok (.istore 8, 2) := by decide +kernel
theorem dX10_comes_62 : decode cX10_comes 62 = .ok (.iload 7, 2) := by decide +kernel
theorem dX10_comes_64 : decode cX10_comes 64 = .ok (.iconst 3, 1) := by decide +kernel
theorem dX10_comes_65 : decode cX10_comes 65 = .ok (.if_icmp .ge 33, 3) := by decide +kernel
theorem dX10_comes_68 : decode cX10_comes 68 = .ok (.iload 7, 2) := by decide +kernel
theorem dX10_comes_70 : decode cX10_comes 70 = .ok (.ifCond .ne 10, 3) := by decide +kernel
theorem dX10_comes_73 : decode cX10_comes 73 = .ok (.aload_n 0, 1) := by decide +kernel
theorem dX10_comes_74 : decode cX10_comes 74 = .ok (.getfield 153, 3) := by decide +kernel
theorem dX10_comes_77 : decode cX10_comes 77 = .ok (.goto 20, 3) := by decide +kernel
theorem dX10_comes_80 : decode cX10_comes 80 = .ok (.iload 7, 2) := by decide +kernel
theorem dX10_comes_82 : decode cX10_comes 82 = .ok (.iconst 1, 1) := by decide +kernel
theorem dX10_comes_83 : decode cX10_comes 83 = .ok (.if_icmp .ne 10, 3) := by decide +kernel
theorem dX10_comes_86 : decode cX10_comes 86 = .ok (.aload_n 0, 1) := by decide +kernel
theorem dX10_comes_87 : decode cX10_comes 87 = .ok (.getfield 156, 3) := by decide +kernel
theorem dX10_comes_90 : decode cX10_comes 90 = .ok (.goto 7, 3) := by decide +kernel
theorem dX10_comes_93 : decode cX10_comes 93 = .ok (.aload_n 0, 1) := by decide +kernel
theorem dX10_comes_94 : decode cX10_comes 94 = .ok (.getfield 159, 3) := by decide +kernel
theorem dX10_comes_97 : decode cX10_comes 97 = .ok (.ireturn, 1) := by decide +kernel
theorem dX10_comes_98 : decode cX10_comes 98 = .ok (.iload 7, 2) := by decide +kernel
theorem dX10_comes_100 : decode cX10_comes 100 = .ok (.iconst 4, 1) := by decide +kernel
theorem dX10_comes_101 : decode cX10_comes 101 = .ok (.if_icmp .ne 8, 3) := by decide +kernel
theorem dX10_comes_104 : decode cX10_comes 104 = .ok (.iload 8, 2) := by decide +kernel
theorem dX10_comes_106 : decode cX10_comes 106 = .ok (.goto 18, 3) := by decide +kernel
theorem dX10_comes_109 : decode cX10_comes 109 = .ok (.aload_n 0, 1) := by decide +kernel
theorem dX10_comes_110 : decode cX10_comes 110 = .ok (.getfield 159, 3) := by decide +kernel
theorem dX10_comes_113 : decode cX10_comes 113 = .ok (.iconst 4, 1) := by decide +kernel
theorem dX10_comes_114 : decode cX10_comes 114 = .ok (.irem, 1) := by decide +kernel
theorem dX10_comes_115 : decode cX10_comes 115 = .ok (.iconst 2, 1) := by decide +kernel
theorem dX10_comes_116 : decode cX10_comes 116 = .ok (.if_icmp .ne 7, 3) := by decide +kernel
theorem dX10_comes_119 : decode cX10_comes 119 = .ok (.iconst 1, 1) := by decide +kernel
theorem dX10_comes_120 : decode cX10_comes 120 = .ok (.goto 4, 3) := by decide +kernel
theorem dX10_comes_123 : decode cX10_comes 123 = .ok (.iconst 0, 1) := by decide +kernel
theorem dX10_comes_124 : decode cX10_comes 124 = .ok (.ireturn, 1) := by decide +kernel
set_option maxRecDepth 20000 in
theorem ggX10_bestOf_X10_reckons : GoodIn wsX10_bestOf wsX10_reckons := goodIn_r _ [7, 8, 9, 10, 11, 12, 2, 13, 14, 15, 16, 17, 18, 19, 20, 21, 22, 23, 24, 25, 26, 27, 28, 29, 30, 31, 32, 33, 34, 35, 36, 37, 38, 39, 40, 41, 42, 43, 44, 45] (by decide +kernel) (by decide +kernel)
set_option maxRecDepth 20000 in
theorem gX10_bestOf_X10_reckons : GoodIn wsX10_bestOf (wsV RX10 167 RX10 yX10_reckons wsX10_reckons) := goodIn_app (goodIn_of _ (by decide +kernel)) ggX10_bestOf_X10_reckons
theorem dX10_bestOf_0 : decode cX10_bestOf 0 = .ok (.bipush (-9), 2) := by decide +kernel
theorem dX10_bestOf_2 : decode cX10_bestOf 2 = .ok (.istore 4, 2) := by decide +kernel
theorem dX10_bestOf_4 : decode cX10_bestOf 4 = .ok (.bipush (-9), 2) := by decide +kernel
theorem dX10_bestOf_6 : decode cX10_bestOf 6 = .ok (.istore 5, 2) := by decide +kernel
theorem dX10_bestOf_8 : decode cX10_bestOf 8 = .ok (.aload_n 0, 1) := by decide +kernel
theorem dX10_bestOf_9 : decode cX10_bestOf 9 = .ok (.getfield 25, 3) := by decide +kernel
theorem dX10_bestOf_12 : decode cX10_bestOf 12 = .ok (.iconst 4, 1) := by decide +kernel
theorem dX10_bestOf_13 : decode cX10_bestOf 13 = .ok (.iaload, 1) := by decide +kernel
theorem dX10_bestOf_14 : decode cX10_bestOf 14 = .ok (.istore 6, 2) := by decide +kernel
theorem dX10_bestOf_16 : decode cX10_bestOf 16 = .ok (.iload 6, 2) := by decide +kernel
theorem dX10_bestOf_18 : decode cX10_bestOf 18 = .ok (.iconst 5, 1) := by decide +kernel
theorem dX10_bestOf_19 : decode cX10_bestOf 19 = .ok (.if_icmp .ge 93, 3) := by decide +kernel
theorem dX10_bestOf_22 : decode cX10_bestOf 22 = .ok (.iconst 0, 1) := by decide +kernel
theorem dX10_bestOf_23 : decode cX10_bestOf 23 = .ok (.istore 7, 2) := by decide +kernel
theorem dX10_bestOf_25 : decode cX10_bestOf 25 = .ok (.iload 7, 2) := by decide +kernel
theorem dX10_bestOf_27 : decode cX10_bestOf 27 = .ok (.bipush 10, 2) := by decide +kernel
theorem dX10_bestOf_29 : decode cX10_bestOf 29 = .ok (.if_icmp .ge 77, 3) := by decide +kernel
theorem dX10_bestOf_32 : decode cX10_bestOf 32 = .ok (.iconst 0, 1) := by decide +kernel
theorem dX10_bestOf_33 : decode cX10_bestOf 33 = .ok (.istore 8, 2) := by decide +kernel
theorem dX10_bestOf_35 : decode cX10_bestOf 35 = .ok (.iload 8, 2) := by decide +kernel
theorem dX10_bestOf_37 : decode cX10_bestOf 37 = .ok (.bipush 8, 2) := by decide +kernel
theorem dX10_bestOf_39 : decode cX10_bestOf 39 = .ok (.if_icmp .ge 61, 3) := by decide +kernel
theorem dX10_bestOf_42 : decode cX10_bestOf 42 = .ok (.aload_n 0, 1) := by decide +kernel
theorem dX10_bestOf_43 : decode cX10_bestOf 43 = .ok (.iload_n 1, 1) := by decide +kernel
theorem dX10_bestOf_44 : decode cX10_bestOf 44 = .ok (.iload_n 2, 1) := by decide +kernel
theorem dX10_bestOf_45 : decode cX10_bestOf 45 = .ok (.iload 6, 2) := by decide +kernel
theorem dX10_bestOf_47 : decode cX10_bestOf 47 = .ok (.iload 7, 2) := by decide +kernel
theorem dX10_bestOf_49 : decode cX10_bestOf 49 = .ok (.iload 8, 2) := by decide +kernel
theorem dX10_bestOf_51 : decode cX10_bestOf 51 = .ok (.iload_n 3, 1) := by decide +kernel
theorem dX10_bestOf_52 : decode cX10_bestOf 52 = .ok (.invokevirtual 167, 3) := by decide +kernel
theorem dX10_bestOf_55 : decode cX10_bestOf 55 = .ok (.istore 9, 2) := by decide +kernel
theorem dX10_bestOf_57 : decode cX10_bestOf 57 = .ok (.aload_n 0, 1) := by decide +kernel
theorem dX10_bestOf_58 : decode cX10_bestOf 58 = .ok (.getfield 159, 3) := by decide +kernel
theorem dX10_bestOf_61 : decode cX10_bestOf 61 = .ok (.iconst 4, 1) := by decide +kernel
theorem dX10_bestOf_62 : decode cX10_bestOf 62 = .ok (.irem, 1) := by decide +kernel
theorem dX10_bestOf_63 : decode cX10_bestOf 63 = .ok (.iconst 2, 1) := by decide +kernel
theorem dX10_bestOf_64 : decode cX10_bestOf 64 = .ok (.if_icmp .ne 30, 3) := by decide +kernel
theorem dX10_bestOf_67 : decode cX10_bestOf 67 = .ok (.iload 9, 2) := by decide +kernel
theorem dX10_bestOf_69 : decode cX10_bestOf 69 = .ok (.iload 5, 2) := by decide +kernel
theorem dX10_bestOf_71 : decode cX10_bestOf 71 = .ok (.if_icmp .le 23, 3) := by decide +kernel
theorem dX10_bestOf_74 : decode cX10_bestOf 74 = .ok (.iload 9, 2) := by decide +kernel
theorem dX10_bestOf_76 : decode cX10_bestOf 76 = .ok (.istore 5, 2) := by decide +kernel
theorem dX10_bestOf_78 : decode cX10_bestOf 78 = .ok (.bipush 100, 2) := by decide +kernel
theorem dX10_bestOf_80 : decode cX10_bestOf 80 = .ok (.iload 6, 2) := by decide +kernel
theorem dX10_bestOf_82 : decode cX10_bestOf 82 = .ok (.imul, 1) := by decide +kernel
theorem dX10_bestOf_83 : decode cX10_bestOf 83 = .ok (.bipush 10, 2) := by decide +kernel
theorem dX10_bestOf_85 : decode cX10_bestOf 85 = .ok (.iload 7, 2) := by decide +kernel
theorem dX10_bestOf_87 : decode cX10_bestOf 87 = .ok (.imul, 1) := by decide +kernel
theorem dX10_bestOf_88 : decode cX10_bestOf 88 = .ok (.iadd, 1) := by decide +kernel
theorem dX10_bestOf_89 : decode cX10_bestOf 89 = .ok (.iload 8, 2) := by decide +kernel
theorem dX10_bestOf_91 : decode cX10_bestOf 91 = .ok (.iadd, 1) := by decide +kernel
theorem dX10_bestOf_92 : decode cX10_bestOf 92 = .ok (.istore 4, 2) := by decide +kernel
theorem dX10_bestOf_94 : decode cX10_bestOf 94 = .ok (.iinc 8 1, 3) := by decide +kernel
theorem dX10_bestOf_97 : decode cX10_bestOf 97 = .ok (.goto (-62), 3) := by decide +kernel
theorem dX10_bestOf_100 : decode cX10_bestOf 100 = .ok (.iinc 7 1, 3) := by decide +kernel
theorem dX10_bestOf_103 : decode cX10_bestOf 103 = .ok (.goto (-78), 3) := by decide +kernel
theorem dX10_bestOf_106 : decode cX10_bestOf 106 = .ok (.iinc 6 1, 3) := by decide +kernel
theorem dX10_bestOf_109 : decode cX10_bestOf 109 = .ok (.goto (-93), 3) := by decide +kernel
theorem dX10_bestOf_112 : decode cX10_bestOf 112 = .ok (.iload 4, 2) := by decide +kernel
theorem dX10_bestOf_114 : decode cX10_bestOf 114 = .ok (.ireturn, 1) := by decide +kernel
set_option maxRecDepth 20000 in
theorem ggX10_sureOf_X10_reckons : GoodIn wsX10_sureOf wsX10_reckons := goodIn_r _ [5, 6, 7, 8, 9, 10, 11, 12, 13, 14, 15, 16, 17, 18, 19, 20, 21, 22, 23, 24, 25, 26, 27, 28, 29, 30, 31, 32, 33, 34, 35, 36, 37, 38, 39, 40, 41, 42, 43, 44] (by decide +kernel) (by decide +kernel)
set_option maxRecDepth 20000 in
theorem gX10_sureOf_X10_reckons : GoodIn wsX10_sureOf (wsV RX10 167 RX10 yX10_reckons wsX10_reckons) := goodIn_app (goodIn_of _ (by decide +kernel)) ggX10_sureOf_X10_reckons
theorem dX10_sureOf_0 : decode cX10_sureOf 0 = .ok (.aload_n 0, 1) := by decide +kernel
theorem dX10_sureOf_1 : decode cX10_sureOf 1 = .ok (.iload_n 1, 1) := by decide +kernel
theorem dX10_sureOf_2 : decode cX10_sureOf 2 = .ok (.iload_n 2, 1) := by decide +kernel
theorem dX10_sureOf_3 : decode cX10_sureOf 3 = .ok (.iload 4, 2) := by decide +kernel
theorem dX10_sureOf_5 : decode cX10_sureOf 5 = .ok (.bipush 100, 2) := by decide +kernel
theorem dX10_sureOf_7 : decode cX10_sureOf 7 = .ok (.idiv, 1) := by decide +kernel
theorem dX10_sureOf_8 : decode cX10_sureOf 8 = .ok (.iload 4, 2) := by decide +kernel
theorem dX10_sureOf_10 : decode cX10_sureOf 10 = .ok (.bipush 10, 2) := by decide +kernel
theorem dX10_sureOf_12 : decode cX10_sureOf 12 = .ok (.idiv, 1) := by decide +kernel
theorem dX10_sureOf_13 : decode cX10_sureOf 13 = .ok (.bipush 10, 2) := by decide +kernel
theorem dX10_sureOf_15 : decode cX10_sureOf 15 = .ok (.irem, 1) := by decide +kernel
theorem dX10_sureOf_16 : decode cX10_sureOf 16 = .ok (.iload 4, 2) := by decide +kernel
theorem dX10_sureOf_18 : decode cX10_sureOf 18 = .ok (.bipush 10, 2) := by decide +kernel
theorem dX10_sureOf_20 : decode cX10_sureOf 20 = .ok (.irem, 1) := by decide +kernel
theorem dX10_sureOf_21 : decode cX10_sureOf 21 = .ok (.iload_n 3, 1) := by decide +kernel
theorem dX10_sureOf_22 : decode cX10_sureOf 22 = .ok (.invokevirtual 167, 3) := by decide +kernel
theorem dX10_sureOf_25 : decode cX10_sureOf 25 = .ok (.ireturn, 1) := by decide +kernel
set_option maxRecDepth 20000 in
theorem ggX10_best_X10_isRunner : GoodIn wsX10_best wsX10_isRunner := goodIn_r _ [6, 7, 8, 9, 5, 10, 36, 37, 38, 39, 40, 41, 42, 43, 44, 45, 46, 47, 48, 49, 50, 51, 52, 53, 54, 55, 56, 57, 58, 59, 60, 61, 62, 63, 64, 65, 66] (by decide +kernel) (by decide +kernel)
set_option maxRecDepth 20000 in
theorem gX10_best_X10_isRunner : GoodIn wsX10_best (wsV RX10 147 RX10 yX10_isRunner wsX10_isRunner) := goodIn_app (goodIn_of _ (by decide +kernel)) ggX10_best_X10_isRunner
set_option maxRecDepth 20000 in
theorem ggX10_best_X10_isYard : GoodIn wsX10_best wsX10_isYard := goodIn_r _ [14, 15, 8, 9, 5, 10, 36, 37, 38, 39, 40, 41, 42, 43, 44, 45, 46, 47, 48, 49, 50, 51, 52, 53, 54, 55, 56, 57, 58, 59, 60, 61, 62, 63, 64, 65, 66] (by decide +kernel) (by decide +kernel)
set_option maxRecDepth 20000 in
theorem gX10_best_X10_isYard : GoodIn wsX10_best (wsV RX10 144 RX10 yX10_isYard wsX10_isYard) := goodIn_app (goodIn_of _ (by decide +kernel)) ggX10_best_X10_isYard
set_option maxRecDepth 20000 in
theorem ggX10_best_X10_in : GoodIn wsX10_best wsX10_in := goodIn_r _ [10] (by decide +kernel) (by decide +kernel)
set_option maxRecDepth 20000 in
theorem gX10_best_X10_in : GoodIn wsX10_best (va_wsS RX10 61 yX10_in wsX10_in) := goodIn_app (goodIn_of _ (by decide +kernel)) ggX10_best_X10_in
set_option maxRecDepth 20000 in
theorem ggX10_best_X10_bestOf : GoodIn wsX10_best wsX10_bestOf := goodIn_r _ [19, 20, 21, 22, 23, 24, 5, 25, 26, 27, 28, 15, 29, 30, 31, 36, 37, 38, 39, 40, 41, 42, 43, 44, 45, 46, 47, 48, 49, 50, 51, 52, 53, 54, 55, 56, 57, 58, 59, 60, 61, 62, 63, 64, 65, 66] (by decide +kernel) (by decide +kernel)
set_option maxRecDepth 20000 in
theorem gX10_best_X10_bestOf : GoodIn wsX10_best (wsV RX10 171 RX10 yX10_bestOf wsX10_bestOf) := goodIn_app (goodIn_of _ (by decide +kernel)) ggX10_best_X10_bestOf
set_option maxRecDepth 20000 in
theorem ggX10_best_X10_sureOf : GoodIn wsX10_best wsX10_sureOf := goodIn_r _ [35, 22, 23, 24, 5, 25, 26, 27, 28, 15, 29, 21, 30, 31, 36, 37, 38, 39, 40, 41, 42, 43, 44, 45, 46, 47, 48, 49, 50, 51, 52, 53, 54, 55, 56, 57, 58, 59, 60, 61, 62, 63, 64, 65, 66] (by decide +kernel) (by decide +kernel)
set_option maxRecDepth 20000 in
theorem gX10_best_X10_sureOf : GoodIn wsX10_best (wsV RX10 175 RX10 yX10_sureOf wsX10_sureOf) := goodIn_app (goodIn_of _ (by decide +kernel)) ggX10_best_X10_sureOf
theorem dX10_best_0 : decode cX10_best 0 = .ok (.aload_n 0, 1) := by decide +kernel
theorem dX10_best_1 : decode cX10_best 1 = .ok (.iconst 0, 1) := by decide +kernel
theorem dX10_best_2 : decode cX10_best 2 = .ok (.putfield 58, 3) := by decide +kernel
theorem dX10_best_5 : decode cX10_best 5 = .ok (.aload_n 0, 1) := by decide +kernel
theorem dX10_best_6 : decode cX10_best 6 = .ok (.iload_n 1, 1) := by decide +kernel
theorem dX10_best_7 : decode cX10_best 7 = .ok (.invokevirtual 147, 3) := by decide +kernel
theorem dX10_best_10 : decode cX10_best 10 = .ok (.ifCond .eq 30, 3) := by decide +kernel
theorem dX10_best_13 : decode cX10_best 13 = .ok (.aload_n 0, 1) := by decide +kernel
theorem dX10_best_14 : decode cX10_best 14 = .ok (.iload_n 2, 1) := by decide +kernel
theorem dX10_best_15 : decode cX10_best 15 = .ok (.invokevirtual 144, 3) := by decide +kernel
theorem dX10_best_18 : decode cX10_best 18 = .ok (.ifCond .eq 22, 3) := by decide +kernel
theorem dX10_best_21 : decode cX10_best 21 = .ok (.iload_n 3, 1) := by decide +kernel
theorem dX10_best_22 : decode cX10_best 22 = .ok (.iconst 0, 1) := by decide +kernel
theorem dX10_best_23 : decode cX10_best 23 = .ok (.iconst 1, 1) := by decide +kernel
theorem dX10_best_24 : decode cX10_best 24 = .ok (.invokestatic 61, 3) := by decide +kernel
theorem dX10_best_27 : decode cX10_best 27 = .ok (.ifCond .eq 13, 3) := by decide +kernel
theorem dX10_best_30 : decode cX10_best 30 = .ok (.iload 4, 2) := by decide +kernel
theorem dX10_best_32 : decode cX10_best 32 = .ok (.iconst 0, 1) := by decide +kernel
theorem dX10_best_33 : decode cX10_best 33 = .ok (.iconst 1, 1) := by decide +kernel
theorem dX10_best_34 : decode cX10_best 34 = .ok (.invokestatic 61, 3) := by decide +kernel
theorem dX10_best_37 : decode cX10_best 37 = .ok (.ifCond .ne 5, 3) := by decide +kernel
theorem dX10_best_40 : decode cX10_best 40 = .ok (.iconst (-1), 1) := by decide +kernel
theorem dX10_best_41 : decode cX10_best 41 = .ok (.ireturn, 1) := by decide +kernel
theorem dX10_best_42 : decode cX10_best 42 = .ok (.aload_n 0, 1) := by decide +kernel
theorem dX10_best_43 : decode cX10_best 43 = .ok (.iload_n 1, 1) := by decide +kernel
theorem dX10_best_44 : decode cX10_best 44 = .ok (.iload_n 2, 1) := by decide +kernel
theorem dX10_best_45 : decode cX10_best 45 = .ok (.iload_n 3, 1) := by decide +kernel
theorem dX10_best_46 : decode cX10_best 46 = .ok (.invokevirtual 171, 3) := by decide +kernel
theorem dX10_best_49 : decode cX10_best 49 = .ok (.istore 5, 2) := by decide +kernel
theorem dX10_best_51 : decode cX10_best 51 = .ok (.iload 4, 2) := by decide +kernel
theorem dX10_best_53 : decode cX10_best 53 = .ok (.iconst 1, 1) := by decide +kernel
theorem dX10_best_54 : decode cX10_best 54 = .ok (.if_icmp .ne 8, 3) := by decide +kernel
theorem dX10_best_57 : decode cX10_best 57 = .ok (.iload 5, 2) := by decide +kernel
theorem dX10_best_59 : decode cX10_best 59 = .ok (.goto 12, 3) := by decide +kernel
theorem dX10_best_62 : decode cX10_best 62 = .ok (.aload_n 0, 1) := by decide +kernel
theorem dX10_best_63 : decode cX10_best 63 = .ok (.iload_n 1, 1) := by decide +kernel
theorem dX10_best_64 : decode cX10_best 64 = .ok (.iload_n 2, 1) := by decide +kernel
theorem dX10_best_65 : decode cX10_best 65 = .ok (.iload_n 3, 1) := by decide +kernel
theorem dX10_best_66 : decode cX10_best 66 = .ok (.iload 5, 2) := by decide +kernel
theorem dX10_best_68 : decode cX10_best 68 = .ok (.invokevirtual 175, 3) := by decide +kernel
theorem dX10_best_71 : decode cX10_best 71 = .ok (.ireturn, 1) := by decide +kernel
theorem dX10_notes_0 : decode cX10_notes 0 = .ok (.aload_n 0, 1) := by decide +kernel
theorem dX10_notes_1 : decode cX10_notes 1 = .ok (.getfield 138, 3) := by decide +kernel
theorem dX10_notes_4 : decode cX10_notes 4 = .ok (.bipush 10, 2) := by decide +kernel
theorem dX10_notes_6 : decode cX10_notes 6 = .ok (.if_icmp .ne 37, 3) := by decide +kernel
theorem dX10_notes_9 : decode cX10_notes 9 = .ok (.iconst 0, 1) := by decide +kernel
theorem dX10_notes_10 : decode cX10_notes 10 = .ok (.istore_n 2, 1) := by decide +kernel
theorem dX10_notes_11 : decode cX10_notes 11 = .ok (.iload_n 2, 1) := by decide +kernel
theorem dX10_notes_12 : decode cX10_notes 12 = .ok (.bipush 36, 2) := by decide +kernel
theorem dX10_notes_14 : decode cX10_notes 14 = .ok (.if_icmp .ge 23, 3) := by decide +kernel
theorem dX10_notes_17 : decode cX10_notes 17 = .ok (.aload_n 0, 1) := by decide +kernel
theorem dX10_notes_18 : decode cX10_notes 18 = .ok (.getfield 38, 3) := by decide +kernel
theorem dX10_notes_21 : decode cX10_notes 21 = .ok (.iload_n 2, 1) := by decide +kernel
theorem dX10_notes_22 : decode cX10_notes 22 = .ok (.aload_n 0, 1) := by decide +kernel
theorem dX10_notes_23 : decode cX10_notes 23 = .ok (.getfield 38, 3) := by decide +kernel
theorem dX10_notes_26 : decode cX10_notes 26 = .ok (.iload_n 2, 1) := by decide +kernel
theorem dX10_notes_27 : decode cX10_notes 27 = .ok (.iconst 4, 1) := by decide +kernel
theorem dX10_notes_28 : decode cX10_notes 28 = .ok (.iadd, 1) := by decide +kernel
theorem dX10_notes_29 : decode cX10_notes 29 = .ok (.iaload, 1) := by decide +kernel
theorem dX10_notes_30 : decode cX10_notes 30 = .ok (.iastore, 1) := by decide +kernel
theorem dX10_notes_31 : decode cX10_notes 31 = .ok (.iinc 2 1, 3) := by decide +kernel
theorem dX10_notes_34 : decode cX10_notes 34 = .ok (.goto (-23), 3) := by decide +kernel
theorem dX10_notes_37 : decode cX10_notes 37 = .ok (.aload_n 0, 1) := by decide +kernel
theorem dX10_notes_38 : decode cX10_notes 38 = .ok (.bipush 9, 2) := by decide +kernel
theorem dX10_notes_40 : decode cX10_notes 40 = .ok (.putfield 138, 3) := by decide +kernel
theorem dX10_notes_43 : decode cX10_notes 43 = .ok (.iconst 4, 1) := by decide +kernel
theorem dX10_notes_44 : decode cX10_notes 44 = .ok (.aload_n 0, 1) := by decide +kernel
theorem dX10_notes_45 : decode cX10_notes 45 = .ok (.getfield 138, 3) := by decide +kernel
theorem dX10_notes_48 : decode cX10_notes 48 = .ok (.imul, 1) := by decide +kernel
theorem dX10_notes_49 : decode cX10_notes 49 = .ok (.istore_n 2, 1) := by decide +kernel
theorem dX10_notes_50 : decode cX10_notes 50 = .ok (.aload_n 0, 1) := by decide +kernel
theorem dX10_notes_51 : decode cX10_notes 51 = .ok (.getfield 38, 3) := by decide +kernel
theorem dX10_notes_54 : decode cX10_notes 54 = .ok (.iload_n 2, 1) := by decide +kernel
theorem dX10_notes_55 : decode cX10_notes 55 = .ok (.iload_n 1, 1) := by decide +kernel
theorem dX10_notes_56 : decode cX10_notes 56 = .ok (.iastore, 1) := by decide +kernel
theorem dX10_notes_57 : decode cX10_notes 57 = .ok (.iconst 0, 1) := by decide +kernel
theorem dX10_notes_58 : decode cX10_notes 58 = .ok (.istore_n 3, 1) := by decide +kernel
theorem dX10_notes_59 : decode cX10_notes 59 = .ok (.iload_n 3, 1) := by decide +kernel
theorem dX10_notes_60 : decode cX10_notes 60 = .ok (.iconst 3, 1) := by decide +kernel
theorem dX10_notes_61 : decode cX10_notes 61 = .ok (.if_icmp .ge 29, 3) := by decide +kernel
theorem dX10_notes_64 : decode cX10_notes 64 = .ok (.aload_n 0, 1) := by decide +kernel
theorem dX10_notes_65 : decode cX10_notes 65 = .ok (.getfield 38, 3) := by decide +kernel
theorem dX10_notes_68 : decode cX10_notes 68 = .ok (.iload_n 2, 1) := by decide +kernel
theorem dX10_notes_69 : decode cX10_notes 69 = .ok (.iconst 1, 1) := by decide +kernel
theorem dX10_notes_70 : decode cX10_notes 70 = .ok (.iadd, 1) := by decide +kernel
theorem dX10_notes_71 : decode cX10_notes 71 = .ok (.iload_n 3, 1) := by decide +kernel
theorem dX10_notes_72 : decode cX10_notes 72 = .ok (.iadd, 1) := by decide +kernel
theorem dX10_notes_73 : decode cX10_notes 73 = .ok (.aload_n 0, 1) := by decide +kernel
theorem dX10_notes_74 : decode cX10_notes 74 = .ok (.getfield 28, 3) := by decide +kernel
theorem dX10_notes_77 : decode cX10_notes 77 = .ok (.iconst 3, 1) := by decide +kernel
theorem dX10_notes_78 : decode cX10_notes 78 = .ok (.iload_n 1, 1) := by decide +kernel
theorem dX10_notes_79 : decode cX10_notes 79 = .ok (.imul, 1) := by decide +kernel
theorem dX10_notes_80 : decode cX10_notes 80 = .ok (.iload_n 3, 1) := by decide +kernel
theorem dX10_notes_81 : decode cX10_notes 81 = .ok (.iadd, 1) := by decide +kernel
theorem dX10_notes_82 : decode cX10_notes 82 = .ok (.iaload, 1) := by decide +kernel
theorem dX10_notes_83 : decode cX10_notes 83 = .ok (.iastore, 1) := by decide +kernel
theorem dX10_notes_84 : decode cX10_notes 84 = .ok (.iinc 3 1, 3) := by decide +kernel
theorem dX10_notes_87 : decode cX10_notes 87 = .ok (.goto (-28), 3) := by decide +kernel
theorem dX10_notes_90 : decode cX10_notes 90 = .ok (.aload_n 0, 1) := by decide +kernel
theorem dX10_notes_91 : decode cX10_notes 91 = .ok (.dup, 1) := by decide +kernel
theorem dX10_notes_92 : decode cX10_notes 92 = .ok (.getfield 138, 3) := by decide +kernel
theorem dX10_notes_95 : decode cX10_notes 95 = .ok (.iconst 1, 1) := by decide +kernel
theorem dX10_notes_96 : decode cX10_notes 96 = .ok (.iadd, 1) := by decide +kernel
theorem dX10_notes_97 : decode cX10_notes 97 = .ok (.putfield 138, 3) := by decide +kernel
theorem dX10_notes_100 : decode cX10_notes 100 = .ok (.return_, 1) := by decide +kernel
set_option maxRecDepth 20000 in
theorem ggX10_runs_X10_isRunner : GoodIn wsX10_runs wsX10_isRunner := goodIn_r _ [9, 10, 11, 12, 8, 13, 20, 21, 22, 23, 24, 25, 26, 27, 28, 29, 30, 31, 32, 33, 34, 35, 36, 37, 38, 39, 40, 41, 42, 43, 44, 45, 46, 47, 48, 49, 50] (by decide +kernel) (by decide +kernel)
set_option maxRecDepth 20000 in
theorem gX10_runs_X10_isRunner : GoodIn wsX10_runs (wsV RX10 147 RX10 yX10_isRunner wsX10_isRunner) := goodIn_app (goodIn_of _ (by decide +kernel)) ggX10_runs_X10_isRunner
set_option maxRecDepth 20000 in
theorem ggX10_runs_X10_in : GoodIn wsX10_runs wsX10_in := goodIn_r _ [13] (by decide +kernel) (by decide +kernel)
set_option maxRecDepth 20000 in
theorem gX10_runs_X10_in : GoodIn wsX10_runs (va_wsS RX10 61 yX10_in wsX10_in) := goodIn_app (goodIn_of _ (by decide +kernel)) ggX10_runs_X10_in
set_option maxRecDepth 20000 in
theorem ggX10_runs_X10_notes : GoodIn wsX10_runs wsX10_notes := goodIn_r _ [17, 18, 19, 2, 20, 21, 22, 23, 24, 25, 26, 27, 28, 29, 30, 31, 32, 33, 34, 35, 36, 37, 38, 39, 40, 41, 42, 43, 44, 45, 46, 47, 48, 49, 50] (by decide +kernel) (by decide +kernel)
set_option maxRecDepth 20000 in
theorem gX10_runs_X10_notes : GoodIn wsX10_runs (wsV RX10 179 RX10 yX10_notes wsX10_notes) := goodIn_app (goodIn_of _ (by decide +kernel)) ggX10_runs_X10_notes
theorem dX10_runs_0 : decode cX10_runs 0 = .ok (.aload_n 0, 1) := by decide +kernel
theorem dX10_runs_1 : decode cX10_runs 1 = .ok (.iconst 0, 1) := by decide +kernel
theorem dX10_runs_2 : decode cX10_runs 2 = .ok (.putfield 58, 3) := by decide +kernel
theorem dX10_runs_5 : decode cX10_runs 5 = .ok (.aload_n 0, 1) := by decide +kernel
theorem dX10_runs_6 : decode cX10_runs 6 = .ok (.iload_n 1, 1) := by decide +kernel
theorem dX10_runs_7 : decode cX10_runs 7 = .ok (.invokevirtual 147, 3) := by decide +kernel
theorem dX10_runs_10 : decode cX10_runs 10 = .ok (.ifCond .eq 13, 3) := by decide +kernel
theorem dX10_runs_13 : decode cX10_runs 13 = .ok (.iload_n 2, 1) := by decide +kernel
theorem dX10_runs_14 : decode cX10_runs 14 = .ok (.iconst 1, 1) := by decide +kernel
theorem dX10_runs_15 : decode cX10_runs 15 = .ok (.bipush 9, 2) := by decide +kernel
theorem dX10_runs_17 : decode cX10_runs 17 = .ok (.invokestatic 61, 3) := by decide +kernel
theorem dX10_runs_20 : decode cX10_runs 20 = .ok (.ifCond .ne 5, 3) := by decide +kernel
theorem dX10_runs_23 : decode cX10_runs 23 = .ok (.iconst (-1), 1) := by decide +kernel
theorem dX10_runs_24 : decode cX10_runs 24 = .ok (.ireturn, 1) := by decide +kernel
theorem dX10_runs_25 : decode cX10_runs 25 = .ok (.aload_n 0, 1) := by decide +kernel
theorem dX10_runs_26 : decode cX10_runs 26 = .ok (.getfield 28, 3) := by decide +kernel
theorem dX10_runs_29 : decode cX10_runs 29 = .ok (.iconst 3, 1) := by decide +kernel
theorem dX10_runs_30 : decode cX10_runs 30 = .ok (.iload_n 1, 1) := by decide +kernel
theorem dX10_runs_31 : decode cX10_runs 31 = .ok (.imul, 1) := by decide +kernel
theorem dX10_runs_32 : decode cX10_runs 32 = .ok (.iaload, 1) := by decide +kernel
theorem dX10_runs_33 : decode cX10_runs 33 = .ok (.aload_n 0, 1) := by decide +kernel
theorem dX10_runs_34 : decode cX10_runs 34 = .ok (.getfield 54, 3) := by decide +kernel
theorem dX10_runs_37 : decode cX10_runs 37 = .ok (.if_icmp .ne 6, 3) := by decide +kernel
theorem dX10_runs_40 : decode cX10_runs 40 = .ok (.bipush (-2), 2) := by decide +kernel
theorem dX10_runs_42 : decode cX10_runs 42 = .ok (.ireturn, 1) := by decide +kernel
theorem dX10_runs_43 : decode cX10_runs 43 = .ok (.aload_n 0, 1) := by decide +kernel
theorem dX10_runs_44 : decode cX10_runs 44 = .ok (.iload_n 1, 1) := by decide +kernel
theorem dX10_runs_45 : decode cX10_runs 45 = .ok (.invokevirtual 179, 3) := by decide +kernel
theorem dX10_runs_48 : decode cX10_runs 48 = .ok (.aload_n 0, 1) := by decide +kernel
theorem dX10_runs_49 : decode cX10_runs 49 = .ok (.getfield 28, 3) := by decide +kernel
theorem dX10_runs_52 : decode cX10_runs 52 = .ok (.iconst 3, 1) := by decide +kernel
theorem dX10_runs_53 : decode cX10_runs 53 = .ok (.iload_n 1, 1) := by decide +kernel
theorem dX10_runs_54 : decode cX10_runs 54 = .ok (.imul, 1) := by decide +kernel
theorem dX10_runs_55 : decode cX10_runs 55 = .ok (.iaload, 1) := by decide +kernel
theorem dX10_runs_56 : decode cX10_runs 56 = .ok (.aload_n 0, 1) := by decide +kernel
theorem dX10_runs_57 : decode cX10_runs 57 = .ok (.getfield 19, 3) := by decide +kernel
theorem dX10_runs_60 : decode cX10_runs 60 = .ok (.iload_n 1, 1) := by decide +kernel
theorem dX10_runs_61 : decode cX10_runs 61 = .ok (.iaload, 1) := by decide +kernel
theorem dX10_runs_62 : decode cX10_runs 62 = .ok (.iload_n 2, 1) := by decide +kernel
theorem dX10_runs_63 : decode cX10_runs 63 = .ok (.imul, 1) := by decide +kernel
theorem dX10_runs_64 : decode cX10_runs 64 = .ok (.iadd, 1) := by decide +kernel
theorem dX10_runs_65 : decode cX10_runs 65 = .ok (.istore_n 3, 1) := by decide +kernel
theorem dX10_runs_66 : decode cX10_runs 66 = .ok (.aload_n 0, 1) := by decide +kernel
theorem dX10_runs_67 : decode cX10_runs 67 = .ok (.getfield 28, 3) := by decide +kernel
theorem dX10_runs_70 : decode cX10_runs 70 = .ok (.iconst 3, 1) := by decide +kernel
theorem dX10_runs_71 : decode cX10_runs 71 = .ok (.iload_n 1, 1) := by decide +kernel
theorem dX10_runs_72 : decode cX10_runs 72 = .ok (.imul, 1) := by decide +kernel
theorem dX10_runs_73 : decode cX10_runs 73 = .ok (.iload_n 3, 1) := by decide +kernel
theorem dX10_runs_74 : decode cX10_runs 74 = .ok (.aload_n 0, 1) := by decide +kernel
theorem dX10_runs_75 : decode cX10_runs 75 = .ok (.getfield 54, 3) := by decide +kernel
theorem dX10_runs_78 : decode cX10_runs 78 = .ok (.if_icmp .le 10, 3) := by decide +kernel
theorem dX10_runs_81 : decode cX10_runs 81 = .ok (.aload_n 0, 1) := by decide +kernel
theorem dX10_runs_82 : decode cX10_runs 82 = .ok (.getfield 54, 3) := by decide +kernel
theorem dX10_runs_85 : decode cX10_runs 85 = .ok (.goto 4, 3) := by decide +kernel
theorem dX10_runs_88 : decode cX10_runs 88 = .ok (.iload_n 3, 1) := by decide +kernel
theorem dX10_runs_89 : decode cX10_runs 89 = .ok (.iastore, 1) := by decide +kernel
theorem dX10_runs_90 : decode cX10_runs 90 = .ok (.aload_n 0, 1) := by decide +kernel
theorem dX10_runs_91 : decode cX10_runs 91 = .ok (.getfield 28, 3) := by decide +kernel
theorem dX10_runs_94 : decode cX10_runs 94 = .ok (.iconst 3, 1) := by decide +kernel
theorem dX10_runs_95 : decode cX10_runs 95 = .ok (.iload_n 1, 1) := by decide +kernel
theorem dX10_runs_96 : decode cX10_runs 96 = .ok (.imul, 1) := by decide +kernel
theorem dX10_runs_97 : decode cX10_runs 97 = .ok (.iconst 1, 1) := by decide +kernel
theorem dX10_runs_98 : decode cX10_runs 98 = .ok (.iadd, 1) := by decide +kernel
theorem dX10_runs_99 : decode cX10_runs 99 = .ok (.dup2, 1) := by decide +kernel
theorem dX10_runs_100 : decode cX10_runs 100 = .ok (.iaload, 1) := by decide +kernel
theorem dX10_runs_101 : decode cX10_runs 101 = .ok (.iload_n 2, 1) := by decide +kernel
theorem dX10_runs_102 : decode cX10_runs 102 = .ok (.iadd, 1) := by decide +kernel
theorem dX10_runs_103 : decode cX10_runs 103 = .ok (.iastore, 1) := by decide +kernel
theorem dX10_runs_104 : decode cX10_runs 104 = .ok (.aload_n 0, 1) := by decide +kernel
theorem dX10_runs_105 : decode cX10_runs 105 = .ok (.getfield 28, 3) := by decide +kernel
theorem dX10_runs_108 : decode cX10_runs 108 = .ok (.iconst 3, 1) := by decide +kernel
theorem dX10_runs_109 : decode cX10_runs 109 = .ok (.iload_n 1, 1) := by decide +kernel
theorem dX10_runs_110 : decode cX10_runs 110 = .ok (.imul, 1) := by decide +kernel
theorem dX10_runs_111 : decode cX10_runs 111 = .ok (.iaload, 1) := by decide +kernel
theorem dX10_runs_112 : decode cX10_runs 112 = .ok (.ireturn, 1) := by decide +kernel
set_option maxRecDepth 20000 in
theorem ggX10_toss_X10_isRunner : GoodIn wsX10_toss wsX10_isRunner := goodIn_r _ [13, 14, 15, 16, 12, 17, 36, 37, 38, 39, 40, 41, 42, 43, 44, 45, 46, 47, 48, 49, 50, 51, 52, 53, 54, 55, 56, 57, 58, 59, 60, 61, 62, 63, 64, 65, 66] (by decide +kernel) (by decide +kernel)
set_option maxRecDepth 20000 in
theorem gX10_toss_X10_isRunner : GoodIn wsX10_toss (wsV RX10 147 RX10 yX10_isRunner wsX10_isRunner) := goodIn_app (goodIn_of _ (by decide +kernel)) ggX10_toss_X10_isRunner
set_option maxRecDepth 20000 in
theorem ggX10_toss_X10_isToss : GoodIn wsX10_toss wsX10_isToss := goodIn_r _ [20, 15, 16, 12, 17] (by decide +kernel) (by decide +kernel)
set_option maxRecDepth 20000 in
theorem gX10_toss_X10_isToss : GoodIn wsX10_toss (va_wsS RX10 162 yX10_isToss wsX10_isToss) := goodIn_app (goodIn_of _ (by decide +kernel)) ggX10_toss_X10_isToss
set_option maxRecDepth 20000 in
theorem ggX10_toss_X10_notes : GoodIn wsX10_toss wsX10_notes := goodIn_r _ [24, 25, 26, 2, 36, 37, 38, 39, 40, 41, 42, 43, 44, 45, 46, 47, 48, 49, 50, 51, 52, 53, 54, 55, 56, 57, 58, 59, 60, 61, 62, 63, 64, 65, 66] (by decide +kernel) (by decide +kernel)
set_option maxRecDepth 20000 in
theorem gX10_toss_X10_notes : GoodIn wsX10_toss (wsV RX10 179 RX10 yX10_notes wsX10_notes) := goodIn_app (goodIn_of _ (by decide +kernel)) ggX10_toss_X10_notes
set_option maxRecDepth 20000 in
theorem ggX10_toss_X10_reckons : GoodIn wsX10_toss wsX10_reckons := goodIn_r _ [30, 31, 32, 33, 3, 8, 6, 34, 35, 36, 37, 38, 39, 40, 41, 42, 43, 44, 45, 46, 47, 48, 49, 50, 51, 52, 53, 54, 55, 56, 57, 58, 59, 60, 61, 62, 63, 64, 65, 66] (by decide +kernel) (by decide +kernel)
set_option maxRecDepth 20000 in
theorem gX10_toss_X10_reckons : GoodIn wsX10_toss (wsV RX10 167 RX10 yX10_reckons wsX10_reckons) := goodIn_app (goodIn_of _ (by decide +kernel)) ggX10_toss_X10_reckons
theorem dX10_toss_0 : decode cX10_toss 0 = .ok (.aload_n 0, 1) := by decide +kernel
theorem dX10_toss_1 : decode cX10_toss 1 = .ok (.iconst 0, 1) := by decide +kernel
theorem dX10_toss_2 : decode cX10_toss 2 = .ok (.putfield 58, 3) := by decide +kernel
theorem dX10_toss_5 : decode cX10_toss 5 = .ok (.aload_n 0, 1) := by decide +kernel
theorem dX10_toss_6 : decode cX10_toss 6 = .ok (.iload_n 1, 1) := by decide +kernel
theorem dX10_toss_7 : decode cX10_toss 7 = .ok (.invokevirtual 147, 3) := by decide +kernel
theorem dX10_toss_10 : decode cX10_toss 10 = .ok (.ifCond .eq 15, 3) := by decide +kernel
theorem dX10_toss_13 : decode cX10_toss 13 = .ok (.iload_n 2, 1) := by decide +kernel
theorem dX10_toss_14 : decode cX10_toss 14 = .ok (.iload_n 3, 1) := by decide +kernel
theorem dX10_toss_15 : decode cX10_toss 15 = .ok (.iload 4, 2) := by decide +kernel
theorem dX10_toss_17 : decode cX10_toss 17 = .ok (.iload 5, 2) := by decide +kernel
theorem dX10_toss_19 : decode cX10_toss 19 = .ok (.invokestatic 162, 3) := by decide +kernel
theorem dX10_toss_22 : decode cX10_toss 22 = .ok (.ifCond .ne 5, 3) := by decide +kernel
theorem dX10_toss_25 : decode cX10_toss 25 = .ok (.iconst (-1), 1) := by decide +kernel
theorem dX10_toss_26 : decode cX10_toss 26 = .ok (.ireturn, 1) := by decide +kernel
theorem dX10_toss_27 : decode cX10_toss 27 = .ok (.aload_n 0, 1) := by decide +kernel
theorem dX10_toss_28 : decode cX10_toss 28 = .ok (.getfield 28, 3) := by decide +kernel
theorem dX10_toss_31 : decode cX10_toss 31 = .ok (.iconst 3, 1) := by decide +kernel
theorem dX10_toss_32 : decode cX10_toss 32 = .ok (.iload_n 1, 1) := by decide +kernel
theorem dX10_toss_33 : decode cX10_toss 33 = .ok (.imul, 1) := by decide +kernel
theorem dX10_toss_34 : decode cX10_toss 34 = .ok (.iaload, 1) := by decide +kernel
theorem dX10_toss_35 : decode cX10_toss 35 = .ok (.aload_n 0, 1) := by decide +kernel
theorem dX10_toss_36 : decode cX10_toss 36 = .ok (.getfield 54, 3) := by decide +kernel
theorem dX10_toss_39 : decode cX10_toss 39 = .ok (.if_icmp .ne 6, 3) := by decide +kernel
theorem dX10_toss_42 : decode cX10_toss 42 = .ok (.bipush (-2), 2) := by decide +kernel
theorem dX10_toss_44 : decode cX10_toss 44 = .ok (.ireturn, 1) := by decide +kernel
theorem dX10_toss_45 : decode cX10_toss 45 = .ok (.aload_n 0, 1) := by decide +kernel
theorem dX10_toss_46 : decode cX10_toss 46 = .ok (.iload_n 1, 1) := by decide +kernel
theorem dX10_toss_47 : decode cX10_toss 47 = .ok (.invokevirtual 179, 3) := by decide +kernel
theorem dX10_toss_50 : decode cX10_toss 50 = .ok (.aload_n 0, 1) := by decide +kernel
theorem dX10_toss_51 : decode cX10_toss 51 = .ok (.iload_n 1, 1) := by decide +kernel
theorem dX10_toss_52 : decode cX10_toss 52 = .ok (.aload_n 0, 1) := by decide +kernel
theorem dX10_toss_53 : decode cX10_toss 53 = .ok (.getfield 28, 3) := by decide +kernel
theorem dX10_toss_56 : decode cX10_toss 56 = .ok (.iconst 3, 1) := by decide +kernel
theorem dX10_toss_57 : decode cX10_toss 57 = .ok (.iload_n 1, 1) := by decide +kernel
theorem dX10_toss_58 : decode cX10_toss 58 = .ok (.imul, 1) := by decide +kernel
theorem dX10_toss_59 : decode cX10_toss 59 = .ok (.iaload, 1) := by decide +kernel
theorem dX10_toss_60 : decode cX10_toss 60 = .ok (.iload_n 2, 1) := by decide +kernel
theorem dX10_toss_61 : decode cX10_toss 61 = .ok (.iload_n 3, 1) := by decide +kernel
theorem dX10_toss_62 : decode cX10_toss 62 = .ok (.iload 4, 2) := by decide +kernel
theorem dX10_toss_64 : decode cX10_toss 64 = .ok (.iload 5, 2) := by decide +kernel
theorem dX10_toss_66 : decode cX10_toss 66 = .ok (.invokevirtual 167, 3) := by decide +kernel
theorem dX10_toss_69 : decode cX10_toss 69 = .ok (.istore 6, 2) := by decide +kernel
theorem dX10_toss_71 : decode cX10_toss 71 = .ok (.aload_n 0, 1) := by decide +kernel
theorem dX10_toss_72 : decode cX10_toss 72 = .ok (.getfield 28, 3) := by decide +kernel
theorem dX10_toss_75 : decode cX10_toss 75 = .ok (.bipush 9, 2) := by decide +kernel
theorem dX10_toss_77 : decode cX10_toss 77 = .ok (.aload_n 0, 1) := by decide +kernel
theorem dX10_toss_78 : decode cX10_toss 78 = .ok (.getfield 28, 3) := by decide +kernel
theorem dX10_toss_81 : decode cX10_toss 81 = .ok (.bipush 9, 2) := by decide +kernel
theorem dX10_toss_83 : decode cX10_toss 83 = .ok (.iaload, 1) := by decide +kernel
theorem dX10_toss_84 : decode cX10_toss 84 = .ok (.ldc 182, 2) := by decide +kernel
theorem dX10_toss_86 : decode cX10_toss 86 = .ok (.imul, 1) := by decide +kernel
theorem dX10_toss_87 : decode cX10_toss 87 = .ok (.sipush 12345, 3) := by decide +kernel
theorem dX10_toss_90 : decode cX10_toss 90 = .ok (.iadd, 1) := by decide +kernel
theorem dX10_toss_91 : decode cX10_toss 91 = .ok (.iastore, 1) := by decide +kernel
theorem dX10_toss_92 : decode cX10_toss 92 = .ok (.aload_n 0, 1) := by decide +kernel
theorem dX10_toss_93 : decode cX10_toss 93 = .ok (.getfield 28, 3) := by decide +kernel
theorem dX10_toss_96 : decode cX10_toss 96 = .ok (.bipush 9, 2) := by decide +kernel
theorem dX10_toss_98 : decode cX10_toss 98 = .ok (.iaload, 1) := by decide +kernel
theorem dX10_toss_99 : decode cX10_toss 99 = .ok (.bipush 16, 2) := by decide +kernel
theorem dX10_toss_101 : decode cX10_toss 101 = .ok (.ishr, 1) := by decide +kernel
theorem dX10_toss_102 : decode cX10_toss 102 = .ok (.ldc 183, 2) := by decide +kernel
theorem dX10_toss_104 : decode cX10_toss 104 = .ok (.iand, 1) := by decide +kernel
theorem dX10_toss_105 : decode cX10_toss 105 = .ok (.bipush 10, 2) := by decide +kernel
theorem dX10_toss_107 : decode cX10_toss 107 = .ok (.irem, 1) := by decide +kernel
theorem dX10_toss_108 : decode cX10_toss 108 = .ok (.iload 6, 2) := by decide +kernel
theorem dX10_toss_110 : decode cX10_toss 110 = .ok (.if_icmp .ge 7, 3) := by decide +kernel
theorem dX10_toss_113 : decode cX10_toss 113 = .ok (.iconst 1, 1) := by decide +kernel
theorem dX10_toss_114 : decode cX10_toss 114 = .ok (.goto 4, 3) := by decide +kernel
theorem dX10_toss_117 : decode cX10_toss 117 = .ok (.iconst 0, 1) := by decide +kernel
theorem dX10_toss_118 : decode cX10_toss 118 = .ok (.istore 7, 2) := by decide +kernel
theorem dX10_toss_120 : decode cX10_toss 120 = .ok (.iload 7, 2) := by decide +kernel
theorem dX10_toss_122 : decode cX10_toss 122 = .ok (.ifCond .eq 27, 3) := by decide +kernel
theorem dX10_toss_125 : decode cX10_toss 125 = .ok (.aload_n 0, 1) := by decide +kernel
theorem dX10_toss_126 : decode cX10_toss 126 = .ok (.getfield 159, 3) := by decide +kernel
theorem dX10_toss_129 : decode cX10_toss 129 = .ok (.iconst 4, 1) := by decide +kernel
theorem dX10_toss_130 : decode cX10_toss 130 = .ok (.irem, 1) := by decide +kernel
theorem dX10_toss_131 : decode cX10_toss 131 = .ok (.iconst 2, 1) := by decide +kernel
theorem dX10_toss_132 : decode cX10_toss 132 = .ok (.if_icmp .ne 17, 3) := by decide +kernel
theorem dX10_toss_135 : decode cX10_toss 135 = .ok (.iload_n 2, 1) := by decide +kernel
theorem dX10_toss_136 : decode cX10_toss 136 = .ok (.aload_n 0, 1) := by decide +kernel
theorem dX10_toss_137 : decode cX10_toss 137 = .ok (.getfield 25, 3) := by decide +kernel
theorem dX10_toss_140 : decode cX10_toss 140 = .ok (.iconst 4, 1) := by decide +kernel
theorem dX10_toss_141 : decode cX10_toss 141 = .ok (.iaload, 1) := by decide +kernel
theorem dX10_toss_142 : decode cX10_toss 142 = .ok (.if_icmp .lt 7, 3) := by decide +kernel
theorem dX10_toss_145 : decode cX10_toss 145 = .ok (.iconst 1, 1) := by decide +kernel
theorem dX10_toss_146 : decode cX10_toss 146 = .ok (.goto 4, 3) := by decide +kernel
theorem dX10_toss_149 : decode cX10_toss 149 = .ok (.iconst 0, 1) := by decide +kernel
theorem dX10_toss_150 : decode cX10_toss 150 = .ok (.istore 8, 2) := by decide +kernel
theorem dX10_toss_152 : decode cX10_toss 152 = .ok (.aload_n 0, 1) := by decide +kernel
theorem dX10_toss_153 : decode cX10_toss 153 = .ok (.getfield 28, 3) := by decide +kernel
theorem dX10_toss_156 : decode cX10_toss 156 = .ok (.iconst 3, 1) := by decide +kernel
theorem dX10_toss_157 : decode cX10_toss 157 = .ok (.iload_n 1, 1) := by decide +kernel
theorem dX10_toss_158 : decode cX10_toss 158 = .ok (.imul, 1) := by decide +kernel
theorem dX10_toss_159 : decode cX10_toss 159 = .ok (.aload_n 0, 1) := by decide +kernel
theorem dX10_toss_160 : decode cX10_toss 160 = .ok (.getfield 156, 3) := by decide +kernel
theorem dX10_toss_163 : decode cX10_toss 163 = .ok (.iastore, 1) := by decide +kernel
theorem dX10_toss_164 : decode cX10_toss 164 = .ok (.aload_n 0, 1) := by decide +kernel
theorem dX10_toss_165 : decode cX10_toss 165 = .ok (.getfield 28, 3) := by decide +kernel
theorem dX10_toss_168 : decode cX10_toss 168 = .ok (.iconst 3, 1) := by decide +kernel
theorem dX10_toss_169 : decode cX10_toss 169 = .ok (.iload_n 1, 1) := by decide +kernel
theorem dX10_toss_170 : decode cX10_toss 170 = .ok (.imul, 1) := by decide +kernel
theorem dX10_toss_171 : decode cX10_toss 171 = .ok (.iconst 1, 1) := by decide +kernel
theorem dX10_toss_172 : decode cX10_toss 172 = .ok (.iadd, 1) := by decide +kernel
theorem dX10_toss_173 : decode cX10_toss 173 = .ok (.dup2, 1) := by decide +kernel
theorem dX10_toss_174 : decode cX10_toss 174 = .ok (.iaload, 1) := by decide +kernel
theorem dX10_toss_175 : decode cX10_toss 175 = .ok (.iconst 2, 1) := by decide +kernel
theorem dX10_toss_176 : decode cX10_toss 176 = .ok (.iload_n 2, 1) := by decide +kernel
theorem dX10_toss_177 : decode cX10_toss 177 = .ok (.imul, 1) := by decide +kernel
theorem dX10_toss_178 : decode cX10_toss 178 = .ok (.iload 7, 2) := by decide +kernel
theorem dX10_toss_180 : decode cX10_toss 180 = .ok (.ifCond .eq 7, 3) := by decide +kernel
theorem dX10_toss_183 : decode cX10_toss 183 = .ok (.iconst 0, 1) := by decide +kernel
theorem dX10_toss_184 : decode cX10_toss 184 = .ok (.goto 10, 3) := by decide +kernel
theorem dX10_toss_187 : decode cX10_toss 187 = .ok (.aload_n 0, 1) := by decide +kernel
theorem dX10_toss_188 : decode cX10_toss 188 = .ok (.getfield 25, 3) := by decide +kernel
theorem dX10_toss_191 : decode cX10_toss 191 = .ok (.bipush 6, 2) := by decide +kernel
theorem dX10_toss_193 : decode cX10_toss 193 = .ok (.iaload, 1) := by decide +kernel
theorem dX10_toss_194 : decode cX10_toss 194 = .ok (.iadd, 1) := by decide +kernel
theorem dX10_toss_195 : decode cX10_toss 195 = .ok (.iadd, 1) := by decide +kernel
theorem dX10_toss_196 : decode cX10_toss 196 = .ok (.iastore, 1) := by decide +kernel
theorem dX10_toss_197 : decode cX10_toss 197 = .ok (.aload_n 0, 1) := by decide +kernel
theorem dX10_toss_198 : decode cX10_toss 198 = .ok (.getfield 28, 3) := by decide +kernel
theorem dX10_toss_201 : decode cX10_toss 201 = .ok (.iconst 3, 1) := by decide +kernel
theorem dX10_toss_202 : decode cX10_toss 202 = .ok (.iload_n 1, 1) := by decide +kernel
theorem dX10_toss_203 : decode cX10_toss 203 = .ok (.imul, 1) := by decide +kernel
theorem dX10_toss_204 : decode cX10_toss 204 = .ok (.iconst 2, 1) := by decide +kernel
theorem dX10_toss_205 : decode cX10_toss 205 = .ok (.iadd, 1) := by decide +kernel
theorem dX10_toss_206 : decode cX10_toss 206 = .ok (.dup2, 1) := by decide +kernel
theorem dX10_toss_207 : decode cX10_toss 207 = .ok (.iaload, 1) := by decide +kernel
theorem dX10_toss_208 : decode cX10_toss 208 = .ok (.iload 8, 2) := by decide +kernel
theorem dX10_toss_210 : decode cX10_toss 210 = .ok (.ifCond .eq 7, 3) := by decide +kernel
theorem dX10_toss_213 : decode cX10_toss 213 = .ok (.iconst 1, 1) := by decide +kernel
theorem dX10_toss_214 : decode cX10_toss 214 = .ok (.goto 4, 3) := by decide +kernel
theorem dX10_toss_217 : decode cX10_toss 217 = .ok (.iconst 0, 1) := by decide +kernel
theorem dX10_toss_218 : decode cX10_toss 218 = .ok (.iadd, 1) := by decide +kernel
theorem dX10_toss_219 : decode cX10_toss 219 = .ok (.iastore, 1) := by decide +kernel
theorem dX10_toss_220 : decode cX10_toss 220 = .ok (.iload 8, 2) := by decide +kernel
theorem dX10_toss_222 : decode cX10_toss 222 = .ok (.ifCond .eq 7, 3) := by decide +kernel
theorem dX10_toss_225 : decode cX10_toss 225 = .ok (.iconst 2, 1) := by decide +kernel
theorem dX10_toss_226 : decode cX10_toss 226 = .ok (.goto 13, 3) := by decide +kernel
theorem dX10_toss_229 : decode cX10_toss 229 = .ok (.iload 7, 2) := by decide +kernel
theorem dX10_toss_231 : decode cX10_toss 231 = .ok (.ifCond .eq 7, 3) := by decide +kernel
theorem dX10_toss_234 : decode cX10_toss 234 = .ok (.iconst 1, 1) := by decide +kernel
theorem dX10_toss_235 : decode cX10_toss 235 = .ok (.goto 4, 3) := by decide +kernel
theorem dX10_toss_238 : decode cX10_toss 238 = .ok (.iconst 0, 1) := by decide +kernel
theorem dX10_toss_239 : decode cX10_toss 239 = .ok (.ireturn, 1) := by decide +kernel
theorem dX10_undo_0 : decode cX10_undo 0 = .ok (.aload_n 0, 1) := by decide +kernel
theorem dX10_undo_1 : decode cX10_undo 1 = .ok (.iconst 0, 1) := by decide +kernel
theorem dX10_undo_2 : decode cX10_undo 2 = .ok (.putfield 58, 3) := by decide +kernel
theorem dX10_undo_5 : decode cX10_undo 5 = .ok (.aload_n 0, 1) := by decide +kernel
theorem dX10_undo_6 : decode cX10_undo 6 = .ok (.getfield 138, 3) := by decide +kernel
theorem dX10_undo_9 : decode cX10_undo 9 = .ok (.ifCond .ne 6, 3) := by decide +kernel
theorem dX10_undo_12 : decode cX10_undo 12 = .ok (.bipush (-2), 2) := by decide +kernel
theorem dX10_undo_14 : decode cX10_undo 14 = .ok (.ireturn, 1) := by decide +kernel
theorem dX10_undo_15 : decode cX10_undo 15 = .ok (.aload_n 0, 1) := by decide +kernel
theorem dX10_undo_16 : decode cX10_undo 16 = .ok (.dup, 1) := by decide +kernel
theorem dX10_undo_17 : decode cX10_undo 17 = .ok (.getfield 138, 3) := by decide +kernel
theorem dX10_undo_20 : decode cX10_undo 20 = .ok (.iconst 1, 1) := by decide +kernel
theorem dX10_undo_21 : decode cX10_undo 21 = .ok (.isub, 1) := by decide +kernel
theorem dX10_undo_22 : decode cX10_undo 22 = .ok (.putfield 138, 3) := by decide +kernel
theorem dX10_undo_25 : decode cX10_undo 25 = .ok (.iconst 4, 1) := by decide +kernel
theorem dX10_undo_26 : decode cX10_undo 26 = .ok (.aload_n 0, 1) := by decide +kernel
theorem dX10_undo_27 : decode cX10_undo 27 = .ok (.getfield 138, 3) := by decide +kernel
theorem dX10_undo_30 : decode cX10_undo 30 = .ok (.imul, 1) := by decide +kernel
theorem dX10_undo_31 : decode cX10_undo 31 = .ok (.istore_n 1, 1) := by decide +kernel
theorem dX10_undo_32 : decode cX10_undo 32 = .ok (.iconst 0, 1) := by decide +kernel
theorem dX10_undo_33 : decode cX10_undo 33 = .ok (.istore_n 2, 1) := by decide +kernel
theorem dX10_undo_34 : decode cX10_undo 34 = .ok (.iload_n 2, 1) := by decide +kernel
theorem dX10_undo_35 : decode cX10_undo 35 = .ok (.iconst 3, 1) := by decide +kernel
theorem dX10_undo_36 : decode cX10_undo 36 = .ok (.if_icmp .ge 34, 3) := by decide +kernel
theorem dX10_undo_39 : decode cX10_undo 39 = .ok (.aload_n 0, 1) := by decide +kernel
theorem dX10_undo_40 : decode cX10_undo 40 = .ok (.getfield 28, 3) := by decide +kernel
theorem dX10_undo_43 : decode cX10_undo 43 = .ok (.iconst 3, 1) := by decide +kernel
theorem dX10_undo_44 : decode cX10_undo 44 = .ok (.aload_n 0, 1) := by decide +kernel
theorem dX10_undo_45 : decode cX10_undo 45 = .ok (.getfield 38, 3) := by decide +kernel
theorem dX10_undo_48 : decode cX10_undo 48 = .ok (.iload_n 1, 1) := by decide +kernel
theorem dX10_undo_49 : decode cX10_undo 49 = .ok (.iaload, 1) := by decide +kernel
theorem dX10_undo_50 : decode cX10_undo 50 = .ok (.imul, 1) := by decide +kernel
theorem dX10_undo_51 : decode cX10_undo 51 = .ok (.iload_n 2, 1) := by decide +kernel
theorem dX10_undo_52 : decode cX10_undo 52 = .ok (.iadd, 1) := by decide +kernel
theorem dX10_undo_53 : decode cX10_undo 53 = .ok (.aload_n 0, 1) := by decide +kernel
theorem dX10_undo_54 : decode cX10_undo 54 = .ok (.getfield 38, 3) := by decide +kernel
theorem dX10_undo_57 : decode cX10_undo 57 = .ok (.iload_n 1, 1) := by decide +kernel
theorem dX10_undo_58 : decode cX10_undo 58 = .ok (.iconst 1, 1) := by decide +kernel
theorem dX10_undo_59 : decode cX10_undo 59 = .ok (.iadd, 1) := by decide +kernel
theorem dX10_undo_60 : decode cX10_undo 60 = .ok (.iload_n 2, 1) := by decide +kernel
theorem dX10_undo_61 : decode cX10_undo 61 = .ok (.iadd, 1) := by decide +kernel
theorem dX10_undo_62 : decode cX10_undo 62 = .ok (.iaload, 1) := by decide +kernel
theorem dX10_undo_63 : decode cX10_undo 63 = .ok (.iastore, 1) := by decide +kernel
theorem dX10_undo_64 : decode cX10_undo 64 = .ok (.iinc 2 1, 3) := by decide +kernel
theorem dX10_undo_67 : decode cX10_undo 67 = .ok (.goto (-33), 3) := by decide +kernel
theorem dX10_undo_70 : decode cX10_undo 70 = .ok (.aload_n 0, 1) := by decide +kernel
theorem dX10_undo_71 : decode cX10_undo 71 = .ok (.getfield 138, 3) := by decide +kernel
theorem dX10_undo_74 : decode cX10_undo 74 = .ok (.ireturn, 1) := by decide +kernel
theorem dX10_lot_0 : decode cX10_lot 0 = .ok (.aload_n 0, 1) := by decide +kernel
theorem dX10_lot_1 : decode cX10_lot 1 = .ok (.iconst 0, 1) := by decide +kernel
theorem dX10_lot_2 : decode cX10_lot 2 = .ok (.putfield 58, 3) := by decide +kernel
theorem dX10_lot_5 : decode cX10_lot 5 = .ok (.aload_n 0, 1) := by decide +kernel
theorem dX10_lot_6 : decode cX10_lot 6 = .ok (.getfield 28, 3) := by decide +kernel
theorem dX10_lot_9 : decode cX10_lot 9 = .ok (.bipush 9, 2) := by decide +kernel
theorem dX10_lot_11 : decode cX10_lot 11 = .ok (.iaload, 1) := by decide +kernel
theorem dX10_lot_12 : decode cX10_lot 12 = .ok (.istore_n 2, 1) := by decide +kernel
theorem dX10_lot_13 : decode cX10_lot 13 = .ok (.aload_n 0, 1) := by decide +kernel
theorem dX10_lot_14 : decode cX10_lot 14 = .ok (.getfield 28, 3) := by decide +kernel
theorem dX10_lot_17 : decode cX10_lot 17 = .ok (.bipush 9, 2) := by decide +kernel
theorem dX10_lot_19 : decode cX10_lot 19 = .ok (.iload_n 1, 1) := by decide +kernel
theorem dX10_lot_20 : decode cX10_lot 20 = .ok (.iastore, 1) := by decide +kernel
theorem dX10_lot_21 : decode cX10_lot 21 = .ok (.iload_n 2, 1) := by decide +kernel
theorem dX10_lot_22 : decode cX10_lot 22 = .ok (.ireturn, 1) := by decide +kernel
set_option maxRecDepth 20000 in
theorem ggX10_home_X10_isHome : GoodIn wsX10_home wsX10_isHome := goodIn_r _ [8, 3, 9, 10, 11, 12, 13, 14, 15, 16, 17, 18, 19, 20, 21, 22, 23, 24, 25, 26, 27, 28, 29, 30, 31, 32, 33, 34, 35, 36, 37, 38, 39, 40, 41] (by decide +kernel) (by decide +kernel)
set_option maxRecDepth 20000 in
theorem gX10_home_X10_isHome : GoodIn wsX10_home (wsV RX10 150 RX10 yX10_isHome wsX10_isHome) := goodIn_app (goodIn_of _ (by decide +kernel)) ggX10_home_X10_isHome
theorem dX10_home_0 : decode cX10_home 0 = .ok (.aload_n 0, 1) := by decide +kernel
theorem dX10_home_1 : decode cX10_home 1 = .ok (.iconst 0, 1) := by decide +kernel
theorem dX10_home_2 : decode cX10_home 2 = .ok (.putfield 58, 3) := by decide +kernel
theorem dX10_home_5 : decode cX10_home 5 = .ok (.iconst 0, 1) := by decide +kernel
theorem dX10_home_6 : decode cX10_home 6 = .ok (.istore_n 2, 1) := by decide +kernel
theorem dX10_home_7 : decode cX10_home 7 = .ok (.bipush (-9), 2) := by decide +kernel
theorem dX10_home_9 : decode cX10_home 9 = .ok (.istore_n 3, 1) := by decide +kernel
theorem dX10_home_10 : decode cX10_home 10 = .ok (.iconst 0, 1) := by decide +kernel
theorem dX10_home_11 : decode cX10_home 11 = .ok (.istore 4, 2) := by decide +kernel
theorem dX10_home_13 : decode cX10_home 13 = .ok (.iload 4, 2) := by decide +kernel
theorem dX10_home_15 : decode cX10_home 15 = .ok (.aload_n 0, 1) := by decide +kernel
theorem dX10_home_16 : decode cX10_home 16 = .ok (.getfield 135, 3) := by decide +kernel
theorem dX10_home_19 : decode cX10_home 19 = .ok (.if_icmp .ge 62, 3) := by decide +kernel
theorem dX10_home_22 : decode cX10_home 22 = .ok (.aload_n 0, 1) := by decide +kernel
theorem dX10_home_23 : decode cX10_home 23 = .ok (.iload 4, 2) := by decide +kernel
theorem dX10_home_25 : decode cX10_home 25 = .ok (.invokevirtual 150, 3) := by decide +kernel
theorem dX10_home_28 : decode cX10_home 28 = .ok (.ifCond .eq 47, 3) := by decide +kernel
theorem dX10_home_31 : decode cX10_home 31 = .ok (.iload_n 2, 1) := by decide +kernel
theorem dX10_home_32 : decode cX10_home 32 = .ok (.iconst 1, 1) := by decide +kernel
theorem dX10_home_33 : decode cX10_home 33 = .ok (.iload 4, 2) := by decide +kernel
theorem dX10_home_35 : decode cX10_home 35 = .ok (.ishl, 1) := by decide +kernel
theorem dX10_home_36 : decode cX10_home 36 = .ok (.ior, 1) := by decide +kernel
theorem dX10_home_37 : decode cX10_home 37 = .ok (.istore_n 2, 1) := by decide +kernel
theorem dX10_home_38 : decode cX10_home 38 = .ok (.iload_n 3, 1) := by decide +kernel
theorem dX10_home_39 : decode cX10_home 39 = .ok (.bipush (-9), 2) := by decide +kernel
theorem dX10_home_41 : decode cX10_home 41 = .ok (.if_icmp .eq 27, 3) := by decide +kernel
theorem dX10_home_44 : decode cX10_home 44 = .ok (.aload_n 0, 1) := by decide +kernel
theorem dX10_home_45 : decode cX10_home 45 = .ok (.getfield 28, 3) := by decide +kernel
theorem dX10_home_48 : decode cX10_home 48 = .ok (.iconst 3, 1) := by decide +kernel
theorem dX10_home_49 : decode cX10_home 49 = .ok (.iload 4, 2) := by decide +kernel
theorem dX10_home_51 : decode cX10_home 51 = .ok (.imul, 1) := by decide +kernel
theorem dX10_home_52 : decode cX10_home 52 = .ok (.iconst 1, 1) := by decide +kernel
theorem dX10_home_53 : decode cX10_home 53 = .ok (.iadd, 1) := by decide +kernel
theorem dX10_home_54 : decode cX10_home 54 = .ok (.iaload, 1) := by decide +kernel
theorem dX10_home_55 : decode cX10_home 55 = .ok (.aload_n 0, 1) := by decide +kernel
theorem dX10_home_56 : decode cX10_home 56 = .ok (.getfield 28, 3) := by decide +kernel
theorem dX10_home_59 : decode cX10_home 59 = .ok (.iconst 3, 1) := by decide +kernel
theorem dX10_home_60 : decode cX10_home 60 = .ok (.iload_n 3, 1) := by decide +kernel
theorem dX10_home_61 : decode cX10_home 61 = .ok (.imul, 1) := by decide +kernel
theorem dX10_home_62 : decode cX10_home 62 = .ok (.iconst 1, 1) := by decide +kernel
theorem dX10_home_63 : decode cX10_home 63 = .ok (.iadd, 1) := by decide +kernel
theorem dX10_home_64 : decode cX10_home 64 = .ok (.iaload, 1) := by decide +kernel
theorem dX10_home_65 : decode cX10_home 65 = .ok (.if_icmp .ge 8, 3) := by decide +kernel
theorem dX10_home_68 : decode cX10_home 68 = .ok (.iload 4, 2) := by decide +kernel
theorem dX10_home_70 : decode cX10_home 70 = .ok (.goto 4, 3) := by decide +kernel
theorem dX10_home_73 : decode cX10_home 73 = .ok (.iload_n 3, 1) := by decide +kernel
theorem dX10_home_74 : decode cX10_home 74 = .ok (.istore_n 3, 1) := by decide +kernel
theorem dX10_home_75 : decode cX10_home 75 = .ok (.iinc 4 1, 3) := by decide +kernel
theorem dX10_home_78 : decode cX10_home 78 = .ok (.goto (-65), 3) := by decide +kernel
theorem dX10_home_81 : decode cX10_home 81 = .ok (.iload_n 1, 1) := by decide +kernel
theorem dX10_home_82 : decode cX10_home 82 = .ok (.ifCond .ne 7, 3) := by decide +kernel
theorem dX10_home_85 : decode cX10_home 85 = .ok (.iload_n 2, 1) := by decide +kernel
theorem dX10_home_86 : decode cX10_home 86 = .ok (.goto 13, 3) := by decide +kernel
theorem dX10_home_89 : decode cX10_home 89 = .ok (.iload_n 1, 1) := by decide +kernel
theorem dX10_home_90 : decode cX10_home 90 = .ok (.iconst 1, 1) := by decide +kernel
theorem dX10_home_91 : decode cX10_home 91 = .ok (.if_icmp .ne 7, 3) := by decide +kernel
theorem dX10_home_94 : decode cX10_home 94 = .ok (.iload_n 3, 1) := by decide +kernel
theorem dX10_home_95 : decode cX10_home 95 = .ok (.goto 4, 3) := by decide +kernel
theorem dX10_home_98 : decode cX10_home 98 = .ok (.iconst (-1), 1) := by decide +kernel
theorem dX10_home_99 : decode cX10_home 99 = .ok (.ireturn, 1) := by decide +kernel
theorem dX10_at_0 : decode cX10_at 0 = .ok (.bipush 125, 2) := by decide +kernel
theorem dX10_at_2 : decode cX10_at 2 = .ok (.iload_n 0, 1) := by decide +kernel
theorem dX10_at_3 : decode cX10_at 3 = .ok (.imul, 1) := by decide +kernel
theorem dX10_at_4 : decode cX10_at 4 = .ok (.iconst 5, 1) := by decide +kernel
theorem dX10_at_5 : decode cX10_at 5 = .ok (.iload_n 1, 1) := by decide +kernel
theorem dX10_at_6 : decode cX10_at 6 = .ok (.imul, 1) := by decide +kernel
theorem dX10_at_7 : decode cX10_at 7 = .ok (.iadd, 1) := by decide +kernel
theorem dX10_at_8 : decode cX10_at 8 = .ok (.iload_n 2, 1) := by decide +kernel
theorem dX10_at_9 : decode cX10_at 9 = .ok (.iadd, 1) := by decide +kernel
theorem dX10_at_10 : decode cX10_at 10 = .ok (.ireturn, 1) := by decide +kernel
theorem dX10_greater_0 : decode cX10_greater 0 = .ok (.lload_n 1, 1) := by decide +kernel
theorem dX10_greater_1 : decode cX10_greater 1 = .ok (.lload_n 3, 1) := by decide +kernel
theorem dX10_greater_2 : decode cX10_greater 2 = .ok (.lcmp, 1) := by decide +kernel
theorem dX10_greater_3 : decode cX10_greater 3 = .ok (.ifCond .le 7, 3) := by decide +kernel
theorem dX10_greater_6 : decode cX10_greater 6 = .ok (.lload_n 1, 1) := by decide +kernel
theorem dX10_greater_7 : decode cX10_greater 7 = .ok (.goto 4, 3) := by decide +kernel
theorem dX10_greater_10 : decode cX10_greater 10 = .ok (.lload_n 3, 1) := by decide +kernel
theorem dX10_greater_11 : decode cX10_greater 11 = .ok (.lreturn, 1) := by decide +kernel
set_option maxRecDepth 20000 in
theorem ggX10_byToss_X10_sureOf : GoodIn wsX10_byToss wsX10_sureOf := goodIn_r _ [9, 10, 11, 12, 8, 13, 14, 15, 16, 17, 3, 18, 19, 20, 24, 25, 26, 27, 28, 29, 30, 31, 32, 33, 34, 35, 36, 37, 38, 39, 40, 41, 42, 43, 44, 45, 46, 47, 48, 49, 50, 51, 52, 53, 54] (by decide +kernel) (by decide +kernel)
set_option maxRecDepth 20000 in
theorem gX10_byToss_X10_sureOf : GoodIn wsX10_byToss (wsV RX10 175 RX10 yX10_sureOf wsX10_sureOf) := goodIn_app (goodIn_of _ (by decide +kernel)) ggX10_byToss_X10_sureOf
set_option maxRecDepth 20000 in
theorem ggX10_byToss_X10_at : GoodIn wsX10_byToss wsX10_at := goodIn_r _ [23] (by decide +kernel) (by decide +kernel)
set_option maxRecDepth 20000 in
theorem gX10_byToss_X10_at : GoodIn wsX10_byToss (va_wsS RX10 184 yX10_at wsX10_at) := goodIn_app (goodIn_of _ (by decide +kernel)) ggX10_byToss_X10_at
theorem dX10_byToss_0 : decode cX10_byToss 0 = .ok (.aload_n 0, 1) := by decide +kernel
theorem dX10_byToss_1 : decode cX10_byToss 1 = .ok (.iload_n 1, 1) := by decide +kernel
theorem dX10_byToss_2 : decode cX10_byToss 2 = .ok (.iload_n 2, 1) := by decide +kernel
theorem dX10_byToss_3 : decode cX10_byToss 3 = .ok (.iload 6, 2) := by decide +kernel
theorem dX10_byToss_5 : decode cX10_byToss 5 = .ok (.iload 7, 2) := by decide +kernel
theorem dX10_byToss_7 : decode cX10_byToss 7 = .ok (.invokevirtual 175, 3) := by decide +kernel
theorem dX10_byToss_10 : decode cX10_byToss 10 = .ok (.istore 8, 2) := by decide +kernel
theorem dX10_byToss_12 : decode cX10_byToss 12 = .ok (.iload_n 3, 1) := by decide +kernel
theorem dX10_byToss_13 : decode cX10_byToss 13 = .ok (.iload 7, 2) := by decide +kernel
theorem dX10_byToss_15 : decode cX10_byToss 15 = .ok (.bipush 100, 2) := by decide +kernel
theorem dX10_byToss_17 : decode cX10_byToss 17 = .ok (.idiv, 1) := by decide +kernel
theorem dX10_byToss_18 : decode cX10_byToss 18 = .ok (.iconst 2, 1) := by decide +kernel
theorem dX10_byToss_19 : decode cX10_byToss 19 = .ok (.imul, 1) := by decide +kernel
theorem dX10_byToss_20 : decode cX10_byToss 20 = .ok (.iadd, 1) := by decide +kernel
theorem dX10_byToss_21 : decode cX10_byToss 21 = .ok (.istore 9, 2) := by decide +kernel
theorem dX10_byToss_23 : decode cX10_byToss 23 = .ok (.iload 9, 2) := by decide +kernel
theorem dX10_byToss_25 : decode cX10_byToss 25 = .ok (.aload_n 0, 1) := by decide +kernel
theorem dX10_byToss_26 : decode cX10_byToss 26 = .ok (.getfield 25, 3) := by decide +kernel
theorem dX10_byToss_29 : decode cX10_byToss 29 = .ok (.bipush 6, 2) := by decide +kernel
theorem dX10_byToss_31 : decode cX10_byToss 31 = .ok (.iaload, 1) := by decide +kernel
theorem dX10_byToss_32 : decode cX10_byToss 32 = .ok (.iadd, 1) := by decide +kernel
theorem dX10_byToss_33 : decode cX10_byToss 33 = .ok (.istore 10, 2) := by decide +kernel
theorem dX10_byToss_35 : decode cX10_byToss 35 = .ok (.iload 4, 2) := by decide +kernel
theorem dX10_byToss_37 : decode cX10_byToss 37 = .ok (.aload_n 0, 1) := by decide +kernel
theorem dX10_byToss_38 : decode cX10_byToss 38 = .ok (.getfield 25, 3) := by decide +kernel
theorem dX10_byToss_41 : decode cX10_byToss 41 = .ok (.iconst 5, 1) := by decide +kernel
theorem dX10_byToss_42 : decode cX10_byToss 42 = .ok (.iaload, 1) := by decide +kernel
theorem dX10_byToss_43 : decode cX10_byToss 43 = .ok (.if_icmp .ge 10, 3) := by decide +kernel
theorem dX10_byToss_46 : decode cX10_byToss 46 = .ok (.iload 4, 2) := by decide +kernel
theorem dX10_byToss_48 : decode cX10_byToss 48 = .ok (.iconst 1, 1) := by decide +kernel
theorem dX10_byToss_49 : decode cX10_byToss 49 = .ok (.iadd, 1) := by decide +kernel
theorem dX10_byToss_50 : decode cX10_byToss 50 = .ok (.goto 5, 3) := by decide +kernel
theorem dX10_byToss_53 : decode cX10_byToss 53 = .ok (.iload 4, 2) := by decide +kernel
theorem dX10_byToss_55 : decode cX10_byToss 55 = .ok (.istore 11, 2) := by decide +kernel
theorem dX10_byToss_57 : decode cX10_byToss 57 = .ok (.iload 9, 2) := by decide +kernel
theorem dX10_byToss_59 : decode cX10_byToss 59 = .ok (.iload 5, 2) := by decide +kernel
theorem dX10_byToss_61 : decode cX10_byToss 61 = .ok (.if_icmp .le 7, 3) := by decide +kernel
theorem dX10_byToss_64 : decode cX10_byToss 64 = .ok (.lconst 0, 1) := by decide +kernel
theorem dX10_byToss_65 : decode cX10_byToss 65 = .ok (.goto 19, 3) := by decide +kernel
theorem dX10_byToss_68 : decode cX10_byToss 68 = .ok (.aload_n 0, 1) := by decide +kernel
theorem dX10_byToss_69 : decode cX10_byToss 69 = .ok (.getfield 44, 3) := by decide +kernel
theorem dX10_byToss_72 : decode cX10_byToss 72 = .ok (.aload_n 0, 1) := by decide +kernel
theorem dX10_byToss_73 : decode cX10_byToss 73 = .ok (.getfield 156, 3) := by decide +kernel
theorem dX10_byToss_76 : decode cX10_byToss 76 = .ok (.iload 9, 2) := by decide +kernel
theorem dX10_byToss_78 : decode cX10_byToss 78 = .ok (.iload 11, 2) := by decide +kernel
theorem dX10_byToss_80 : decode cX10_byToss 80 = .ok (.invokestatic 184, 3) := by decide +kernel
theorem dX10_byToss_83 : decode cX10_byToss 83 = .ok (.laload, 1) := by decide +kernel
theorem dX10_byToss_84 : decode cX10_byToss 84 = .ok (.lstore 12, 2) := by decide +kernel
theorem dX10_byToss_86 : decode cX10_byToss 86 = .ok (.iload 10, 2) := by decide +kernel
theorem dX10_byToss_88 : decode cX10_byToss 88 = .ok (.iload 5, 2) := by decide +kernel
theorem dX10_byToss_90 : decode cX10_byToss 90 = .ok (.if_icmp .le 7, 3) := by decide +kernel
theorem dX10_byToss_93 : decode cX10_byToss 93 = .ok (.lconst 0, 1) := by decide +kernel
theorem dX10_byToss_94 : decode cX10_byToss 94 = .ok (.goto 19, 3) := by decide +kernel
theorem dX10_byToss_97 : decode cX10_byToss 97 = .ok (.aload_n 0, 1) := by decide +kernel
theorem dX10_byToss_98 : decode cX10_byToss 98 = .ok (.getfield 44, 3) := by decide +kernel
theorem dX10_byToss_101 : decode cX10_byToss 101 = .ok (.aload_n 0, 1) := by decide +kernel
theorem dX10_byToss_102 : decode cX10_byToss 102 = .ok (.getfield 156, 3) := by decide +kernel
theorem dX10_byToss_105 : decode cX10_byToss 105 = .ok (.iload 10, 2) := by decide +kernel
theorem dX10_byToss_107 : decode cX10_byToss 107 = .ok (.iload 4, 2) := by decide +kernel
theorem dX10_byToss_109 : decode cX10_byToss 109 = .ok (.invokestatic 184, 3) := by decide +kernel
theorem dX10_byToss_112 : decode cX10_byToss 112 = .ok (.laload, 1) := by decide +kernel
theorem dX10_byToss_113 : decode cX10_byToss 113 = .ok (.lstore 14, 2) := by decide +kernel
theorem dX10_byToss_115 : decode cX10_byToss 115 = .ok (.iload 8, 2) := by decide +kernel
theorem dX10_byToss_117 : decode cX10_byToss 117 = .ok (.i2l, 1) := by decide +kernel
theorem dX10_byToss_118 : decode cX10_byToss 118 = .ok (.lload 12, 2) := by decide +kernel
theorem dX10_byToss_120 : decode cX10_byToss 120 = .ok (.lmul, 1) := by decide +kernel
theorem dX10_byToss_121 : decode cX10_byToss 121 = .ok (.bipush 10, 2) := by decide +kernel
theorem dX10_byToss_123 : decode cX10_byToss 123 = .ok (.iload 8, 2) := by decide +kernel
theorem dX10_byToss_125 : decode cX10_byToss 125 = .ok (.isub, 1) := by decide +kernel
theorem dX10_byToss_126 : decode cX10_byToss 126 = .ok (.i2l, 1) := by decide +kernel
theorem dX10_byToss_127 : decode cX10_byToss 127 = .ok (.lload 14, 2) := by decide +kernel
theorem dX10_byToss_129 : decode cX10_byToss 129 = .ok (.lmul, 1) := by decide +kernel
theorem dX10_byToss_130 : decode cX10_byToss 130 = .ok (.ladd, 1) := by decide +kernel
theorem dX10_byToss_131 : decode cX10_byToss 131 = .ok (.ldc2_w 187, 3) := by decide +kernel
theorem dX10_byToss_134 : decode cX10_byToss 134 = .ok (.ldiv, 1) := by decide +kernel
theorem dX10_byToss_135 : decode cX10_byToss 135 = .ok (.lreturn, 1) := by decide +kernel
set_option maxRecDepth 20000 in
theorem ggX10_spreads_X10_bestOf : GoodIn wsX10_spreads wsX10_bestOf := goodIn_r _ [12, 4, 13, 14, 15, 16, 11, 17, 18, 19, 7, 1, 20, 21, 22, 39, 40, 41, 42, 43, 44, 45, 46, 47, 48, 49, 50, 51, 52, 53, 54, 55, 56, 57, 58, 59, 60, 61, 62, 63, 64, 65, 66, 67, 68, 69] (by decide +kernel) (by decide +kernel)
set_option maxRecDepth 20000 in
theorem gX10_spreads_X10_bestOf : GoodIn wsX10_spreads (wsV RX10 171 RX10 yX10_bestOf wsX10_bestOf) := goodIn_app (goodIn_of _ (by decide +kernel)) ggX10_spreads_X10_bestOf
set_option maxRecDepth 20000 in
theorem ggX10_spreads_X10_at : GoodIn wsX10_spreads wsX10_at := goodIn_r _ [25] (by decide +kernel) (by decide +kernel)
set_option maxRecDepth 20000 in
theorem gX10_spreads_X10_at : GoodIn wsX10_spreads (va_wsS RX10 184 yX10_at wsX10_at) := goodIn_app (goodIn_of _ (by decide +kernel)) ggX10_spreads_X10_at
set_option maxRecDepth 20000 in
theorem ggX10_spreads_X10_byToss : GoodIn wsX10_spreads wsX10_byToss := goodIn_r _ [29, 4, 5, 20, 30, 31, 32, 33, 11, 34, 14, 15, 16, 17, 18, 19, 7, 1, 13, 21, 22, 23, 24, 25, 39, 40, 41, 42, 43, 44, 45, 46, 47, 48, 49, 50, 51, 52, 53, 54, 55, 56, 57, 58, 59, 60, 61, 62, 63, 64, 65, 66, 67, 68, 69] (by decide +kernel) (by decide +kernel)
set_option maxRecDepth 20000 in
theorem gX10_spreads_X10_byToss : GoodIn wsX10_spreads (wsV RX10 191 RX10 yX10_byToss wsX10_byToss) := goodIn_app (goodIn_of _ (by decide +kernel)) ggX10_spreads_X10_byToss
set_option maxRecDepth 20000 in
theorem ggX10_spreads_X10_greater : GoodIn wsX10_spreads wsX10_greater := goodIn_r _ [38] (by decide +kernel) (by decide +kernel)
set_option maxRecDepth 20000 in
theorem gX10_spreads_X10_greater : GoodIn wsX10_spreads (wsV RX10 195 RX10 yX10_greater wsX10_greater) := goodIn_app (goodIn_of _ (by decide +kernel)) ggX10_spreads_X10_greater
theorem dX10_spreads_0 : decode cX10_spreads 0 = .ok (.iconst 0, 1) := by decide +kernel
theorem dX10_spreads_1 : decode cX10_spreads 1 = .ok (.istore_n 3, 1) := by decide +kernel
theorem dX10_spreads_2 : decode cX10_spreads 2 = .ok (.iload_n 3, 1) := by decide +kernel
theorem dX10_spreads_3 : decode cX10_spreads 3 = .ok (.aload_n 0, 1) := by decide +kernel
theorem dX10_spreads_4 : decode cX10_spreads 4 = .ok (.getfield 54, 3) := by decide +kernel
theorem dX10_spreads_7 : decode cX10_spreads 7 = .ok (.if_icmp .ge 35, 3) := by decide +kernel
theorem dX10_spreads_10 : decode cX10_spreads 10 = .ok (.aload_n 0, 1) := by decide +kernel
theorem dX10_spreads_11 : decode cX10_spreads 11 = .ok (.getfield 48, 3) := by decide +kernel
theorem dX10_spreads_14 : decode cX10_spreads 14 = .ok (.iload_n 3, 1) := by decide +kernel
theorem dX10_spreads_15 : decode cX10_spreads 15 = .ok (.aload_n 0, 1) := by decide +kernel
theorem dX10_spreads_16 : decode cX10_spreads 16 = .ok (.iload_n 1, 1) := by decide +kernel
theorem dX10_spreads_17 : decode cX10_spreads 17 = .ok (.iload_n 3, 1) := by decide +kernel
theorem dX10_spreads_18 : decode cX10_spreads 18 = .ok (.iconst 0, 1) := by decide +kernel
theorem dX10_spreads_19 : decode cX10_spreads 19 = .ok (.invokevirtual 171, 3) := by decide +kernel
theorem dX10_spreads_22 : decode cX10_spreads 22 = .ok (.iastore, 1) := by decide +kernel
theorem dX10_spreads_23 : decode cX10_spreads 23 = .ok (.aload_n 0, 1) := by decide +kernel
theorem dX10_spreads_24 : decode cX10_spreads 24 = .ok (.getfield 51, 3) := by decide +kernel
theorem dX10_spreads_27 : decode cX10_spreads 27 = .ok (.iload_n 3, 1) := by decide +kernel
theorem dX10_spreads_28 : decode cX10_spreads 28 = .ok (.aload_n 0, 1) := by decide +kernel
theorem dX10_spreads_29 : decode cX10_spreads 29 = .ok (.iload_n 1, 1) := by decide +kernel
theorem dX10_spreads_30 : decode cX10_spreads 30 = .ok (.iload_n 3, 1) := by decide +kernel
theorem dX10_spreads_31 : decode cX10_spreads 31 = .ok (.iconst 1, 1) := by decide +kernel
theorem dX10_spreads_32 : decode cX10_spreads 32 = .ok (.invokevirtual 171, 3) := by decide +kernel
theorem dX10_spreads_35 : decode cX10_spreads 35 = .ok (.iastore, 1) := by decide +kernel
theorem dX10_spreads_36 : decode cX10_spreads 36 = .ok (.iinc 3 1, 3) := by decide +kernel
theorem dX10_spreads_39 : decode cX10_spreads 39 = .ok (.goto (-37), 3) := by decide +kernel
theorem dX10_spreads_42 : decode cX10_spreads 42 = .ok (.iload_n 2, 1) := by decide +kernel
theorem dX10_spreads_43 : decode cX10_spreads 43 = .ok (.istore_n 3, 1) := by decide +kernel
theorem dX10_spreads_44 : decode cX10_spreads 44 = .ok (.iload_n 3, 1) := by decide +kernel
theorem dX10_spreads_45 : decode cX10_spreads 45 = .ok (.ifCond .lt 228, 3) := by decide +kernel
theorem dX10_spreads_48 : decode cX10_spreads 48 = .ok (.aload_n 0, 1) := by decide +kernel
theorem dX10_spreads_49 : decode cX10_spreads 49 = .ok (.getfield 25, 3) := by decide +kernel
theorem dX10_spreads_52 : decode cX10_spreads 52 = .ok (.iconst 5, 1) := by decide +kernel
theorem dX10_spreads_53 : decode cX10_spreads 53 = .ok (.iaload, 1) := by decide +kernel
theorem dX10_spreads_54 : decode cX10_spreads 54 = .ok (.istore 4, 2) := by decide +kernel
theorem dX10_spreads_56 : decode cX10_spreads 56 = .ok (.iload 4, 2) := by decide +kernel
theorem dX10_spreads_58 : decode cX10_spreads 58 = .ok (.ifCond .lt 42, 3) := by decide +kernel
theorem dX10_spreads_61 : decode cX10_spreads 61 = .ok (.aload_n 0, 1) := by decide +kernel
theorem dX10_spreads_62 : decode cX10_spreads 62 = .ok (.getfield 44, 3) := by decide +kernel
theorem dX10_spreads_65 : decode cX10_spreads 65 = .ok (.aload_n 0, 1) := by decide +kernel
theorem dX10_spreads_66 : decode cX10_spreads 66 = .ok (.getfield 54, 3) := by decide +kernel
theorem dX10_spreads_69 : decode cX10_spreads 69 = .ok (.iload_n 3, 1) := by decide +kernel
theorem dX10_spreads_70 : decode cX10_spreads 70 = .ok (.iload 4, 2) := by decide +kernel
theorem dX10_spreads_72 : decode cX10_spreads 72 = .ok (.invokestatic 184, 3) := by decide +kernel
theorem dX10_spreads_75 : decode cX10_spreads 75 = .ok (.iload 4, 2) := by decide +kernel
theorem dX10_spreads_77 : decode cX10_spreads 77 = .ok (.aload_n 0, 1) := by decide +kernel
theorem dX10_spreads_78 : decode cX10_spreads 78 = .ok (.getfield 25, 3) := by decide +kernel
theorem dX10_spreads_81 : decode cX10_spreads 81 = .ok (.iconst 5, 1) := by decide +kernel
theorem dX10_spreads_82 : decode cX10_spreads 82 = .ok (.iaload, 1) := by decide +kernel
theorem dX10_spreads_83 : decode cX10_spreads 83 = .ok (.if_icmp .ne 9, 3) := by decide +kernel
theorem dX10_spreads_86 : decode cX10_spreads 86 = .ok (.ldc2_w 189, 3) := by decide +kernel
theorem dX10_spreads_89 : decode cX10_spreads 89 = .ok (.goto 4, 3) := by decide +kernel
theorem dX10_spreads_92 : decode cX10_spreads 92 = .ok (.lconst 0, 1) := by decide +kernel
theorem dX10_spreads_93 : decode cX10_spreads 93 = .ok (.lastore, 1) := by decide +kernel
theorem dX10_spreads_94 : decode cX10_spreads 94 = .ok (.iinc 4 (-1), 3) := by decide +kernel
theorem dX10_spreads_97 : decode cX10_spreads 97 = .ok (.goto (-41), 3) := by decide +kernel
theorem dX10_spreads_100 : decode cX10_spreads 100 = .ok (.aload_n 0, 1) := by decide +kernel
theorem dX10_spreads_101 : decode cX10_spreads 101 = .ok (.getfield 54, 3) := by decide +kernel
theorem dX10_spreads_104 : decode cX10_spreads 104 = .ok (.iconst 1, 1) := by decide +kernel
theorem dX10_spreads_105 : decode cX10_spreads 105 = .ok (.isub, 1) := by decide +kernel
theorem dX10_spreads_106 : decode cX10_spreads 106 = .ok (.istore 4, 2) := by decide +kernel
theorem dX10_spreads_108 : decode cX10_spreads 108 = .ok (.iload 4, 2) := by decide +kernel
theorem dX10_spreads_110 : decode cX10_spreads 110 = .ok (.ifCond .lt 157, 3) := by decide +kernel
theorem dX10_spreads_113 : decode cX10_spreads 113 = .ok (.iload 4, 2) := by decide +kernel
theorem dX10_spreads_115 : decode cX10_spreads 115 = .ok (.aload_n 0, 1) := by decide +kernel
theorem dX10_spreads_116 : decode cX10_spreads 116 = .ok (.getfield 19, 3) := by decide +kernel
theorem dX10_spreads_119 : decode cX10_spreads 119 = .ok (.iload_n 1, 1) := by decide +kernel
theorem dX10_spreads_120 : decode cX10_spreads 120 = .ok (.iaload, 1) := by decide +kernel
theorem dX10_spreads_121 : decode cX10_spreads 121 = .ok (.iadd, 1) := by decide +kernel
theorem dX10_spreads_122 : decode cX10_spreads 122 = .ok (.aload_n 0, 1) := by decide +kernel
theorem dX10_spreads_123 : decode cX10_spreads 123 = .ok (.getfield 54, 3) := by decide +kernel
theorem dX10_spreads_126 : decode cX10_spreads 126 = .ok (.if_icmp .le 10, 3) := by decide +kernel
theorem dX10_spreads_129 : decode cX10_spreads 129 = .ok (.aload_n 0, 1) := by decide +kernel
theorem dX10_spreads_130 : decode cX10_spreads 130 = .ok (.getfield 54, 3) := by decide +kernel
theorem dX10_spreads_133 : decode cX10_spreads 133 = .ok (.goto 12, 3) := by decide +kernel
theorem dX10_spreads_136 : decode cX10_spreads 136 = .ok (.iload 4, 2) := by decide +kernel
theorem dX10_spreads_138 : decode cX10_spreads 138 = .ok (.aload_n 0, 1) := by decide +kernel
theorem dX10_spreads_139 : decode cX10_spreads 139 = .ok (.getfield 19, 3) := by decide +kernel
theorem dX10_spreads_142 : decode cX10_spreads 142 = .ok (.iload_n 1, 1) := by decide +kernel
theorem dX10_spreads_143 : decode cX10_spreads 143 = .ok (.iaload, 1) := by decide +kernel
theorem dX10_spreads_144 : decode cX10_spreads 144 = .ok (.iadd, 1) := by decide +kernel
theorem dX10_spreads_145 : decode cX10_spreads 145 = .ok (.istore 5, 2) := by decide +kernel
theorem dX10_spreads_147 : decode cX10_spreads 147 = .ok (.aload_n 0, 1) := by decide +kernel
theorem dX10_spreads_148 : decode cX10_spreads 148 = .ok (.getfield 25, 3) := by decide +kernel
theorem dX10_spreads_151 : decode cX10_spreads 151 = .ok (.iconst 5, 1) := by decide +kernel
theorem dX10_spreads_152 : decode cX10_spreads 152 = .ok (.iaload, 1) := by decide +kernel
theorem dX10_spreads_153 : decode cX10_spreads 153 = .ok (.istore 6, 2) := by decide +kernel
theorem dX10_spreads_155 : decode cX10_spreads 155 = .ok (.iload 6, 2) := by decide +kernel
theorem dX10_spreads_157 : decode cX10_spreads 157 = .ok (.ifCond .lt 104, 3) := by decide +kernel
theorem dX10_spreads_160 : decode cX10_spreads 160 = .ok (.iload_n 3, 1) := by decide +kernel
theorem dX10_spreads_161 : decode cX10_spreads 161 = .ok (.iload_n 2, 1) := by decide +kernel
theorem dX10_spreads_162 : decode cX10_spreads 162 = .ok (.if_icmp .ne 7, 3) := by decide +kernel
theorem dX10_spreads_165 : decode cX10_spreads 165 = .ok (.lconst 0, 1) := by decide +kernel
theorem dX10_spreads_166 : decode cX10_spreads 166 = .ok (.goto 18, 3) := by decide +kernel
theorem dX10_spreads_169 : decode cX10_spreads 169 = .ok (.aload_n 0, 1) := by decide +kernel
theorem dX10_spreads_170 : decode cX10_spreads 170 = .ok (.getfield 44, 3) := by decide +kernel
theorem dX10_spreads_173 : decode cX10_spreads 173 = .ok (.iload 5, 2) := by decide +kernel
theorem dX10_spreads_175 : decode cX10_spreads 175 = .ok (.iload_n 3, 1) := by decide +kernel
theorem dX10_spreads_176 : decode cX10_spreads 176 = .ok (.iconst 1, 1) := by decide +kernel
theorem dX10_spreads_177 : decode cX10_spreads 177 = .ok (.iadd, 1) := by decide +kernel
theorem dX10_spreads_178 : decode cX10_spreads 178 = .ok (.iload 6, 2) := by decide +kernel
theorem dX10_spreads_180 : decode cX10_spreads 180 = .ok (.invokestatic 184, 3) := by decide +kernel
theorem dX10_spreads_183 : decode cX10_spreads 183 = .ok (.laload, 1) := by decide +kernel
theorem dX10_spreads_184 : decode cX10_spreads 184 = .ok (.lstore 7, 2) := by decide +kernel
theorem dX10_spreads_186 : decode cX10_spreads 186 = .ok (.aload_n 0, 1) := by decide +kernel
theorem dX10_spreads_187 : decode cX10_spreads 187 = .ok (.iload_n 1, 1) := by decide +kernel
theorem dX10_spreads_188 : decode cX10_spreads 188 = .ok (.iload 4, 2) := by decide +kernel
theorem dX10_spreads_190 : decode cX10_spreads 190 = .ok (.iload_n 3, 1) := by decide +kernel
theorem dX10_spreads_191 : decode cX10_spreads 191 = .ok (.iload 6, 2) := by decide +kernel
theorem dX10_spreads_193 : decode cX10_spreads 193 = .ok (.iload_n 2, 1) := by decide +kernel
theorem dX10_spreads_194 : decode cX10_spreads 194 = .ok (.iconst 0, 1) := by decide +kernel
theorem dX10_spreads_195 : decode cX10_spreads 195 = .ok (.aload_n 0, 1) := by decide +kernel
theorem dX10_spreads_196 : decode cX10_spreads 196 = .ok (.getfield 48, 3) := by decide +kernel
theorem dX10_spreads_199 : decode cX10_spreads 199 = .ok (.iload 4, 2) := by decide +kernel
theorem dX10_spreads_201 : decode cX10_spreads 201 = .ok (.iaload, 1) := by decide +kernel
theorem dX10_spreads_202 : decode cX10_spreads 202 = .ok (.invokevirtual 191, 3) := by decide +kernel
theorem dX10_spreads_205 : decode cX10_spreads 205 = .ok (.lstore 9, 2) := by decide +kernel
theorem dX10_spreads_207 : decode cX10_spreads 207 = .ok (.aload_n 0, 1) := by decide +kernel
theorem dX10_spreads_208 : decode cX10_spreads 208 = .ok (.iload_n 1, 1) := by decide +kernel
theorem dX10_spreads_209 : decode cX10_spreads 209 = .ok (.iload 4, 2) := by decide +kernel
theorem dX10_spreads_211 : decode cX10_spreads 211 = .ok (.iload_n 3, 1) := by decide +kernel
theorem dX10_spreads_212 : decode cX10_spreads 212 = .ok (.iload 6, 2) := by decide +kernel
theorem dX10_spreads_214 : decode cX10_spreads 214 = .ok (.iload_n 2, 1) := by decide +kernel
theorem dX10_spreads_215 : decode cX10_spreads 215 = .ok (.iconst 1, 1) := by decide +kernel
theorem dX10_spreads_216 : decode cX10_spreads 216 = .ok (.aload_n 0, 1) := by decide +kernel
theorem dX10_spreads_217 : decode cX10_spreads 217 = .ok (.getfield 51, 3) := by decide +kernel
theorem dX10_spreads_220 : decode cX10_spreads 220 = .ok (.iload 4, 2) := by decide +kernel
theorem dX10_spreads_222 : decode cX10_spreads 222 = .ok (.iaload, 1) := by decide +kernel
theorem dX10_spreads_223 : decode cX10_spreads 223 = .ok (.invokevirtual 191, 3) := by decide +kernel
theorem dX10_spreads_226 : decode cX10_spreads 226 = .ok (.lstore 11, 2) := by decide +kernel
theorem dX10_spreads_228 : decode cX10_spreads 228 = .ok (.aload_n 0, 1) := by decide +kernel
theorem dX10_spreads_229 : decode cX10_spreads 229 = .ok (.getfield 44, 3) := by decide +kernel
theorem dX10_spreads_232 : decode cX10_spreads 232 = .ok (.iload 4, 2) := by decide +kernel
theorem dX10_spreads_234 : decode cX10_spreads 234 = .ok (.iload_n 3, 1) := by decide +kernel
theorem dX10_spreads_235 : decode cX10_spreads 235 = .ok (.iload 6, 2) := by decide +kernel
theorem dX10_spreads_237 : decode cX10_spreads 237 = .ok (.invokestatic 184, 3) := by decide +kernel
theorem dX10_spreads_240 : decode cX10_spreads 240 = .ok (.aload_n 0, 1) := by decide +kernel
theorem dX10_spreads_241 : decode cX10_spreads 241 = .ok (.lload 7, 2) := by decide +kernel
theorem dX10_spreads_243 : decode cX10_spreads 243 = .ok (.aload_n 0, 1) := by decide +kernel
theorem dX10_spreads_244 : decode cX10_spreads 244 = .ok (.lload 9, 2) := by decide +kernel
theorem dX10_spreads_246 : decode cX10_spreads 246 = .ok (.lload 11, 2) := by decide +kernel
theorem dX10_spreads_248 : decode cX10_spreads 248 = .ok (.invokevirtual 195, 3) := by decide +kernel
theorem dX10_spreads_251 : decode cX10_spreads 251 = .ok (.invokevirtual 195, 3) := by decide +kernel
theorem dX10_spreads_254 : decode cX10_spreads 254 = .ok (.lastore, 1) := by decide +kernel
theorem dX10_spreads_255 : decode cX10_spreads 255 = .ok (.iinc 6 (-1), 3) := by decide +kernel
theorem dX10_spreads_258 : decode cX10_spreads 258 = .ok (.goto (-103), 3) := by decide +kernel
theorem dX10_spreads_261 : decode cX10_spreads 261 = .ok (.iinc 4 (-1), 3) := by decide +kernel
theorem dX10_spreads_264 : decode cX10_spreads 264 = .ok (.goto (-156), 3) := by decide +kernel
theorem dX10_spreads_267 : decode cX10_spreads 267 = .ok (.iinc 3 (-1), 3) := by decide +kernel
theorem dX10_spreads_270 : decode cX10_spreads 270 = .ok (.goto (-226), 3) := by decide +kernel
theorem dX10_spreads_273 : decode cX10_spreads 273 = .ok (.return_, 1) := by decide +kernel
set_option maxRecDepth 20000 in
theorem ggX10_oddsBy_X10_spreads : GoodIn wsX10_oddsBy wsX10_spreads := goodIn_r _ [8, 9, 10, 11, 2, 3, 12, 13, 14, 15, 16, 7, 17, 18, 19, 20, 21, 22, 23, 24, 25, 26, 27, 28, 29, 30, 31, 32, 33, 34, 35, 36, 37, 38, 39, 40, 41, 42, 43, 44, 45, 46, 47, 48, 49, 50, 51, 52, 53, 54, 55, 56, 57, 58, 59, 60, 61, 62, 63, 64, 65, 66, 67, 68, 69, 70, 71, 72, 73, 74] (by decide +kernel) (by decide +kernel)
set_option maxRecDepth 20000 in
theorem gX10_oddsBy_X10_spreads : GoodIn wsX10_oddsBy (wsV RX10 199 RX10 yX10_spreads wsX10_spreads) := goodIn_app (goodIn_of _ (by decide +kernel)) ggX10_oddsBy_X10_spreads
set_option maxRecDepth 20000 in
theorem ggX10_oddsBy_X10_at : GoodIn wsX10_oddsBy wsX10_at := goodIn_r _ [30] (by decide +kernel) (by decide +kernel)
set_option maxRecDepth 20000 in
theorem gX10_oddsBy_X10_at : GoodIn wsX10_oddsBy (va_wsS RX10 184 yX10_at wsX10_at) := goodIn_app (goodIn_of _ (by decide +kernel)) ggX10_oddsBy_X10_at
theorem dX10_oddsBy_0 : decode cX10_oddsBy 0 = .ok (.aload_n 0, 1) := by decide +kernel
theorem dX10_oddsBy_1 : decode cX10_oddsBy 1 = .ok (.getfield 28, 3) := by decide +kernel
theorem dX10_oddsBy_4 : decode cX10_oddsBy 4 = .ok (.iconst 3, 1) := by decide +kernel
theorem dX10_oddsBy_5 : decode cX10_oddsBy 5 = .ok (.iload_n 1, 1) := by decide +kernel
theorem dX10_oddsBy_6 : decode cX10_oddsBy 6 = .ok (.imul, 1) := by decide +kernel
theorem dX10_oddsBy_7 : decode cX10_oddsBy 7 = .ok (.iconst 1, 1) := by decide +kernel
theorem dX10_oddsBy_8 : decode cX10_oddsBy 8 = .ok (.iadd, 1) := by decide +kernel
theorem dX10_oddsBy_9 : decode cX10_oddsBy 9 = .ok (.iaload, 1) := by decide +kernel
theorem dX10_oddsBy_10 : decode cX10_oddsBy 10 = .ok (.iload_n 2, 1) := by decide +kernel
theorem dX10_oddsBy_11 : decode cX10_oddsBy 11 = .ok (.if_icmp .le 5, 3) := by decide +kernel
theorem dX10_oddsBy_14 : decode cX10_oddsBy 14 = .ok (.lconst 0, 1) := by decide +kernel
theorem dX10_oddsBy_15 : decode cX10_oddsBy 15 = .ok (.lreturn, 1) := by decide +kernel
theorem dX10_oddsBy_16 : decode cX10_oddsBy 16 = .ok (.aload_n 0, 1) := by decide +kernel
theorem dX10_oddsBy_17 : decode cX10_oddsBy 17 = .ok (.iload_n 1, 1) := by decide +kernel
theorem dX10_oddsBy_18 : decode cX10_oddsBy 18 = .ok (.iload_n 2, 1) := by decide +kernel
theorem dX10_oddsBy_19 : decode cX10_oddsBy 19 = .ok (.invokevirtual 199, 3) := by decide +kernel
theorem dX10_oddsBy_22 : decode cX10_oddsBy 22 = .ok (.aload_n 0, 1) := by decide +kernel
theorem dX10_oddsBy_23 : decode cX10_oddsBy 23 = .ok (.getfield 28, 3) := by decide +kernel
theorem dX10_oddsBy_26 : decode cX10_oddsBy 26 = .ok (.iconst 3, 1) := by decide +kernel
theorem dX10_oddsBy_27 : decode cX10_oddsBy 27 = .ok (.iload_n 1, 1) := by decide +kernel
theorem dX10_oddsBy_28 : decode cX10_oddsBy 28 = .ok (.imul, 1) := by decide +kernel
theorem dX10_oddsBy_29 : decode cX10_oddsBy 29 = .ok (.iconst 2, 1) := by decide +kernel
theorem dX10_oddsBy_30 : decode cX10_oddsBy 30 = .ok (.iadd, 1) := by decide +kernel
theorem dX10_oddsBy_31 : decode cX10_oddsBy 31 = .ok (.iaload, 1) := by decide +kernel
theorem dX10_oddsBy_32 : decode cX10_oddsBy 32 = .ok (.aload_n 0, 1) := by decide +kernel
theorem dX10_oddsBy_33 : decode cX10_oddsBy 33 = .ok (.getfield 25, 3) := by decide +kernel
theorem dX10_oddsBy_36 : decode cX10_oddsBy 36 = .ok (.iconst 5, 1) := by decide +kernel
theorem dX10_oddsBy_37 : decode cX10_oddsBy 37 = .ok (.iaload, 1) := by decide +kernel
theorem dX10_oddsBy_38 : decode cX10_oddsBy 38 = .ok (.if_icmp .le 12, 3) := by decide +kernel
theorem dX10_oddsBy_41 : decode cX10_oddsBy 41 = .ok (.aload_n 0, 1) := by decide +kernel
theorem dX10_oddsBy_42 : decode cX10_oddsBy 42 = .ok (.getfield 25, 3) := by decide +kernel
