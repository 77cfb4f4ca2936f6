theorem dX0_init_1 : decode cX0_init 1 = .ok (.invokespecial 1, 3) := by decide +kernel
theorem dX0_init_4 : decode cX0_init 4 = .ok (.aload_n 0, 1) := by decide +kernel
theorem dX0_init_5 : decode cX0_init 5 = .ok (.bipush 10, 2) := by decide +kernel
theorem dX0_init_7 : decode cX0_init 7 = .ok (.newarray .int, 2) := by decide +kernel
theorem dX0_init_9 : decode cX0_init 9 = .ok (.putfield 9, 3) := by decide +kernel
theorem dX0_init_12 : decode cX0_init 12 = .ok (.aload_n 0, 1) := by decide +kernel
theorem dX0_init_13 : decode cX0_init 13 = .ok (.bipush 10, 2) := by decide +kernel
theorem dX0_init_15 : decode cX0_init 15 = .ok (.newarray .int, 2) := by decide +kernel
theorem dX0_init_17 : decode cX0_init 17 = .ok (.putfield 13, 3) := by decide +kernel
theorem dX0_init_20 : decode cX0_init 20 = .ok (.aload_n 0, 1) := by decide +kernel
theorem dX0_init_21 : decode cX0_init 21 = .ok (.bipush 10, 2) := by decide +kernel
theorem dX0_init_23 : decode cX0_init 23 = .ok (.newarray .int, 2) := by decide +kernel
theorem dX0_init_25 : decode cX0_init 25 = .ok (.putfield 16, 3) := by decide +kernel
theorem dX0_init_28 : decode cX0_init 28 = .ok (.aload_n 0, 1) := by decide +kernel
theorem dX0_init_29 : decode cX0_init 29 = .ok (.bipush 10, 2) := by decide +kernel
theorem dX0_init_31 : decode cX0_init 31 = .ok (.newarray .int, 2) := by decide +kernel
theorem dX0_init_33 : decode cX0_init 33 = .ok (.putfield 19, 3) := by decide +kernel
theorem dX0_init_36 : decode cX0_init 36 = .ok (.aload_n 0, 1) := by decide +kernel
theorem dX0_init_37 : decode cX0_init 37 = .ok (.iconst 0, 1) := by decide +kernel
theorem dX0_init_38 : decode cX0_init 38 = .ok (.putfield 22, 3) := by decide +kernel
theorem dX0_init_41 : decode cX0_init 41 = .ok (.return_, 1) := by decide +kernel
set_option maxRecDepth 20000 in
theorem ggX0_remember_X0_loseOldest : GoodIn wsX0_remember wsX0_loseOldest := goodIn_r _ [10, 2, 3, 4, 5, 1, 27, 28, 29, 30, 31] (by decide +kernel) (by decide +kernel)
set_option maxRecDepth 20000 in
theorem gX0_remember_X0_loseOldest : GoodIn wsX0_remember (wsV RX0 26 RX0 yX0_loseOldest wsX0_loseOldest) := goodIn_app (goodIn_of _ (by decide +kernel)) ggX0_remember_X0_loseOldest
set_option maxRecDepth 20000 in
theorem ggX0_remember_X7_yardOf : GoodIn wsX0_remember wsX7_yardOf := goodIn_r _ [15, 16, 32, 33, 34, 35] (by decide +kernel) (by decide +kernel)
set_option maxRecDepth 20000 in
theorem gX0_remember_X7_yardOf : GoodIn wsX0_remember (wsV RX0 29 RX7 yX7_yardOf wsX7_yardOf) := goodIn_app (goodIn_of _ (by decide +kernel)) ggX0_remember_X7_yardOf
set_option maxRecDepth 20000 in
theorem ggX0_remember_X7_beatsOf : GoodIn wsX0_remember wsX7_beatsOf := goodIn_r _ [20, 21, 32, 33, 34, 35] (by decide +kernel) (by decide +kernel)
set_option maxRecDepth 20000 in
theorem gX0_remember_X7_beatsOf : GoodIn wsX0_remember (wsV RX0 35 RX7 yX7_beatsOf wsX7_beatsOf) := goodIn_app (goodIn_of _ (by decide +kernel)) ggX0_remember_X7_beatsOf
set_option maxRecDepth 20000 in
theorem ggX0_remember_X7_goodOf : GoodIn wsX0_remember wsX7_goodOf := goodIn_r _ [25, 26, 32, 33, 34, 35] (by decide +kernel) (by decide +kernel)
set_option maxRecDepth 20000 in
theorem gX0_remember_X7_goodOf : GoodIn wsX0_remember (wsV RX0 38 RX7 yX7_goodOf wsX7_goodOf) := goodIn_app (goodIn_of _ (by decide +kernel)) ggX0_remember_X7_goodOf
theorem dX0_remember_0 : decode cX0_remember 0 = .ok (.aload_n 0, 1) := by decide +kernel
theorem dX0_remember_1 : decode cX0_remember 1 = .ok (.getfield 22, 3) := by decide +kernel
theorem dX0_remember_4 : decode cX0_remember 4 = .ok (.bipush 10, 2) := by decide +kernel
theorem dX0_remember_6 : decode cX0_remember 6 = .ok (.if_icmp .lt 7, 3) := by decide +kernel
theorem dX0_remember_9 : decode cX0_remember 9 = .ok (.aload_n 0, 1) := by decide +kernel
theorem dX0_remember_10 : decode cX0_remember 10 = .ok (.invokevirtual 26, 3) := by decide +kernel
theorem dX0_remember_13 : decode cX0_remember 13 = .ok (.aload_n 0, 1) := by decide +kernel
theorem dX0_remember_14 : decode cX0_remember 14 = .ok (.getfield 22, 3) := by decide +kernel
theorem dX0_remember_17 : decode cX0_remember 17 = .ok (.ifCond .lt 74, 3) := by decide +kernel
theorem dX0_remember_20 : decode cX0_remember 20 = .ok (.aload_n 0, 1) := by decide +kernel
theorem dX0_remember_21 : decode cX0_remember 21 = .ok (.getfield 22, 3) := by decide +kernel
theorem dX0_remember_24 : decode cX0_remember 24 = .ok (.bipush 10, 2) := by decide +kernel
theorem dX0_remember_26 : decode cX0_remember 26 = .ok (.if_icmp .ge 65, 3) := by decide +kernel
theorem dX0_remember_29 : decode cX0_remember 29 = .ok (.aload_n 0, 1) := by decide +kernel
theorem dX0_remember_30 : decode cX0_remember 30 = .ok (.getfield 9, 3) := by decide +kernel
theorem dX0_remember_33 : decode cX0_remember 33 = .ok (.aload_n 0, 1) := by decide +kernel
theorem dX0_remember_34 : decode cX0_remember 34 = .ok (.getfield 22, 3) := by decide +kernel
theorem dX0_remember_37 : decode cX0_remember 37 = .ok (.iload_n 1, 1) := by decide +kernel
theorem dX0_remember_38 : decode cX0_remember 38 = .ok (.iastore, 1) := by decide +kernel
theorem dX0_remember_39 : decode cX0_remember 39 = .ok (.aload_n 0, 1) := by decide +kernel
theorem dX0_remember_40 : decode cX0_remember 40 = .ok (.getfield 13, 3) := by decide +kernel
theorem dX0_remember_43 : decode cX0_remember 43 = .ok (.aload_n 0, 1) := by decide +kernel
theorem dX0_remember_44 : decode cX0_remember 44 = .ok (.getfield 22, 3) := by decide +kernel
theorem dX0_remember_47 : decode cX0_remember 47 = .ok (.aload_n 2, 1) := by decide +kernel
theorem dX0_remember_48 : decode cX0_remember 48 = .ok (.iload_n 1, 1) := by decide +kernel
theorem dX0_remember_49 : decode cX0_remember 49 = .ok (.invokevirtual 29, 3) := by decide +kernel
theorem dX0_remember_52 : decode cX0_remember 52 = .ok (.iastore, 1) := by decide +kernel
theorem dX0_remember_53 : decode cX0_remember 53 = .ok (.aload_n 0, 1) := by decide +kernel
theorem dX0_remember_54 : decode cX0_remember 54 = .ok (.getfield 16, 3) := by decide +kernel
theorem dX0_remember_57 : decode cX0_remember 57 = .ok (.aload_n 0, 1) := by decide +kernel
theorem dX0_remember_58 : decode cX0_remember 58 = .ok (.getfield 22, 3) := by decide +kernel
theorem dX0_remember_61 : decode cX0_remember 61 = .ok (.aload_n 2, 1) := by decide +kernel
theorem dX0_remember_62 : decode cX0_remember 62 = .ok (.iload_n 1, 1) := by decide +kernel
theorem dX0_remember_63 : decode cX0_remember 63 = .ok (.invokevirtual 35, 3) := by decide +kernel
theorem dX0_remember_66 : decode cX0_remember 66 = .ok (.iastore, 1) := by decide +kernel
theorem dX0_remember_67 : decode cX0_remember 67 = .ok (.aload_n 0, 1) := by decide +kernel
theorem dX0_remember_68 : decode cX0_remember 68 = .ok (.getfield 19, 3) := by decide +kernel
theorem dX0_remember_71 : decode cX0_remember 71 = .ok (.aload_n 0, 1) := by decide +kernel
theorem dX0_remember_72 : decode cX0_remember 72 = .ok (.getfield 22, 3) := by decide +kernel
theorem dX0_remember_75 : decode cX0_remember 75 = .ok (.aload_n 2, 1) := by decide +kernel
theorem dX0_remember_76 : decode cX0_remember 76 = .ok (.iload_n 1, 1) := by decide +kernel
theorem dX0_remember_77 : decode cX0_remember 77 = .ok (.invokevirtual 38, 3) := by decide +kernel
theorem dX0_remember_80 : decode cX0_remember 80 = .ok (.iastore, 1) := by decide +kernel
theorem dX0_remember_81 : decode cX0_remember 81 = .ok (.aload_n 0, 1) := by decide +kernel
theorem dX0_remember_82 : decode cX0_remember 82 = .ok (.dup, 1) := by decide +kernel
theorem dX0_remember_83 : decode cX0_remember 83 = .ok (.getfield 22, 3) := by decide +kernel
theorem dX0_remember_86 : decode cX0_remember 86 = .ok (.iconst 1, 1) := by decide +kernel
theorem dX0_remember_87 : decode cX0_remember 87 = .ok (.iadd, 1) := by decide +kernel
theorem dX0_remember_88 : decode cX0_remember 88 = .ok (.putfield 22, 3) := by decide +kernel
theorem dX0_remember_91 : decode cX0_remember 91 = .ok (.return_, 1) := by decide +kernel
set_option maxRecDepth 20000 in
theorem ggX0_takeBackLast_X7_put : GoodIn wsX0_takeBackLast wsX7_put := goodIn_r _ [10, 11, 12, 13, 19, 20, 21, 22] (by decide +kernel) (by decide +kernel)
set_option maxRecDepth 20000 in
theorem gX0_takeBackLast_X7_put : GoodIn wsX0_takeBackLast (wsV RX0 41 RX7 yX7_put wsX7_put) := goodIn_app (goodIn_of _ (by decide +kernel)) ggX0_takeBackLast_X7_put
theorem dX0_takeBackLast_0 : decode cX0_takeBackLast 0 = .ok (.aload_n 0, 1) := by decide +kernel
theorem dX0_takeBackLast_1 : decode cX0_takeBackLast 1 = .ok (.getfield 22, 3) := by decide +kernel
theorem dX0_takeBackLast_4 : decode cX0_takeBackLast 4 = .ok (.ifCond .le 62, 3) := by decide +kernel
theorem dX0_takeBackLast_7 : decode cX0_takeBackLast 7 = .ok (.aload_n 0, 1) := by decide +kernel
theorem dX0_takeBackLast_8 : decode cX0_takeBackLast 8 = .ok (.getfield 22, 3) := by decide +kernel
theorem dX0_takeBackLast_11 : decode cX0_takeBackLast 11 = .ok (.bipush 10, 2) := by decide +kernel
theorem dX0_takeBackLast_13 : decode cX0_takeBackLast 13 = .ok (.if_icmp .gt 53, 3) := by decide +kernel
theorem dX0_takeBackLast_16 : decode cX0_takeBackLast 16 = .ok (.aload_n 0, 1) := by decide +kernel
theorem dX0_takeBackLast_17 : decode cX0_takeBackLast 17 = .ok (.dup, 1) := by decide +kernel
theorem dX0_takeBackLast_18 : decode cX0_takeBackLast 18 = .ok (.getfield 22, 3) := by decide +kernel
theorem dX0_takeBackLast_21 : decode cX0_takeBackLast 21 = .ok (.iconst 1, 1) := by decide +kernel
theorem dX0_takeBackLast_22 : decode cX0_takeBackLast 22 = .ok (.isub, 1) := by decide +kernel
theorem dX0_takeBackLast_23 : decode cX0_takeBackLast 23 = .ok (.putfield 22, 3) := by decide +kernel
theorem dX0_takeBackLast_26 : decode cX0_takeBackLast 26 = .ok (.aload_n 1, 1) := by decide +kernel
theorem dX0_takeBackLast_27 : decode cX0_takeBackLast 27 = .ok (.aload_n 0, 1) := by decide +kernel
theorem dX0_takeBackLast_28 : decode cX0_takeBackLast 28 = .ok (.getfield 9, 3) := by decide +kernel
theorem dX0_takeBackLast_31 : decode cX0_takeBackLast 31 = .ok (.aload_n 0, 1) := by decide +kernel
theorem dX0_takeBackLast_32 : decode cX0_takeBackLast 32 = .ok (.getfield 22, 3) := by decide +kernel
theorem dX0_takeBackLast_35 : decode cX0_takeBackLast 35 = .ok (.iaload, 1) := by decide +kernel
theorem dX0_takeBackLast_36 : decode cX0_takeBackLast 36 = .ok (.aload_n 0, 1) := by decide +kernel
theorem dX0_takeBackLast_37 : decode cX0_takeBackLast 37 = .ok (.getfield 13, 3) := by decide +kernel
theorem dX0_takeBackLast_40 : decode cX0_takeBackLast 40 = .ok (.aload_n 0, 1) := by decide +kernel
theorem dX0_takeBackLast_41 : decode cX0_takeBackLast 41 = .ok (.getfield 22, 3) := by decide +kernel
theorem dX0_takeBackLast_44 : decode cX0_takeBackLast 44 = .ok (.iaload, 1) := by decide +kernel
theorem dX0_takeBackLast_45 : decode cX0_takeBackLast 45 = .ok (.aload_n 0, 1) := by decide +kernel
theorem dX0_takeBackLast_46 : decode cX0_takeBackLast 46 = .ok (.getfield 16, 3) := by decide +kernel
theorem dX0_takeBackLast_49 : decode cX0_takeBackLast 49 = .ok (.aload_n 0, 1) := by decide +kernel
theorem dX0_takeBackLast_50 : decode cX0_takeBackLast 50 = .ok (.getfield 22, 3) := by decide +kernel
theorem dX0_takeBackLast_53 : decode cX0_takeBackLast 53 = .ok (.iaload, 1) := by decide +kernel
theorem dX0_takeBackLast_54 : decode cX0_takeBackLast 54 = .ok (.aload_n 0, 1) := by decide +kernel
theorem dX0_takeBackLast_55 : decode cX0_takeBackLast 55 = .ok (.getfield 19, 3) := by decide +kernel
theorem dX0_takeBackLast_58 : decode cX0_takeBackLast 58 = .ok (.aload_n 0, 1) := by decide +kernel
theorem dX0_takeBackLast_59 : decode cX0_takeBackLast 59 = .ok (.getfield 22, 3) := by decide +kernel
theorem dX0_takeBackLast_62 : decode cX0_takeBackLast 62 = .ok (.iaload, 1) := by decide +kernel
theorem dX0_takeBackLast_63 : decode cX0_takeBackLast 63 = .ok (.invokevirtual 41, 3) := by decide +kernel
theorem dX0_takeBackLast_66 : decode cX0_takeBackLast 66 = .ok (.return_, 1) := by decide +kernel
theorem dX0_loseOldest_0 : decode cX0_loseOldest 0 = .ok (.iconst 1, 1) := by decide +kernel
theorem dX0_loseOldest_1 : decode cX0_loseOldest 1 = .ok (.istore_n 1, 1) := by decide +kernel
theorem dX0_loseOldest_2 : decode cX0_loseOldest 2 = .ok (.iload_n 1, 1) := by decide +kernel
theorem dX0_loseOldest_3 : decode cX0_loseOldest 3 = .ok (.bipush 10, 2) := by decide +kernel
theorem dX0_loseOldest_5 : decode cX0_loseOldest 5 = .ok (.if_icmp .ge 65, 3) := by decide +kernel
theorem dX0_loseOldest_8 : decode cX0_loseOldest 8 = .ok (.aload_n 0, 1) := by decide +kernel
theorem dX0_loseOldest_9 : decode cX0_loseOldest 9 = .ok (.getfield 9, 3) := by decide +kernel
theorem dX0_loseOldest_12 : decode cX0_loseOldest 12 = .ok (.iload_n 1, 1) := by decide +kernel
theorem dX0_loseOldest_13 : decode cX0_loseOldest 13 = .ok (.iconst 1, 1) := by decide +kernel
theorem dX0_loseOldest_14 : decode cX0_loseOldest 14 = .ok (.isub, 1) := by decide +kernel
theorem dX0_loseOldest_15 : decode cX0_loseOldest 15 = .ok (.aload_n 0, 1) := by decide +kernel
theorem dX0_loseOldest_16 : decode cX0_loseOldest 16 = .ok (.getfield 9, 3) := by decide +kernel
theorem dX0_loseOldest_19 : decode cX0_loseOldest 19 = .ok (.iload_n 1, 1) := by decide +kernel
theorem dX0_loseOldest_20 : decode cX0_loseOldest 20 = .ok (.iaload, 1) := by decide +kernel
theorem dX0_loseOldest_21 : decode cX0_loseOldest 21 = .ok (.iastore, 1) := by decide +kernel
theorem dX0_loseOldest_22 : decode cX0_loseOldest 22 = .ok (.aload_n 0, 1) := by decide +kernel
theorem dX0_loseOldest_23 : decode cX0_loseOldest 23 = .ok (.getfield 13, 3) := by decide +kernel
theorem dX0_loseOldest_26 : decode cX0_loseOldest 26 = .ok (.iload_n 1, 1) := by decide +kernel
theorem dX0_loseOldest_27 : decode cX0_loseOldest 27 = .ok (.iconst 1, 1) := by decide +kernel
theorem dX0_loseOldest_28 : decode cX0_loseOldest 28 = .ok (.isub, 1) := by decide +kernel
theorem dX0_loseOldest_29 : decode cX0_loseOldest 29 = .ok (.aload_n 0, 1) := by decide +kernel
theorem dX0_loseOldest_30 : decode cX0_loseOldest 30 = .ok (.getfield 13, 3) := by decide +kernel
theorem dX0_loseOldest_33 : decode cX0_loseOldest 33 = .ok (.iload_n 1, 1) := by decide +kernel
theorem dX0_loseOldest_34 : decode cX0_loseOldest 34 = .ok (.iaload, 1) := by decide +kernel
theorem dX0_loseOldest_35 : decode cX0_loseOldest 35 = .ok (.iastore, 1) := by decide +kernel
theorem dX0_loseOldest_36 : decode cX0_loseOldest 36 = .ok (.aload_n 0, 1) := by decide +kernel
theorem dX0_loseOldest_37 : decode cX0_loseOldest 37 = .ok (.getfield 16, 3) := by decide +kernel
theorem dX0_loseOldest_40 : decode cX0_loseOldest 40 = .ok (.iload_n 1, 1) := by decide +kernel
theorem dX0_loseOldest_41 : decode cX0_loseOldest 41 = .ok (.iconst 1, 1) := by decide +kernel
theorem dX0_loseOldest_42 : decode cX0_loseOldest 42 = .ok (.isub, 1) := by decide +kernel
theorem dX0_loseOldest_43 : decode cX0_loseOldest 43 = .ok (.aload_n 0, 1) := by decide +kernel
theorem dX0_loseOldest_44 : decode cX0_loseOldest 44 = .ok (.getfield 16, 3) := by decide +kernel
theorem dX0_loseOldest_47 : decode cX0_loseOldest 47 = .ok (.iload_n 1, 1) := by decide +kernel
theorem dX0_loseOldest_48 : decode cX0_loseOldest 48 = .ok (.iaload, 1) := by decide +kernel
theorem dX0_loseOldest_49 : decode cX0_loseOldest 49 = .ok (.iastore, 1) := by decide +kernel
theorem dX0_loseOldest_50 : decode cX0_loseOldest 50 = .ok (.aload_n 0, 1) := by decide +kernel
theorem dX0_loseOldest_51 : decode cX0_loseOldest 51 = .ok (.getfield 19, 3) := by decide +kernel
theorem dX0_loseOldest_54 : decode cX0_loseOldest 54 = .ok (.iload_n 1, 1) := by decide +kernel
theorem dX0_loseOldest_55 : decode cX0_loseOldest 55 = .ok (.iconst 1, 1) := by decide +kernel
theorem dX0_loseOldest_56 : decode cX0_loseOldest 56 = .ok (.isub, 1) := by decide +kernel
theorem dX0_loseOldest_57 : decode cX0_loseOldest 57 = .ok (.aload_n 0, 1) := by decide +kernel
theorem dX0_loseOldest_58 : decode cX0_loseOldest 58 = .ok (.getfield 19, 3) := by decide +kernel
theorem dX0_loseOldest_61 : decode cX0_loseOldest 61 = .ok (.iload_n 1, 1) := by decide +kernel
theorem dX0_loseOldest_62 : decode cX0_loseOldest 62 = .ok (.iaload, 1) := by decide +kernel
theorem dX0_loseOldest_63 : decode cX0_loseOldest 63 = .ok (.iastore, 1) := by decide +kernel
theorem dX0_loseOldest_64 : decode cX0_loseOldest 64 = .ok (.iinc 1 1, 3) := by decide +kernel
theorem dX0_loseOldest_67 : decode cX0_loseOldest 67 = .ok (.goto (-65), 3) := by decide +kernel
theorem dX0_loseOldest_70 : decode cX0_loseOldest 70 = .ok (.aload_n 0, 1) := by decide +kernel
theorem dX0_loseOldest_71 : decode cX0_loseOldest 71 = .ok (.bipush 9, 2) := by decide +kernel
theorem dX0_loseOldest_73 : decode cX0_loseOldest 73 = .ok (.putfield 22, 3) := by decide +kernel
theorem dX0_loseOldest_76 : decode cX0_loseOldest 76 = .ok (.return_, 1) := by decide +kernel
theorem dX1_init_0 : decode cX1_init 0 = .ok (.aload_n 0, 1) := by decide +kernel
theorem dX1_init_1 : decode cX1_init 1 = .ok (.invokespecial 3, 3) := by decide +kernel
theorem dX1_init_4 : decode cX1_init 4 = .ok (.aload_n 0, 1) := by decide +kernel
theorem dX1_init_5 : decode cX1_init 5 = .ok (.iconst 0, 1) := by decide +kernel
theorem dX1_init_6 : decode cX1_init 6 = .ok (.putfield 9, 3) := by decide +kernel
theorem dX1_init_9 : decode cX1_init 9 = .ok (.aload_n 0, 1) := by decide +kernel
theorem dX1_init_10 : decode cX1_init 10 = .ok (.iconst 0, 1) := by decide +kernel
theorem dX1_init_11 : decode cX1_init 11 = .ok (.putfield 15, 3) := by decide +kernel
theorem dX1_init_14 : decode cX1_init 14 = .ok (.aload_n 0, 1) := by decide +kernel
theorem dX1_init_15 : decode cX1_init 15 = .ok (.iconst 0, 1) := by decide +kernel
theorem dX1_init_16 : decode cX1_init 16 = .ok (.putfield 18, 3) := by decide +kernel
theorem dX1_init_19 : decode cX1_init 19 = .ok (.aload_n 0, 1) := by decide +kernel
theorem dX1_init_20 : decode cX1_init 20 = .ok (.iconst 0, 1) := by decide +kernel
theorem dX1_init_21 : decode cX1_init 21 = .ok (.putfield 21, 3) := by decide +kernel
theorem dX1_init_24 : decode cX1_init 24 = .ok (.return_, 1) := by decide +kernel
set_option maxRecDepth 20000 in
theorem ggX1_find_X1_leastTurnOver : GoodIn wsX1_find wsX1_leastTurnOver := goodIn_r _ [8, 9, 10, 11, 12, 13, 14] (by decide +kernel) (by decide +kernel)
set_option maxRecDepth 20000 in
theorem gX1_find_X1_leastTurnOver : GoodIn wsX1_find (va_wsS RX1 29 yX1_leastTurnOver wsX1_leastTurnOver) := goodIn_app (goodIn_of _ (by decide +kernel)) ggX1_find_X1_leastTurnOver
set_option maxRecDepth 20000 in
theorem ggX1_find_X3_catchOf : GoodIn wsX1_find wsX3_catchOf := goodIn_r _ [19, 20, 21, 22, 23, 24, 25, 26, 27, 28, 29, 30, 31, 32, 18, 33, 34, 10, 35, 36, 37, 38, 39, 40, 41, 42, 43, 44, 45, 46, 47, 48, 49, 50, 51, 52, 53, 54, 55, 56, 57, 58, 59, 13, 14, 60, 61, 62, 63, 64, 65, 66, 67, 68, 73, 74, 75, 76, 77, 78, 79, 80, 81] (by decide +kernel) (by decide +kernel)
set_option maxRecDepth 20000 in
theorem gX1_find_X3_catchOf : GoodIn wsX1_find (wsV RX1 33 RX3 yX3_catchOf wsX3_catchOf) := goodIn_app (goodIn_of _ (by decide +kernel)) ggX1_find_X3_catchOf
theorem dX1_find_0 : decode cX1_find 0 = .ok (.aload_n 0, 1) := by decide +kernel
theorem dX1_find_1 : decode cX1_find 1 = .ok (.iconst (-1), 1) := by decide +kernel
theorem dX1_find_2 : decode cX1_find 2 = .ok (.putfield 9, 3) := by decide +kernel
theorem dX1_find_5 : decode cX1_find 5 = .ok (.aload_n 1, 1) := by decide +kernel
theorem dX1_find_6 : decode cX1_find 6 = .ok (.getfield 24, 3) := by decide +kernel
theorem dX1_find_9 : decode cX1_find 9 = .ok (.istore 5, 2) := by decide +kernel
theorem dX1_find_11 : decode cX1_find 11 = .ok (.iload 5, 2) := by decide +kernel
theorem dX1_find_13 : decode cX1_find 13 = .ok (.iconst 4, 1) := by decide +kernel
theorem dX1_find_14 : decode cX1_find 14 = .ok (.if_icmp .gt 88, 3) := by decide +kernel
theorem dX1_find_17 : decode cX1_find 17 = .ok (.iload 5, 2) := by decide +kernel
theorem dX1_find_19 : decode cX1_find 19 = .ok (.invokestatic 29, 3) := by decide +kernel
theorem dX1_find_22 : decode cX1_find 22 = .ok (.istore 6, 2) := by decide +kernel
theorem dX1_find_24 : decode cX1_find 24 = .ok (.iconst 0, 1) := by decide +kernel
theorem dX1_find_25 : decode cX1_find 25 = .ok (.istore 7, 2) := by decide +kernel
theorem dX1_find_27 : decode cX1_find 27 = .ok (.iload 6, 2) := by decide +kernel
theorem dX1_find_29 : decode cX1_find 29 = .ok (.bipush 7, 2) := by decide +kernel
theorem dX1_find_31 : decode cX1_find 31 = .ok (.if_icmp .gt 65, 3) := by decide +kernel
theorem dX1_find_34 : decode cX1_find 34 = .ok (.iload 7, 2) := by decide +kernel
theorem dX1_find_36 : decode cX1_find 36 = .ok (.bipush 9, 2) := by decide +kernel
theorem dX1_find_38 : decode cX1_find 38 = .ok (.if_icmp .gt 58, 3) := by decide +kernel
theorem dX1_find_41 : decode cX1_find 41 = .ok (.aload_n 1, 1) := by decide +kernel
theorem dX1_find_42 : decode cX1_find 42 = .ok (.iload_n 2, 1) := by decide +kernel
theorem dX1_find_43 : decode cX1_find 43 = .ok (.iload_n 3, 1) := by decide +kernel
theorem dX1_find_44 : decode cX1_find 44 = .ok (.iload 5, 2) := by decide +kernel
theorem dX1_find_46 : decode cX1_find 46 = .ok (.iload 7, 2) := by decide +kernel
theorem dX1_find_48 : decode cX1_find 48 = .ok (.iload 6, 2) := by decide +kernel
theorem dX1_find_50 : decode cX1_find 50 = .ok (.iload 4, 2) := by decide +kernel
theorem dX1_find_52 : decode cX1_find 52 = .ok (.invokevirtual 33, 3) := by decide +kernel
theorem dX1_find_55 : decode cX1_find 55 = .ok (.istore 8, 2) := by decide +kernel
theorem dX1_find_57 : decode cX1_find 57 = .ok (.iload 8, 2) := by decide +kernel
theorem dX1_find_59 : decode cX1_find 59 = .ok (.aload_n 0, 1) := by decide +kernel
theorem dX1_find_60 : decode cX1_find 60 = .ok (.getfield 9, 3) := by decide +kernel
theorem dX1_find_63 : decode cX1_find 63 = .ok (.if_icmp .le 27, 3) := by decide +kernel
theorem dX1_find_66 : decode cX1_find 66 = .ok (.aload_n 0, 1) := by decide +kernel
theorem dX1_find_67 : decode cX1_find 67 = .ok (.iload 8, 2) := by decide +kernel
theorem dX1_find_69 : decode cX1_find 69 = .ok (.putfield 9, 3) := by decide +kernel
theorem dX1_find_72 : decode cX1_find 72 = .ok (.aload_n 0, 1) := by decide +kernel
theorem dX1_find_73 : decode cX1_find 73 = .ok (.iload 5, 2) := by decide +kernel
theorem dX1_find_75 : decode cX1_find 75 = .ok (.putfield 15, 3) := by decide +kernel
theorem dX1_find_78 : decode cX1_find 78 = .ok (.aload_n 0, 1) := by decide +kernel
theorem dX1_find_79 : decode cX1_find 79 = .ok (.iload 7, 2) := by decide +kernel
theorem dX1_find_81 : decode cX1_find 81 = .ok (.putfield 18, 3) := by decide +kernel
theorem dX1_find_84 : decode cX1_find 84 = .ok (.aload_n 0, 1) := by decide +kernel
theorem dX1_find_85 : decode cX1_find 85 = .ok (.iload 6, 2) := by decide +kernel
theorem dX1_find_87 : decode cX1_find 87 = .ok (.putfield 21, 3) := by decide +kernel
theorem dX1_find_90 : decode cX1_find 90 = .ok (.iinc 7 1, 3) := by decide +kernel
theorem dX1_find_93 : decode cX1_find 93 = .ok (.goto (-66), 3) := by decide +kernel
theorem dX1_find_96 : decode cX1_find 96 = .ok (.iinc 5 1, 3) := by decide +kernel
theorem dX1_find_99 : decode cX1_find 99 = .ok (.goto (-88), 3) := by decide +kernel
theorem dX1_find_102 : decode cX1_find 102 = .ok (.return_, 1) := by decide +kernel
theorem dX1_number_0 : decode cX1_number 0 = .ok (.bipush 100, 2) := by decide +kernel
theorem dX1_number_2 : decode cX1_number 2 = .ok (.aload_n 0, 1) := by decide +kernel
theorem dX1_number_3 : decode cX1_number 3 = .ok (.getfield 15, 3) := by decide +kernel
theorem dX1_number_6 : decode cX1_number 6 = .ok (.imul, 1) := by decide +kernel
theorem dX1_number_7 : decode cX1_number 7 = .ok (.bipush 10, 2) := by decide +kernel
theorem dX1_number_9 : decode cX1_number 9 = .ok (.aload_n 0, 1) := by decide +kernel
theorem dX1_number_10 : decode cX1_number 10 = .ok (.getfield 18, 3) := by decide +kernel
theorem dX1_number_13 : decode cX1_number 13 = .ok (.imul, 1) := by decide +kernel
theorem dX1_number_14 : decode cX1_number 14 = .ok (.iadd, 1) := by decide +kernel
theorem dX1_number_15 : decode cX1_number 15 = .ok (.aload_n 0, 1) := by decide +kernel
theorem dX1_number_16 : decode cX1_number 16 = .ok (.getfield 21, 3) := by decide +kernel
theorem dX1_number_19 : decode cX1_number 19 = .ok (.iadd, 1) := by decide +kernel
theorem dX1_number_20 : decode cX1_number 20 = .ok (.ireturn, 1) := by decide +kernel
set_option maxRecDepth 20000 in
theorem ggX1_leastTurnOver_X9_isTurned : GoodIn wsX1_leastTurnOver wsX9_isTurned := goodIn_r _ [3, 4, 5, 2, 6] (by decide +kernel) (by decide +kernel)
set_option maxRecDepth 20000 in
theorem gX1_leastTurnOver_X9_isTurned_n37 : GoodIn wsX1_leastTurnOver (wsX9_isTurned) := ggX1_leastTurnOver_X9_isTurned
theorem dX1_leastTurnOver_0 : decode cX1_leastTurnOver 0 = .ok (.iconst 0, 1) := by decide +kernel
theorem dX1_leastTurnOver_1 : decode cX1_leastTurnOver 1 = .ok (.istore_n 1, 1) := by decide +kernel
theorem dX1_leastTurnOver_2 : decode cX1_leastTurnOver 2 = .ok (.iload_n 1, 1) := by decide +kernel
theorem dX1_leastTurnOver_3 : decode cX1_leastTurnOver 3 = .ok (.bipush 7, 2) := by decide +kernel
theorem dX1_leastTurnOver_5 : decode cX1_leastTurnOver 5 = .ok (.if_icmp .gt 17, 3) := by decide +kernel
theorem dX1_leastTurnOver_8 : decode cX1_leastTurnOver 8 = .ok (.iload_n 0, 1) := by decide +kernel
theorem dX1_leastTurnOver_9 : decode cX1_leastTurnOver 9 = .ok (.iload_n 1, 1) := by decide +kernel
theorem dX1_leastTurnOver_10 : decode cX1_leastTurnOver 10 = .ok (.invokestatic 37, 3) := by decide +kernel
theorem dX1_leastTurnOver_13 : decode cX1_leastTurnOver 13 = .ok (.ifCond .ne 9, 3) := by decide +kernel
theorem dX1_leastTurnOver_16 : decode cX1_leastTurnOver 16 = .ok (.iinc 1 1, 3) := by decide +kernel
theorem dX1_leastTurnOver_19 : decode cX1_leastTurnOver 19 = .ok (.goto (-17), 3) := by decide +kernel
theorem dX1_leastTurnOver_22 : decode cX1_leastTurnOver 22 = .ok (.iload_n 1, 1) := by decide +kernel
theorem dX1_leastTurnOver_23 : decode cX1_leastTurnOver 23 = .ok (.ireturn, 1) := by decide +kernel
set_option maxRecDepth 20000 in
theorem ggX2_init_X7_init : GoodIn wsX2_init wsX7_init := goodIn_r _ [10, 11, 2, 3, 12, 13, 14, 15, 16, 17, 18, 19, 20] (by decide +kernel) (by decide +kernel)
set_option maxRecDepth 20000 in
theorem gX2_init_X7_init_n9 : GoodIn wsX2_init (wsX7_init) := ggX2_init_X7_init
theorem dX2_init_0 : decode cX2_init 0 = .ok (.aload_n 0, 1) := by decide +kernel
theorem dX2_init_1 : decode cX2_init 1 = .ok (.invokespecial 1, 3) := by decide +kernel
theorem dX2_init_4 : decode cX2_init 4 = .ok (.aload_n 0, 1) := by decide +kernel
theorem dX2_init_5 : decode cX2_init 5 = .ok (.new 7, 3) := by decide +kernel
theorem dX2_init_8 : decode cX2_init 8 = .ok (.dup, 1) := by decide +kernel
theorem dX2_init_9 : decode cX2_init 9 = .ok (.invokespecial 9, 3) := by decide +kernel
theorem dX2_init_12 : decode cX2_init 12 = .ok (.putfield 10, 3) := by decide +kernel
theorem dX2_init_15 : decode cX2_init 15 = .ok (.aload_n 0, 1) := by decide +kernel
theorem dX2_init_16 : decode cX2_init 16 = .ok (.iconst 0, 1) := by decide +kernel
theorem dX2_init_17 : decode cX2_init 17 = .ok (.putfield 16, 3) := by decide +kernel
theorem dX2_init_20 : decode cX2_init 20 = .ok (.return_, 1) := by decide +kernel
theorem dX3_init_0 : decode cX3_init 0 = .ok (.aload_n 0, 1) := by decide +kernel
theorem dX3_init_1 : decode cX3_init 1 = .ok (.invokespecial 3, 3) := by decide +kernel
theorem dX3_init_4 : decode cX3_init 4 = .ok (.aload_n 0, 1) := by decide +kernel
theorem dX3_init_5 : decode cX3_init 5 = .ok (.bipush 24, 2) := by decide +kernel
theorem dX3_init_7 : decode cX3_init 7 = .ok (.newarray .int, 2) := by decide +kernel
theorem dX3_init_9 : decode cX3_init 9 = .ok (.putfield 9, 3) := by decide +kernel
theorem dX3_init_12 : decode cX3_init 12 = .ok (.aload_n 0, 1) := by decide +kernel
theorem dX3_init_13 : decode cX3_init 13 = .ok (.bipush 24, 2) := by decide +kernel
theorem dX3_init_15 : decode cX3_init 15 = .ok (.newarray .boolean, 2) := by decide +kernel
theorem dX3_init_17 : decode cX3_init 17 = .ok (.putfield 15, 3) := by decide +kernel
theorem dX3_init_20 : decode cX3_init 20 = .ok (.aload_n 0, 1) := by decide +kernel
theorem dX3_init_21 : decode cX3_init 21 = .ok (.iconst 3, 1) := by decide +kernel
theorem dX3_init_22 : decode cX3_init 22 = .ok (.newarray .int, 2) := by decide +kernel
theorem dX3_init_24 : decode cX3_init 24 = .ok (.putfield 19, 3) := by decide +kernel
theorem dX3_init_27 : decode cX3_init 27 = .ok (.aload_n 0, 1) := by decide +kernel
theorem dX3_init_28 : decode cX3_init 28 = .ok (.iconst 3, 1) := by decide +kernel
theorem dX3_init_29 : decode cX3_init 29 = .ok (.newarray .int, 2) := by decide +kernel
theorem dX3_init_31 : decode cX3_init 31 = .ok (.putfield 22, 3) := by decide +kernel
theorem dX3_init_34 : decode cX3_init 34 = .ok (.aload_n 0, 1) := by decide +kernel
theorem dX3_init_35 : decode cX3_init 35 = .ok (.bipush 12, 2) := by decide +kernel
theorem dX3_init_37 : decode cX3_init 37 = .ok (.putfield 25, 3) := by decide +kernel
theorem dX3_init_40 : decode cX3_init 40 = .ok (.aload_n 0, 1) := by decide +kernel
theorem dX3_init_41 : decode cX3_init 41 = .ok (.iconst 0, 1) := by decide +kernel
theorem dX3_init_42 : decode cX3_init 42 = .ok (.putfield 29, 3) := by decide +kernel
theorem dX3_init_45 : decode cX3_init 45 = .ok (.aload_n 0, 1) := by decide +kernel
theorem dX3_init_46 : decode cX3_init 46 = .ok (.iconst 2, 1) := by decide +kernel
theorem dX3_init_47 : decode cX3_init 47 = .ok (.putfield 32, 3) := by decide +kernel
theorem dX3_init_50 : decode cX3_init 50 = .ok (.aload_n 0, 1) := by decide +kernel
theorem dX3_init_51 : decode cX3_init 51 = .ok (.iconst 3, 1) := by decide +kernel
theorem dX3_init_52 : decode cX3_init 52 = .ok (.putfield 35, 3) := by decide +kernel
theorem dX3_init_55 : decode cX3_init 55 = .ok (.aload_n 0, 1) := by decide +kernel
theorem dX3_init_56 : decode cX3_init 56 = .ok (.iconst 3, 1) := by decide +kernel
theorem dX3_init_57 : decode cX3_init 57 = .ok (.putfield 38, 3) := by decide +kernel
theorem dX3_init_60 : decode cX3_init 60 = .ok (.return_, 1) := by decide +kernel
theorem dX3_begin_0 : decode cX3_begin 0 = .ok (.iconst 0, 1) := by decide +kernel
theorem dX3_begin_1 : decode cX3_begin 1 = .ok (.istore_n 1, 1) := by decide +kernel
theorem dX3_begin_2 : decode cX3_begin 2 = .ok (.iload_n 1, 1) := by decide +kernel
theorem dX3_begin_3 : decode cX3_begin 3 = .ok (.aload_n 0, 1) := by decide +kernel
theorem dX3_begin_4 : decode cX3_begin 4 = .ok (.getfield 9, 3) := by decide +kernel
theorem dX3_begin_7 : decode cX3_begin 7 = .ok (.arraylength, 1) := by decide +kernel
theorem dX3_begin_8 : decode cX3_begin 8 = .ok (.if_icmp .ge 32, 3) := by decide +kernel
theorem dX3_begin_11 : decode cX3_begin 11 = .ok (.iload_n 1, 1) := by decide +kernel
theorem dX3_begin_12 : decode cX3_begin 12 = .ok (.aload_n 0, 1) := by decide +kernel
theorem dX3_begin_13 : decode cX3_begin 13 = .ok (.getfield 15, 3) := by decide +kernel
theorem dX3_begin_16 : decode cX3_begin 16 = .ok (.arraylength, 1) := by decide +kernel
theorem dX3_begin_17 : decode cX3_begin 17 = .ok (.if_icmp .ge 23, 3) := by decide +kernel
theorem dX3_begin_20 : decode cX3_begin 20 = .ok (.aload_n 0, 1) := by decide +kernel
theorem dX3_begin_21 : decode cX3_begin 21 = .ok (.getfield 9, 3) := by decide +kernel
theorem dX3_begin_24 : decode cX3_begin 24 = .ok (.iload_n 1, 1) := by decide +kernel
theorem dX3_begin_25 : decode cX3_begin 25 = .ok (.iconst 0, 1) := by decide +kernel
theorem dX3_begin_26 : decode cX3_begin 26 = .ok (.iastore, 1) := by decide +kernel
theorem dX3_begin_27 : decode cX3_begin 27 = .ok (.aload_n 0, 1) := by decide +kernel
theorem dX3_begin_28 : decode cX3_begin 28 = .ok (.getfield 15, 3) := by decide +kernel
theorem dX3_begin_31 : decode cX3_begin 31 = .ok (.iload_n 1, 1) := by decide +kernel
theorem dX3_begin_32 : decode cX3_begin 32 = .ok (.iconst 0, 1) := by decide +kernel
theorem dX3_begin_33 : decode cX3_begin 33 = .ok (.bastore, 1) := by decide +kernel
theorem dX3_begin_34 : decode cX3_begin 34 = .ok (.iinc 1 1, 3) := by decide +kernel
theorem dX3_begin_37 : decode cX3_begin 37 = .ok (.goto (-35), 3) := by decide +kernel
theorem dX3_begin_40 : decode cX3_begin 40 = .ok (.aload_n 0, 1) := by decide +kernel
theorem dX3_begin_41 : decode cX3_begin 41 = .ok (.bipush 12, 2) := by decide +kernel
theorem dX3_begin_43 : decode cX3_begin 43 = .ok (.putfield 25, 3) := by decide +kernel
theorem dX3_begin_46 : decode cX3_begin 46 = .ok (.aload_n 0, 1) := by decide +kernel
theorem dX3_begin_47 : decode cX3_begin 47 = .ok (.iconst 0, 1) := by decide +kernel
theorem dX3_begin_48 : decode cX3_begin 48 = .ok (.putfield 29, 3) := by decide +kernel
theorem dX3_begin_51 : decode cX3_begin 51 = .ok (.aload_n 0, 1) := by decide +kernel
theorem dX3_begin_52 : decode cX3_begin 52 = .ok (.iconst 2, 1) := by decide +kernel
theorem dX3_begin_53 : decode cX3_begin 53 = .ok (.putfield 32, 3) := by decide +kernel
theorem dX3_begin_56 : decode cX3_begin 56 = .ok (.aload_n 0, 1) := by decide +kernel
theorem dX3_begin_57 : decode cX3_begin 57 = .ok (.iconst 3, 1) := by decide +kernel
theorem dX3_begin_58 : decode cX3_begin 58 = .ok (.putfield 35, 3) := by decide +kernel
theorem dX3_begin_61 : decode cX3_begin 61 = .ok (.aload_n 0, 1) := by decide +kernel
theorem dX3_begin_62 : decode cX3_begin 62 = .ok (.iconst 3, 1) := by decide +kernel
theorem dX3_begin_63 : decode cX3_begin 63 = .ok (.putfield 38, 3) := by decide +kernel
theorem dX3_begin_66 : decode cX3_begin 66 = .ok (.return_, 1) := by decide +kernel
theorem dX3_setWind_0 : decode cX3_setWind 0 = .ok (.iload_n 1, 1) := by decide +kernel
theorem dX3_setWind_1 : decode cX3_setWind 1 = .ok (.ifCond .lt 19, 3) := by decide +kernel
theorem dX3_setWind_4 : decode cX3_setWind 4 = .ok (.iload_n 1, 1) := by decide +kernel
theorem dX3_setWind_5 : decode cX3_setWind 5 = .ok (.aload_n 0, 1) := by decide +kernel
theorem dX3_setWind_6 : decode cX3_setWind 6 = .ok (.getfield 9, 3) := by decide +kernel
theorem dX3_setWind_9 : decode cX3_setWind 9 = .ok (.arraylength, 1) := by decide +kernel
theorem dX3_setWind_10 : decode cX3_setWind 10 = .ok (.if_icmp .ge 10, 3) := by decide +kernel
theorem dX3_setWind_13 : decode cX3_setWind 13 = .ok (.aload_n 0, 1) := by decide +kernel
theorem dX3_setWind_14 : decode cX3_setWind 14 = .ok (.getfield 9, 3) := by decide +kernel
theorem dX3_setWind_17 : decode cX3_setWind 17 = .ok (.iload_n 1, 1) := by decide +kernel
theorem dX3_setWind_18 : decode cX3_setWind 18 = .ok (.iload_n 2, 1) := by decide +kernel
theorem dX3_setWind_19 : decode cX3_setWind 19 = .ok (.iastore, 1) := by decide +kernel
theorem dX3_setWind_20 : decode cX3_setWind 20 = .ok (.return_, 1) := by decide +kernel
theorem dX3_setWet_0 : decode cX3_setWet 0 = .ok (.iload_n 1, 1) := by decide +kernel
theorem dX3_setWet_1 : decode cX3_setWet 1 = .ok (.ifCond .lt 19, 3) := by decide +kernel
theorem dX3_setWet_4 : decode cX3_setWet 4 = .ok (.iload_n 1, 1) := by decide +kernel
theorem dX3_setWet_5 : decode cX3_setWet 5 = .ok (.aload_n 0, 1) := by decide +kernel
theorem dX3_setWet_6 : decode cX3_setWet 6 = .ok (.getfield 15, 3) := by decide +kernel
theorem dX3_setWet_9 : decode cX3_setWet 9 = .ok (.arraylength, 1) := by decide +kernel
theorem dX3_setWet_10 : decode cX3_setWet 10 = .ok (.if_icmp .ge 10, 3) := by decide +kernel
theorem dX3_setWet_13 : decode cX3_setWet 13 = .ok (.aload_n 0, 1) := by decide +kernel
theorem dX3_setWet_14 : decode cX3_setWet 14 = .ok (.getfield 15, 3) := by decide +kernel
theorem dX3_setWet_17 : decode cX3_setWet 17 = .ok (.iload_n 1, 1) := by decide +kernel
theorem dX3_setWet_18 : decode cX3_setWet 18 = .ok (.iconst 1, 1) := by decide +kernel
theorem dX3_setWet_19 : decode cX3_setWet 19 = .ok (.bastore, 1) := by decide +kernel
theorem dX3_setWet_20 : decode cX3_setWet 20 = .ok (.return_, 1) := by decide +kernel
theorem dX3_addRunner_0 : decode cX3_addRunner 0 = .ok (.aload_n 0, 1) := by decide +kernel
theorem dX3_addRunner_1 : decode cX3_addRunner 1 = .ok (.getfield 29, 3) := by decide +kernel
theorem dX3_addRunner_4 : decode cX3_addRunner 4 = .ok (.ifCond .lt 57, 3) := by decide +kernel
theorem dX3_addRunner_7 : decode cX3_addRunner 7 = .ok (.aload_n 0, 1) := by decide +kernel
theorem dX3_addRunner_8 : decode cX3_addRunner 8 = .ok (.getfield 29, 3) := by decide +kernel
theorem dX3_addRunner_11 : decode cX3_addRunner 11 = .ok (.aload_n 0, 1) := by decide +kernel
theorem dX3_addRunner_12 : decode cX3_addRunner 12 = .ok (.getfield 19, 3) := by decide +kernel
theorem dX3_addRunner_15 : decode cX3_addRunner 15 = .ok (.arraylength, 1) := by decide +kernel
theorem dX3_addRunner_16 : decode cX3_addRunner 16 = .ok (.if_icmp .ge 45, 3) := by decide +kernel
theorem dX3_addRunner_19 : decode cX3_addRunner 19 = .ok (.aload_n 0, 1) := by decide +kernel
theorem dX3_addRunner_20 : decode cX3_addRunner 20 = .ok (.getfield 29, 3) := by decide +kernel
theorem dX3_addRunner_23 : decode cX3_addRunner 23 = .ok (.aload_n 0, 1) := by decide +kernel
theorem dX3_addRunner_24 : decode cX3_addRunner 24 = .ok (.getfield 22, 3) := by decide +kernel
theorem dX3_addRunner_27 : decode cX3_addRunner 27 = .ok (.arraylength, 1) := by decide +kernel
theorem dX3_addRunner_28 : decode cX3_addRunner 28 = .ok (.if_icmp .ge 33, 3) := by decide +kernel
theorem dX3_addRunner_31 : decode cX3_addRunner 31 = .ok (.aload_n 0, 1) := by decide +kernel
theorem dX3_addRunner_32 : decode cX3_addRunner 32 = .ok (.getfield 19, 3) := by decide +kernel
theorem dX3_addRunner_35 : decode cX3_addRunner 35 = .ok (.aload_n 0, 1) := by decide +kernel
theorem dX3_addRunner_36 : decode cX3_addRunner 36 = .ok (.getfield 29, 3) := by decide +kernel
theorem dX3_addRunner_39 : decode cX3_addRunner 39 = .ok (.iload_n 1, 1) := by decide +kernel
theorem dX3_addRunner_40 : decode cX3_addRunner 40 = .ok (.iastore, 1) := by decide +kernel
theorem dX3_addRunner_41 : decode cX3_addRunner 41 = .ok (.aload_n 0, 1) := by decide +kernel
theorem dX3_addRunner_42 : decode cX3_addRunner 42 = .ok (.getfield 22, 3) := by decide +kernel
theorem dX3_addRunner_45 : decode cX3_addRunner 45 = .ok (.aload_n 0, 1) := by decide +kernel
theorem dX3_addRunner_46 : decode cX3_addRunner 46 = .ok (.getfield 29, 3) := by decide +kernel
theorem dX3_addRunner_49 : decode cX3_addRunner 49 = .ok (.iload_n 2, 1) := by decide +kernel
theorem dX3_addRunner_50 : decode cX3_addRunner 50 = .ok (.iastore, 1) := by decide +kernel
theorem dX3_addRunner_51 : decode cX3_addRunner 51 = .ok (.aload_n 0, 1) := by decide +kernel
theorem dX3_addRunner_52 : decode cX3_addRunner 52 = .ok (.dup, 1) := by decide +kernel
theorem dX3_addRunner_53 : decode cX3_addRunner 53 = .ok (.getfield 29, 3) := by decide +kernel
theorem dX3_addRunner_56 : decode cX3_addRunner 56 = .ok (.iconst 1, 1) := by decide +kernel
theorem dX3_addRunner_57 : decode cX3_addRunner 57 = .ok (.iadd, 1) := by decide +kernel
theorem dX3_addRunner_58 : decode cX3_addRunner 58 = .ok (.putfield 29, 3) := by decide +kernel
theorem dX3_addRunner_61 : decode cX3_addRunner 61 = .ok (.return_, 1) := by decide +kernel
theorem dX3_isYard_0 : decode cX3_isYard 0 = .ok (.iload_n 1, 1) := by decide +kernel
theorem dX3_isYard_1 : decode cX3_isYard 1 = .ok (.ifCond .lt 15, 3) := by decide +kernel
theorem dX3_isYard_4 : decode cX3_isYard 4 = .ok (.iload_n 1, 1) := by decide +kernel
theorem dX3_isYard_5 : decode cX3_isYard 5 = .ok (.aload_n 0, 1) := by decide +kernel
theorem dX3_isYard_6 : decode cX3_isYard 6 = .ok (.getfield 25, 3) := by decide +kernel
theorem dX3_isYard_9 : decode cX3_isYard 9 = .ok (.if_icmp .ge 7, 3) := by decide +kernel
theorem dX3_isYard_12 : decode cX3_isYard 12 = .ok (.iconst 1, 1) := by decide +kernel
theorem dX3_isYard_13 : decode cX3_isYard 13 = .ok (.goto 4, 3) := by decide +kernel
theorem dX3_isYard_16 : decode cX3_isYard 16 = .ok (.iconst 0, 1) := by decide +kernel
theorem dX3_isYard_17 : decode cX3_isYard 17 = .ok (.ireturn, 1) := by decide +kernel
theorem dX3_isRunner_0 : decode cX3_isRunner 0 = .ok (.iload_n 1, 1) := by decide +kernel
theorem dX3_isRunner_1 : decode cX3_isRunner 1 = .ok (.ifCond .lt 15, 3) := by decide +kernel
theorem dX3_isRunner_4 : decode cX3_isRunner 4 = .ok (.iload_n 1, 1) := by decide +kernel
theorem dX3_isRunner_5 : decode cX3_isRunner 5 = .ok (.aload_n 0, 1) := by decide +kernel
theorem dX3_isRunner_6 : decode cX3_isRunner 6 = .ok (.getfield 29, 3) := by decide +kernel
theorem dX3_isRunner_9 : decode cX3_isRunner 9 = .ok (.if_icmp .ge 7, 3) := by decide +kernel
theorem dX3_isRunner_12 : decode cX3_isRunner 12 = .ok (.iconst 1, 1) := by decide +kernel
theorem dX3_isRunner_13 : decode cX3_isRunner 13 = .ok (.goto 4, 3) := by decide +kernel
theorem dX3_isRunner_16 : decode cX3_isRunner 16 = .ok (.iconst 0, 1) := by decide +kernel
theorem dX3_isRunner_17 : decode cX3_isRunner 17 = .ok (.ireturn, 1) := by decide +kernel
theorem dX3_windAt_0 : decode cX3_windAt 0 = .ok (.iload_n 1, 1) := by decide +kernel
theorem dX3_windAt_1 : decode cX3_windAt 1 = .ok (.ifCond .lt 21, 3) := by decide +kernel
theorem dX3_windAt_4 : decode cX3_windAt 4 = .ok (.iload_n 1, 1) := by decide +kernel
theorem dX3_windAt_5 : decode cX3_windAt 5 = .ok (.aload_n 0, 1) := by decide +kernel
theorem dX3_windAt_6 : decode cX3_windAt 6 = .ok (.getfield 9, 3) := by decide +kernel
theorem dX3_windAt_9 : decode cX3_windAt 9 = .ok (.arraylength, 1) := by decide +kernel
theorem dX3_windAt_10 : decode cX3_windAt 10 = .ok (.if_icmp .ge 12, 3) := by decide +kernel
theorem dX3_windAt_13 : decode cX3_windAt 13 = .ok (.aload_n 0, 1) := by decide +kernel
theorem dX3_windAt_14 : decode cX3_windAt 14 = .ok (.getfield 9, 3) := by decide +kernel
theorem dX3_windAt_17 : decode cX3_windAt 17 = .ok (.iload_n 1, 1) := by decide +kernel
theorem dX3_windAt_18 : decode cX3_windAt 18 = .ok (.iaload, 1) := by decide +kernel
theorem dX3_windAt_19 : decode cX3_windAt 19 = .ok (.goto 4, 3) := by decide +kernel
theorem dX3_windAt_22 : decode cX3_windAt 22 = .ok (.iconst 0, 1) := by decide +kernel
theorem dX3_windAt_23 : decode cX3_windAt 23 = .ok (.ireturn, 1) := by decide +kernel
set_option maxRecDepth 20000 in
theorem ggX3_isWet_X3_isYard : GoodIn wsX3_isWet wsX3_isYard := goodIn_r _ [6, 7, 8, 9, 10, 11, 12, 13, 14, 15, 16] (by decide +kernel) (by decide +kernel)
set_option maxRecDepth 20000 in
theorem gX3_isWet_X3_isYard : GoodIn wsX3_isWet (wsV RX3 41 RX3 yX3_isYard wsX3_isYard) := goodIn_app (goodIn_of _ (by decide +kernel)) ggX3_isWet_X3_isYard
theorem dX3_isWet_0 : decode cX3_isWet 0 = .ok (.aload_n 0, 1) := by decide +kernel
theorem dX3_isWet_1 : decode cX3_isWet 1 = .ok (.iload_n 1, 1) := by decide +kernel
theorem dX3_isWet_2 : decode cX3_isWet 2 = .ok (.invokevirtual 41, 3) := by decide +kernel
theorem dX3_isWet_5 : decode cX3_isWet 5 = .ok (.ifCond .eq 25, 3) := by decide +kernel
theorem dX3_isWet_8 : decode cX3_isWet 8 = .ok (.iload_n 1, 1) := by decide +kernel
theorem dX3_isWet_9 : decode cX3_isWet 9 = .ok (.aload_n 0, 1) := by decide +kernel
theorem dX3_isWet_10 : decode cX3_isWet 10 = .ok (.getfield 15, 3) := by decide +kernel
theorem dX3_isWet_13 : decode cX3_isWet 13 = .ok (.arraylength, 1) := by decide +kernel
theorem dX3_isWet_14 : decode cX3_isWet 14 = .ok (.if_icmp .ge 16, 3) := by decide +kernel
theorem dX3_isWet_17 : decode cX3_isWet 17 = .ok (.aload_n 0, 1) := by decide +kernel
theorem dX3_isWet_18 : decode cX3_isWet 18 = .ok (.getfield 15, 3) := by decide +kernel
theorem dX3_isWet_21 : decode cX3_isWet 21 = .ok (.iload_n 1, 1) := by decide +kernel
theorem dX3_isWet_22 : decode cX3_isWet 22 = .ok (.baload, 1) := by decide +kernel
theorem dX3_isWet_23 : decode cX3_isWet 23 = .ok (.ifCond .eq 7, 3) := by decide +kernel
theorem dX3_isWet_26 : decode cX3_isWet 26 = .ok (.iconst 1, 1) := by decide +kernel
theorem dX3_isWet_27 : decode cX3_isWet 27 = .ok (.goto 4, 3) := by decide +kernel
theorem dX3_isWet_30 : decode cX3_isWet 30 = .ok (.iconst 0, 1) := by decide +kernel
theorem dX3_isWet_31 : decode cX3_isWet 31 = .ok (.ireturn, 1) := by decide +kernel
theorem dX3_paceOf_0 : decode cX3_paceOf 0 = .ok (.iload_n 1, 1) := by decide +kernel
theorem dX3_paceOf_1 : decode cX3_paceOf 1 = .ok (.ifCond .lt 21, 3) := by decide +kernel
theorem dX3_paceOf_4 : decode cX3_paceOf 4 = .ok (.iload_n 1, 1) := by decide +kernel
theorem dX3_paceOf_5 : decode cX3_paceOf 5 = .ok (.aload_n 0, 1) := by decide +kernel
theorem dX3_paceOf_6 : decode cX3_paceOf 6 = .ok (.getfield 19, 3) := by decide +kernel
theorem dX3_paceOf_9 : decode cX3_paceOf 9 = .ok (.arraylength, 1) := by decide +kernel
theorem dX3_paceOf_10 : decode cX3_paceOf 10 = .ok (.if_icmp .ge 12, 3) := by decide +kernel
theorem dX3_paceOf_13 : decode cX3_paceOf 13 = .ok (.aload_n 0, 1) := by decide +kernel
theorem dX3_paceOf_14 : decode cX3_paceOf 14 = .ok (.getfield 19, 3) := by decide +kernel
theorem dX3_paceOf_17 : decode cX3_paceOf 17 = .ok (.iload_n 1, 1) := by decide +kernel
theorem dX3_paceOf_18 : decode cX3_paceOf 18 = .ok (.iaload, 1) := by decide +kernel
theorem dX3_paceOf_19 : decode cX3_paceOf 19 = .ok (.goto 4, 3) := by decide +kernel
theorem dX3_paceOf_22 : decode cX3_paceOf 22 = .ok (.iconst 0, 1) := by decide +kernel
theorem dX3_paceOf_23 : decode cX3_paceOf 23 = .ok (.ireturn, 1) := by decide +kernel
theorem dX3_panOf_0 : decode cX3_panOf 0 = .ok (.iload_n 1, 1) := by decide +kernel
theorem dX3_panOf_1 : decode cX3_panOf 1 = .ok (.ifCond .lt 21, 3) := by decide +kernel
theorem dX3_panOf_4 : decode cX3_panOf 4 = .ok (.iload_n 1, 1) := by decide +kernel
theorem dX3_panOf_5 : decode cX3_panOf 5 = .ok (.aload_n 0, 1) := by decide +kernel
theorem dX3_panOf_6 : decode cX3_panOf 6 = .ok (.getfield 22, 3) := by decide +kernel
theorem dX3_panOf_9 : decode cX3_panOf 9 = .ok (.arraylength, 1) := by decide +kernel
theorem dX3_panOf_10 : decode cX3_panOf 10 = .ok (.if_icmp .ge 12, 3) := by decide +kernel
theorem dX3_panOf_13 : decode cX3_panOf 13 = .ok (.aload_n 0, 1) := by decide +kernel
theorem dX3_panOf_14 : decode cX3_panOf 14 = .ok (.getfield 22, 3) := by decide +kernel
theorem dX3_panOf_17 : decode cX3_panOf 17 = .ok (.iload_n 1, 1) := by decide +kernel
theorem dX3_panOf_18 : decode cX3_panOf 18 = .ok (.iaload, 1) := by decide +kernel
theorem dX3_panOf_19 : decode cX3_panOf 19 = .ok (.goto 4, 3) := by decide +kernel
theorem dX3_panOf_22 : decode cX3_panOf 22 = .ok (.iconst 0, 1) := by decide +kernel
theorem dX3_panOf_23 : decode cX3_panOf 23 = .ok (.ireturn, 1) := by decide +kernel
set_option maxRecDepth 20000 in
theorem ggX3_yardOnRun_X3_paceOf : GoodIn wsX3_yardOnRun wsX3_paceOf := goodIn_r _ [10, 11, 12, 13, 14, 15, 16, 17, 18, 19, 20] (by decide +kernel) (by decide +kernel)
set_option maxRecDepth 20000 in
theorem gX3_yardOnRun_X3_paceOf : GoodIn wsX3_yardOnRun (wsV RX3 45 RX3 yX3_paceOf wsX3_paceOf) := goodIn_app (goodIn_of _ (by decide +kernel)) ggX3_yardOnRun_X3_paceOf
theorem dX3_yardOnRun_0 : decode cX3_yardOnRun 0 = .ok (.aload_n 0, 1) := by decide +kernel
theorem dX3_yardOnRun_1 : decode cX3_yardOnRun 1 = .ok (.getfield 25, 3) := by decide +kernel
theorem dX3_yardOnRun_4 : decode cX3_yardOnRun 4 = .ok (.iload_n 2, 1) := by decide +kernel
theorem dX3_yardOnRun_5 : decode cX3_yardOnRun 5 = .ok (.aload_n 0, 1) := by decide +kernel
theorem dX3_yardOnRun_6 : decode cX3_yardOnRun 6 = .ok (.iload_n 1, 1) := by decide +kernel
theorem dX3_yardOnRun_7 : decode cX3_yardOnRun 7 = .ok (.invokevirtual 45, 3) := by decide +kernel
theorem dX3_yardOnRun_10 : decode cX3_yardOnRun 10 = .ok (.iload_n 3, 1) := by decide +kernel
theorem dX3_yardOnRun_11 : decode cX3_yardOnRun 11 = .ok (.imul, 1) := by decide +kernel
theorem dX3_yardOnRun_12 : decode cX3_yardOnRun 12 = .ok (.iadd, 1) := by decide +kernel
theorem dX3_yardOnRun_13 : decode cX3_yardOnRun 13 = .ok (.invokestatic 49, 3) := by decide +kernel
theorem dX3_yardOnRun_16 : decode cX3_yardOnRun 16 = .ok (.ireturn, 1) := by decide +kernel
set_option maxRecDepth 20000 in
theorem ggX3_comesDown_X3_windAt : GoodIn wsX3_comesDown wsX3_windAt := goodIn_r _ [5, 6, 7, 8, 9, 10, 11, 12, 13, 14, 15] (by decide +kernel) (by decide +kernel)
set_option maxRecDepth 20000 in
theorem gX3_comesDown_X3_windAt : GoodIn wsX3_comesDown (wsV RX3 55 RX3 yX3_windAt wsX3_windAt) := goodIn_app (goodIn_of _ (by decide +kernel)) ggX3_comesDown_X3_windAt
theorem dX3_comesDown_0 : decode cX3_comesDown 0 = .ok (.iload_n 1, 1) := by decide +kernel
theorem dX3_comesDown_1 : decode cX3_comesDown 1 = .ok (.iload_n 3, 1) := by decide +kernel
theorem dX3_comesDown_2 : decode cX3_comesDown 2 = .ok (.iadd, 1) := by decide +kernel
theorem dX3_comesDown_3 : decode cX3_comesDown 3 = .ok (.iload_n 2, 1) := by decide +kernel
theorem dX3_comesDown_4 : decode cX3_comesDown 4 = .ok (.aload_n 0, 1) := by decide +kernel
theorem dX3_comesDown_5 : decode cX3_comesDown 5 = .ok (.iload_n 1, 1) := by decide +kernel
theorem dX3_comesDown_6 : decode cX3_comesDown 6 = .ok (.invokevirtual 55, 3) := by decide +kernel
theorem dX3_comesDown_9 : decode cX3_comesDown 9 = .ok (.imul, 1) := by decide +kernel
theorem dX3_comesDown_10 : decode cX3_comesDown 10 = .ok (.isub, 1) := by decide +kernel
theorem dX3_comesDown_11 : decode cX3_comesDown 11 = .ok (.ireturn, 1) := by decide +kernel
set_option maxRecDepth 20000 in
theorem ggX3_yardAfter_X9_beatsInAir : GoodIn wsX3_yardAfter wsX9_beatsInAir := goodIn_r _ [3] (by decide +kernel) (by decide +kernel)
set_option maxRecDepth 20000 in
theorem gX3_yardAfter_X9_beatsInAir_n58 : GoodIn wsX3_yardAfter (wsX9_beatsInAir) := ggX3_yardAfter_X9_beatsInAir
set_option maxRecDepth 20000 in
theorem ggX3_yardAfter_X3_yardOnRun : GoodIn wsX3_yardAfter wsX3_yardOnRun := goodIn_r _ [8, 9, 10, 11, 12, 13, 14, 15, 16, 7, 17, 18, 19, 20, 21, 22, 23, 24, 25, 26, 27] (by decide +kernel) (by decide +kernel)
set_option maxRecDepth 20000 in
theorem gX3_yardAfter_X3_yardOnRun : GoodIn wsX3_yardAfter (wsV RX3 61 RX3 yX3_yardOnRun wsX3_yardOnRun) := goodIn_app (goodIn_of _ (by decide +kernel)) ggX3_yardAfter_X3_yardOnRun
theorem dX3_yardAfter_0 : decode cX3_yardAfter 0 = .ok (.iload 4, 2) := by decide +kernel
theorem dX3_yardAfter_2 : decode cX3_yardAfter 2 = .ok (.iconst 1, 1) := by decide +kernel
theorem dX3_yardAfter_3 : decode cX3_yardAfter 3 = .ok (.if_icmp .ne 16, 3) := by decide +kernel
theorem dX3_yardAfter_6 : decode cX3_yardAfter 6 = .ok (.aload_n 0, 1) := by decide +kernel
theorem dX3_yardAfter_7 : decode cX3_yardAfter 7 = .ok (.iload_n 1, 1) := by decide +kernel
theorem dX3_yardAfter_8 : decode cX3_yardAfter 8 = .ok (.iload_n 2, 1) := by decide +kernel
theorem dX3_yardAfter_9 : decode cX3_yardAfter 9 = .ok (.iload_n 3, 1) := by decide +kernel
theorem dX3_yardAfter_10 : decode cX3_yardAfter 10 = .ok (.invokestatic 58, 3) := by decide +kernel
theorem dX3_yardAfter_13 : decode cX3_yardAfter 13 = .ok (.invokevirtual 61, 3) := by decide +kernel
theorem dX3_yardAfter_16 : decode cX3_yardAfter 16 = .ok (.goto 4, 3) := by decide +kernel
theorem dX3_yardAfter_19 : decode cX3_yardAfter 19 = .ok (.iload_n 2, 1) := by decide +kernel
theorem dX3_yardAfter_20 : decode cX3_yardAfter 20 = .ok (.ireturn, 1) := by decide +kernel
set_option maxRecDepth 20000 in
theorem ggX3_catchOf_X3_yardAfter : GoodIn wsX3_catchOf wsX3_yardAfter := goodIn_r _ [15, 16, 17, 18, 19, 20, 21, 14, 22, 23, 5, 6, 3, 7, 24, 25, 26, 27, 28, 54, 55, 56, 57, 58, 59, 60, 61, 62] (by decide +kernel) (by decide +kernel)
set_option maxRecDepth 20000 in
theorem gX3_catchOf_X3_yardAfter : GoodIn wsX3_catchOf (wsV RX3 65 RX3 yX3_yardAfter wsX3_yardAfter) := goodIn_app (goodIn_of _ (by decide +kernel)) ggX3_catchOf_X3_yardAfter
set_option maxRecDepth 20000 in
theorem ggX3_catchOf_X3_comesDown : GoodIn wsX3_catchOf wsX3_comesDown := goodIn_r _ [32, 33, 34, 35, 14, 36, 37, 54, 55, 56, 57, 58, 59, 60, 61, 62] (by decide +kernel) (by decide +kernel)
set_option maxRecDepth 20000 in
theorem gX3_catchOf_X3_comesDown : GoodIn wsX3_catchOf (wsV RX3 69 RX3 yX3_comesDown wsX3_comesDown) := goodIn_app (goodIn_of _ (by decide +kernel)) ggX3_catchOf_X3_comesDown
set_option maxRecDepth 20000 in
theorem ggX3_catchOf_X3_panOf : GoodIn wsX3_catchOf wsX3_panOf := goodIn_r _ [41, 42, 54, 55, 56, 57, 58, 59, 60, 61, 62] (by decide +kernel) (by decide +kernel)
set_option maxRecDepth 20000 in
theorem gX3_catchOf_X3_panOf : GoodIn wsX3_catchOf (wsV RX3 75 RX3 yX3_panOf wsX3_panOf) := goodIn_app (goodIn_of _ (by decide +kernel)) ggX3_catchOf_X3_panOf
set_option maxRecDepth 20000 in
theorem ggX3_catchOf_X9_quarters : GoodIn wsX3_catchOf wsX9_quarters := goodIn_r _ [44] (by decide +kernel) (by decide +kernel)
set_option maxRecDepth 20000 in
theorem gX3_catchOf_X9_quarters_n78 : GoodIn wsX3_catchOf (wsX9_quarters) := ggX3_catchOf_X9_quarters
set_option maxRecDepth 20000 in
theorem ggX3_catchOf_X3_isWet : GoodIn wsX3_catchOf wsX3_isWet := goodIn_r _ [48, 49, 50, 51, 52, 14, 53, 23, 54, 55, 56, 57, 58, 59, 60, 61, 62] (by decide +kernel) (by decide +kernel)
set_option maxRecDepth 20000 in
theorem gX3_catchOf_X3_isWet : GoodIn wsX3_catchOf (wsV RX3 81 RX3 yX3_isWet wsX3_isWet) := goodIn_app (goodIn_of _ (by decide +kernel)) ggX3_catchOf_X3_isWet
theorem dX3_catchOf_0 : decode cX3_catchOf 0 = .ok (.aload_n 0, 1) := by decide +kernel
theorem dX3_catchOf_1 : decode cX3_catchOf 1 = .ok (.iload_n 1, 1) := by decide +kernel
theorem dX3_catchOf_2 : decode cX3_catchOf 2 = .ok (.iload_n 2, 1) := by decide +kernel
theorem dX3_catchOf_3 : decode cX3_catchOf 3 = .ok (.iload_n 3, 1) := by decide +kernel
theorem dX3_catchOf_4 : decode cX3_catchOf 4 = .ok (.iload 6, 2) := by decide +kernel
theorem dX3_catchOf_6 : decode cX3_catchOf 6 = .ok (.invokevirtual 65, 3) := by decide +kernel
theorem dX3_catchOf_9 : decode cX3_catchOf 9 = .ok (.istore 7, 2) := by decide +kernel
theorem dX3_catchOf_11 : decode cX3_catchOf 11 = .ok (.aload_n 0, 1) := by decide +kernel
theorem dX3_catchOf_12 : decode cX3_catchOf 12 = .ok (.iload_n 2, 1) := by decide +kernel
theorem dX3_catchOf_13 : decode cX3_catchOf 13 = .ok (.iload_n 3, 1) := by decide +kernel
theorem dX3_catchOf_14 : decode cX3_catchOf 14 = .ok (.iload 4, 2) := by decide +kernel
theorem dX3_catchOf_16 : decode cX3_catchOf 16 = .ok (.invokevirtual 69, 3) := by decide +kernel
theorem dX3_catchOf_19 : decode cX3_catchOf 19 = .ok (.iload 7, 2) := by decide +kernel
theorem dX3_catchOf_21 : decode cX3_catchOf 21 = .ok (.isub, 1) := by decide +kernel
theorem dX3_catchOf_22 : decode cX3_catchOf 22 = .ok (.invokestatic 72, 3) := by decide +kernel
theorem dX3_catchOf_25 : decode cX3_catchOf 25 = .ok (.istore 8, 2) := by decide +kernel
theorem dX3_catchOf_27 : decode cX3_catchOf 27 = .ok (.aload_n 0, 1) := by decide +kernel
theorem dX3_catchOf_28 : decode cX3_catchOf 28 = .ok (.iload_n 1, 1) := by decide +kernel
theorem dX3_catchOf_29 : decode cX3_catchOf 29 = .ok (.invokevirtual 75, 3) := by decide +kernel
theorem dX3_catchOf_32 : decode cX3_catchOf 32 = .ok (.iconst 3, 1) := by decide +kernel
theorem dX3_catchOf_33 : decode cX3_catchOf 33 = .ok (.iadd, 1) := by decide +kernel
theorem dX3_catchOf_34 : decode cX3_catchOf 34 = .ok (.iconst 3, 1) := by decide +kernel
theorem dX3_catchOf_35 : decode cX3_catchOf 35 = .ok (.iload 8, 2) := by decide +kernel
theorem dX3_catchOf_37 : decode cX3_catchOf 37 = .ok (.imul, 1) := by decide +kernel
theorem dX3_catchOf_38 : decode cX3_catchOf 38 = .ok (.isub, 1) := by decide +kernel
theorem dX3_catchOf_39 : decode cX3_catchOf 39 = .ok (.istore 9, 2) := by decide +kernel
theorem dX3_catchOf_41 : decode cX3_catchOf 41 = .ok (.iload_n 3, 1) := by decide +kernel
theorem dX3_catchOf_42 : decode cX3_catchOf 42 = .ok (.iload 5, 2) := by decide +kernel
theorem dX3_catchOf_44 : decode cX3_catchOf 44 = .ok (.invokestatic 78, 3) := by decide +kernel
theorem dX3_catchOf_47 : decode cX3_catchOf 47 = .ok (.iconst 2, 1) := by decide +kernel
theorem dX3_catchOf_48 : decode cX3_catchOf 48 = .ok (.irem, 1) := by decide +kernel
theorem dX3_catchOf_49 : decode cX3_catchOf 49 = .ok (.ifCond .eq 6, 3) := by decide +kernel
theorem dX3_catchOf_52 : decode cX3_catchOf 52 = .ok (.iinc 9 (-2), 3) := by decide +kernel
theorem dX3_catchOf_55 : decode cX3_catchOf 55 = .ok (.aload_n 0, 1) := by decide +kernel
theorem dX3_catchOf_56 : decode cX3_catchOf 56 = .ok (.iload 7, 2) := by decide +kernel
theorem dX3_catchOf_58 : decode cX3_catchOf 58 = .ok (.invokevirtual 81, 3) := by decide +kernel
theorem dX3_catchOf_61 : decode cX3_catchOf 61 = .ok (.ifCond .eq 6, 3) := by decide +kernel
theorem dX3_catchOf_64 : decode cX3_catchOf 64 = .ok (.iinc 9 (-2), 3) := by decide +kernel
theorem dX3_catchOf_67 : decode cX3_catchOf 67 = .ok (.iconst 0, 1) := by decide +kernel
theorem dX3_catchOf_68 : decode cX3_catchOf 68 = .ok (.bipush 10, 2) := by decide +kernel
theorem dX3_catchOf_70 : decode cX3_catchOf 70 = .ok (.iload 9, 2) := by decide +kernel
theorem dX3_catchOf_72 : decode cX3_catchOf 72 = .ok (.invokestatic 49, 3) := by decide +kernel
theorem dX3_catchOf_75 : decode cX3_catchOf 75 = .ok (.invokestatic 84, 3) := by decide +kernel
theorem dX3_catchOf_78 : decode cX3_catchOf 78 = .ok (.ireturn, 1) := by decide +kernel
theorem dX4_init_0 : decode cX4_init 0 = .ok (.aload_n 0, 1) := by decide +kernel
theorem dX4_init_1 : decode cX4_init 1 = .ok (.invokespecial 3, 3) := by decide +kernel
theorem dX4_init_4 : decode cX4_init 4 = .ok (.aload_n 0, 1) := by decide +kernel
theorem dX4_init_5 : decode cX4_init 5 = .ok (.sipush 3125, 3) := by decide +kernel
theorem dX4_init_8 : decode cX4_init 8 = .ok (.newarray .long, 2) := by decide +kernel
theorem dX4_init_10 : decode cX4_init 10 = .ok (.putfield 9, 3) := by decide +kernel
theorem dX4_init_13 : decode cX4_init 13 = .ok (.aload_n 0, 1) := by decide +kernel
theorem dX4_init_14 : decode cX4_init 14 = .ok (.bipush 24, 2) := by decide +kernel
theorem dX4_init_16 : decode cX4_init 16 = .ok (.newarray .int, 2) := by decide +kernel
theorem dX4_init_18 : decode cX4_init 18 = .ok (.putfield 15, 3) := by decide +kernel
theorem dX4_init_21 : decode cX4_init 21 = .ok (.aload_n 0, 1) := by decide +kernel
theorem dX4_init_22 : decode cX4_init 22 = .ok (.bipush 24, 2) := by decide +kernel
theorem dX4_init_24 : decode cX4_init 24 = .ok (.newarray .int, 2) := by decide +kernel
theorem dX4_init_26 : decode cX4_init 26 = .ok (.putfield 19, 3) := by decide +kernel
theorem dX4_init_29 : decode cX4_init 29 = .ok (.aload_n 0, 1) := by decide +kernel
theorem dX4_init_30 : decode cX4_init 30 = .ok (.bipush 24, 2) := by decide +kernel
theorem dX4_init_32 : decode cX4_init 32 = .ok (.newarray .int, 2) := by decide +kernel
theorem dX4_init_34 : decode cX4_init 34 = .ok (.putfield 22, 3) := by decide +kernel
theorem dX4_init_37 : decode cX4_init 37 = .ok (.aload_n 0, 1) := by decide +kernel
theorem dX4_init_38 : decode cX4_init 38 = .ok (.bipush 24, 2) := by decide +kernel
theorem dX4_init_40 : decode cX4_init 40 = .ok (.newarray .int, 2) := by decide +kernel
theorem dX4_init_42 : decode cX4_init 42 = .ok (.putfield 25, 3) := by decide +kernel
theorem dX4_init_45 : decode cX4_init 45 = .ok (.return_, 1) := by decide +kernel
set_option maxRecDepth 20000 in
theorem ggX4_fill_X1_find : GoodIn wsX4_fill wsX1_find := goodIn_r _ [9, 10, 11, 12, 13, 14, 15, 8, 16, 17, 18, 19, 20, 21, 22, 23, 24, 25, 26, 27, 28, 29, 30, 31, 32, 33, 34, 35, 36, 37, 38, 39, 40, 41, 42, 43, 44, 45, 46, 47, 48, 49, 50, 51, 52, 53, 54, 55, 56, 57, 58, 59, 60, 61, 62, 63, 64, 65, 66, 67, 68, 69, 70, 71, 72, 73, 74, 75, 76, 120, 121, 122, 123, 106, 107, 108, 109, 110, 111, 112, 113, 114] (by decide +kernel) (by decide +kernel)
set_option maxRecDepth 20000 in
theorem gX4_fill_X1_find : GoodIn wsX4_fill (wsV RX4 34 RX1 yX1_find wsX1_find) := goodIn_app (goodIn_of _ (by decide +kernel)) ggX4_fill_X1_find
set_option maxRecDepth 20000 in
theorem ggX4_fill_X4_bestChance : GoodIn wsX4_fill wsX4_bestChance := goodIn_r _ [81, 82, 2, 1, 4, 3, 83, 84, 30, 85, 86, 45, 46, 26, 47, 48, 32, 33, 34, 49, 50, 51, 52, 53, 87, 88, 89, 80, 90, 91, 92, 93, 94, 42, 18, 43, 95, 96, 97, 98, 99, 36, 37, 100, 101, 39, 40, 41, 44, 106, 107, 108, 109, 110, 111, 112, 113, 114, 115, 116, 117, 118, 119] (by decide +kernel) (by decide +kernel)
set_option maxRecDepth 20000 in
theorem gX4_fill_X4_bestChance : GoodIn wsX4_fill (wsV RX4 49 RX4 yX4_bestChance wsX4_bestChance) := goodIn_app (goodIn_of _ (by decide +kernel)) ggX4_fill_X4_bestChance
set_option maxRecDepth 20000 in
theorem ggX4_fill_X4_setChance : GoodIn wsX4_fill wsX4_setChance := goodIn_r _ [105, 91, 92, 93, 80, 94, 115, 116, 117, 118, 119] (by decide +kernel) (by decide +kernel)
set_option maxRecDepth 20000 in
theorem gX4_fill_X4_setChance : GoodIn wsX4_fill (wsV RX4 53 RX4 yX4_setChance wsX4_setChance) := goodIn_app (goodIn_of _ (by decide +kernel)) ggX4_fill_X4_setChance
theorem dX4_fill_0 : decode cX4_fill 0 = .ok (.iconst 0, 1) := by decide +kernel
theorem dX4_fill_1 : decode cX4_fill 1 = .ok (.istore 4, 2) := by decide +kernel
theorem dX4_fill_3 : decode cX4_fill 3 = .ok (.iload 4, 2) := by decide +kernel
theorem dX4_fill_5 : decode cX4_fill 5 = .ok (.aload_n 1, 1) := by decide +kernel
theorem dX4_fill_6 : decode cX4_fill 6 = .ok (.getfield 28, 3) := by decide +kernel
theorem dX4_fill_9 : decode cX4_fill 9 = .ok (.if_icmp .ge 78, 3) := by decide +kernel
theorem dX4_fill_12 : decode cX4_fill 12 = .ok (.iload 4, 2) := by decide +kernel
theorem dX4_fill_14 : decode cX4_fill 14 = .ok (.bipush 24, 2) := by decide +kernel
theorem dX4_fill_16 : decode cX4_fill 16 = .ok (.if_icmp .ge 71, 3) := by decide +kernel
theorem dX4_fill_19 : decode cX4_fill 19 = .ok (.aload_n 3, 1) := by decide +kernel
theorem dX4_fill_20 : decode cX4_fill 20 = .ok (.aload_n 1, 1) := by decide +kernel
theorem dX4_fill_21 : decode cX4_fill 21 = .ok (.iload_n 2, 1) := by decide +kernel
theorem dX4_fill_22 : decode cX4_fill 22 = .ok (.iload 4, 2) := by decide +kernel
theorem dX4_fill_24 : decode cX4_fill 24 = .ok (.iconst 0, 1) := by decide +kernel
theorem dX4_fill_25 : decode cX4_fill 25 = .ok (.invokevirtual 34, 3) := by decide +kernel
theorem dX4_fill_28 : decode cX4_fill 28 = .ok (.aload_n 0, 1) := by decide +kernel
theorem dX4_fill_29 : decode cX4_fill 29 = .ok (.getfield 15, 3) := by decide +kernel
theorem dX4_fill_32 : decode cX4_fill 32 = .ok (.iload 4, 2) := by decide +kernel
theorem dX4_fill_34 : decode cX4_fill 34 = .ok (.aload_n 3, 1) := by decide +kernel
theorem dX4_fill_35 : decode cX4_fill 35 = .ok (.getfield 40, 3) := by decide +kernel
theorem dX4_fill_38 : decode cX4_fill 38 = .ok (.iastore, 1) := by decide +kernel
theorem dX4_fill_39 : decode cX4_fill 39 = .ok (.aload_n 0, 1) := by decide +kernel
theorem dX4_fill_40 : decode cX4_fill 40 = .ok (.getfield 22, 3) := by decide +kernel
theorem dX4_fill_43 : decode cX4_fill 43 = .ok (.iload 4, 2) := by decide +kernel
theorem dX4_fill_45 : decode cX4_fill 45 = .ok (.aload_n 3, 1) := by decide +kernel
theorem dX4_fill_46 : decode cX4_fill 46 = .ok (.getfield 43, 3) := by decide +kernel
theorem dX4_fill_49 : decode cX4_fill 49 = .ok (.iastore, 1) := by decide +kernel
theorem dX4_fill_50 : decode cX4_fill 50 = .ok (.aload_n 3, 1) := by decide +kernel
theorem dX4_fill_51 : decode cX4_fill 51 = .ok (.aload_n 1, 1) := by decide +kernel
theorem dX4_fill_52 : decode cX4_fill 52 = .ok (.iload_n 2, 1) := by decide +kernel
theorem dX4_fill_53 : decode cX4_fill 53 = .ok (.iload 4, 2) := by decide +kernel
theorem dX4_fill_55 : decode cX4_fill 55 = .ok (.iconst 1, 1) := by decide +kernel
theorem dX4_fill_56 : decode cX4_fill 56 = .ok (.invokevirtual 34, 3) := by decide +kernel
theorem dX4_fill_59 : decode cX4_fill 59 = .ok (.aload_n 0, 1) := by decide +kernel
theorem dX4_fill_60 : decode cX4_fill 60 = .ok (.getfield 19, 3) := by decide +kernel
theorem dX4_fill_63 : decode cX4_fill 63 = .ok (.iload 4, 2) := by decide +kernel
theorem dX4_fill_65 : decode cX4_fill 65 = .ok (.aload_n 3, 1) := by decide +kernel
theorem dX4_fill_66 : decode cX4_fill 66 = .ok (.getfield 40, 3) := by decide +kernel
theorem dX4_fill_69 : decode cX4_fill 69 = .ok (.iastore, 1) := by decide +kernel
theorem dX4_fill_70 : decode cX4_fill 70 = .ok (.aload_n 0, 1) := by decide +kernel
theorem dX4_fill_71 : decode cX4_fill 71 = .ok (.getfield 25, 3) := by decide +kernel
theorem dX4_fill_74 : decode cX4_fill 74 = .ok (.iload 4, 2) := by decide +kernel
theorem dX4_fill_76 : decode cX4_fill 76 = .ok (.aload_n 3, 1) := by decide +kernel
theorem dX4_fill_77 : decode cX4_fill 77 = .ok (.getfield 43, 3) := by decide +kernel
theorem dX4_fill_80 : decode cX4_fill 80 = .ok (.iastore, 1) := by decide +kernel
theorem dX4_fill_81 : decode cX4_fill 81 = .ok (.iinc 4 1, 3) := by decide +kernel
theorem dX4_fill_84 : decode cX4_fill 84 = .ok (.goto (-81), 3) := by decide +kernel
theorem dX4_fill_87 : decode cX4_fill 87 = .ok (.iconst 0, 1) := by decide +kernel
theorem dX4_fill_88 : decode cX4_fill 88 = .ok (.istore 4, 2) := by decide +kernel
theorem dX4_fill_90 : decode cX4_fill 90 = .ok (.iload 4, 2) := by decide +kernel
theorem dX4_fill_92 : decode cX4_fill 92 = .ok (.bipush 24, 2) := by decide +kernel
theorem dX4_fill_94 : decode cX4_fill 94 = .ok (.if_icmp .gt 67, 3) := by decide +kernel
theorem dX4_fill_97 : decode cX4_fill 97 = .ok (.iconst 0, 1) := by decide +kernel
theorem dX4_fill_98 : decode cX4_fill 98 = .ok (.istore 5, 2) := by decide +kernel
theorem dX4_fill_100 : decode cX4_fill 100 = .ok (.iload 5, 2) := by decide +kernel
theorem dX4_fill_102 : decode cX4_fill 102 = .ok (.aload_n 1, 1) := by decide +kernel
theorem dX4_fill_103 : decode cX4_fill 103 = .ok (.getfield 28, 3) := by decide +kernel
theorem dX4_fill_106 : decode cX4_fill 106 = .ok (.if_icmp .gt 49, 3) := by decide +kernel
theorem dX4_fill_109 : decode cX4_fill 109 = .ok (.iconst 0, 1) := by decide +kernel
theorem dX4_fill_110 : decode cX4_fill 110 = .ok (.istore 6, 2) := by decide +kernel
theorem dX4_fill_112 : decode cX4_fill 112 = .ok (.iload 6, 2) := by decide +kernel
theorem dX4_fill_114 : decode cX4_fill 114 = .ok (.aload_n 1, 1) := by decide +kernel
theorem dX4_fill_115 : decode cX4_fill 115 = .ok (.getfield 46, 3) := by decide +kernel
theorem dX4_fill_118 : decode cX4_fill 118 = .ok (.if_icmp .gt 31, 3) := by decide +kernel
theorem dX4_fill_121 : decode cX4_fill 121 = .ok (.aload_n 0, 1) := by decide +kernel
theorem dX4_fill_122 : decode cX4_fill 122 = .ok (.iload 4, 2) := by decide +kernel
theorem dX4_fill_124 : decode cX4_fill 124 = .ok (.iload 5, 2) := by decide +kernel
theorem dX4_fill_126 : decode cX4_fill 126 = .ok (.iload 6, 2) := by decide +kernel
theorem dX4_fill_128 : decode cX4_fill 128 = .ok (.aload_n 0, 1) := by decide +kernel
theorem dX4_fill_129 : decode cX4_fill 129 = .ok (.aload_n 1, 1) := by decide +kernel
theorem dX4_fill_130 : decode cX4_fill 130 = .ok (.iload_n 2, 1) := by decide +kernel
theorem dX4_fill_131 : decode cX4_fill 131 = .ok (.iload 4, 2) := by decide +kernel
theorem dX4_fill_133 : decode cX4_fill 133 = .ok (.iload 5, 2) := by decide +kernel
theorem dX4_fill_135 : decode cX4_fill 135 = .ok (.iload 6, 2) := by decide +kernel
theorem dX4_fill_137 : decode cX4_fill 137 = .ok (.invokevirtual 49, 3) := by decide +kernel
theorem dX4_fill_140 : decode cX4_fill 140 = .ok (.invokevirtual 53, 3) := by decide +kernel
theorem dX4_fill_143 : decode cX4_fill 143 = .ok (.iinc 6 1, 3) := by decide +kernel
theorem dX4_fill_146 : decode cX4_fill 146 = .ok (.goto (-34), 3) := by decide +kernel
theorem dX4_fill_149 : decode cX4_fill 149 = .ok (.iinc 5 1, 3) := by decide +kernel
theorem dX4_fill_152 : decode cX4_fill 152 = .ok (.goto (-52), 3) := by decide +kernel
theorem dX4_fill_155 : decode cX4_fill 155 = .ok (.iinc 4 1, 3) := by decide +kernel
theorem dX4_fill_158 : decode cX4_fill 158 = .ok (.goto (-68), 3) := by decide +kernel
theorem dX4_fill_161 : decode cX4_fill 161 = .ok (.return_, 1) := by decide +kernel
set_option maxRecDepth 20000 in
theorem ggX4_chance_X4_placeOf : GoodIn wsX4_chance wsX4_placeOf := goodIn_r _ [5] (by decide +kernel) (by decide +kernel)
set_option maxRecDepth 20000 in
theorem gX4_chance_X4_placeOf : GoodIn wsX4_chance (va_wsS RX4 57 yX4_placeOf wsX4_placeOf) := goodIn_app (goodIn_of _ (by decide +kernel)) ggX4_chance_X4_placeOf
theorem dX4_chance_0 : decode cX4_chance 0 = .ok (.iload_n 1, 1) := by decide +kernel
theorem dX4_chance_1 : decode cX4_chance 1 = .ok (.iload_n 2, 1) := by decide +kernel
theorem dX4_chance_2 : decode cX4_chance 2 = .ok (.iload_n 3, 1) := by decide +kernel
theorem dX4_chance_3 : decode cX4_chance 3 = .ok (.invokestatic 57, 3) := by decide +kernel
theorem dX4_chance_6 : decode cX4_chance 6 = .ok (.istore 4, 2) := by decide +kernel
theorem dX4_chance_8 : decode cX4_chance 8 = .ok (.iload 4, 2) := by decide +kernel
theorem dX4_chance_10 : decode cX4_chance 10 = .ok (.ifCond .lt 23, 3) := by decide +kernel
theorem dX4_chance_13 : decode cX4_chance 13 = .ok (.iload 4, 2) := by decide +kernel
theorem dX4_chance_15 : decode cX4_chance 15 = .ok (.aload_n 0, 1) := by decide +kernel
theorem dX4_chance_16 : decode cX4_chance 16 = .ok (.getfield 9, 3) := by decide +kernel
theorem dX4_chance_19 : decode cX4_chance 19 = .ok (.arraylength, 1) := by decide +kernel
theorem dX4_chance_20 : decode cX4_chance 20 = .ok (.if_icmp .ge 13, 3) := by decide +kernel
theorem dX4_chance_23 : decode cX4_chance 23 = .ok (.aload_n 0, 1) := by decide +kernel
theorem dX4_chance_24 : decode cX4_chance 24 = .ok (.getfield 9, 3) := by decide +kernel
theorem dX4_chance_27 : decode cX4_chance 27 = .ok (.iload 4, 2) := by decide +kernel
theorem dX4_chance_29 : decode cX4_chance 29 = .ok (.laload, 1) := by decide +kernel
theorem dX4_chance_30 : decode cX4_chance 30 = .ok (.goto 4, 3) := by decide +kernel
theorem dX4_chance_33 : decode cX4_chance 33 = .ok (.lconst 0, 1) := by decide +kernel
theorem dX4_chance_34 : decode cX4_chance 34 = .ok (.lreturn, 1) := by decide +kernel
set_option maxRecDepth 20000 in
theorem ggX4_setChance_X4_placeOf : GoodIn wsX4_setChance wsX4_placeOf := goodIn_r _ [5] (by decide +kernel) (by decide +kernel)
set_option maxRecDepth 20000 in
theorem gX4_setChance_X4_placeOf : GoodIn wsX4_setChance (va_wsS RX4 57 yX4_placeOf wsX4_placeOf) := goodIn_app (goodIn_of _ (by decide +kernel)) ggX4_setChance_X4_placeOf
theorem dX4_setChance_0 : decode cX4_setChance 0 = .ok (.iload_n 1, 1) := by decide +kernel
theorem dX4_setChance_1 : decode cX4_setChance 1 = .ok (.iload_n 2, 1) := by decide +kernel
theorem dX4_setChance_2 : decode cX4_setChance 2 = .ok (.iload_n 3, 1) := by decide +kernel
theorem dX4_setChance_3 : decode cX4_setChance 3 = .ok (.invokestatic 57, 3) := by decide +kernel
theorem dX4_setChance_6 : decode cX4_setChance 6 = .ok (.istore 6, 2) := by decide +kernel
theorem dX4_setChance_8 : decode cX4_setChance 8 = .ok (.iload 6, 2) := by decide +kernel
theorem dX4_setChance_10 : decode cX4_setChance 10 = .ok (.ifCond .lt 22, 3) := by decide +kernel
theorem dX4_setChance_13 : decode cX4_setChance 13 = .ok (.iload 6, 2) := by decide +kernel
theorem dX4_setChance_15 : decode cX4_setChance 15 = .ok (.aload_n 0, 1) := by decide +kernel
theorem dX4_setChance_16 : decode cX4_setChance 16 = .ok (.getfield 9, 3) := by decide +kernel
theorem dX4_setChance_19 : decode cX4_setChance 19 = .ok (.arraylength, 1) := by decide +kernel
theorem dX4_setChance_20 : decode cX4_setChance 20 = .ok (.if_icmp .ge 12, 3) := by decide +kernel
theorem dX4_setChance_23 : decode cX4_setChance 23 = .ok (.aload_n 0, 1) := by decide +kernel
theorem dX4_setChance_24 : decode cX4_setChance 24 = .ok (.getfield 9, 3) := by decide +kernel
theorem dX4_setChance_27 : decode cX4_setChance 27 = .ok (.iload 6, 2) := by decide +kernel
theorem dX4_setChance_29 : decode cX4_setChance 29 = .ok (.lload 4, 2) := by decide +kernel
theorem dX4_setChance_31 : decode cX4_setChance 31 = .ok (.lastore, 1) := by decide +kernel
theorem dX4_setChance_32 : decode cX4_setChance 32 = .ok (.return_, 1) := by decide +kernel
theorem dX4_placeOf_0 : decode cX4_placeOf 0 = .ok (.iload_n 0, 1) := by decide +kernel
theorem dX4_placeOf_1 : decode cX4_placeOf 1 = .ok (.ifCond .lt 28, 3) := by decide +kernel
theorem dX4_placeOf_4 : decode cX4_placeOf 4 = .ok (.iload_n 0, 1) := by decide +kernel
theorem dX4_placeOf_5 : decode cX4_placeOf 5 = .ok (.bipush 24, 2) := by decide +kernel
theorem dX4_placeOf_7 : decode cX4_placeOf 7 = .ok (.if_icmp .gt 22, 3) := by decide +kernel
theorem dX4_placeOf_10 : decode cX4_placeOf 10 = .ok (.iload_n 1, 1) := by decide +kernel
theorem dX4_placeOf_11 : decode cX4_placeOf 11 = .ok (.ifCond .lt 18, 3) := by decide +kernel
theorem dX4_placeOf_14 : decode cX4_placeOf 14 = .ok (.iload_n 1, 1) := by decide +kernel
theorem dX4_placeOf_15 : decode cX4_placeOf 15 = .ok (.bipush 24, 2) := by decide +kernel
theorem dX4_placeOf_17 : decode cX4_placeOf 17 = .ok (.if_icmp .gt 12, 3) := by decide +kernel
theorem dX4_placeOf_20 : decode cX4_placeOf 20 = .ok (.iload_n 2, 1) := by decide +kernel
theorem dX4_placeOf_21 : decode cX4_placeOf 21 = .ok (.ifCond .lt 8, 3) := by decide +kernel
theorem dX4_placeOf_24 : decode cX4_placeOf 24 = .ok (.iload_n 2, 1) := by decide +kernel
theorem dX4_placeOf_25 : decode cX4_placeOf 25 = .ok (.iconst 4, 1) := by decide +kernel
theorem dX4_placeOf_26 : decode cX4_placeOf 26 = .ok (.if_icmp .le 5, 3) := by decide +kernel
theorem dX4_placeOf_29 : decode cX4_placeOf 29 = .ok (.iconst (-1), 1) := by decide +kernel
theorem dX4_placeOf_30 : decode cX4_placeOf 30 = .ok (.ireturn, 1) := by decide +kernel
theorem dX4_placeOf_31 : decode cX4_placeOf 31 = .ok (.iload_n 0, 1) := by decide +kernel
theorem dX4_placeOf_32 : decode cX4_placeOf 32 = .ok (.bipush 25, 2) := by decide +kernel
theorem dX4_placeOf_34 : decode cX4_placeOf 34 = .ok (.imul, 1) := by decide +kernel
theorem dX4_placeOf_35 : decode cX4_placeOf 35 = .ok (.iload_n 1, 1) := by decide +kernel
theorem dX4_placeOf_36 : decode cX4_placeOf 36 = .ok (.iadd, 1) := by decide +kernel
theorem dX4_placeOf_37 : decode cX4_placeOf 37 = .ok (.iconst 5, 1) := by decide +kernel
theorem dX4_placeOf_38 : decode cX4_placeOf 38 = .ok (.imul, 1) := by decide +kernel
theorem dX4_placeOf_39 : decode cX4_placeOf 39 = .ok (.iload_n 2, 1) := by decide +kernel
theorem dX4_placeOf_40 : decode cX4_placeOf 40 = .ok (.iadd, 1) := by decide +kernel
theorem dX4_placeOf_41 : decode cX4_placeOf 41 = .ok (.ireturn, 1) := by decide +kernel
set_option maxRecDepth 20000 in
theorem ggX4_bestChance_X3_yardOnRun : GoodIn wsX4_bestChance wsX3_yardOnRun := goodIn_r _ [14, 15, 16, 17, 8, 18, 19, 20, 21, 13, 22, 23, 49, 50, 51, 52, 53, 54, 55, 56, 57] (by decide +kernel) (by decide +kernel)
set_option maxRecDepth 20000 in
theorem gX4_bestChance_X3_yardOnRun : GoodIn wsX4_bestChance (wsV RX4 63 RX3 yX3_yardOnRun wsX3_yardOnRun) := goodIn_app (goodIn_of _ (by decide +kernel)) ggX4_bestChance_X3_yardOnRun
set_option maxRecDepth 20000 in
theorem ggX4_bestChance_X4_chance : GoodIn wsX4_bestChance wsX4_chance := goodIn_r _ [28, 29, 30, 31, 27, 32, 58, 59, 60, 61, 62] (by decide +kernel) (by decide +kernel)
set_option maxRecDepth 20000 in
theorem gX4_bestChance_X4_chance : GoodIn wsX4_bestChance (wsV RX4 66 RX4 yX4_chance wsX4_chance) := goodIn_app (goodIn_of _ (by decide +kernel)) ggX4_bestChance_X4_chance
set_option maxRecDepth 20000 in
theorem ggX4_bestChance_X9_beatsInAir : GoodIn wsX4_bestChance wsX9_beatsInAir := goodIn_r _ [35] (by decide +kernel) (by decide +kernel)
set_option maxRecDepth 20000 in
theorem gX4_bestChance_X9_beatsInAir_n70 : GoodIn wsX4_bestChance (wsX9_beatsInAir) := ggX4_bestChance_X9_beatsInAir
set_option maxRecDepth 20000 in
theorem ggX4_bestChance_X4_chanceByToss : GoodIn wsX4_bestChance wsX4_chanceByToss := goodIn_r _ [39, 40, 41, 8, 42, 43, 24, 25, 26, 27, 28, 29, 30, 31, 32, 49, 50, 51, 52, 53, 54, 55, 56, 57, 58, 59, 60, 61, 62] (by decide +kernel) (by decide +kernel)
set_option maxRecDepth 20000 in
theorem gX4_bestChance_X4_chanceByToss : GoodIn wsX4_bestChance (wsV RX4 74 RX4 yX4_chanceByToss wsX4_chanceByToss) := goodIn_app (goodIn_of _ (by decide +kernel)) ggX4_bestChance_X4_chanceByToss
set_option maxRecDepth 20000 in
theorem ggX4_bestChance_X3_yardAfter : GoodIn wsX4_bestChance wsX3_yardAfter := goodIn_r _ [47, 33, 34, 35, 48, 11, 12, 13, 14, 15, 16, 17, 8, 18, 19, 20, 21, 22, 23, 49, 50, 51, 52, 53, 54, 55, 56, 57] (by decide +kernel) (by decide +kernel)
set_option maxRecDepth 20000 in
theorem gX4_bestChance_X3_yardAfter : GoodIn wsX4_bestChance (wsV RX4 77 RX3 yX3_yardAfter wsX3_yardAfter) := goodIn_app (goodIn_of _ (by decide +kernel)) ggX4_bestChance_X3_yardAfter
theorem dX4_bestChance_0 : decode cX4_bestChance 0 = .ok (.iload 4, 2) := by decide +kernel
theorem dX4_bestChance_2 : decode cX4_bestChance 2 = .ok (.ifCond .lt 19, 3) := by decide +kernel
theorem dX4_bestChance_5 : decode cX4_bestChance 5 = .ok (.iload 4, 2) := by decide +kernel
theorem dX4_bestChance_7 : decode cX4_bestChance 7 = .ok (.aload_n 1, 1) := by decide +kernel
theorem dX4_bestChance_8 : decode cX4_bestChance 8 = .ok (.getfield 28, 3) := by decide +kernel
theorem dX4_bestChance_11 : decode cX4_bestChance 11 = .ok (.if_icmp .ge 10, 3) := by decide +kernel
theorem dX4_bestChance_14 : decode cX4_bestChance 14 = .ok (.iload 4, 2) := by decide +kernel
theorem dX4_bestChance_16 : decode cX4_bestChance 16 = .ok (.bipush 24, 2) := by decide +kernel
theorem dX4_bestChance_18 : decode cX4_bestChance 18 = .ok (.if_icmp .lt 16, 3) := by decide +kernel
theorem dX4_bestChance_21 : decode cX4_bestChance 21 = .ok (.iload 5, 2) := by decide +kernel
theorem dX4_bestChance_23 : decode cX4_bestChance 23 = .ok (.ifCond .ne 9, 3) := by decide +kernel
theorem dX4_bestChance_26 : decode cX4_bestChance 26 = .ok (.ldc2_w 61, 3) := by decide +kernel
theorem dX4_bestChance_29 : decode cX4_bestChance 29 = .ok (.goto 4, 3) := by decide +kernel
theorem dX4_bestChance_32 : decode cX4_bestChance 32 = .ok (.lconst 0, 1) := by decide +kernel
theorem dX4_bestChance_33 : decode cX4_bestChance 33 = .ok (.lreturn, 1) := by decide +kernel
theorem dX4_bestChance_34 : decode cX4_bestChance 34 = .ok (.aload_n 0, 1) := by decide +kernel
theorem dX4_bestChance_35 : decode cX4_bestChance 35 = .ok (.iload_n 3, 1) := by decide +kernel
theorem dX4_bestChance_36 : decode cX4_bestChance 36 = .ok (.iconst 1, 1) := by decide +kernel
theorem dX4_bestChance_37 : decode cX4_bestChance 37 = .ok (.isub, 1) := by decide +kernel
theorem dX4_bestChance_38 : decode cX4_bestChance 38 = .ok (.aload_n 1, 1) := by decide +kernel
theorem dX4_bestChance_39 : decode cX4_bestChance 39 = .ok (.iload_n 2, 1) := by decide +kernel
theorem dX4_bestChance_40 : decode cX4_bestChance 40 = .ok (.iload 4, 2) := by decide +kernel
theorem dX4_bestChance_42 : decode cX4_bestChance 42 = .ok (.iconst 1, 1) := by decide +kernel
theorem dX4_bestChance_43 : decode cX4_bestChance 43 = .ok (.invokevirtual 63, 3) := by decide +kernel
theorem dX4_bestChance_46 : decode cX4_bestChance 46 = .ok (.iload 5, 2) := by decide +kernel
theorem dX4_bestChance_48 : decode cX4_bestChance 48 = .ok (.invokevirtual 66, 3) := by decide +kernel
theorem dX4_bestChance_51 : decode cX4_bestChance 51 = .ok (.lstore 6, 2) := by decide +kernel
theorem dX4_bestChance_53 : decode cX4_bestChance 53 = .ok (.aload_n 0, 1) := by decide +kernel
theorem dX4_bestChance_54 : decode cX4_bestChance 54 = .ok (.aload_n 1, 1) := by decide +kernel
theorem dX4_bestChance_55 : decode cX4_bestChance 55 = .ok (.iload 4, 2) := by decide +kernel
theorem dX4_bestChance_57 : decode cX4_bestChance 57 = .ok (.iload_n 3, 1) := by decide +kernel
theorem dX4_bestChance_58 : decode cX4_bestChance 58 = .ok (.aload_n 0, 1) := by decide +kernel
theorem dX4_bestChance_59 : decode cX4_bestChance 59 = .ok (.getfield 22, 3) := by decide +kernel
theorem dX4_bestChance_62 : decode cX4_bestChance 62 = .ok (.iload 4, 2) := by decide +kernel
theorem dX4_bestChance_64 : decode cX4_bestChance 64 = .ok (.iaload, 1) := by decide +kernel
theorem dX4_bestChance_65 : decode cX4_bestChance 65 = .ok (.invokestatic 70, 3) := by decide +kernel
theorem dX4_bestChance_68 : decode cX4_bestChance 68 = .ok (.isub, 1) := by decide +kernel
theorem dX4_bestChance_69 : decode cX4_bestChance 69 = .ok (.iload 5, 2) := by decide +kernel
theorem dX4_bestChance_71 : decode cX4_bestChance 71 = .ok (.aload_n 0, 1) := by decide +kernel
theorem dX4_bestChance_72 : decode cX4_bestChance 72 = .ok (.getfield 15, 3) := by decide +kernel
theorem dX4_bestChance_75 : decode cX4_bestChance 75 = .ok (.iload 4, 2) := by decide +kernel
theorem dX4_bestChance_77 : decode cX4_bestChance 77 = .ok (.iaload, 1) := by decide +kernel
theorem dX4_bestChance_78 : decode cX4_bestChance 78 = .ok (.invokevirtual 74, 3) := by decide +kernel
theorem dX4_bestChance_81 : decode cX4_bestChance 81 = .ok (.lstore 8, 2) := by decide +kernel
theorem dX4_bestChance_83 : decode cX4_bestChance 83 = .ok (.aload_n 0, 1) := by decide +kernel
theorem dX4_bestChance_84 : decode cX4_bestChance 84 = .ok (.aload_n 1, 1) := by decide +kernel
theorem dX4_bestChance_85 : decode cX4_bestChance 85 = .ok (.aload_n 1, 1) := by decide +kernel
theorem dX4_bestChance_86 : decode cX4_bestChance 86 = .ok (.iload_n 2, 1) := by decide +kernel
theorem dX4_bestChance_87 : decode cX4_bestChance 87 = .ok (.iload 4, 2) := by decide +kernel
theorem dX4_bestChance_89 : decode cX4_bestChance 89 = .ok (.aload_n 0, 1) := by decide +kernel
theorem dX4_bestChance_90 : decode cX4_bestChance 90 = .ok (.getfield 25, 3) := by decide +kernel
theorem dX4_bestChance_93 : decode cX4_bestChance 93 = .ok (.iload 4, 2) := by decide +kernel
theorem dX4_bestChance_95 : decode cX4_bestChance 95 = .ok (.iaload, 1) := by decide +kernel
theorem dX4_bestChance_96 : decode cX4_bestChance 96 = .ok (.iconst 1, 1) := by decide +kernel
theorem dX4_bestChance_97 : decode cX4_bestChance 97 = .ok (.invokevirtual 77, 3) := by decide +kernel
theorem dX4_bestChance_100 : decode cX4_bestChance 100 = .ok (.iload_n 3, 1) := by decide +kernel
theorem dX4_bestChance_101 : decode cX4_bestChance 101 = .ok (.aload_n 0, 1) := by decide +kernel
theorem dX4_bestChance_102 : decode cX4_bestChance 102 = .ok (.getfield 25, 3) := by decide +kernel
theorem dX4_bestChance_105 : decode cX4_bestChance 105 = .ok (.iload 4, 2) := by decide +kernel
theorem dX4_bestChance_107 : decode cX4_bestChance 107 = .ok (.iaload, 1) := by decide +kernel
theorem dX4_bestChance_108 : decode cX4_bestChance 108 = .ok (.invokestatic 70, 3) := by decide +kernel
theorem dX4_bestChance_111 : decode cX4_bestChance 111 = .ok (.isub, 1) := by decide +kernel
theorem dX4_bestChance_112 : decode cX4_bestChance 112 = .ok (.iload 5, 2) := by decide +kernel
theorem dX4_bestChance_114 : decode cX4_bestChance 114 = .ok (.aload_n 0, 1) := by decide +kernel
theorem dX4_bestChance_115 : decode cX4_bestChance 115 = .ok (.getfield 19, 3) := by decide +kernel
theorem dX4_bestChance_118 : decode cX4_bestChance 118 = .ok (.iload 4, 2) := by decide +kernel
theorem dX4_bestChance_120 : decode cX4_bestChance 120 = .ok (.iaload, 1) := by decide +kernel
theorem dX4_bestChance_121 : decode cX4_bestChance 121 = .ok (.invokevirtual 74, 3) := by decide +kernel
theorem dX4_bestChance_124 : decode cX4_bestChance 124 = .ok (.lstore 10, 2) := by decide +kernel
theorem dX4_bestChance_126 : decode cX4_bestChance 126 = .ok (.lload 6, 2) := by decide +kernel
theorem dX4_bestChance_128 : decode cX4_bestChance 128 = .ok (.lload 8, 2) := by decide +kernel
theorem dX4_bestChance_130 : decode cX4_bestChance 130 = .ok (.lload 10, 2) := by decide +kernel
theorem dX4_bestChance_132 : decode cX4_bestChance 132 = .ok (.invokestatic 81, 3) := by decide +kernel
theorem dX4_bestChance_135 : decode cX4_bestChance 135 = .ok (.invokestatic 81, 3) := by decide +kernel
theorem dX4_bestChance_138 : decode cX4_bestChance 138 = .ok (.lreturn, 1) := by decide +kernel
set_option maxRecDepth 20000 in
theorem ggX4_chanceByToss_X4_chance : GoodIn wsX4_chanceByToss wsX4_chance := goodIn_r _ [10, 11, 12, 13, 9, 14, 24, 25, 26, 27, 28] (by decide +kernel) (by decide +kernel)
set_option maxRecDepth 20000 in
theorem gX4_chanceByToss_X4_chance : GoodIn wsX4_chanceByToss (wsV RX4 66 RX4 yX4_chance wsX4_chance) := goodIn_app (goodIn_of _ (by decide +kernel)) ggX4_chanceByToss_X4_chance
theorem dX4_chanceByToss_0 : decode cX4_chanceByToss 0 = .ok (.aload_n 0, 1) := by decide +kernel
theorem dX4_chanceByToss_1 : decode cX4_chanceByToss 1 = .ok (.iload_n 3, 1) := by decide +kernel
theorem dX4_chanceByToss_2 : decode cX4_chanceByToss 2 = .ok (.iload_n 2, 1) := by decide +kernel
theorem dX4_chanceByToss_3 : decode cX4_chanceByToss 3 = .ok (.iconst 0, 1) := by decide +kernel
theorem dX4_chanceByToss_4 : decode cX4_chanceByToss 4 = .ok (.iload 4, 2) := by decide +kernel
theorem dX4_chanceByToss_6 : decode cX4_chanceByToss 6 = .ok (.iconst 1, 1) := by decide +kernel
theorem dX4_chanceByToss_7 : decode cX4_chanceByToss 7 = .ok (.isub, 1) := by decide +kernel
theorem dX4_chanceByToss_8 : decode cX4_chanceByToss 8 = .ok (.invokestatic 87, 3) := by decide +kernel
theorem dX4_chanceByToss_11 : decode cX4_chanceByToss 11 = .ok (.invokevirtual 66, 3) := by decide +kernel
theorem dX4_chanceByToss_14 : decode cX4_chanceByToss 14 = .ok (.lstore 6, 2) := by decide +kernel
theorem dX4_chanceByToss_16 : decode cX4_chanceByToss 16 = .ok (.aload_n 0, 1) := by decide +kernel
theorem dX4_chanceByToss_17 : decode cX4_chanceByToss 17 = .ok (.iload_n 3, 1) := by decide +kernel
theorem dX4_chanceByToss_18 : decode cX4_chanceByToss 18 = .ok (.aload_n 1, 1) := by decide +kernel
theorem dX4_chanceByToss_19 : decode cX4_chanceByToss 19 = .ok (.getfield 90, 3) := by decide +kernel
theorem dX4_chanceByToss_22 : decode cX4_chanceByToss 22 = .ok (.isub, 1) := by decide +kernel
theorem dX4_chanceByToss_23 : decode cX4_chanceByToss 23 = .ok (.iload_n 2, 1) := by decide +kernel
theorem dX4_chanceByToss_24 : decode cX4_chanceByToss 24 = .ok (.iload 4, 2) := by decide +kernel
theorem dX4_chanceByToss_26 : decode cX4_chanceByToss 26 = .ok (.invokevirtual 66, 3) := by decide +kernel
theorem dX4_chanceByToss_29 : decode cX4_chanceByToss 29 = .ok (.lstore 8, 2) := by decide +kernel
theorem dX4_chanceByToss_31 : decode cX4_chanceByToss 31 = .ok (.iload 5, 2) := by decide +kernel
theorem dX4_chanceByToss_33 : decode cX4_chanceByToss 33 = .ok (.i2l, 1) := by decide +kernel
theorem dX4_chanceByToss_34 : decode cX4_chanceByToss 34 = .ok (.lload 6, 2) := by decide +kernel
theorem dX4_chanceByToss_36 : decode cX4_chanceByToss 36 = .ok (.lmul, 1) := by decide +kernel
theorem dX4_chanceByToss_37 : decode cX4_chanceByToss 37 = .ok (.bipush 10, 2) := by decide +kernel
theorem dX4_chanceByToss_39 : decode cX4_chanceByToss 39 = .ok (.iload 5, 2) := by decide +kernel
theorem dX4_chanceByToss_41 : decode cX4_chanceByToss 41 = .ok (.isub, 1) := by decide +kernel
theorem dX4_chanceByToss_42 : decode cX4_chanceByToss 42 = .ok (.i2l, 1) := by decide +kernel
theorem dX4_chanceByToss_43 : decode cX4_chanceByToss 43 = .ok (.lload 8, 2) := by decide +kernel
theorem dX4_chanceByToss_45 : decode cX4_chanceByToss 45 = .ok (.lmul, 1) := by decide +kernel
theorem dX4_chanceByToss_46 : decode cX4_chanceByToss 46 = .ok (.ladd, 1) := by decide +kernel
theorem dX4_chanceByToss_47 : decode cX4_chanceByToss 47 = .ok (.ldc2_w 93, 3) := by decide +kernel
theorem dX4_chanceByToss_50 : decode cX4_chanceByToss 50 = .ok (.ldiv, 1) := by decide +kernel
theorem dX4_chanceByToss_51 : decode cX4_chanceByToss 51 = .ok (.lreturn, 1) := by decide +kernel
theorem dX5_init_0 : decode cX5_init 0 = .ok (.aload_n 0, 1) := by decide +kernel
theorem dX5_init_1 : decode cX5_init 1 = .ok (.invokespecial 1, 3) := by decide +kernel
theorem dX5_init_4 : decode cX5_init 4 = .ok (.aload_n 0, 1) := by decide +kernel
theorem dX5_init_5 : decode cX5_init 5 = .ok (.bipush 6, 2) := by decide +kernel
theorem dX5_init_7 : decode cX5_init 7 = .ok (.newarray .int, 2) := by decide +kernel
theorem dX5_init_9 : decode cX5_init 9 = .ok (.putfield 9, 3) := by decide +kernel
theorem dX5_init_12 : decode cX5_init 12 = .ok (.aload_n 0, 1) := by decide +kernel
theorem dX5_init_13 : decode cX5_init 13 = .ok (.bipush 6, 2) := by decide +kernel
theorem dX5_init_15 : decode cX5_init 15 = .ok (.newarray .int, 2) := by decide +kernel
theorem dX5_init_17 : decode cX5_init 17 = .ok (.putfield 13, 3) := by decide +kernel
theorem dX5_init_20 : decode cX5_init 20 = .ok (.aload_n 0, 1) := by decide +kernel
theorem dX5_init_21 : decode cX5_init 21 = .ok (.iconst 0, 1) := by decide +kernel
theorem dX5_init_22 : decode cX5_init 22 = .ok (.putfield 16, 3) := by decide +kernel
theorem dX5_init_25 : decode cX5_init 25 = .ok (.return_, 1) := by decide +kernel
theorem dX5_append_0 : decode cX5_append 0 = .ok (.aload_n 0, 1) := by decide +kernel
theorem dX5_append_1 : decode cX5_append 1 = .ok (.getfield 16, 3) := by decide +kernel
theorem dX5_append_4 : decode cX5_append 4 = .ok (.ifCond .lt 42, 3) := by decide +kernel
theorem dX5_append_7 : decode cX5_append 7 = .ok (.aload_n 0, 1) := by decide +kernel
theorem dX5_append_8 : decode cX5_append 8 = .ok (.getfield 16, 3) := by decide +kernel
theorem dX5_append_11 : decode cX5_append 11 = .ok (.bipush 6, 2) := by decide +kernel
theorem dX5_append_13 : decode cX5_append 13 = .ok (.if_icmp .ge 33, 3) := by decide +kernel
theorem dX5_append_16 : decode cX5_append 16 = .ok (.aload_n 0, 1) := by decide +kernel
theorem dX5_append_17 : decode cX5_append 17 = .ok (.getfield 9, 3) := by decide +kernel
theorem dX5_append_20 : decode cX5_append 20 = .ok (.aload_n 0, 1) := by decide +kernel
theorem dX5_append_21 : decode cX5_append 21 = .ok (.getfield 16, 3) := by decide +kernel
theorem dX5_append_24 : decode cX5_append 24 = .ok (.iload_n 1, 1) := by decide +kernel
theorem dX5_append_25 : decode cX5_append 25 = .ok (.iastore, 1) := by decide +kernel
theorem dX5_append_26 : decode cX5_append 26 = .ok (.aload_n 0, 1) := by decide +kernel
theorem dX5_append_27 : decode cX5_append 27 = .ok (.getfield 13, 3) := by decide +kernel
theorem dX5_append_30 : decode cX5_append 30 = .ok (.aload_n 0, 1) := by decide +kernel
theorem dX5_append_31 : decode cX5_append 31 = .ok (.getfield 16, 3) := by decide +kernel
theorem dX5_append_34 : decode cX5_append 34 = .ok (.iload_n 2, 1) := by decide +kernel
theorem dX5_append_35 : decode cX5_append 35 = .ok (.iastore, 1) := by decide +kernel
theorem dX5_append_36 : decode cX5_append 36 = .ok (.aload_n 0, 1) := by decide +kernel
theorem dX5_append_37 : decode cX5_append 37 = .ok (.dup, 1) := by decide +kernel
theorem dX5_append_38 : decode cX5_append 38 = .ok (.getfield 16, 3) := by decide +kernel
theorem dX5_append_41 : decode cX5_append 41 = .ok (.iconst 1, 1) := by decide +kernel
theorem dX5_append_42 : decode cX5_append 42 = .ok (.iadd, 1) := by decide +kernel
theorem dX5_append_43 : decode cX5_append 43 = .ok (.putfield 16, 3) := by decide +kernel
theorem dX5_append_46 : decode cX5_append 46 = .ok (.return_, 1) := by decide +kernel
set_option maxRecDepth 20000 in
theorem ggX5_allow_X9_beatsInAir : GoodIn wsX5_allow wsX9_beatsInAir := goodIn_r _ [6] (by decide +kernel) (by decide +kernel)
set_option maxRecDepth 20000 in
theorem gX5_allow_X9_beatsInAir_n20 : GoodIn wsX5_allow (wsX9_beatsInAir) := ggX5_allow_X9_beatsInAir
theorem dX5_allow_0 : decode cX5_allow 0 = .ok (.iconst 0, 1) := by decide +kernel
theorem dX5_allow_1 : decode cX5_allow 1 = .ok (.istore_n 3, 1) := by decide +kernel
theorem dX5_allow_2 : decode cX5_allow 2 = .ok (.iload_n 3, 1) := by decide +kernel
theorem dX5_allow_3 : decode cX5_allow 3 = .ok (.aload_n 0, 1) := by decide +kernel
theorem dX5_allow_4 : decode cX5_allow 4 = .ok (.getfield 16, 3) := by decide +kernel
theorem dX5_allow_7 : decode cX5_allow 7 = .ok (.if_icmp .ge 63, 3) := by decide +kernel
theorem dX5_allow_10 : decode cX5_allow 10 = .ok (.iload_n 3, 1) := by decide +kernel
theorem dX5_allow_11 : decode cX5_allow 11 = .ok (.bipush 6, 2) := by decide +kernel
theorem dX5_allow_13 : decode cX5_allow 13 = .ok (.if_icmp .ge 57, 3) := by decide +kernel
theorem dX5_allow_16 : decode cX5_allow 16 = .ok (.aload_n 0, 1) := by decide +kernel
theorem dX5_allow_17 : decode cX5_allow 17 = .ok (.getfield 9, 3) := by decide +kernel
theorem dX5_allow_20 : decode cX5_allow 20 = .ok (.iload_n 3, 1) := by decide +kernel
theorem dX5_allow_21 : decode cX5_allow 21 = .ok (.iaload, 1) := by decide +kernel
theorem dX5_allow_22 : decode cX5_allow 22 = .ok (.iload_n 1, 1) := by decide +kernel
theorem dX5_allow_23 : decode cX5_allow 23 = .ok (.invokestatic 20, 3) := by decide +kernel
theorem dX5_allow_26 : decode cX5_allow 26 = .ok (.if_icmp .ge 7, 3) := by decide +kernel
theorem dX5_allow_29 : decode cX5_allow 29 = .ok (.iconst 1, 1) := by decide +kernel
theorem dX5_allow_30 : decode cX5_allow 30 = .ok (.goto 4, 3) := by decide +kernel
theorem dX5_allow_33 : decode cX5_allow 33 = .ok (.iconst 0, 1) := by decide +kernel
theorem dX5_allow_34 : decode cX5_allow 34 = .ok (.istore 4, 2) := by decide +kernel
theorem dX5_allow_36 : decode cX5_allow 36 = .ok (.iload 4, 2) := by decide +kernel
theorem dX5_allow_38 : decode cX5_allow 38 = .ok (.ifCond .eq 24, 3) := by decide +kernel
theorem dX5_allow_41 : decode cX5_allow 41 = .ok (.iload_n 2, 1) := by decide +kernel
theorem dX5_allow_42 : decode cX5_allow 42 = .ok (.aload_n 0, 1) := by decide +kernel
theorem dX5_allow_43 : decode cX5_allow 43 = .ok (.getfield 9, 3) := by decide +kernel
theorem dX5_allow_46 : decode cX5_allow 46 = .ok (.iload_n 3, 1) := by decide +kernel
theorem dX5_allow_47 : decode cX5_allow 47 = .ok (.iaload, 1) := by decide +kernel
theorem dX5_allow_48 : decode cX5_allow 48 = .ok (.imul, 1) := by decide +kernel
theorem dX5_allow_49 : decode cX5_allow 49 = .ok (.iconst 2, 1) := by decide +kernel
theorem dX5_allow_50 : decode cX5_allow 50 = .ok (.idiv, 1) := by decide +kernel
theorem dX5_allow_51 : decode cX5_allow 51 = .ok (.iconst 4, 1) := by decide +kernel
theorem dX5_allow_52 : decode cX5_allow 52 = .ok (.irem, 1) := by decide +kernel
theorem dX5_allow_53 : decode cX5_allow 53 = .ok (.aload_n 0, 1) := by decide +kernel
theorem dX5_allow_54 : decode cX5_allow 54 = .ok (.getfield 13, 3) := by decide +kernel
theorem dX5_allow_57 : decode cX5_allow 57 = .ok (.iload_n 3, 1) := by decide +kernel
theorem dX5_allow_58 : decode cX5_allow 58 = .ok (.iaload, 1) := by decide +kernel
theorem dX5_allow_59 : decode cX5_allow 59 = .ok (.if_icmp .eq 5, 3) := by decide +kernel
theorem dX5_allow_62 : decode cX5_allow 62 = .ok (.iconst 0, 1) := by decide +kernel
theorem dX5_allow_63 : decode cX5_allow 63 = .ok (.ireturn, 1) := by decide +kernel
theorem dX5_allow_64 : decode cX5_allow 64 = .ok (.iinc 3 1, 3) := by decide +kernel
theorem dX5_allow_67 : decode cX5_allow 67 = .ok (.goto (-65), 3) := by decide +kernel
theorem dX5_allow_70 : decode cX5_allow 70 = .ok (.iconst 1, 1) := by decide +kernel
theorem dX5_allow_71 : decode cX5_allow 71 = .ok (.ireturn, 1) := by decide +kernel
set_option maxRecDepth 20000 in
theorem ggX6_init_X8_init : GoodIn wsX6_init wsX8_init := goodIn_r _ [14, 15, 2, 3, 16, 17, 18, 19, 20] (by decide +kernel) (by decide +kernel)
set_option maxRecDepth 20000 in
theorem gX6_init_X8_init_n11 : GoodIn wsX6_init (wsX8_init) := ggX6_init_X8_init
theorem dX6_init_0 : decode cX6_init 0 = .ok (.aload_n 0, 1) := by decide +kernel
theorem dX6_init_1 : decode cX6_init 1 = .ok (.invokespecial 3, 3) := by decide +kernel
theorem dX6_init_4 : decode cX6_init 4 = .ok (.aload_n 0, 1) := by decide +kernel
theorem dX6_init_5 : decode cX6_init 5 = .ok (.new 9, 3) := by decide +kernel
theorem dX6_init_8 : decode cX6_init 8 = .ok (.dup, 1) := by decide +kernel
theorem dX6_init_9 : decode cX6_init 9 = .ok (.invokespecial 11, 3) := by decide +kernel
theorem dX6_init_12 : decode cX6_init 12 = .ok (.putfield 12, 3) := by decide +kernel
theorem dX6_init_15 : decode cX6_init 15 = .ok (.aload_n 0, 1) := by decide +kernel
theorem dX6_init_16 : decode cX6_init 16 = .ok (.iconst 0, 1) := by decide +kernel
theorem dX6_init_17 : decode cX6_init 17 = .ok (.putfield 18, 3) := by decide +kernel
theorem dX6_init_20 : decode cX6_init 20 = .ok (.aload_n 0, 1) := by decide +kernel
theorem dX6_init_21 : decode cX6_init 21 = .ok (.iconst 0, 1) := by decide +kernel
theorem dX6_init_22 : decode cX6_init 22 = .ok (.putfield 22, 3) := by decide +kernel
theorem dX6_init_25 : decode cX6_init 25 = .ok (.aload_n 0, 1) := by decide +kernel
theorem dX6_init_26 : decode cX6_init 26 = .ok (.iconst 0, 1) := by decide +kernel
theorem dX6_init_27 : decode cX6_init 27 = .ok (.putfield 25, 3) := by decide +kernel
theorem dX6_init_30 : decode cX6_init 30 = .ok (.aload_n 0, 1) := by decide +kernel
theorem dX6_init_31 : decode cX6_init 31 = .ok (.iconst 0, 1) := by decide +kernel
theorem dX6_init_32 : decode cX6_init 32 = .ok (.putfield 28, 3) := by decide +kernel
theorem dX6_init_35 : decode cX6_init 35 = .ok (.aload_n 0, 1) := by decide +kernel
theorem dX6_init_36 : decode cX6_init 36 = .ok (.iconst 0, 1) := by decide +kernel
theorem dX6_init_37 : decode cX6_init 37 = .ok (.putfield 31, 3) := by decide +kernel
theorem dX6_init_40 : decode cX6_init 40 = .ok (.return_, 1) := by decide +kernel
set_option maxRecDepth 20000 in
theorem ggX6_readInto_X3_begin : GoodIn wsX6_readInto wsX3_begin := goodIn_r _ [9, 10, 11, 12, 13, 14, 15, 16, 144, 145, 146, 147, 148, 149, 150, 151, 152] (by decide +kernel) (by decide +kernel)
set_option maxRecDepth 20000 in
theorem gX6_readInto_X3_begin : GoodIn wsX6_readInto (wsV RX6 34 RX3 yX3_begin wsX3_begin) := goodIn_app (goodIn_of _ (by decide +kernel)) ggX6_readInto_X3_begin
set_option maxRecDepth 20000 in
theorem ggX6_readInto_X6_readToken : GoodIn wsX6_readInto wsX6_readToken := goodIn_r _ [21, 1, 22, 23, 3, 24, 25, 26, 20, 27, 28, 29, 30, 31, 32, 33, 34, 35, 36, 37, 38, 39, 40, 41, 42, 43, 44, 45, 46, 47, 48, 49, 50, 51, 52, 53, 54, 55, 56, 57, 58, 59, 60, 61, 62, 63, 64, 65, 66, 67, 68, 69, 70, 71, 72, 73, 74, 75, 76, 77, 78, 79, 80, 81, 82, 83, 84, 85, 86, 87, 88, 89, 90, 91, 92, 93, 94, 95, 96, 97, 98, 99, 100, 101, 4, 102, 103, 104, 105, 138, 139, 140, 141, 142, 143, 153, 154] (by decide +kernel) (by decide +kernel)
set_option maxRecDepth 20000 in
theorem gX6_readInto_X6_readToken : GoodIn wsX6_readInto (wsV RX6 39 RX6 yX6_readToken wsX6_readToken) := goodIn_app (goodIn_of _ (by decide +kernel)) ggX6_readInto_X6_readToken
set_option maxRecDepth 20000 in
theorem ggX6_readInto_X6_mayBegin : GoodIn wsX6_readInto wsX6_mayBegin := goodIn_r _ [109, 3, 2, 138, 139, 140, 141, 142, 143, 144, 145, 146, 147, 148, 149, 150, 151, 152] (by decide +kernel) (by decide +kernel)
set_option maxRecDepth 20000 in
theorem gX6_readInto_X6_mayBegin : GoodIn wsX6_readInto (wsV RX6 42 RX6 yX6_mayBegin wsX6_mayBegin) := goodIn_app (goodIn_of _ (by decide +kernel)) ggX6_readInto_X6_mayBegin
set_option maxRecDepth 20000 in
theorem ggX6_readInto_X6_leastFirst : GoodIn wsX6_readInto wsX6_leastFirst := goodIn_r _ [112] (by decide +kernel) (by decide +kernel)
set_option maxRecDepth 20000 in
theorem gX6_readInto_X6_leastFirst : GoodIn wsX6_readInto (va_wsS RX6 46 yX6_leastFirst wsX6_leastFirst) := goodIn_app (goodIn_of _ (by decide +kernel)) ggX6_readInto_X6_leastFirst
set_option maxRecDepth 20000 in
theorem ggX6_readInto_X6_mostFirst : GoodIn wsX6_readInto wsX6_mostFirst := goodIn_r _ [115, 144, 145, 146, 147, 148, 149, 150, 151, 152] (by decide +kernel) (by decide +kernel)
set_option maxRecDepth 20000 in
theorem gX6_readInto_X6_mostFirst : GoodIn wsX6_readInto (va_wsS RX6 50 yX6_mostFirst wsX6_mostFirst) := goodIn_app (goodIn_of _ (by decide +kernel)) ggX6_readInto_X6_mostFirst
set_option maxRecDepth 20000 in
theorem ggX6_readInto_X6_readNumber : GoodIn wsX6_readInto wsX6_readNumber := goodIn_r _ [119, 3, 4, 17, 18, 19, 20, 21, 1, 22, 23, 24, 25, 26, 27, 28, 29, 30, 31, 32, 33, 34, 35, 36, 37, 38, 39, 40, 41, 42, 43, 44, 45, 46, 47, 48, 49, 50, 51, 52, 53, 54, 55, 56, 57, 58, 59, 60, 61, 62, 63, 64, 65, 66, 67, 68, 69, 70, 71, 72, 73, 74, 75, 76, 77, 78, 79, 80, 81, 82, 83, 84, 85, 86, 87, 88, 89, 90, 91, 92, 93, 94, 95, 96, 97, 98, 99, 100, 101, 102, 103, 104, 105, 138, 139, 140, 141, 142, 143, 153, 154] (by decide +kernel) (by decide +kernel)
set_option maxRecDepth 20000 in
theorem gX6_readInto_X6_readNumber : GoodIn wsX6_readInto (wsV RX6 54 RX6 yX6_readNumber wsX6_readNumber) := goodIn_app (goodIn_of _ (by decide +kernel)) ggX6_readInto_X6_readNumber
set_option maxRecDepth 20000 in
theorem ggX6_readInto_X6_tell : GoodIn wsX6_readInto wsX6_tell := goodIn_r _ [123, 2, 124, 125, 126, 8, 127, 10, 128, 129, 130, 131, 11, 132, 133, 134, 135, 13, 136, 137, 138, 139, 140, 141, 142, 143, 144, 145, 146, 147, 148, 149, 150, 151, 152] (by decide +kernel) (by decide +kernel)
set_option maxRecDepth 20000 in
theorem gX6_readInto_X6_tell : GoodIn wsX6_readInto (wsV RX6 58 RX6 yX6_tell wsX6_tell) := goodIn_app (goodIn_of _ (by decide +kernel)) ggX6_readInto_X6_tell
theorem dX6_readInto_0 : decode cX6_readInto 0 = .ok (.aload_n 1, 1) := by decide +kernel
theorem dX6_readInto_1 : decode cX6_readInto 1 = .ok (.invokevirtual 34, 3) := by decide +kernel
theorem dX6_readInto_4 : decode cX6_readInto 4 = .ok (.aload_n 0, 1) := by decide +kernel
theorem dX6_readInto_5 : decode cX6_readInto 5 = .ok (.iconst 0, 1) := by decide +kernel
theorem dX6_readInto_6 : decode cX6_readInto 6 = .ok (.putfield 18, 3) := by decide +kernel
theorem dX6_readInto_9 : decode cX6_readInto 9 = .ok (.aload_n 0, 1) := by decide +kernel
theorem dX6_readInto_10 : decode cX6_readInto 10 = .ok (.iconst 0, 1) := by decide +kernel
theorem dX6_readInto_11 : decode cX6_readInto 11 = .ok (.putfield 31, 3) := by decide +kernel
theorem dX6_readInto_14 : decode cX6_readInto 14 = .ok (.iconst 0, 1) := by decide +kernel
theorem dX6_readInto_15 : decode cX6_readInto 15 = .ok (.istore_n 2, 1) := by decide +kernel
theorem dX6_readInto_16 : decode cX6_readInto 16 = .ok (.iload_n 2, 1) := by decide +kernel
theorem dX6_readInto_17 : decode cX6_readInto 17 = .ok (.sipush 300, 3) := by decide +kernel
theorem dX6_readInto_20 : decode cX6_readInto 20 = .ok (.if_icmp .gt 118, 3) := by decide +kernel
theorem dX6_readInto_23 : decode cX6_readInto 23 = .ok (.aload_n 0, 1) := by decide +kernel
theorem dX6_readInto_24 : decode cX6_readInto 24 = .ok (.invokevirtual 39, 3) := by decide +kernel
theorem dX6_readInto_27 : decode cX6_readInto 27 = .ok (.aload_n 0, 1) := by decide +kernel
theorem dX6_readInto_28 : decode cX6_readInto 28 = .ok (.getfield 25, 3) := by decide +kernel
theorem dX6_readInto_31 : decode cX6_readInto 31 = .ok (.ifCond .ne 5, 3) := by decide +kernel
theorem dX6_readInto_34 : decode cX6_readInto 34 = .ok (.iload_n 2, 1) := by decide +kernel
theorem dX6_readInto_35 : decode cX6_readInto 35 = .ok (.ireturn, 1) := by decide +kernel
theorem dX6_readInto_36 : decode cX6_readInto 36 = .ok (.aload_n 0, 1) := by decide +kernel
theorem dX6_readInto_37 : decode cX6_readInto 37 = .ok (.getfield 25, 3) := by decide +kernel
theorem dX6_readInto_40 : decode cX6_readInto 40 = .ok (.istore_n 3, 1) := by decide +kernel
theorem dX6_readInto_41 : decode cX6_readInto 41 = .ok (.aload_n 0, 1) := by decide +kernel
theorem dX6_readInto_42 : decode cX6_readInto 42 = .ok (.aload_n 1, 1) := by decide +kernel
theorem dX6_readInto_43 : decode cX6_readInto 43 = .ok (.iload_n 2, 1) := by decide +kernel
theorem dX6_readInto_44 : decode cX6_readInto 44 = .ok (.invokevirtual 42, 3) := by decide +kernel
theorem dX6_readInto_47 : decode cX6_readInto 47 = .ok (.ifCond .eq 19, 3) := by decide +kernel
theorem dX6_readInto_50 : decode cX6_readInto 50 = .ok (.aload_n 0, 1) := by decide +kernel
theorem dX6_readInto_51 : decode cX6_readInto 51 = .ok (.iload_n 3, 1) := by decide +kernel
theorem dX6_readInto_52 : decode cX6_readInto 52 = .ok (.invokestatic 46, 3) := by decide +kernel
theorem dX6_readInto_55 : decode cX6_readInto 55 = .ok (.iload_n 3, 1) := by decide +kernel
theorem dX6_readInto_56 : decode cX6_readInto 56 = .ok (.aload_n 1, 1) := by decide +kernel
theorem dX6_readInto_57 : decode cX6_readInto 57 = .ok (.invokestatic 50, 3) := by decide +kernel
theorem dX6_readInto_60 : decode cX6_readInto 60 = .ok (.invokevirtual 54, 3) := by decide +kernel
theorem dX6_readInto_63 : decode cX6_readInto 63 = .ok (.ifCond .ne 5, 3) := by decide +kernel
theorem dX6_readInto_66 : decode cX6_readInto 66 = .ok (.iconst (-1), 1) := by decide +kernel
theorem dX6_readInto_67 : decode cX6_readInto 67 = .ok (.ireturn, 1) := by decide +kernel
theorem dX6_readInto_68 : decode cX6_readInto 68 = .ok (.aload_n 0, 1) := by decide +kernel
theorem dX6_readInto_69 : decode cX6_readInto 69 = .ok (.getfield 28, 3) := by decide +kernel
theorem dX6_readInto_72 : decode cX6_readInto 72 = .ok (.istore 4, 2) := by decide +kernel
theorem dX6_readInto_74 : decode cX6_readInto 74 = .ok (.iload_n 3, 1) := by decide +kernel
theorem dX6_readInto_75 : decode cX6_readInto 75 = .ok (.iconst 2, 1) := by decide +kernel
theorem dX6_readInto_76 : decode cX6_readInto 76 = .ok (.if_icmp .ne 12, 3) := by decide +kernel
theorem dX6_readInto_79 : decode cX6_readInto 79 = .ok (.aload_n 0, 1) := by decide +kernel
theorem dX6_readInto_80 : decode cX6_readInto 80 = .ok (.iconst 1, 1) := by decide +kernel
theorem dX6_readInto_81 : decode cX6_readInto 81 = .ok (.iconst 3, 1) := by decide +kernel
theorem dX6_readInto_82 : decode cX6_readInto 82 = .ok (.invokevirtual 54, 3) := by decide +kernel
theorem dX6_readInto_85 : decode cX6_readInto 85 = .ok (.ifCond .eq 18, 3) := by decide +kernel
theorem dX6_readInto_88 : decode cX6_readInto 88 = .ok (.iload_n 3, 1) := by decide +kernel
theorem dX6_readInto_89 : decode cX6_readInto 89 = .ok (.iconst 4, 1) := by decide +kernel
theorem dX6_readInto_90 : decode cX6_readInto 90 = .ok (.if_icmp .ne 15, 3) := by decide +kernel
theorem dX6_readInto_93 : decode cX6_readInto 93 = .ok (.aload_n 0, 1) := by decide +kernel
theorem dX6_readInto_94 : decode cX6_readInto 94 = .ok (.iconst 0, 1) := by decide +kernel
theorem dX6_readInto_95 : decode cX6_readInto 95 = .ok (.bipush 9, 2) := by decide +kernel
theorem dX6_readInto_97 : decode cX6_readInto 97 = .ok (.invokevirtual 54, 3) := by decide +kernel
theorem dX6_readInto_100 : decode cX6_readInto 100 = .ok (.ifCond .ne 5, 3) := by decide +kernel
theorem dX6_readInto_103 : decode cX6_readInto 103 = .ok (.iconst (-1), 1) := by decide +kernel
theorem dX6_readInto_104 : decode cX6_readInto 104 = .ok (.ireturn, 1) := by decide +kernel
