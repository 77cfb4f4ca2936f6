theorem dX9_isTurned_1 : decode cX9_isTurned 1 = .ok (.iload_n 1, 1) := by decide +kernel
theorem dX9_isTurned_2 : decode cX9_isTurned 2 = .ok (.invokestatic 166, 3) := by decide +kernel
theorem dX9_isTurned_5 : decode cX9_isTurned 5 = .ok (.iconst 4, 1) := by decide +kernel
theorem dX9_isTurned_6 : decode cX9_isTurned 6 = .ok (.irem, 1) := by decide +kernel
theorem dX9_isTurned_7 : decode cX9_isTurned 7 = .ok (.iconst 2, 1) := by decide +kernel
theorem dX9_isTurned_8 : decode cX9_isTurned 8 = .ok (.if_icmp .ne 7, 3) := by decide +kernel
theorem dX9_isTurned_11 : decode cX9_isTurned 11 = .ok (.iconst 1, 1) := by decide +kernel
theorem dX9_isTurned_12 : decode cX9_isTurned 12 = .ok (.goto 4, 3) := by decide +kernel
theorem dX9_isTurned_15 : decode cX9_isTurned 15 = .ok (.iconst 0, 1) := by decide +kernel
theorem dX9_isTurned_16 : decode cX9_isTurned 16 = .ok (.ireturn, 1) := by decide +kernel
theorem dX9_inLeastTerms_0 : decode cX9_inLeastTerms 0 = .ok (.lload_n 2, 1) := by decide +kernel
theorem dX9_inLeastTerms_1 : decode cX9_inLeastTerms 1 = .ok (.lstore 5, 2) := by decide +kernel
theorem dX9_inLeastTerms_3 : decode cX9_inLeastTerms 3 = .ok (.lload_n 0, 1) := by decide +kernel
theorem dX9_inLeastTerms_4 : decode cX9_inLeastTerms 4 = .ok (.lstore 7, 2) := by decide +kernel
theorem dX9_inLeastTerms_6 : decode cX9_inLeastTerms 6 = .ok (.iconst 0, 1) := by decide +kernel
theorem dX9_inLeastTerms_7 : decode cX9_inLeastTerms 7 = .ok (.istore 9, 2) := by decide +kernel
theorem dX9_inLeastTerms_9 : decode cX9_inLeastTerms 9 = .ok (.iload 9, 2) := by decide +kernel
theorem dX9_inLeastTerms_11 : decode cX9_inLeastTerms 11 = .ok (.bipush 100, 2) := by decide +kernel
theorem dX9_inLeastTerms_13 : decode cX9_inLeastTerms 13 = .ok (.if_icmp .ge 31, 3) := by decide +kernel
theorem dX9_inLeastTerms_16 : decode cX9_inLeastTerms 16 = .ok (.lload 7, 2) := by decide +kernel
theorem dX9_inLeastTerms_18 : decode cX9_inLeastTerms 18 = .ok (.lconst 0, 1) := by decide +kernel
theorem dX9_inLeastTerms_19 : decode cX9_inLeastTerms 19 = .ok (.lcmp, 1) := by decide +kernel
theorem dX9_inLeastTerms_20 : decode cX9_inLeastTerms 20 = .ok (.ifCond .eq 24, 3) := by decide +kernel
theorem dX9_inLeastTerms_23 : decode cX9_inLeastTerms 23 = .ok (.lload 5, 2) := by decide +kernel
theorem dX9_inLeastTerms_25 : decode cX9_inLeastTerms 25 = .ok (.lload 7, 2) := by decide +kernel
theorem dX9_inLeastTerms_27 : decode cX9_inLeastTerms 27 = .ok (.lrem, 1) := by decide +kernel
theorem dX9_inLeastTerms_28 : decode cX9_inLeastTerms 28 = .ok (.lstore 10, 2) := by decide +kernel
theorem dX9_inLeastTerms_30 : decode cX9_inLeastTerms 30 = .ok (.lload 7, 2) := by decide +kernel
theorem dX9_inLeastTerms_32 : decode cX9_inLeastTerms 32 = .ok (.lstore 5, 2) := by decide +kernel
theorem dX9_inLeastTerms_34 : decode cX9_inLeastTerms 34 = .ok (.lload 10, 2) := by decide +kernel
theorem dX9_inLeastTerms_36 : decode cX9_inLeastTerms 36 = .ok (.lstore 7, 2) := by decide +kernel
theorem dX9_inLeastTerms_38 : decode cX9_inLeastTerms 38 = .ok (.iinc 9 1, 3) := by decide +kernel
theorem dX9_inLeastTerms_41 : decode cX9_inLeastTerms 41 = .ok (.goto (-32), 3) := by decide +kernel
theorem dX9_inLeastTerms_44 : decode cX9_inLeastTerms 44 = .ok (.lload 5, 2) := by decide +kernel
theorem dX9_inLeastTerms_46 : decode cX9_inLeastTerms 46 = .ok (.lconst 0, 1) := by decide +kernel
theorem dX9_inLeastTerms_47 : decode cX9_inLeastTerms 47 = .ok (.lcmp, 1) := by decide +kernel
theorem dX9_inLeastTerms_48 : decode cX9_inLeastTerms 48 = .ok (.ifCond .ne 5, 3) := by decide +kernel
theorem dX9_inLeastTerms_51 : decode cX9_inLeastTerms 51 = .ok (.lconst 0, 1) := by decide +kernel
theorem dX9_inLeastTerms_52 : decode cX9_inLeastTerms 52 = .ok (.lreturn, 1) := by decide +kernel
theorem dX9_inLeastTerms_53 : decode cX9_inLeastTerms 53 = .ok (.iload 4, 2) := by decide +kernel
theorem dX9_inLeastTerms_55 : decode cX9_inLeastTerms 55 = .ok (.ifCond .ne 7, 3) := by decide +kernel
theorem dX9_inLeastTerms_58 : decode cX9_inLeastTerms 58 = .ok (.lload_n 0, 1) := by decide +kernel
theorem dX9_inLeastTerms_59 : decode cX9_inLeastTerms 59 = .ok (.goto 4, 3) := by decide +kernel
theorem dX9_inLeastTerms_62 : decode cX9_inLeastTerms 62 = .ok (.lload_n 2, 1) := by decide +kernel
theorem dX9_inLeastTerms_63 : decode cX9_inLeastTerms 63 = .ok (.lload 5, 2) := by decide +kernel
theorem dX9_inLeastTerms_65 : decode cX9_inLeastTerms 65 = .ok (.ldiv, 1) := by decide +kernel
theorem dX9_inLeastTerms_66 : decode cX9_inLeastTerms 66 = .ok (.lreturn, 1) := by decide +kernel
theorem dX10_init_0 : decode cX10_init 0 = .ok (.aload_n 0, 1) := by decide +kernel
theorem dX10_init_1 : decode cX10_init 1 = .ok (.invokespecial 1, 3) := by decide +kernel
theorem dX10_init_4 : decode cX10_init 4 = .ok (.aload_n 0, 1) := by decide +kernel
theorem dX10_init_5 : decode cX10_init 5 = .ok (.sipush 300, 3) := by decide +kernel
theorem dX10_init_8 : decode cX10_init 8 = .ok (.newarray .int, 2) := by decide +kernel
theorem dX10_init_10 : decode cX10_init 10 = .ok (.putfield 7, 3) := by decide +kernel
theorem dX10_init_13 : decode cX10_init 13 = .ok (.aload_n 0, 1) := by decide +kernel
theorem dX10_init_14 : decode cX10_init 14 = .ok (.bipush 48, 2) := by decide +kernel
theorem dX10_init_16 : decode cX10_init 16 = .ok (.newarray .int, 2) := by decide +kernel
theorem dX10_init_18 : decode cX10_init 18 = .ok (.putfield 13, 3) := by decide +kernel
theorem dX10_init_21 : decode cX10_init 21 = .ok (.aload_n 0, 1) := by decide +kernel
theorem dX10_init_22 : decode cX10_init 22 = .ok (.bipush 48, 2) := by decide +kernel
theorem dX10_init_24 : decode cX10_init 24 = .ok (.newarray .int, 2) := by decide +kernel
theorem dX10_init_26 : decode cX10_init 26 = .ok (.putfield 16, 3) := by decide +kernel
theorem dX10_init_29 : decode cX10_init 29 = .ok (.aload_n 0, 1) := by decide +kernel
theorem dX10_init_30 : decode cX10_init 30 = .ok (.bipush 6, 2) := by decide +kernel
theorem dX10_init_32 : decode cX10_init 32 = .ok (.newarray .int, 2) := by decide +kernel
theorem dX10_init_34 : decode cX10_init 34 = .ok (.putfield 19, 3) := by decide +kernel
theorem dX10_init_37 : decode cX10_init 37 = .ok (.aload_n 0, 1) := by decide +kernel
theorem dX10_init_38 : decode cX10_init 38 = .ok (.bipush 6, 2) := by decide +kernel
theorem dX10_init_40 : decode cX10_init 40 = .ok (.newarray .int, 2) := by decide +kernel
theorem dX10_init_42 : decode cX10_init 42 = .ok (.putfield 22, 3) := by decide +kernel
theorem dX10_init_45 : decode cX10_init 45 = .ok (.aload_n 0, 1) := by decide +kernel
theorem dX10_init_46 : decode cX10_init 46 = .ok (.bipush 14, 2) := by decide +kernel
theorem dX10_init_48 : decode cX10_init 48 = .ok (.newarray .int, 2) := by decide +kernel
theorem dX10_init_50 : decode cX10_init 50 = .ok (.putfield 25, 3) := by decide +kernel
theorem dX10_init_53 : decode cX10_init 53 = .ok (.aload_n 0, 1) := by decide +kernel
theorem dX10_init_54 : decode cX10_init 54 = .ok (.bipush 10, 2) := by decide +kernel
theorem dX10_init_56 : decode cX10_init 56 = .ok (.newarray .int, 2) := by decide +kernel
theorem dX10_init_58 : decode cX10_init 58 = .ok (.putfield 28, 3) := by decide +kernel
theorem dX10_init_61 : decode cX10_init 61 = .ok (.aload_n 0, 1) := by decide +kernel
theorem dX10_init_62 : decode cX10_init 62 = .ok (.bipush 20, 2) := by decide +kernel
theorem dX10_init_64 : decode cX10_init 64 = .ok (.newarray .int, 2) := by decide +kernel
theorem dX10_init_66 : decode cX10_init 66 = .ok (.putfield 31, 3) := by decide +kernel
theorem dX10_init_69 : decode cX10_init 69 = .ok (.aload_n 0, 1) := by decide +kernel
theorem dX10_init_70 : decode cX10_init 70 = .ok (.iconst 2, 1) := by decide +kernel
theorem dX10_init_71 : decode cX10_init 71 = .ok (.newarray .boolean, 2) := by decide +kernel
theorem dX10_init_73 : decode cX10_init 73 = .ok (.putfield 34, 3) := by decide +kernel
theorem dX10_init_76 : decode cX10_init 76 = .ok (.aload_n 0, 1) := by decide +kernel
theorem dX10_init_77 : decode cX10_init 77 = .ok (.bipush 40, 2) := by decide +kernel
theorem dX10_init_79 : decode cX10_init 79 = .ok (.newarray .int, 2) := by decide +kernel
theorem dX10_init_81 : decode cX10_init 81 = .ok (.putfield 38, 3) := by decide +kernel
theorem dX10_init_84 : decode cX10_init 84 = .ok (.aload_n 0, 1) := by decide +kernel
theorem dX10_init_85 : decode cX10_init 85 = .ok (.bipush 12, 2) := by decide +kernel
theorem dX10_init_87 : decode cX10_init 87 = .ok (.newarray .int, 2) := by decide +kernel
theorem dX10_init_89 : decode cX10_init 89 = .ok (.putfield 41, 3) := by decide +kernel
theorem dX10_init_92 : decode cX10_init 92 = .ok (.aload_n 0, 1) := by decide +kernel
theorem dX10_init_93 : decode cX10_init 93 = .ok (.sipush 3125, 3) := by decide +kernel
theorem dX10_init_96 : decode cX10_init 96 = .ok (.newarray .long, 2) := by decide +kernel
theorem dX10_init_98 : decode cX10_init 98 = .ok (.putfield 44, 3) := by decide +kernel
theorem dX10_init_101 : decode cX10_init 101 = .ok (.aload_n 0, 1) := by decide +kernel
theorem dX10_init_102 : decode cX10_init 102 = .ok (.bipush 24, 2) := by decide +kernel
theorem dX10_init_104 : decode cX10_init 104 = .ok (.newarray .int, 2) := by decide +kernel
theorem dX10_init_106 : decode cX10_init 106 = .ok (.putfield 48, 3) := by decide +kernel
theorem dX10_init_109 : decode cX10_init 109 = .ok (.aload_n 0, 1) := by decide +kernel
theorem dX10_init_110 : decode cX10_init 110 = .ok (.bipush 24, 2) := by decide +kernel
theorem dX10_init_112 : decode cX10_init 112 = .ok (.newarray .int, 2) := by decide +kernel
theorem dX10_init_114 : decode cX10_init 114 = .ok (.putfield 51, 3) := by decide +kernel
theorem dX10_init_117 : decode cX10_init 117 = .ok (.aload_n 0, 1) := by decide +kernel
theorem dX10_init_118 : decode cX10_init 118 = .ok (.bipush 12, 2) := by decide +kernel
theorem dX10_init_120 : decode cX10_init 120 = .ok (.putfield 54, 3) := by decide +kernel
theorem dX10_init_123 : decode cX10_init 123 = .ok (.aload_n 0, 1) := by decide +kernel
theorem dX10_init_124 : decode cX10_init 124 = .ok (.getfield 25, 3) := by decide +kernel
theorem dX10_init_127 : decode cX10_init 127 = .ok (.iconst 4, 1) := by decide +kernel
theorem dX10_init_128 : decode cX10_init 128 = .ok (.iconst 2, 1) := by decide +kernel
theorem dX10_init_129 : decode cX10_init 129 = .ok (.iastore, 1) := by decide +kernel
theorem dX10_init_130 : decode cX10_init 130 = .ok (.aload_n 0, 1) := by decide +kernel
theorem dX10_init_131 : decode cX10_init 131 = .ok (.getfield 25, 3) := by decide +kernel
theorem dX10_init_134 : decode cX10_init 134 = .ok (.iconst 5, 1) := by decide +kernel
theorem dX10_init_135 : decode cX10_init 135 = .ok (.iconst 3, 1) := by decide +kernel
theorem dX10_init_136 : decode cX10_init 136 = .ok (.iastore, 1) := by decide +kernel
theorem dX10_init_137 : decode cX10_init 137 = .ok (.aload_n 0, 1) := by decide +kernel
theorem dX10_init_138 : decode cX10_init 138 = .ok (.getfield 25, 3) := by decide +kernel
theorem dX10_init_141 : decode cX10_init 141 = .ok (.bipush 6, 2) := by decide +kernel
theorem dX10_init_143 : decode cX10_init 143 = .ok (.iconst 3, 1) := by decide +kernel
theorem dX10_init_144 : decode cX10_init 144 = .ok (.iastore, 1) := by decide +kernel
theorem dX10_init_145 : decode cX10_init 145 = .ok (.aload_n 0, 1) := by decide +kernel
theorem dX10_init_146 : decode cX10_init 146 = .ok (.getfield 28, 3) := by decide +kernel
theorem dX10_init_149 : decode cX10_init 149 = .ok (.bipush 9, 2) := by decide +kernel
theorem dX10_init_151 : decode cX10_init 151 = .ok (.iconst 1, 1) := by decide +kernel
theorem dX10_init_152 : decode cX10_init 152 = .ok (.iastore, 1) := by decide +kernel
theorem dX10_init_153 : decode cX10_init 153 = .ok (.return_, 1) := by decide +kernel
theorem dX10_in_0 : decode cX10_in 0 = .ok (.iload_n 0, 1) := by decide +kernel
theorem dX10_in_1 : decode cX10_in 1 = .ok (.iload_n 1, 1) := by decide +kernel
theorem dX10_in_2 : decode cX10_in 2 = .ok (.if_icmp .lt 12, 3) := by decide +kernel
theorem dX10_in_5 : decode cX10_in 5 = .ok (.iload_n 0, 1) := by decide +kernel
theorem dX10_in_6 : decode cX10_in 6 = .ok (.iload_n 2, 1) := by decide +kernel
theorem dX10_in_7 : decode cX10_in 7 = .ok (.if_icmp .gt 7, 3) := by decide +kernel
theorem dX10_in_10 : decode cX10_in 10 = .ok (.iconst 1, 1) := by decide +kernel
theorem dX10_in_11 : decode cX10_in 11 = .ok (.goto 4, 3) := by decide +kernel
theorem dX10_in_14 : decode cX10_in 14 = .ok (.iconst 0, 1) := by decide +kernel
theorem dX10_in_15 : decode cX10_in 15 = .ok (.ireturn, 1) := by decide +kernel
set_option maxRecDepth 20000 in
theorem ggX10_type_X10_in : GoodIn wsX10_type wsX10_in := goodIn_r _ [8] (by decide +kernel) (by decide +kernel)
set_option maxRecDepth 20000 in
theorem gX10_type_X10_in : GoodIn wsX10_type (va_wsS RX10 61 yX10_in wsX10_in) := goodIn_app (goodIn_of _ (by decide +kernel)) ggX10_type_X10_in
theorem dX10_type_0 : decode cX10_type 0 = .ok (.aload_n 0, 1) := by decide +kernel
theorem dX10_type_1 : decode cX10_type 1 = .ok (.iconst 0, 1) := by decide +kernel
theorem dX10_type_2 : decode cX10_type 2 = .ok (.putfield 58, 3) := by decide +kernel
theorem dX10_type_5 : decode cX10_type 5 = .ok (.iload_n 3, 1) := by decide +kernel
theorem dX10_type_6 : decode cX10_type 6 = .ok (.iconst 1, 1) := by decide +kernel
theorem dX10_type_7 : decode cX10_type 7 = .ok (.bipush 8, 2) := by decide +kernel
theorem dX10_type_9 : decode cX10_type 9 = .ok (.invokestatic 61, 3) := by decide +kernel
theorem dX10_type_12 : decode cX10_type 12 = .ok (.ifCond .ne 5, 3) := by decide +kernel
theorem dX10_type_15 : decode cX10_type 15 = .ok (.iconst (-1), 1) := by decide +kernel
theorem dX10_type_16 : decode cX10_type 16 = .ok (.ireturn, 1) := by decide +kernel
theorem dX10_type_17 : decode cX10_type 17 = .ok (.aload_n 0, 1) := by decide +kernel
theorem dX10_type_18 : decode cX10_type 18 = .ok (.getfield 65, 3) := by decide +kernel
theorem dX10_type_21 : decode cX10_type 21 = .ok (.iload_n 3, 1) := by decide +kernel
theorem dX10_type_22 : decode cX10_type 22 = .ok (.iadd, 1) := by decide +kernel
theorem dX10_type_23 : decode cX10_type 23 = .ok (.sipush 300, 3) := by decide +kernel
theorem dX10_type_26 : decode cX10_type 26 = .ok (.if_icmp .le 6, 3) := by decide +kernel
theorem dX10_type_29 : decode cX10_type 29 = .ok (.bipush (-3), 2) := by decide +kernel
theorem dX10_type_31 : decode cX10_type 31 = .ok (.ireturn, 1) := by decide +kernel
theorem dX10_type_32 : decode cX10_type 32 = .ok (.iload_n 3, 1) := by decide +kernel
theorem dX10_type_33 : decode cX10_type 33 = .ok (.iconst 1, 1) := by decide +kernel
theorem dX10_type_34 : decode cX10_type 34 = .ok (.isub, 1) := by decide +kernel
theorem dX10_type_35 : decode cX10_type 35 = .ok (.istore 4, 2) := by decide +kernel
theorem dX10_type_37 : decode cX10_type 37 = .ok (.iload 4, 2) := by decide +kernel
theorem dX10_type_39 : decode cX10_type 39 = .ok (.ifCond .lt 40, 3) := by decide +kernel
theorem dX10_type_42 : decode cX10_type 42 = .ok (.aload_n 0, 1) := by decide +kernel
theorem dX10_type_43 : decode cX10_type 43 = .ok (.getfield 7, 3) := by decide +kernel
theorem dX10_type_46 : decode cX10_type 46 = .ok (.aload_n 0, 1) := by decide +kernel
theorem dX10_type_47 : decode cX10_type 47 = .ok (.getfield 65, 3) := by decide +kernel
theorem dX10_type_50 : decode cX10_type 50 = .ok (.lload_n 1, 1) := by decide +kernel
theorem dX10_type_51 : decode cX10_type 51 = .ok (.bipush 8, 2) := by decide +kernel
theorem dX10_type_53 : decode cX10_type 53 = .ok (.iload 4, 2) := by decide +kernel
theorem dX10_type_55 : decode cX10_type 55 = .ok (.imul, 1) := by decide +kernel
theorem dX10_type_56 : decode cX10_type 56 = .ok (.lshr, 1) := by decide +kernel
theorem dX10_type_57 : decode cX10_type 57 = .ok (.ldc2_w 68, 3) := by decide +kernel
theorem dX10_type_60 : decode cX10_type 60 = .ok (.land, 1) := by decide +kernel
theorem dX10_type_61 : decode cX10_type 61 = .ok (.l2i, 1) := by decide +kernel
theorem dX10_type_62 : decode cX10_type 62 = .ok (.iastore, 1) := by decide +kernel
theorem dX10_type_63 : decode cX10_type 63 = .ok (.aload_n 0, 1) := by decide +kernel
theorem dX10_type_64 : decode cX10_type 64 = .ok (.dup, 1) := by decide +kernel
theorem dX10_type_65 : decode cX10_type 65 = .ok (.getfield 65, 3) := by decide +kernel
theorem dX10_type_68 : decode cX10_type 68 = .ok (.iconst 1, 1) := by decide +kernel
theorem dX10_type_69 : decode cX10_type 69 = .ok (.iadd, 1) := by decide +kernel
theorem dX10_type_70 : decode cX10_type 70 = .ok (.putfield 65, 3) := by decide +kernel
theorem dX10_type_73 : decode cX10_type 73 = .ok (.iinc 4 (-1), 3) := by decide +kernel
theorem dX10_type_76 : decode cX10_type 76 = .ok (.goto (-39), 3) := by decide +kernel
theorem dX10_type_79 : decode cX10_type 79 = .ok (.aload_n 0, 1) := by decide +kernel
theorem dX10_type_80 : decode cX10_type 80 = .ok (.getfield 65, 3) := by decide +kernel
theorem dX10_type_83 : decode cX10_type 83 = .ok (.ireturn, 1) := by decide +kernel
theorem dX10_clear_0 : decode cX10_clear 0 = .ok (.aload_n 0, 1) := by decide +kernel
theorem dX10_clear_1 : decode cX10_clear 1 = .ok (.iconst 0, 1) := by decide +kernel
theorem dX10_clear_2 : decode cX10_clear 2 = .ok (.putfield 58, 3) := by decide +kernel
theorem dX10_clear_5 : decode cX10_clear 5 = .ok (.aload_n 0, 1) := by decide +kernel
theorem dX10_clear_6 : decode cX10_clear 6 = .ok (.getfield 65, 3) := by decide +kernel
theorem dX10_clear_9 : decode cX10_clear 9 = .ok (.istore_n 1, 1) := by decide +kernel
theorem dX10_clear_10 : decode cX10_clear 10 = .ok (.aload_n 0, 1) := by decide +kernel
theorem dX10_clear_11 : decode cX10_clear 11 = .ok (.iconst 0, 1) := by decide +kernel
theorem dX10_clear_12 : decode cX10_clear 12 = .ok (.putfield 65, 3) := by decide +kernel
theorem dX10_clear_15 : decode cX10_clear 15 = .ok (.iload_n 1, 1) := by decide +kernel
theorem dX10_clear_16 : decode cX10_clear 16 = .ok (.ireturn, 1) := by decide +kernel
theorem dX10_byteAt_0 : decode cX10_byteAt 0 = .ok (.iload_n 1, 1) := by decide +kernel
theorem dX10_byteAt_1 : decode cX10_byteAt 1 = .ok (.aload_n 0, 1) := by decide +kernel
theorem dX10_byteAt_2 : decode cX10_byteAt 2 = .ok (.getfield 65, 3) := by decide +kernel
theorem dX10_byteAt_5 : decode cX10_byteAt 5 = .ok (.if_icmp .ge 12, 3) := by decide +kernel
theorem dX10_byteAt_8 : decode cX10_byteAt 8 = .ok (.aload_n 0, 1) := by decide +kernel
theorem dX10_byteAt_9 : decode cX10_byteAt 9 = .ok (.getfield 7, 3) := by decide +kernel
theorem dX10_byteAt_12 : decode cX10_byteAt 12 = .ok (.iload_n 1, 1) := by decide +kernel
theorem dX10_byteAt_13 : decode cX10_byteAt 13 = .ok (.iaload, 1) := by decide +kernel
theorem dX10_byteAt_14 : decode cX10_byteAt 14 = .ok (.goto 4, 3) := by decide +kernel
theorem dX10_byteAt_17 : decode cX10_byteAt 17 = .ok (.iconst (-1), 1) := by decide +kernel
theorem dX10_byteAt_18 : decode cX10_byteAt 18 = .ok (.ireturn, 1) := by decide +kernel
theorem dX10_add_0 : decode cX10_add 0 = .ok (.iload_n 2, 1) := by decide +kernel
theorem dX10_add_1 : decode cX10_add 1 = .ok (.ifCond .ne 7, 3) := by decide +kernel
theorem dX10_add_4 : decode cX10_add 4 = .ok (.lload_n 0, 1) := by decide +kernel
theorem dX10_add_5 : decode cX10_add 5 = .ok (.goto 11, 3) := by decide +kernel
theorem dX10_add_8 : decode cX10_add 8 = .ok (.ldc2_w 70, 3) := by decide +kernel
theorem dX10_add_11 : decode cX10_add 11 = .ok (.lload_n 0, 1) := by decide +kernel
theorem dX10_add_12 : decode cX10_add 12 = .ok (.lmul, 1) := by decide +kernel
theorem dX10_add_13 : decode cX10_add 13 = .ok (.iload_n 2, 1) := by decide +kernel
theorem dX10_add_14 : decode cX10_add 14 = .ok (.i2l, 1) := by decide +kernel
theorem dX10_add_15 : decode cX10_add 15 = .ok (.ladd, 1) := by decide +kernel
theorem dX10_add_16 : decode cX10_add 16 = .ok (.lreturn, 1) := by decide +kernel
set_option maxRecDepth 20000 in
theorem ggX10_named_X10_add : GoodIn wsX10_named wsX10_add := goodIn_r _ [4, 5] (by decide +kernel) (by decide +kernel)
set_option maxRecDepth 20000 in
theorem gX10_named_X10_add : GoodIn wsX10_named (va_wsS RX10 72 yX10_add wsX10_add) := goodIn_app (goodIn_of _ (by decide +kernel)) ggX10_named_X10_add
theorem dX10_named_0 : decode cX10_named 0 = .ok (.lconst 0, 1) := by decide +kernel
theorem dX10_named_1 : decode cX10_named 1 = .ok (.iload_n 0, 1) := by decide +kernel
theorem dX10_named_2 : decode cX10_named 2 = .ok (.invokestatic 72, 3) := by decide +kernel
theorem dX10_named_5 : decode cX10_named 5 = .ok (.iload_n 1, 1) := by decide +kernel
theorem dX10_named_6 : decode cX10_named 6 = .ok (.invokestatic 72, 3) := by decide +kernel
theorem dX10_named_9 : decode cX10_named 9 = .ok (.iload_n 2, 1) := by decide +kernel
theorem dX10_named_10 : decode cX10_named 10 = .ok (.invokestatic 72, 3) := by decide +kernel
theorem dX10_named_13 : decode cX10_named 13 = .ok (.iload_n 3, 1) := by decide +kernel
theorem dX10_named_14 : decode cX10_named 14 = .ok (.invokestatic 72, 3) := by decide +kernel
theorem dX10_named_17 : decode cX10_named 17 = .ok (.iload 4, 2) := by decide +kernel
theorem dX10_named_19 : decode cX10_named 19 = .ok (.invokestatic 72, 3) := by decide +kernel
theorem dX10_named_22 : decode cX10_named 22 = .ok (.iload 5, 2) := by decide +kernel
theorem dX10_named_24 : decode cX10_named 24 = .ok (.invokestatic 72, 3) := by decide +kernel
theorem dX10_named_27 : decode cX10_named 27 = .ok (.lreturn, 1) := by decide +kernel
set_option maxRecDepth 20000 in
theorem ggX10_wordOf_X10_named : GoodIn wsX10_wordOf wsX10_named := goodIn_r _ [4, 5, 6, 3, 7, 8] (by decide +kernel) (by decide +kernel)
set_option maxRecDepth 20000 in
theorem gX10_wordOf_X10_named : GoodIn wsX10_wordOf (va_wsS RX10 76 yX10_named wsX10_named) := goodIn_app (goodIn_of _ (by decide +kernel)) ggX10_wordOf_X10_named
theorem dX10_wordOf_0 : decode cX10_wordOf 0 = .ok (.lload_n 0, 1) := by decide +kernel
theorem dX10_wordOf_1 : decode cX10_wordOf 1 = .ok (.bipush 108, 2) := by decide +kernel
theorem dX10_wordOf_3 : decode cX10_wordOf 3 = .ok (.bipush 97, 2) := by decide +kernel
theorem dX10_wordOf_5 : decode cX10_wordOf 5 = .ok (.bipush 110, 2) := by decide +kernel
theorem dX10_wordOf_7 : decode cX10_wordOf 7 = .ok (.bipush 101, 2) := by decide +kernel
theorem dX10_wordOf_9 : decode cX10_wordOf 9 = .ok (.iconst 0, 1) := by decide +kernel
theorem dX10_wordOf_10 : decode cX10_wordOf 10 = .ok (.iconst 0, 1) := by decide +kernel
theorem dX10_wordOf_11 : decode cX10_wordOf 11 = .ok (.invokestatic 76, 3) := by decide +kernel
theorem dX10_wordOf_14 : decode cX10_wordOf 14 = .ok (.lcmp, 1) := by decide +kernel
theorem dX10_wordOf_15 : decode cX10_wordOf 15 = .ok (.ifCond .ne 7, 3) := by decide +kernel
theorem dX10_wordOf_18 : decode cX10_wordOf 18 = .ok (.iconst 0, 1) := by decide +kernel
theorem dX10_wordOf_19 : decode cX10_wordOf 19 = .ok (.goto 48, 3) := by decide +kernel
theorem dX10_wordOf_22 : decode cX10_wordOf 22 = .ok (.lload_n 0, 1) := by decide +kernel
theorem dX10_wordOf_23 : decode cX10_wordOf 23 = .ok (.bipush 119, 2) := by decide +kernel
theorem dX10_wordOf_25 : decode cX10_wordOf 25 = .ok (.bipush 105, 2) := by decide +kernel
theorem dX10_wordOf_27 : decode cX10_wordOf 27 = .ok (.bipush 110, 2) := by decide +kernel
theorem dX10_wordOf_29 : decode cX10_wordOf 29 = .ok (.bipush 100, 2) := by decide +kernel
theorem dX10_wordOf_31 : decode cX10_wordOf 31 = .ok (.iconst 0, 1) := by decide +kernel
theorem dX10_wordOf_32 : decode cX10_wordOf 32 = .ok (.iconst 0, 1) := by decide +kernel
theorem dX10_wordOf_33 : decode cX10_wordOf 33 = .ok (.invokestatic 76, 3) := by decide +kernel
theorem dX10_wordOf_36 : decode cX10_wordOf 36 = .ok (.lcmp, 1) := by decide +kernel
theorem dX10_wordOf_37 : decode cX10_wordOf 37 = .ok (.ifCond .ne 7, 3) := by decide +kernel
theorem dX10_wordOf_40 : decode cX10_wordOf 40 = .ok (.iconst 1, 1) := by decide +kernel
theorem dX10_wordOf_41 : decode cX10_wordOf 41 = .ok (.goto 26, 3) := by decide +kernel
theorem dX10_wordOf_44 : decode cX10_wordOf 44 = .ok (.lload_n 0, 1) := by decide +kernel
theorem dX10_wordOf_45 : decode cX10_wordOf 45 = .ok (.bipush 119, 2) := by decide +kernel
theorem dX10_wordOf_47 : decode cX10_wordOf 47 = .ok (.bipush 101, 2) := by decide +kernel
theorem dX10_wordOf_49 : decode cX10_wordOf 49 = .ok (.bipush 116, 2) := by decide +kernel
theorem dX10_wordOf_51 : decode cX10_wordOf 51 = .ok (.iconst 0, 1) := by decide +kernel
theorem dX10_wordOf_52 : decode cX10_wordOf 52 = .ok (.iconst 0, 1) := by decide +kernel
theorem dX10_wordOf_53 : decode cX10_wordOf 53 = .ok (.iconst 0, 1) := by decide +kernel
theorem dX10_wordOf_54 : decode cX10_wordOf 54 = .ok (.invokestatic 76, 3) := by decide +kernel
theorem dX10_wordOf_57 : decode cX10_wordOf 57 = .ok (.lcmp, 1) := by decide +kernel
theorem dX10_wordOf_58 : decode cX10_wordOf 58 = .ok (.ifCond .ne 7, 3) := by decide +kernel
theorem dX10_wordOf_61 : decode cX10_wordOf 61 = .ok (.iconst 2, 1) := by decide +kernel
theorem dX10_wordOf_62 : decode cX10_wordOf 62 = .ok (.goto 5, 3) := by decide +kernel
theorem dX10_wordOf_65 : decode cX10_wordOf 65 = .ok (.bipush (-9), 2) := by decide +kernel
theorem dX10_wordOf_67 : decode cX10_wordOf 67 = .ok (.istore_n 2, 1) := by decide +kernel
theorem dX10_wordOf_68 : decode cX10_wordOf 68 = .ok (.lload_n 0, 1) := by decide +kernel
theorem dX10_wordOf_69 : decode cX10_wordOf 69 = .ok (.bipush 114, 2) := by decide +kernel
theorem dX10_wordOf_71 : decode cX10_wordOf 71 = .ok (.bipush 117, 2) := by decide +kernel
theorem dX10_wordOf_73 : decode cX10_wordOf 73 = .ok (.bipush 110, 2) := by decide +kernel
theorem dX10_wordOf_75 : decode cX10_wordOf 75 = .ok (.bipush 110, 2) := by decide +kernel
theorem dX10_wordOf_77 : decode cX10_wordOf 77 = .ok (.bipush 101, 2) := by decide +kernel
theorem dX10_wordOf_79 : decode cX10_wordOf 79 = .ok (.bipush 114, 2) := by decide +kernel
theorem dX10_wordOf_81 : decode cX10_wordOf 81 = .ok (.invokestatic 76, 3) := by decide +kernel
theorem dX10_wordOf_84 : decode cX10_wordOf 84 = .ok (.lcmp, 1) := by decide +kernel
theorem dX10_wordOf_85 : decode cX10_wordOf 85 = .ok (.ifCond .ne 7, 3) := by decide +kernel
theorem dX10_wordOf_88 : decode cX10_wordOf 88 = .ok (.iconst 3, 1) := by decide +kernel
theorem dX10_wordOf_89 : decode cX10_wordOf 89 = .ok (.goto 26, 3) := by decide +kernel
theorem dX10_wordOf_92 : decode cX10_wordOf 92 = .ok (.lload_n 0, 1) := by decide +kernel
theorem dX10_wordOf_93 : decode cX10_wordOf 93 = .ok (.bipush 114, 2) := by decide +kernel
theorem dX10_wordOf_95 : decode cX10_wordOf 95 = .ok (.bipush 111, 2) := by decide +kernel
theorem dX10_wordOf_97 : decode cX10_wordOf 97 = .ok (.bipush 112, 2) := by decide +kernel
theorem dX10_wordOf_99 : decode cX10_wordOf 99 = .ok (.bipush 101, 2) := by decide +kernel
theorem dX10_wordOf_101 : decode cX10_wordOf 101 = .ok (.iconst 0, 1) := by decide +kernel
theorem dX10_wordOf_102 : decode cX10_wordOf 102 = .ok (.iconst 0, 1) := by decide +kernel
theorem dX10_wordOf_103 : decode cX10_wordOf 103 = .ok (.invokestatic 76, 3) := by decide +kernel
theorem dX10_wordOf_106 : decode cX10_wordOf 106 = .ok (.lcmp, 1) := by decide +kernel
theorem dX10_wordOf_107 : decode cX10_wordOf 107 = .ok (.ifCond .ne 7, 3) := by decide +kernel
theorem dX10_wordOf_110 : decode cX10_wordOf 110 = .ok (.iconst 4, 1) := by decide +kernel
theorem dX10_wordOf_111 : decode cX10_wordOf 111 = .ok (.goto 4, 3) := by decide +kernel
theorem dX10_wordOf_114 : decode cX10_wordOf 114 = .ok (.iload_n 2, 1) := by decide +kernel
theorem dX10_wordOf_115 : decode cX10_wordOf 115 = .ok (.istore_n 3, 1) := by decide +kernel
theorem dX10_wordOf_116 : decode cX10_wordOf 116 = .ok (.lload_n 0, 1) := by decide +kernel
theorem dX10_wordOf_117 : decode cX10_wordOf 117 = .ok (.bipush 110, 2) := by decide +kernel
theorem dX10_wordOf_119 : decode cX10_wordOf 119 = .ok (.bipush 101, 2) := by decide +kernel
theorem dX10_wordOf_121 : decode cX10_wordOf 121 = .ok (.bipush 101, 2) := by decide +kernel
theorem dX10_wordOf_123 : decode cX10_wordOf 123 = .ok (.bipush 100, 2) := by decide +kernel
theorem dX10_wordOf_125 : decode cX10_wordOf 125 = .ok (.iconst 0, 1) := by decide +kernel
theorem dX10_wordOf_126 : decode cX10_wordOf 126 = .ok (.iconst 0, 1) := by decide +kernel
theorem dX10_wordOf_127 : decode cX10_wordOf 127 = .ok (.invokestatic 76, 3) := by decide +kernel
theorem dX10_wordOf_130 : decode cX10_wordOf 130 = .ok (.lcmp, 1) := by decide +kernel
theorem dX10_wordOf_131 : decode cX10_wordOf 131 = .ok (.ifCond .ne 7, 3) := by decide +kernel
theorem dX10_wordOf_134 : decode cX10_wordOf 134 = .ok (.iconst 5, 1) := by decide +kernel
theorem dX10_wordOf_135 : decode cX10_wordOf 135 = .ok (.goto 27, 3) := by decide +kernel
theorem dX10_wordOf_138 : decode cX10_wordOf 138 = .ok (.lload_n 0, 1) := by decide +kernel
theorem dX10_wordOf_139 : decode cX10_wordOf 139 = .ok (.bipush 100, 2) := by decide +kernel
theorem dX10_wordOf_141 : decode cX10_wordOf 141 = .ok (.bipush 114, 2) := by decide +kernel
theorem dX10_wordOf_143 : decode cX10_wordOf 143 = .ok (.bipush 111, 2) := by decide +kernel
theorem dX10_wordOf_145 : decode cX10_wordOf 145 = .ok (.bipush 112, 2) := by decide +kernel
theorem dX10_wordOf_147 : decode cX10_wordOf 147 = .ok (.iconst 0, 1) := by decide +kernel
theorem dX10_wordOf_148 : decode cX10_wordOf 148 = .ok (.iconst 0, 1) := by decide +kernel
theorem dX10_wordOf_149 : decode cX10_wordOf 149 = .ok (.invokestatic 76, 3) := by decide +kernel
theorem dX10_wordOf_152 : decode cX10_wordOf 152 = .ok (.lcmp, 1) := by decide +kernel
theorem dX10_wordOf_153 : decode cX10_wordOf 153 = .ok (.ifCond .ne 8, 3) := by decide +kernel
theorem dX10_wordOf_156 : decode cX10_wordOf 156 = .ok (.bipush 6, 2) := by decide +kernel
theorem dX10_wordOf_158 : decode cX10_wordOf 158 = .ok (.goto 4, 3) := by decide +kernel
theorem dX10_wordOf_161 : decode cX10_wordOf 161 = .ok (.iload_n 3, 1) := by decide +kernel
theorem dX10_wordOf_162 : decode cX10_wordOf 162 = .ok (.ireturn, 1) := by decide +kernel
set_option maxRecDepth 20000 in
theorem ggX10_advances_X10_byteAt : GoodIn wsX10_advances wsX10_byteAt := goodIn_r _ [9, 10, 11, 25, 26, 27, 28, 29, 30, 31, 32, 33, 34, 35, 36, 37, 38, 39, 40, 41, 42, 43, 44, 45, 46, 47, 48, 49, 50, 51, 52, 53, 54, 55] (by decide +kernel) (by decide +kernel)
set_option maxRecDepth 20000 in
theorem gX10_advances_X10_byteAt : GoodIn wsX10_advances (wsV RX10 83 RX10 yX10_byteAt wsX10_byteAt) := goodIn_app (goodIn_of _ (by decide +kernel)) ggX10_advances_X10_byteAt
set_option maxRecDepth 20000 in
theorem ggX10_advances_X10_in : GoodIn wsX10_advances wsX10_in := goodIn_r _ [14] (by decide +kernel) (by decide +kernel)
set_option maxRecDepth 20000 in
theorem gX10_advances_X10_in : GoodIn wsX10_advances (va_wsS RX10 61 yX10_in wsX10_in) := goodIn_app (goodIn_of _ (by decide +kernel)) ggX10_advances_X10_in
set_option maxRecDepth 20000 in
theorem ggX10_advances_X10_add : GoodIn wsX10_advances wsX10_add := goodIn_r _ [17, 18] (by decide +kernel) (by decide +kernel)
set_option maxRecDepth 20000 in
theorem gX10_advances_X10_add : GoodIn wsX10_advances (va_wsS RX10 72 yX10_add wsX10_add) := goodIn_app (goodIn_of _ (by decide +kernel)) ggX10_advances_X10_add
set_option maxRecDepth 20000 in
theorem ggX10_advances_X10_wordOf : GoodIn wsX10_advances wsX10_wordOf := goodIn_r _ [21, 22, 23, 8, 24, 15, 16, 17, 18] (by decide +kernel) (by decide +kernel)
set_option maxRecDepth 20000 in
theorem gX10_advances_X10_wordOf : GoodIn wsX10_advances (va_wsS RX10 93 yX10_wordOf wsX10_wordOf) := goodIn_app (goodIn_of _ (by decide +kernel)) ggX10_advances_X10_wordOf
theorem dX10_advances_0 : decode cX10_advances 0 = .ok (.aload_n 0, 1) := by decide +kernel
theorem dX10_advances_1 : decode cX10_advances 1 = .ok (.aload_n 0, 1) := by decide +kernel
theorem dX10_advances_2 : decode cX10_advances 2 = .ok (.getfield 80, 3) := by decide +kernel
theorem dX10_advances_5 : decode cX10_advances 5 = .ok (.invokevirtual 83, 3) := by decide +kernel
theorem dX10_advances_8 : decode cX10_advances 8 = .ok (.bipush 32, 2) := by decide +kernel
theorem dX10_advances_10 : decode cX10_advances 10 = .ok (.if_icmp .ne 16, 3) := by decide +kernel
theorem dX10_advances_13 : decode cX10_advances 13 = .ok (.aload_n 0, 1) := by decide +kernel
theorem dX10_advances_14 : decode cX10_advances 14 = .ok (.dup, 1) := by decide +kernel
theorem dX10_advances_15 : decode cX10_advances 15 = .ok (.getfield 80, 3) := by decide +kernel
theorem dX10_advances_18 : decode cX10_advances 18 = .ok (.iconst 1, 1) := by decide +kernel
theorem dX10_advances_19 : decode cX10_advances 19 = .ok (.iadd, 1) := by decide +kernel
theorem dX10_advances_20 : decode cX10_advances 20 = .ok (.putfield 80, 3) := by decide +kernel
theorem dX10_advances_23 : decode cX10_advances 23 = .ok (.goto (-23), 3) := by decide +kernel
theorem dX10_advances_26 : decode cX10_advances 26 = .ok (.aload_n 0, 1) := by decide +kernel
theorem dX10_advances_27 : decode cX10_advances 27 = .ok (.aload_n 0, 1) := by decide +kernel
theorem dX10_advances_28 : decode cX10_advances 28 = .ok (.getfield 80, 3) := by decide +kernel
theorem dX10_advances_31 : decode cX10_advances 31 = .ok (.putfield 87, 3) := by decide +kernel
theorem dX10_advances_34 : decode cX10_advances 34 = .ok (.aload_n 0, 1) := by decide +kernel
theorem dX10_advances_35 : decode cX10_advances 35 = .ok (.aload_n 0, 1) := by decide +kernel
theorem dX10_advances_36 : decode cX10_advances 36 = .ok (.getfield 80, 3) := by decide +kernel
theorem dX10_advances_39 : decode cX10_advances 39 = .ok (.invokevirtual 83, 3) := by decide +kernel
theorem dX10_advances_42 : decode cX10_advances 42 = .ok (.istore_n 1, 1) := by decide +kernel
theorem dX10_advances_43 : decode cX10_advances 43 = .ok (.iload_n 1, 1) := by decide +kernel
theorem dX10_advances_44 : decode cX10_advances 44 = .ok (.ifCond .ge 11, 3) := by decide +kernel
theorem dX10_advances_47 : decode cX10_advances 47 = .ok (.aload_n 0, 1) := by decide +kernel
theorem dX10_advances_48 : decode cX10_advances 48 = .ok (.iconst 0, 1) := by decide +kernel
theorem dX10_advances_49 : decode cX10_advances 49 = .ok (.putfield 90, 3) := by decide +kernel
theorem dX10_advances_52 : decode cX10_advances 52 = .ok (.goto 258, 3) := by decide +kernel
theorem dX10_advances_55 : decode cX10_advances 55 = .ok (.iload_n 1, 1) := by decide +kernel
theorem dX10_advances_56 : decode cX10_advances 56 = .ok (.bipush 97, 2) := by decide +kernel
theorem dX10_advances_58 : decode cX10_advances 58 = .ok (.bipush 122, 2) := by decide +kernel
theorem dX10_advances_60 : decode cX10_advances 60 = .ok (.invokestatic 61, 3) := by decide +kernel
theorem dX10_advances_63 : decode cX10_advances 63 = .ok (.ifCond .eq 96, 3) := by decide +kernel
theorem dX10_advances_66 : decode cX10_advances 66 = .ok (.lconst 0, 1) := by decide +kernel
theorem dX10_advances_67 : decode cX10_advances 67 = .ok (.lstore_n 2, 1) := by decide +kernel
theorem dX10_advances_68 : decode cX10_advances 68 = .ok (.aload_n 0, 1) := by decide +kernel
theorem dX10_advances_69 : decode cX10_advances 69 = .ok (.aload_n 0, 1) := by decide +kernel
theorem dX10_advances_70 : decode cX10_advances 70 = .ok (.getfield 80, 3) := by decide +kernel
theorem dX10_advances_73 : decode cX10_advances 73 = .ok (.invokevirtual 83, 3) := by decide +kernel
theorem dX10_advances_76 : decode cX10_advances 76 = .ok (.bipush 97, 2) := by decide +kernel
theorem dX10_advances_78 : decode cX10_advances 78 = .ok (.bipush 122, 2) := by decide +kernel
theorem dX10_advances_80 : decode cX10_advances 80 = .ok (.invokestatic 61, 3) := by decide +kernel
theorem dX10_advances_83 : decode cX10_advances 83 = .ok (.ifCond .eq 47, 3) := by decide +kernel
theorem dX10_advances_86 : decode cX10_advances 86 = .ok (.aload_n 0, 1) := by decide +kernel
theorem dX10_advances_87 : decode cX10_advances 87 = .ok (.getfield 80, 3) := by decide +kernel
theorem dX10_advances_90 : decode cX10_advances 90 = .ok (.aload_n 0, 1) := by decide +kernel
theorem dX10_advances_91 : decode cX10_advances 91 = .ok (.getfield 87, 3) := by decide +kernel
theorem dX10_advances_94 : decode cX10_advances 94 = .ok (.isub, 1) := by decide +kernel
theorem dX10_advances_95 : decode cX10_advances 95 = .ok (.bipush 7, 2) := by decide +kernel
theorem dX10_advances_97 : decode cX10_advances 97 = .ok (.if_icmp .ge 18, 3) := by decide +kernel
theorem dX10_advances_100 : decode cX10_advances 100 = .ok (.lload_n 2, 1) := by decide +kernel
theorem dX10_advances_101 : decode cX10_advances 101 = .ok (.aload_n 0, 1) := by decide +kernel
theorem dX10_advances_102 : decode cX10_advances 102 = .ok (.aload_n 0, 1) := by decide +kernel
theorem dX10_advances_103 : decode cX10_advances 103 = .ok (.getfield 80, 3) := by decide +kernel
theorem dX10_advances_106 : decode cX10_advances 106 = .ok (.invokevirtual 83, 3) := by decide +kernel
theorem dX10_advances_109 : decode cX10_advances 109 = .ok (.invokestatic 72, 3) := by decide +kernel
theorem dX10_advances_112 : decode cX10_advances 112 = .ok (.goto 4, 3) := by decide +kernel
theorem dX10_advances_115 : decode cX10_advances 115 = .ok (.lload_n 2, 1) := by decide +kernel
theorem dX10_advances_116 : decode cX10_advances 116 = .ok (.lstore_n 2, 1) := by decide +kernel
theorem dX10_advances_117 : decode cX10_advances 117 = .ok (.aload_n 0, 1) := by decide +kernel
theorem dX10_advances_118 : decode cX10_advances 118 = .ok (.dup, 1) := by decide +kernel
theorem dX10_advances_119 : decode cX10_advances 119 = .ok (.getfield 80, 3) := by decide +kernel
theorem dX10_advances_122 : decode cX10_advances 122 = .ok (.iconst 1, 1) := by decide +kernel
theorem dX10_advances_123 : decode cX10_advances 123 = .ok (.iadd, 1) := by decide +kernel
theorem dX10_advances_124 : decode cX10_advances 124 = .ok (.putfield 80, 3) := by decide +kernel
theorem dX10_advances_127 : decode cX10_advances 127 = .ok (.goto (-59), 3) := by decide +kernel
theorem dX10_advances_130 : decode cX10_advances 130 = .ok (.aload_n 0, 1) := by decide +kernel
theorem dX10_advances_131 : decode cX10_advances 131 = .ok (.lload_n 2, 1) := by decide +kernel
theorem dX10_advances_132 : decode cX10_advances 132 = .ok (.invokestatic 93, 3) := by decide +kernel
theorem dX10_advances_135 : decode cX10_advances 135 = .ok (.putfield 97, 3) := by decide +kernel
theorem dX10_advances_138 : decode cX10_advances 138 = .ok (.aload_n 0, 1) := by decide +kernel
theorem dX10_advances_139 : decode cX10_advances 139 = .ok (.aload_n 0, 1) := by decide +kernel
theorem dX10_advances_140 : decode cX10_advances 140 = .ok (.getfield 97, 3) := by decide +kernel
theorem dX10_advances_143 : decode cX10_advances 143 = .ok (.bipush (-9), 2) := by decide +kernel
theorem dX10_advances_145 : decode cX10_advances 145 = .ok (.if_icmp .ne 7, 3) := by decide +kernel
theorem dX10_advances_148 : decode cX10_advances 148 = .ok (.iconst 4, 1) := by decide +kernel
theorem dX10_advances_149 : decode cX10_advances 149 = .ok (.goto 4, 3) := by decide +kernel
theorem dX10_advances_152 : decode cX10_advances 152 = .ok (.iconst 1, 1) := by decide +kernel
theorem dX10_advances_153 : decode cX10_advances 153 = .ok (.putfield 90, 3) := by decide +kernel
theorem dX10_advances_156 : decode cX10_advances 156 = .ok (.goto 154, 3) := by decide +kernel
theorem dX10_advances_159 : decode cX10_advances 159 = .ok (.iload_n 1, 1) := by decide +kernel
theorem dX10_advances_160 : decode cX10_advances 160 = .ok (.bipush 48, 2) := by decide +kernel
theorem dX10_advances_162 : decode cX10_advances 162 = .ok (.bipush 57, 2) := by decide +kernel
theorem dX10_advances_164 : decode cX10_advances 164 = .ok (.invokestatic 61, 3) := by decide +kernel
theorem dX10_advances_167 : decode cX10_advances 167 = .ok (.ifCond .eq 118, 3) := by decide +kernel
theorem dX10_advances_170 : decode cX10_advances 170 = .ok (.aload_n 0, 1) := by decide +kernel
theorem dX10_advances_171 : decode cX10_advances 171 = .ok (.iconst 0, 1) := by decide +kernel
theorem dX10_advances_172 : decode cX10_advances 172 = .ok (.putfield 97, 3) := by decide +kernel
theorem dX10_advances_175 : decode cX10_advances 175 = .ok (.aload_n 0, 1) := by decide +kernel
theorem dX10_advances_176 : decode cX10_advances 176 = .ok (.aload_n 0, 1) := by decide +kernel
theorem dX10_advances_177 : decode cX10_advances 177 = .ok (.getfield 80, 3) := by decide +kernel
theorem dX10_advances_180 : decode cX10_advances 180 = .ok (.invokevirtual 83, 3) := by decide +kernel
theorem dX10_advances_183 : decode cX10_advances 183 = .ok (.bipush 48, 2) := by decide +kernel
theorem dX10_advances_185 : decode cX10_advances 185 = .ok (.bipush 57, 2) := by decide +kernel
theorem dX10_advances_187 : decode cX10_advances 187 = .ok (.invokestatic 61, 3) := by decide +kernel
theorem dX10_advances_190 : decode cX10_advances 190 = .ok (.ifCond .eq 55, 3) := by decide +kernel
theorem dX10_advances_193 : decode cX10_advances 193 = .ok (.aload_n 0, 1) := by decide +kernel
theorem dX10_advances_194 : decode cX10_advances 194 = .ok (.aload_n 0, 1) := by decide +kernel
theorem dX10_advances_195 : decode cX10_advances 195 = .ok (.getfield 97, 3) := by decide +kernel
theorem dX10_advances_198 : decode cX10_advances 198 = .ok (.bipush 99, 2) := by decide +kernel
theorem dX10_advances_200 : decode cX10_advances 200 = .ok (.if_icmp .le 10, 3) := by decide +kernel
theorem dX10_advances_203 : decode cX10_advances 203 = .ok (.aload_n 0, 1) := by decide +kernel
theorem dX10_advances_204 : decode cX10_advances 204 = .ok (.getfield 97, 3) := by decide +kernel
theorem dX10_advances_207 : decode cX10_advances 207 = .ok (.goto 22, 3) := by decide +kernel
theorem dX10_advances_210 : decode cX10_advances 210 = .ok (.bipush 10, 2) := by decide +kernel
theorem dX10_advances_212 : decode cX10_advances 212 = .ok (.aload_n 0, 1) := by decide +kernel
theorem dX10_advances_213 : decode cX10_advances 213 = .ok (.getfield 97, 3) := by decide +kernel
theorem dX10_advances_216 : decode cX10_advances 216 = .ok (.imul, 1) := by decide +kernel
theorem dX10_advances_217 : decode cX10_advances 217 = .ok (.aload_n 0, 1) := by decide +kernel
theorem dX10_advances_218 : decode cX10_advances 218 = .ok (.aload_n 0, 1) := by decide +kernel
theorem dX10_advances_219 : decode cX10_advances 219 = .ok (.getfield 80, 3) := by decide +kernel
theorem dX10_advances_222 : decode cX10_advances 222 = .ok (.invokevirtual 83, 3) := by decide +kernel
theorem dX10_advances_225 : decode cX10_advances 225 = .ok (.iadd, 1) := by decide +kernel
theorem dX10_advances_226 : decode cX10_advances 226 = .ok (.bipush 48, 2) := by decide +kernel
theorem dX10_advances_228 : decode cX10_advances 228 = .ok (.isub, 1) := by decide +kernel
theorem dX10_advances_229 : decode cX10_advances 229 = .ok (.putfield 97, 3) := by decide +kernel
theorem dX10_advances_232 : decode cX10_advances 232 = .ok (.aload_n 0, 1) := by decide +kernel
theorem dX10_advances_233 : decode cX10_advances 233 = .ok (.dup, 1) := by decide +kernel
theorem dX10_advances_234 : decode cX10_advances 234 = .ok (.getfield 80, 3) := by decide +kernel
theorem dX10_advances_237 : decode cX10_advances 237 = .ok (.iconst 1, 1) := by decide +kernel
theorem dX10_advances_238 : decode cX10_advances 238 = .ok (.iadd, 1) := by decide +kernel
theorem dX10_advances_239 : decode cX10_advances 239 = .ok (.putfield 80, 3) := by decide +kernel
theorem dX10_advances_242 : decode cX10_advances 242 = .ok (.goto (-67), 3) := by decide +kernel
theorem dX10_advances_245 : decode cX10_advances 245 = .ok (.aload_n 0, 1) := by decide +kernel
theorem dX10_advances_246 : decode cX10_advances 246 = .ok (.aload_n 0, 1) := by decide +kernel
theorem dX10_advances_247 : decode cX10_advances 247 = .ok (.getfield 97, 3) := by decide +kernel
theorem dX10_advances_250 : decode cX10_advances 250 = .ok (.bipush 99, 2) := by decide +kernel
theorem dX10_advances_252 : decode cX10_advances 252 = .ok (.if_icmp .gt 22, 3) := by decide +kernel
theorem dX10_advances_255 : decode cX10_advances 255 = .ok (.iload_n 1, 1) := by decide +kernel
theorem dX10_advances_256 : decode cX10_advances 256 = .ok (.bipush 48, 2) := by decide +kernel
theorem dX10_advances_258 : decode cX10_advances 258 = .ok (.if_icmp .ne 20, 3) := by decide +kernel
theorem dX10_advances_261 : decode cX10_advances 261 = .ok (.aload_n 0, 1) := by decide +kernel
theorem dX10_advances_262 : decode cX10_advances 262 = .ok (.getfield 80, 3) := by decide +kernel
theorem dX10_advances_265 : decode cX10_advances 265 = .ok (.aload_n 0, 1) := by decide +kernel
theorem dX10_advances_266 : decode cX10_advances 266 = .ok (.getfield 87, 3) := by decide +kernel
theorem dX10_advances_269 : decode cX10_advances 269 = .ok (.isub, 1) := by decide +kernel
theorem dX10_advances_270 : decode cX10_advances 270 = .ok (.iconst 1, 1) := by decide +kernel
theorem dX10_advances_271 : decode cX10_advances 271 = .ok (.if_icmp .le 7, 3) := by decide +kernel
theorem dX10_advances_274 : decode cX10_advances 274 = .ok (.iconst 4, 1) := by decide +kernel
theorem dX10_advances_275 : decode cX10_advances 275 = .ok (.goto 4, 3) := by decide +kernel
theorem dX10_advances_278 : decode cX10_advances 278 = .ok (.iconst 2, 1) := by decide +kernel
theorem dX10_advances_279 : decode cX10_advances 279 = .ok (.putfield 90, 3) := by decide +kernel
theorem dX10_advances_282 : decode cX10_advances 282 = .ok (.goto 28, 3) := by decide +kernel
theorem dX10_advances_285 : decode cX10_advances 285 = .ok (.aload_n 0, 1) := by decide +kernel
theorem dX10_advances_286 : decode cX10_advances 286 = .ok (.dup, 1) := by decide +kernel
theorem dX10_advances_287 : decode cX10_advances 287 = .ok (.getfield 80, 3) := by decide +kernel
theorem dX10_advances_290 : decode cX10_advances 290 = .ok (.iconst 1, 1) := by decide +kernel
theorem dX10_advances_291 : decode cX10_advances 291 = .ok (.iadd, 1) := by decide +kernel
theorem dX10_advances_292 : decode cX10_advances 292 = .ok (.putfield 80, 3) := by decide +kernel
theorem dX10_advances_295 : decode cX10_advances 295 = .ok (.aload_n 0, 1) := by decide +kernel
theorem dX10_advances_296 : decode cX10_advances 296 = .ok (.iload_n 1, 1) := by decide +kernel
theorem dX10_advances_297 : decode cX10_advances 297 = .ok (.bipush 59, 2) := by decide +kernel
theorem dX10_advances_299 : decode cX10_advances 299 = .ok (.if_icmp .ne 7, 3) := by decide +kernel
theorem dX10_advances_302 : decode cX10_advances 302 = .ok (.iconst 3, 1) := by decide +kernel
theorem dX10_advances_303 : decode cX10_advances 303 = .ok (.goto 4, 3) := by decide +kernel
theorem dX10_advances_306 : decode cX10_advances 306 = .ok (.iconst 4, 1) := by decide +kernel
theorem dX10_advances_307 : decode cX10_advances 307 = .ok (.putfield 90, 3) := by decide +kernel
theorem dX10_advances_310 : decode cX10_advances 310 = .ok (.return_, 1) := by decide +kernel
theorem dX10_isWell_0 : decode cX10_isWell 0 = .ok (.aload_n 0, 1) := by decide +kernel
theorem dX10_isWell_1 : decode cX10_isWell 1 = .ok (.getfield 100, 3) := by decide +kernel
theorem dX10_isWell_4 : decode cX10_isWell 4 = .ok (.ifCond .ge 7, 3) := by decide +kernel
theorem dX10_isWell_7 : decode cX10_isWell 7 = .ok (.iconst 1, 1) := by decide +kernel
theorem dX10_isWell_8 : decode cX10_isWell 8 = .ok (.goto 4, 3) := by decide +kernel
theorem dX10_isWell_11 : decode cX10_isWell 11 = .ok (.iconst 0, 1) := by decide +kernel
theorem dX10_isWell_12 : decode cX10_isWell 12 = .ok (.ireturn, 1) := by decide +kernel
set_option maxRecDepth 20000 in
theorem ggX10_takes_X10_isWell : GoodIn wsX10_takes wsX10_isWell := goodIn_r _ [8, 2, 34, 35, 36, 37, 38, 39, 40, 41, 42, 43, 44, 45, 46, 47, 48, 49, 50, 51, 52, 53, 54, 55, 56, 57, 58, 59, 60, 61, 62, 63, 64] (by decide +kernel) (by decide +kernel)
set_option maxRecDepth 20000 in
theorem gX10_takes_X10_isWell : GoodIn wsX10_takes (wsV RX10 103 RX10 yX10_isWell wsX10_isWell) := goodIn_app (goodIn_of _ (by decide +kernel)) ggX10_takes_X10_isWell
set_option maxRecDepth 20000 in
theorem ggX10_takes_X10_advances : GoodIn wsX10_takes wsX10_advances := goodIn_r _ [12, 13, 1, 14, 3, 15, 16, 17, 7, 18, 19, 20, 21, 22, 23, 24, 25, 26, 27, 28, 29, 30, 31, 32, 33, 34, 35, 36, 37, 38, 39, 40, 41, 42, 43, 44, 45, 46, 47, 48, 49, 50, 51, 52, 53, 54, 55, 56, 57, 58, 59, 60, 61, 62, 63, 64] (by decide +kernel) (by decide +kernel)
set_option maxRecDepth 20000 in
theorem gX10_takes_X10_advances : GoodIn wsX10_takes (wsV RX10 107 RX10 yX10_advances wsX10_advances) := goodIn_app (goodIn_of _ (by decide +kernel)) ggX10_takes_X10_advances
theorem dX10_takes_0 : decode cX10_takes 0 = .ok (.aload_n 0, 1) := by decide +kernel
theorem dX10_takes_1 : decode cX10_takes 1 = .ok (.invokevirtual 103, 3) := by decide +kernel
theorem dX10_takes_4 : decode cX10_takes 4 = .ok (.ifCond .ne 5, 3) := by decide +kernel
theorem dX10_takes_7 : decode cX10_takes 7 = .ok (.iconst 0, 1) := by decide +kernel
theorem dX10_takes_8 : decode cX10_takes 8 = .ok (.ireturn, 1) := by decide +kernel
theorem dX10_takes_9 : decode cX10_takes 9 = .ok (.iload_n 1, 1) := by decide +kernel
theorem dX10_takes_10 : decode cX10_takes 10 = .ok (.ifCond .ne 13, 3) := by decide +kernel
theorem dX10_takes_13 : decode cX10_takes 13 = .ok (.aload_n 0, 1) := by decide +kernel
theorem dX10_takes_14 : decode cX10_takes 14 = .ok (.aload_n 0, 1) := by decide +kernel
theorem dX10_takes_15 : decode cX10_takes 15 = .ok (.getfield 87, 3) := by decide +kernel
theorem dX10_takes_18 : decode cX10_takes 18 = .ok (.putfield 100, 3) := by decide +kernel
theorem dX10_takes_21 : decode cX10_takes 21 = .ok (.iconst 0, 1) := by decide +kernel
theorem dX10_takes_22 : decode cX10_takes 22 = .ok (.ireturn, 1) := by decide +kernel
theorem dX10_takes_23 : decode cX10_takes 23 = .ok (.aload_n 0, 1) := by decide +kernel
theorem dX10_takes_24 : decode cX10_takes 24 = .ok (.getfield 97, 3) := by decide +kernel
theorem dX10_takes_27 : decode cX10_takes 27 = .ok (.istore_n 2, 1) := by decide +kernel
theorem dX10_takes_28 : decode cX10_takes 28 = .ok (.aload_n 0, 1) := by decide +kernel
theorem dX10_takes_29 : decode cX10_takes 29 = .ok (.invokevirtual 107, 3) := by decide +kernel
theorem dX10_takes_32 : decode cX10_takes 32 = .ok (.iload_n 2, 1) := by decide +kernel
theorem dX10_takes_33 : decode cX10_takes 33 = .ok (.ireturn, 1) := by decide +kernel
set_option maxRecDepth 20000 in
theorem ggX10_number_X10_in : GoodIn wsX10_number wsX10_in := goodIn_r _ [6] (by decide +kernel) (by decide +kernel)
set_option maxRecDepth 20000 in
theorem gX10_number_X10_in : GoodIn wsX10_number (va_wsS RX10 61 yX10_in wsX10_in) := goodIn_app (goodIn_of _ (by decide +kernel)) ggX10_number_X10_in
set_option maxRecDepth 20000 in
theorem ggX10_number_X10_takes : GoodIn wsX10_number wsX10_takes := goodIn_r _ [10, 11, 12, 2, 13, 14, 15, 5, 16, 17, 18, 19, 20, 21, 1, 22, 23, 24, 25, 26, 27, 3, 4, 6, 28, 29, 30, 31, 32, 33, 34, 35, 36, 37, 38, 39, 40, 41, 42, 43, 44, 45, 46, 47, 48, 49, 50, 51, 52, 53, 54, 55, 56, 57, 58, 59, 60, 61, 62, 63, 64, 65, 66, 67, 68] (by decide +kernel) (by decide +kernel)
set_option maxRecDepth 20000 in
theorem gX10_number_X10_takes : GoodIn wsX10_number (wsV RX10 110 RX10 yX10_takes wsX10_takes) := goodIn_app (goodIn_of _ (by decide +kernel)) ggX10_number_X10_takes
theorem dX10_number_0 : decode cX10_number 0 = .ok (.aload_n 0, 1) := by decide +kernel
theorem dX10_number_1 : decode cX10_number 1 = .ok (.aload_n 0, 1) := by decide +kernel
theorem dX10_number_2 : decode cX10_number 2 = .ok (.getfield 90, 3) := by decide +kernel
theorem dX10_number_5 : decode cX10_number 5 = .ok (.iconst 2, 1) := by decide +kernel
theorem dX10_number_6 : decode cX10_number 6 = .ok (.if_icmp .ne 19, 3) := by decide +kernel
theorem dX10_number_9 : decode cX10_number 9 = .ok (.aload_n 0, 1) := by decide +kernel
theorem dX10_number_10 : decode cX10_number 10 = .ok (.getfield 97, 3) := by decide +kernel
theorem dX10_number_13 : decode cX10_number 13 = .ok (.iload_n 1, 1) := by decide +kernel
theorem dX10_number_14 : decode cX10_number 14 = .ok (.iload_n 2, 1) := by decide +kernel
theorem dX10_number_15 : decode cX10_number 15 = .ok (.invokestatic 61, 3) := by decide +kernel
theorem dX10_number_18 : decode cX10_number 18 = .ok (.ifCond .eq 7, 3) := by decide +kernel
theorem dX10_number_21 : decode cX10_number 21 = .ok (.iconst 1, 1) := by decide +kernel
theorem dX10_number_22 : decode cX10_number 22 = .ok (.goto 4, 3) := by decide +kernel
theorem dX10_number_25 : decode cX10_number 25 = .ok (.iconst 0, 1) := by decide +kernel
theorem dX10_number_26 : decode cX10_number 26 = .ok (.invokevirtual 110, 3) := by decide +kernel
theorem dX10_number_29 : decode cX10_number 29 = .ok (.ireturn, 1) := by decide +kernel
theorem dX10_mayBegin_0 : decode cX10_mayBegin 0 = .ok (.aload_n 0, 1) := by decide +kernel
theorem dX10_mayBegin_1 : decode cX10_mayBegin 1 = .ok (.getfield 97, 3) := by decide +kernel
theorem dX10_mayBegin_4 : decode cX10_mayBegin 4 = .ok (.ifCond .ne 15, 3) := by decide +kernel
theorem dX10_mayBegin_7 : decode cX10_mayBegin 7 = .ok (.iload_n 1, 1) := by decide +kernel
theorem dX10_mayBegin_8 : decode cX10_mayBegin 8 = .ok (.ifCond .ne 7, 3) := by decide +kernel
theorem dX10_mayBegin_11 : decode cX10_mayBegin 11 = .ok (.iconst 1, 1) := by decide +kernel
theorem dX10_mayBegin_12 : decode cX10_mayBegin 12 = .ok (.goto 61, 3) := by decide +kernel
theorem dX10_mayBegin_15 : decode cX10_mayBegin 15 = .ok (.iconst 0, 1) := by decide +kernel
theorem dX10_mayBegin_16 : decode cX10_mayBegin 16 = .ok (.goto 57, 3) := by decide +kernel
theorem dX10_mayBegin_19 : decode cX10_mayBegin 19 = .ok (.aload_n 0, 1) := by decide +kernel
theorem dX10_mayBegin_20 : decode cX10_mayBegin 20 = .ok (.getfield 97, 3) := by decide +kernel
theorem dX10_mayBegin_23 : decode cX10_mayBegin 23 = .ok (.iconst 3, 1) := by decide +kernel
theorem dX10_mayBegin_24 : decode cX10_mayBegin 24 = .ok (.if_icmp .ne 19, 3) := by decide +kernel
theorem dX10_mayBegin_27 : decode cX10_mayBegin 27 = .ok (.aload_n 0, 1) := by decide +kernel
theorem dX10_mayBegin_28 : decode cX10_mayBegin 28 = .ok (.getfield 114, 3) := by decide +kernel
theorem dX10_mayBegin_31 : decode cX10_mayBegin 31 = .ok (.iconst 3, 1) := by decide +kernel
theorem dX10_mayBegin_32 : decode cX10_mayBegin 32 = .ok (.if_icmp .ge 7, 3) := by decide +kernel
theorem dX10_mayBegin_35 : decode cX10_mayBegin 35 = .ok (.iconst 1, 1) := by decide +kernel
theorem dX10_mayBegin_36 : decode cX10_mayBegin 36 = .ok (.goto 37, 3) := by decide +kernel
theorem dX10_mayBegin_39 : decode cX10_mayBegin 39 = .ok (.iconst 0, 1) := by decide +kernel
theorem dX10_mayBegin_40 : decode cX10_mayBegin 40 = .ok (.goto 33, 3) := by decide +kernel
theorem dX10_mayBegin_43 : decode cX10_mayBegin 43 = .ok (.aload_n 0, 1) := by decide +kernel
theorem dX10_mayBegin_44 : decode cX10_mayBegin 44 = .ok (.getfield 97, 3) := by decide +kernel
theorem dX10_mayBegin_47 : decode cX10_mayBegin 47 = .ok (.iconst 3, 1) := by decide +kernel
theorem dX10_mayBegin_48 : decode cX10_mayBegin 48 = .ok (.if_icmp .lt 20, 3) := by decide +kernel
theorem dX10_mayBegin_51 : decode cX10_mayBegin 51 = .ok (.aload_n 0, 1) := by decide +kernel
theorem dX10_mayBegin_52 : decode cX10_mayBegin 52 = .ok (.getfield 25, 3) := by decide +kernel
theorem dX10_mayBegin_55 : decode cX10_mayBegin 55 = .ok (.bipush 7, 2) := by decide +kernel
theorem dX10_mayBegin_57 : decode cX10_mayBegin 57 = .ok (.aload_n 0, 1) := by decide +kernel
theorem dX10_mayBegin_58 : decode cX10_mayBegin 58 = .ok (.getfield 97, 3) := by decide +kernel
theorem dX10_mayBegin_61 : decode cX10_mayBegin 61 = .ok (.iadd, 1) := by decide +kernel
theorem dX10_mayBegin_62 : decode cX10_mayBegin 62 = .ok (.iaload, 1) := by decide +kernel
theorem dX10_mayBegin_63 : decode cX10_mayBegin 63 = .ok (.bipush (-9), 2) := by decide +kernel
theorem dX10_mayBegin_65 : decode cX10_mayBegin 65 = .ok (.if_icmp .ne 7, 3) := by decide +kernel
theorem dX10_mayBegin_68 : decode cX10_mayBegin 68 = .ok (.iconst 1, 1) := by decide +kernel
theorem dX10_mayBegin_69 : decode cX10_mayBegin 69 = .ok (.goto 4, 3) := by decide +kernel
theorem dX10_mayBegin_72 : decode cX10_mayBegin 72 = .ok (.iconst 0, 1) := by decide +kernel
theorem dX10_mayBegin_73 : decode cX10_mayBegin 73 = .ok (.ireturn, 1) := by decide +kernel
set_option maxRecDepth 20000 in
theorem ggX10_readsItem_X10_number : GoodIn wsX10_readsItem wsX10_number := goodIn_r _ [12, 13, 14, 15, 16, 11, 17, 18, 19, 20, 21, 22, 23, 24, 25, 26, 27, 28, 29, 30, 31, 32, 33, 34, 35, 36, 37, 38, 39, 40, 41, 42, 43, 44, 45, 46, 47, 48, 49, 50, 51, 52, 53, 54, 55, 56, 57, 58, 59, 60, 61, 62, 63, 64, 65, 66, 67, 68, 69, 70, 71, 72, 73, 74, 75, 76, 77, 78, 79] (by decide +kernel) (by decide +kernel)
set_option maxRecDepth 20000 in
theorem gX10_readsItem_X10_number : GoodIn wsX10_readsItem (wsV RX10 117 RX10 yX10_number wsX10_number) := goodIn_app (goodIn_of _ (by decide +kernel)) ggX10_readsItem_X10_number
set_option maxRecDepth 20000 in
theorem ggX10_readsItem_X10_isWell : GoodIn wsX10_readsItem wsX10_isWell := goodIn_r _ [27, 23, 49, 50, 51, 52, 53, 54, 55, 56, 57, 58, 59, 60, 61, 62, 63, 64, 65, 66, 67, 68, 69, 70, 71, 72, 73, 74, 75, 76, 77, 78, 79] (by decide +kernel) (by decide +kernel)
set_option maxRecDepth 20000 in
theorem gX10_readsItem_X10_isWell : GoodIn wsX10_readsItem (wsV RX10 103 RX10 yX10_isWell wsX10_isWell) := goodIn_app (goodIn_of _ (by decide +kernel)) ggX10_readsItem_X10_isWell
theorem dX10_readsItem_0 : decode cX10_readsItem 0 = .ok (.iload_n 1, 1) := by decide +kernel
theorem dX10_readsItem_1 : decode cX10_readsItem 1 = .ok (.ifCond .ne 33, 3) := by decide +kernel
theorem dX10_readsItem_4 : decode cX10_readsItem 4 = .ok (.aload_n 0, 1) := by decide +kernel
theorem dX10_readsItem_5 : decode cX10_readsItem 5 = .ok (.iconst 4, 1) := by decide +kernel
theorem dX10_readsItem_6 : decode cX10_readsItem 6 = .ok (.bipush 24, 2) := by decide +kernel
theorem dX10_readsItem_8 : decode cX10_readsItem 8 = .ok (.invokevirtual 117, 3) := by decide +kernel
theorem dX10_readsItem_11 : decode cX10_readsItem 11 = .ok (.istore_n 2, 1) := by decide +kernel
theorem dX10_readsItem_12 : decode cX10_readsItem 12 = .ok (.aload_n 0, 1) := by decide +kernel
theorem dX10_readsItem_13 : decode cX10_readsItem 13 = .ok (.aload_n 0, 1) := by decide +kernel
theorem dX10_readsItem_14 : decode cX10_readsItem 14 = .ok (.invokevirtual 103, 3) := by decide +kernel
theorem dX10_readsItem_17 : decode cX10_readsItem 17 = .ok (.ifCond .eq 7, 3) := by decide +kernel
theorem dX10_readsItem_20 : decode cX10_readsItem 20 = .ok (.iload_n 2, 1) := by decide +kernel
theorem dX10_readsItem_21 : decode cX10_readsItem 21 = .ok (.goto 7, 3) := by decide +kernel
theorem dX10_readsItem_24 : decode cX10_readsItem 24 = .ok (.aload_n 0, 1) := by decide +kernel
theorem dX10_readsItem_25 : decode cX10_readsItem 25 = .ok (.getfield 121, 3) := by decide +kernel
theorem dX10_readsItem_28 : decode cX10_readsItem 28 = .ok (.putfield 121, 3) := by decide +kernel
theorem dX10_readsItem_31 : decode cX10_readsItem 31 = .ok (.goto 195, 3) := by decide +kernel
theorem dX10_readsItem_34 : decode cX10_readsItem 34 = .ok (.iload_n 1, 1) := by decide +kernel
theorem dX10_readsItem_35 : decode cX10_readsItem 35 = .ok (.iconst 1, 1) := by decide +kernel
theorem dX10_readsItem_36 : decode cX10_readsItem 36 = .ok (.if_icmp .ne 54, 3) := by decide +kernel
theorem dX10_readsItem_39 : decode cX10_readsItem 39 = .ok (.aload_n 0, 1) := by decide +kernel
theorem dX10_readsItem_40 : decode cX10_readsItem 40 = .ok (.iconst 0, 1) := by decide +kernel
theorem dX10_readsItem_41 : decode cX10_readsItem 41 = .ok (.aload_n 0, 1) := by decide +kernel
theorem dX10_readsItem_42 : decode cX10_readsItem 42 = .ok (.getfield 121, 3) := by decide +kernel
theorem dX10_readsItem_45 : decode cX10_readsItem 45 = .ok (.iconst 1, 1) := by decide +kernel
theorem dX10_readsItem_46 : decode cX10_readsItem 46 = .ok (.isub, 1) := by decide +kernel
theorem dX10_readsItem_47 : decode cX10_readsItem 47 = .ok (.invokevirtual 117, 3) := by decide +kernel
theorem dX10_readsItem_50 : decode cX10_readsItem 50 = .ok (.istore_n 2, 1) := by decide +kernel
theorem dX10_readsItem_51 : decode cX10_readsItem 51 = .ok (.aload_n 0, 1) := by decide +kernel
theorem dX10_readsItem_52 : decode cX10_readsItem 52 = .ok (.iconst 1, 1) := by decide +kernel
theorem dX10_readsItem_53 : decode cX10_readsItem 53 = .ok (.iconst 3, 1) := by decide +kernel
theorem dX10_readsItem_54 : decode cX10_readsItem 54 = .ok (.invokevirtual 117, 3) := by decide +kernel
theorem dX10_readsItem_57 : decode cX10_readsItem 57 = .ok (.istore_n 3, 1) := by decide +kernel
theorem dX10_readsItem_58 : decode cX10_readsItem 58 = .ok (.aload_n 0, 1) := by decide +kernel
theorem dX10_readsItem_59 : decode cX10_readsItem 59 = .ok (.getfield 13, 3) := by decide +kernel
theorem dX10_readsItem_62 : decode cX10_readsItem 62 = .ok (.bipush 24, 2) := by decide +kernel
theorem dX10_readsItem_64 : decode cX10_readsItem 64 = .ok (.iload_n 2, 1) := by decide +kernel
theorem dX10_readsItem_65 : decode cX10_readsItem 65 = .ok (.iadd, 1) := by decide +kernel
theorem dX10_readsItem_66 : decode cX10_readsItem 66 = .ok (.aload_n 0, 1) := by decide +kernel
theorem dX10_readsItem_67 : decode cX10_readsItem 67 = .ok (.invokevirtual 103, 3) := by decide +kernel
theorem dX10_readsItem_70 : decode cX10_readsItem 70 = .ok (.ifCond .eq 7, 3) := by decide +kernel
theorem dX10_readsItem_73 : decode cX10_readsItem 73 = .ok (.iload_n 3, 1) := by decide +kernel
theorem dX10_readsItem_74 : decode cX10_readsItem 74 = .ok (.goto 12, 3) := by decide +kernel
theorem dX10_readsItem_77 : decode cX10_readsItem 77 = .ok (.aload_n 0, 1) := by decide +kernel
theorem dX10_readsItem_78 : decode cX10_readsItem 78 = .ok (.getfield 13, 3) := by decide +kernel
theorem dX10_readsItem_81 : decode cX10_readsItem 81 = .ok (.bipush 24, 2) := by decide +kernel
theorem dX10_readsItem_83 : decode cX10_readsItem 83 = .ok (.iload_n 2, 1) := by decide +kernel
theorem dX10_readsItem_84 : decode cX10_readsItem 84 = .ok (.iadd, 1) := by decide +kernel
theorem dX10_readsItem_85 : decode cX10_readsItem 85 = .ok (.iaload, 1) := by decide +kernel
theorem dX10_readsItem_86 : decode cX10_readsItem 86 = .ok (.iastore, 1) := by decide +kernel
theorem dX10_readsItem_87 : decode cX10_readsItem 87 = .ok (.goto 139, 3) := by decide +kernel
theorem dX10_readsItem_90 : decode cX10_readsItem 90 = .ok (.iload_n 1, 1) := by decide +kernel
theorem dX10_readsItem_91 : decode cX10_readsItem 91 = .ok (.iconst 2, 1) := by decide +kernel
theorem dX10_readsItem_92 : decode cX10_readsItem 92 = .ok (.if_icmp .ne 47, 3) := by decide +kernel
theorem dX10_readsItem_95 : decode cX10_readsItem 95 = .ok (.aload_n 0, 1) := by decide +kernel
theorem dX10_readsItem_96 : decode cX10_readsItem 96 = .ok (.iconst 0, 1) := by decide +kernel
theorem dX10_readsItem_97 : decode cX10_readsItem 97 = .ok (.aload_n 0, 1) := by decide +kernel
theorem dX10_readsItem_98 : decode cX10_readsItem 98 = .ok (.getfield 121, 3) := by decide +kernel
theorem dX10_readsItem_101 : decode cX10_readsItem 101 = .ok (.iconst 1, 1) := by decide +kernel
theorem dX10_readsItem_102 : decode cX10_readsItem 102 = .ok (.isub, 1) := by decide +kernel
theorem dX10_readsItem_103 : decode cX10_readsItem 103 = .ok (.invokevirtual 117, 3) := by decide +kernel
theorem dX10_readsItem_106 : decode cX10_readsItem 106 = .ok (.istore_n 2, 1) := by decide +kernel
theorem dX10_readsItem_107 : decode cX10_readsItem 107 = .ok (.aload_n 0, 1) := by decide +kernel
theorem dX10_readsItem_108 : decode cX10_readsItem 108 = .ok (.getfield 16, 3) := by decide +kernel
theorem dX10_readsItem_111 : decode cX10_readsItem 111 = .ok (.bipush 24, 2) := by decide +kernel
theorem dX10_readsItem_113 : decode cX10_readsItem 113 = .ok (.iload_n 2, 1) := by decide +kernel
theorem dX10_readsItem_114 : decode cX10_readsItem 114 = .ok (.iadd, 1) := by decide +kernel
theorem dX10_readsItem_115 : decode cX10_readsItem 115 = .ok (.aload_n 0, 1) := by decide +kernel
theorem dX10_readsItem_116 : decode cX10_readsItem 116 = .ok (.invokevirtual 103, 3) := by decide +kernel
theorem dX10_readsItem_119 : decode cX10_readsItem 119 = .ok (.ifCond .eq 7, 3) := by decide +kernel
theorem dX10_readsItem_122 : decode cX10_readsItem 122 = .ok (.iconst 1, 1) := by decide +kernel
theorem dX10_readsItem_123 : decode cX10_readsItem 123 = .ok (.goto 12, 3) := by decide +kernel
theorem dX10_readsItem_126 : decode cX10_readsItem 126 = .ok (.aload_n 0, 1) := by decide +kernel
theorem dX10_readsItem_127 : decode cX10_readsItem 127 = .ok (.getfield 16, 3) := by decide +kernel
theorem dX10_readsItem_130 : decode cX10_readsItem 130 = .ok (.bipush 24, 2) := by decide +kernel
theorem dX10_readsItem_132 : decode cX10_readsItem 132 = .ok (.iload_n 2, 1) := by decide +kernel
theorem dX10_readsItem_133 : decode cX10_readsItem 133 = .ok (.iadd, 1) := by decide +kernel
theorem dX10_readsItem_134 : decode cX10_readsItem 134 = .ok (.iaload, 1) := by decide +kernel
theorem dX10_readsItem_135 : decode cX10_readsItem 135 = .ok (.iastore, 1) := by decide +kernel
theorem dX10_readsItem_136 : decode cX10_readsItem 136 = .ok (.goto 90, 3) := by decide +kernel
theorem dX10_readsItem_139 : decode cX10_readsItem 139 = .ok (.iload_n 1, 1) := by decide +kernel
theorem dX10_readsItem_140 : decode cX10_readsItem 140 = .ok (.iconst 3, 1) := by decide +kernel
theorem dX10_readsItem_141 : decode cX10_readsItem 141 = .ok (.if_icmp .ne 51, 3) := by decide +kernel
theorem dX10_readsItem_144 : decode cX10_readsItem 144 = .ok (.aload_n 0, 1) := by decide +kernel
theorem dX10_readsItem_145 : decode cX10_readsItem 145 = .ok (.getfield 19, 3) := by decide +kernel
theorem dX10_readsItem_148 : decode cX10_readsItem 148 = .ok (.iconst 3, 1) := by decide +kernel
theorem dX10_readsItem_149 : decode cX10_readsItem 149 = .ok (.aload_n 0, 1) := by decide +kernel
theorem dX10_readsItem_150 : decode cX10_readsItem 150 = .ok (.getfield 114, 3) := by decide +kernel
theorem dX10_readsItem_153 : decode cX10_readsItem 153 = .ok (.iadd, 1) := by decide +kernel
theorem dX10_readsItem_154 : decode cX10_readsItem 154 = .ok (.aload_n 0, 1) := by decide +kernel
theorem dX10_readsItem_155 : decode cX10_readsItem 155 = .ok (.iconst 1, 1) := by decide +kernel
theorem dX10_readsItem_156 : decode cX10_readsItem 156 = .ok (.iconst 4, 1) := by decide +kernel
theorem dX10_readsItem_157 : decode cX10_readsItem 157 = .ok (.invokevirtual 117, 3) := by decide +kernel
theorem dX10_readsItem_160 : decode cX10_readsItem 160 = .ok (.iastore, 1) := by decide +kernel
theorem dX10_readsItem_161 : decode cX10_readsItem 161 = .ok (.aload_n 0, 1) := by decide +kernel
theorem dX10_readsItem_162 : decode cX10_readsItem 162 = .ok (.getfield 22, 3) := by decide +kernel
theorem dX10_readsItem_165 : decode cX10_readsItem 165 = .ok (.iconst 3, 1) := by decide +kernel
theorem dX10_readsItem_166 : decode cX10_readsItem 166 = .ok (.aload_n 0, 1) := by decide +kernel
theorem dX10_readsItem_167 : decode cX10_readsItem 167 = .ok (.getfield 114, 3) := by decide +kernel
theorem dX10_readsItem_170 : decode cX10_readsItem 170 = .ok (.iadd, 1) := by decide +kernel
theorem dX10_readsItem_171 : decode cX10_readsItem 171 = .ok (.aload_n 0, 1) := by decide +kernel
theorem dX10_readsItem_172 : decode cX10_readsItem 172 = .ok (.iconst 0, 1) := by decide +kernel
theorem dX10_readsItem_173 : decode cX10_readsItem 173 = .ok (.bipush 9, 2) := by decide +kernel
theorem dX10_readsItem_175 : decode cX10_readsItem 175 = .ok (.invokevirtual 117, 3) := by decide +kernel
theorem dX10_readsItem_178 : decode cX10_readsItem 178 = .ok (.iastore, 1) := by decide +kernel
theorem dX10_readsItem_179 : decode cX10_readsItem 179 = .ok (.aload_n 0, 1) := by decide +kernel
theorem dX10_readsItem_180 : decode cX10_readsItem 180 = .ok (.dup, 1) := by decide +kernel
theorem dX10_readsItem_181 : decode cX10_readsItem 181 = .ok (.getfield 114, 3) := by decide +kernel
theorem dX10_readsItem_184 : decode cX10_readsItem 184 = .ok (.iconst 1, 1) := by decide +kernel
theorem dX10_readsItem_185 : decode cX10_readsItem 185 = .ok (.iadd, 1) := by decide +kernel
theorem dX10_readsItem_186 : decode cX10_readsItem 186 = .ok (.putfield 114, 3) := by decide +kernel
theorem dX10_readsItem_189 : decode cX10_readsItem 189 = .ok (.goto 37, 3) := by decide +kernel
theorem dX10_readsItem_192 : decode cX10_readsItem 192 = .ok (.aload_n 0, 1) := by decide +kernel
theorem dX10_readsItem_193 : decode cX10_readsItem 193 = .ok (.getfield 25, 3) := by decide +kernel
theorem dX10_readsItem_196 : decode cX10_readsItem 196 = .ok (.bipush 7, 2) := by decide +kernel
theorem dX10_readsItem_198 : decode cX10_readsItem 198 = .ok (.iload_n 1, 1) := by decide +kernel
theorem dX10_readsItem_199 : decode cX10_readsItem 199 = .ok (.iadd, 1) := by decide +kernel
theorem dX10_readsItem_200 : decode cX10_readsItem 200 = .ok (.aload_n 0, 1) := by decide +kernel
theorem dX10_readsItem_201 : decode cX10_readsItem 201 = .ok (.iconst 1, 1) := by decide +kernel
theorem dX10_readsItem_202 : decode cX10_readsItem 202 = .ok (.iload_n 1, 1) := by decide +kernel
theorem dX10_readsItem_203 : decode cX10_readsItem 203 = .ok (.iconst 4, 1) := by decide +kernel
theorem dX10_readsItem_204 : decode cX10_readsItem 204 = .ok (.if_icmp .ne 7, 3) := by decide +kernel
theorem dX10_readsItem_207 : decode cX10_readsItem 207 = .ok (.iconst 3, 1) := by decide +kernel
theorem dX10_readsItem_208 : decode cX10_readsItem 208 = .ok (.goto 14, 3) := by decide +kernel
theorem dX10_readsItem_211 : decode cX10_readsItem 211 = .ok (.iload_n 1, 1) := by decide +kernel
theorem dX10_readsItem_212 : decode cX10_readsItem 212 = .ok (.iconst 5, 1) := by decide +kernel
theorem dX10_readsItem_213 : decode cX10_readsItem 213 = .ok (.if_icmp .ne 7, 3) := by decide +kernel
theorem dX10_readsItem_216 : decode cX10_readsItem 216 = .ok (.iconst 4, 1) := by decide +kernel
theorem dX10_readsItem_217 : decode cX10_readsItem 217 = .ok (.goto 5, 3) := by decide +kernel
theorem dX10_readsItem_220 : decode cX10_readsItem 220 = .ok (.bipush 9, 2) := by decide +kernel
theorem dX10_readsItem_222 : decode cX10_readsItem 222 = .ok (.invokevirtual 117, 3) := by decide +kernel
theorem dX10_readsItem_225 : decode cX10_readsItem 225 = .ok (.iastore, 1) := by decide +kernel
theorem dX10_readsItem_226 : decode cX10_readsItem 226 = .ok (.return_, 1) := by decide +kernel
set_option maxRecDepth 20000 in
theorem ggX10_lane_X10_advances : GoodIn wsX10_lane wsX10_advances := goodIn_r _ [14, 3, 15, 9, 16, 17, 18, 19, 13, 20, 21, 22, 23, 24, 25, 26, 27, 28, 29, 30, 31, 32, 33, 34, 35, 68, 69, 70, 71, 72, 73, 74, 75, 76, 77, 78, 79, 80, 81, 82, 83, 84, 85, 86, 87, 88, 89, 90, 91, 92, 93, 94, 95, 96, 97, 98] (by decide +kernel) (by decide +kernel)
set_option maxRecDepth 20000 in
theorem gX10_lane_X10_advances : GoodIn wsX10_lane (wsV RX10 107 RX10 yX10_advances wsX10_advances) := goodIn_app (goodIn_of _ (by decide +kernel)) ggX10_lane_X10_advances
set_option maxRecDepth 20000 in
theorem ggX10_lane_X10_isWell : GoodIn wsX10_lane wsX10_isWell := goodIn_r _ [39, 2, 68, 69, 70, 71, 72, 73, 74, 75, 76, 77, 78, 79, 80, 81, 82, 83, 84, 85, 86, 87, 88, 89, 90, 91, 92, 93, 94, 95, 96, 97, 98] (by decide +kernel) (by decide +kernel)
set_option maxRecDepth 20000 in
theorem gX10_lane_X10_isWell : GoodIn wsX10_lane (wsV RX10 103 RX10 yX10_isWell wsX10_isWell) := goodIn_app (goodIn_of _ (by decide +kernel)) ggX10_lane_X10_isWell
set_option maxRecDepth 20000 in
theorem ggX10_lane_X10_mayBegin : GoodIn wsX10_lane wsX10_mayBegin := goodIn_r _ [43, 16, 5, 8, 68, 69, 70, 71, 72, 73, 74, 75, 76, 77, 78, 79, 80, 81, 82, 83, 84, 85, 86, 87, 88, 89, 90, 91, 92, 93, 94, 95, 96, 97, 98] (by decide +kernel) (by decide +kernel)
set_option maxRecDepth 20000 in
theorem gX10_lane_X10_mayBegin : GoodIn wsX10_lane (wsV RX10 124 RX10 yX10_mayBegin wsX10_mayBegin) := goodIn_app (goodIn_of _ (by decide +kernel)) ggX10_lane_X10_mayBegin
set_option maxRecDepth 20000 in
theorem ggX10_lane_X10_takes : GoodIn wsX10_lane wsX10_takes := goodIn_r _ [47, 15, 2, 16, 36, 37, 38, 13, 39, 10, 11, 12, 14, 3, 9, 17, 18, 19, 20, 21, 22, 23, 24, 25, 26, 27, 28, 29, 30, 31, 32, 33, 34, 35, 68, 69, 70, 71, 72, 73, 74, 75, 76, 77, 78, 79, 80, 81, 82, 83, 84, 85, 86, 87, 88, 89, 90, 91, 92, 93, 94, 95, 96, 97, 98] (by decide +kernel) (by decide +kernel)
set_option maxRecDepth 20000 in
theorem gX10_lane_X10_takes : GoodIn wsX10_lane (wsV RX10 110 RX10 yX10_takes wsX10_takes) := goodIn_app (goodIn_of _ (by decide +kernel)) ggX10_lane_X10_takes
set_option maxRecDepth 20000 in
theorem ggX10_lane_X10_readsItem : GoodIn wsX10_lane wsX10_readsItem := goodIn_r _ [51, 4, 6, 7, 52, 5, 53, 8, 54, 55, 56, 13, 57, 9, 16, 23, 24, 25, 44, 45, 46, 47, 15, 2, 36, 37, 38, 39, 10, 11, 12, 14, 3, 17, 18, 19, 20, 21, 22, 26, 27, 28, 29, 30, 31, 32, 33, 34, 35, 68, 69, 70, 71, 72, 73, 74, 75, 76, 77, 78, 79, 80, 81, 82, 83, 84, 85, 86, 87, 88, 89, 90, 91, 92, 93, 94, 95, 96, 97, 98] (by decide +kernel) (by decide +kernel)
set_option maxRecDepth 20000 in
theorem gX10_lane_X10_readsItem : GoodIn wsX10_lane (wsV RX10 128 RX10 yX10_readsItem wsX10_readsItem) := goodIn_app (goodIn_of _ (by decide +kernel)) ggX10_lane_X10_readsItem
set_option maxRecDepth 20000 in
theorem ggX10_lane_X10_settles : GoodIn wsX10_lane wsX10_settles := goodIn_r _ [61, 4, 62, 5, 63, 6, 7, 52, 53, 8, 64, 21, 65, 66, 67, 68, 69, 70, 71, 72, 73, 74, 75, 76, 77, 78, 79, 80, 81, 82, 83, 84, 85, 86, 87, 88, 89, 90, 91, 92, 93, 94, 95, 96, 97, 98] (by decide +kernel) (by decide +kernel)
set_option maxRecDepth 20000 in
theorem gX10_lane_X10_settles : GoodIn wsX10_lane (wsV RX10 132 RX10 yX10_settles wsX10_settles) := goodIn_app (goodIn_of _ (by decide +kernel)) ggX10_lane_X10_settles
theorem dX10_lane_0 : decode cX10_lane 0 = .ok (.aload_n 0, 1) := by decide +kernel
theorem dX10_lane_1 : decode cX10_lane 1 = .ok (.iconst 0, 1) := by decide +kernel
theorem dX10_lane_2 : decode cX10_lane 2 = .ok (.putfield 58, 3) := by decide +kernel
theorem dX10_lane_5 : decode cX10_lane 5 = .ok (.aload_n 0, 1) := by decide +kernel
theorem dX10_lane_6 : decode cX10_lane 6 = .ok (.iconst (-1), 1) := by decide +kernel
theorem dX10_lane_7 : decode cX10_lane 7 = .ok (.putfield 100, 3) := by decide +kernel
theorem dX10_lane_10 : decode cX10_lane 10 = .ok (.aload_n 0, 1) := by decide +kernel
theorem dX10_lane_11 : decode cX10_lane 11 = .ok (.iconst 0, 1) := by decide +kernel
theorem dX10_lane_12 : decode cX10_lane 12 = .ok (.putfield 80, 3) := by decide +kernel
theorem dX10_lane_15 : decode cX10_lane 15 = .ok (.iconst 0, 1) := by decide +kernel
theorem dX10_lane_16 : decode cX10_lane 16 = .ok (.istore_n 1, 1) := by decide +kernel
theorem dX10_lane_17 : decode cX10_lane 17 = .ok (.aload_n 0, 1) := by decide +kernel
theorem dX10_lane_18 : decode cX10_lane 18 = .ok (.bipush 12, 2) := by decide +kernel
theorem dX10_lane_20 : decode cX10_lane 20 = .ok (.putfield 121, 3) := by decide +kernel
theorem dX10_lane_23 : decode cX10_lane 23 = .ok (.aload_n 0, 1) := by decide +kernel
theorem dX10_lane_24 : decode cX10_lane 24 = .ok (.iconst 0, 1) := by decide +kernel
theorem dX10_lane_25 : decode cX10_lane 25 = .ok (.putfield 114, 3) := by decide +kernel
theorem dX10_lane_28 : decode cX10_lane 28 = .ok (.bipush 24, 2) := by decide +kernel
theorem dX10_lane_30 : decode cX10_lane 30 = .ok (.istore_n 2, 1) := by decide +kernel
theorem dX10_lane_31 : decode cX10_lane 31 = .ok (.iload_n 2, 1) := by decide +kernel
theorem dX10_lane_32 : decode cX10_lane 32 = .ok (.bipush 48, 2) := by decide +kernel
theorem dX10_lane_34 : decode cX10_lane 34 = .ok (.if_icmp .ge 23, 3) := by decide +kernel
theorem dX10_lane_37 : decode cX10_lane 37 = .ok (.aload_n 0, 1) := by decide +kernel
theorem dX10_lane_38 : decode cX10_lane 38 = .ok (.getfield 13, 3) := by decide +kernel
theorem dX10_lane_41 : decode cX10_lane 41 = .ok (.iload_n 2, 1) := by decide +kernel
theorem dX10_lane_42 : decode cX10_lane 42 = .ok (.iconst 0, 1) := by decide +kernel
theorem dX10_lane_43 : decode cX10_lane 43 = .ok (.iastore, 1) := by decide +kernel
theorem dX10_lane_44 : decode cX10_lane 44 = .ok (.aload_n 0, 1) := by decide +kernel
theorem dX10_lane_45 : decode cX10_lane 45 = .ok (.getfield 16, 3) := by decide +kernel
theorem dX10_lane_48 : decode cX10_lane 48 = .ok (.iload_n 2, 1) := by decide +kernel
theorem dX10_lane_49 : decode cX10_lane 49 = .ok (.iconst 0, 1) := by decide +kernel
theorem dX10_lane_50 : decode cX10_lane 50 = .ok (.iastore, 1) := by decide +kernel
theorem dX10_lane_51 : decode cX10_lane 51 = .ok (.iinc 2 1, 3) := by decide +kernel
theorem dX10_lane_54 : decode cX10_lane 54 = .ok (.goto (-23), 3) := by decide +kernel
theorem dX10_lane_57 : decode cX10_lane 57 = .ok (.bipush 7, 2) := by decide +kernel
theorem dX10_lane_59 : decode cX10_lane 59 = .ok (.istore_n 2, 1) := by decide +kernel
theorem dX10_lane_60 : decode cX10_lane 60 = .ok (.iload_n 2, 1) := by decide +kernel
theorem dX10_lane_61 : decode cX10_lane 61 = .ok (.bipush 14, 2) := by decide +kernel
theorem dX10_lane_63 : decode cX10_lane 63 = .ok (.if_icmp .ge 17, 3) := by decide +kernel
theorem dX10_lane_66 : decode cX10_lane 66 = .ok (.aload_n 0, 1) := by decide +kernel
theorem dX10_lane_67 : decode cX10_lane 67 = .ok (.getfield 25, 3) := by decide +kernel
theorem dX10_lane_70 : decode cX10_lane 70 = .ok (.iload_n 2, 1) := by decide +kernel
theorem dX10_lane_71 : decode cX10_lane 71 = .ok (.bipush (-9), 2) := by decide +kernel
theorem dX10_lane_73 : decode cX10_lane 73 = .ok (.iastore, 1) := by decide +kernel
theorem dX10_lane_74 : decode cX10_lane 74 = .ok (.iinc 2 1, 3) := by decide +kernel
theorem dX10_lane_77 : decode cX10_lane 77 = .ok (.goto (-17), 3) := by decide +kernel
theorem dX10_lane_80 : decode cX10_lane 80 = .ok (.aload_n 0, 1) := by decide +kernel
theorem dX10_lane_81 : decode cX10_lane 81 = .ok (.invokevirtual 107, 3) := by decide +kernel
theorem dX10_lane_84 : decode cX10_lane 84 = .ok (.aload_n 0, 1) := by decide +kernel
theorem dX10_lane_85 : decode cX10_lane 85 = .ok (.invokevirtual 103, 3) := by decide +kernel
theorem dX10_lane_88 : decode cX10_lane 88 = .ok (.ifCond .eq 72, 3) := by decide +kernel
theorem dX10_lane_91 : decode cX10_lane 91 = .ok (.aload_n 0, 1) := by decide +kernel
theorem dX10_lane_92 : decode cX10_lane 92 = .ok (.getfield 90, 3) := by decide +kernel
theorem dX10_lane_95 : decode cX10_lane 95 = .ok (.ifCond .eq 65, 3) := by decide +kernel
theorem dX10_lane_98 : decode cX10_lane 98 = .ok (.aload_n 0, 1) := by decide +kernel
theorem dX10_lane_99 : decode cX10_lane 99 = .ok (.aload_n 0, 1) := by decide +kernel
theorem dX10_lane_100 : decode cX10_lane 100 = .ok (.getfield 90, 3) := by decide +kernel
theorem dX10_lane_103 : decode cX10_lane 103 = .ok (.iconst 1, 1) := by decide +kernel
theorem dX10_lane_104 : decode cX10_lane 104 = .ok (.if_icmp .ne 15, 3) := by decide +kernel
theorem dX10_lane_107 : decode cX10_lane 107 = .ok (.aload_n 0, 1) := by decide +kernel
theorem dX10_lane_108 : decode cX10_lane 108 = .ok (.iload_n 1, 1) := by decide +kernel
theorem dX10_lane_109 : decode cX10_lane 109 = .ok (.invokevirtual 124, 3) := by decide +kernel
theorem dX10_lane_112 : decode cX10_lane 112 = .ok (.ifCond .eq 7, 3) := by decide +kernel
theorem dX10_lane_115 : decode cX10_lane 115 = .ok (.iconst 1, 1) := by decide +kernel
theorem dX10_lane_116 : decode cX10_lane 116 = .ok (.goto 4, 3) := by decide +kernel
theorem dX10_lane_119 : decode cX10_lane 119 = .ok (.iconst 0, 1) := by decide +kernel
theorem dX10_lane_120 : decode cX10_lane 120 = .ok (.invokevirtual 110, 3) := by decide +kernel
theorem dX10_lane_123 : decode cX10_lane 123 = .ok (.istore_n 2, 1) := by decide +kernel
theorem dX10_lane_124 : decode cX10_lane 124 = .ok (.aload_n 0, 1) := by decide +kernel
theorem dX10_lane_125 : decode cX10_lane 125 = .ok (.invokevirtual 103, 3) := by decide +kernel
theorem dX10_lane_128 : decode cX10_lane 128 = .ok (.ifCond .eq 8, 3) := by decide +kernel
theorem dX10_lane_131 : decode cX10_lane 131 = .ok (.aload_n 0, 1) := by decide +kernel
theorem dX10_lane_132 : decode cX10_lane 132 = .ok (.iload_n 2, 1) := by decide +kernel
theorem dX10_lane_133 : decode cX10_lane 133 = .ok (.invokevirtual 128, 3) := by decide +kernel
theorem dX10_lane_136 : decode cX10_lane 136 = .ok (.aload_n 0, 1) := by decide +kernel
theorem dX10_lane_137 : decode cX10_lane 137 = .ok (.aload_n 0, 1) := by decide +kernel
theorem dX10_lane_138 : decode cX10_lane 138 = .ok (.getfield 90, 3) := by decide +kernel
theorem dX10_lane_141 : decode cX10_lane 141 = .ok (.iconst 3, 1) := by decide +kernel
theorem dX10_lane_142 : decode cX10_lane 142 = .ok (.if_icmp .ne 7, 3) := by decide +kernel
theorem dX10_lane_145 : decode cX10_lane 145 = .ok (.iconst 1, 1) := by decide +kernel
theorem dX10_lane_146 : decode cX10_lane 146 = .ok (.goto 4, 3) := by decide +kernel
theorem dX10_lane_149 : decode cX10_lane 149 = .ok (.iconst 0, 1) := by decide +kernel
theorem dX10_lane_150 : decode cX10_lane 150 = .ok (.invokevirtual 110, 3) := by decide +kernel
theorem dX10_lane_153 : decode cX10_lane 153 = .ok (.pop, 1) := by decide +kernel
theorem dX10_lane_154 : decode cX10_lane 154 = .ok (.iinc 1 1, 3) := by decide +kernel
theorem dX10_lane_157 : decode cX10_lane 157 = .ok (.goto (-73), 3) := by decide +kernel
theorem dX10_lane_160 : decode cX10_lane 160 = .ok (.aload_n 0, 1) := by decide +kernel
theorem dX10_lane_161 : decode cX10_lane 161 = .ok (.invokevirtual 103, 3) := by decide +kernel
theorem dX10_lane_164 : decode cX10_lane 164 = .ok (.ifCond .ne 11, 3) := by decide +kernel
theorem dX10_lane_167 : decode cX10_lane 167 = .ok (.bipush (-10), 2) := by decide +kernel
theorem dX10_lane_169 : decode cX10_lane 169 = .ok (.aload_n 0, 1) := by decide +kernel
theorem dX10_lane_170 : decode cX10_lane 170 = .ok (.getfield 100, 3) := by decide +kernel
theorem dX10_lane_173 : decode cX10_lane 173 = .ok (.isub, 1) := by decide +kernel
theorem dX10_lane_174 : decode cX10_lane 174 = .ok (.ireturn, 1) := by decide +kernel
theorem dX10_lane_175 : decode cX10_lane 175 = .ok (.aload_n 0, 1) := by decide +kernel
theorem dX10_lane_176 : decode cX10_lane 176 = .ok (.invokevirtual 132, 3) := by decide +kernel
theorem dX10_lane_179 : decode cX10_lane 179 = .ok (.iload_n 1, 1) := by decide +kernel
theorem dX10_lane_180 : decode cX10_lane 180 = .ok (.ireturn, 1) := by decide +kernel
theorem dX10_settles_0 : decode cX10_settles 0 = .ok (.aload_n 0, 1) := by decide +kernel
theorem dX10_settles_1 : decode cX10_settles 1 = .ok (.aload_n 0, 1) := by decide +kernel
theorem dX10_settles_2 : decode cX10_settles 2 = .ok (.getfield 121, 3) := by decide +kernel
theorem dX10_settles_5 : decode cX10_settles 5 = .ok (.putfield 54, 3) := by decide +kernel
theorem dX10_settles_8 : decode cX10_settles 8 = .ok (.aload_n 0, 1) := by decide +kernel
theorem dX10_settles_9 : decode cX10_settles 9 = .ok (.aload_n 0, 1) := by decide +kernel
theorem dX10_settles_10 : decode cX10_settles 10 = .ok (.getfield 114, 3) := by decide +kernel
theorem dX10_settles_13 : decode cX10_settles 13 = .ok (.putfield 135, 3) := by decide +kernel
theorem dX10_settles_16 : decode cX10_settles 16 = .ok (.iconst 0, 1) := by decide +kernel
theorem dX10_settles_17 : decode cX10_settles 17 = .ok (.istore_n 1, 1) := by decide +kernel
theorem dX10_settles_18 : decode cX10_settles 18 = .ok (.iload_n 1, 1) := by decide +kernel
theorem dX10_settles_19 : decode cX10_settles 19 = .ok (.bipush 24, 2) := by decide +kernel
theorem dX10_settles_21 : decode cX10_settles 21 = .ok (.if_icmp .ge 39, 3) := by decide +kernel
theorem dX10_settles_24 : decode cX10_settles 24 = .ok (.aload_n 0, 1) := by decide +kernel
theorem dX10_settles_25 : decode cX10_settles 25 = .ok (.getfield 13, 3) := by decide +kernel
theorem dX10_settles_28 : decode cX10_settles 28 = .ok (.iload_n 1, 1) := by decide +kernel
theorem dX10_settles_29 : decode cX10_settles 29 = .ok (.aload_n 0, 1) := by decide +kernel
theorem dX10_settles_30 : decode cX10_settles 30 = .ok (.getfield 13, 3) := by decide +kernel
theorem dX10_settles_33 : decode cX10_settles 33 = .ok (.bipush 24, 2) := by decide +kernel
theorem dX10_settles_35 : decode cX10_settles 35 = .ok (.iload_n 1, 1) := by decide +kernel
theorem dX10_settles_36 : decode cX10_settles 36 = .ok (.iadd, 1) := by decide +kernel
theorem dX10_settles_37 : decode cX10_settles 37 = .ok (.iaload, 1) := by decide +kernel
theorem dX10_settles_38 : decode cX10_settles 38 = .ok (.iastore, 1) := by decide +kernel
theorem dX10_settles_39 : decode cX10_settles 39 = .ok (.aload_n 0, 1) := by decide +kernel
theorem dX10_settles_40 : decode cX10_settles 40 = .ok (.getfield 16, 3) := by decide +kernel
theorem dX10_settles_43 : decode cX10_settles 43 = .ok (.iload_n 1, 1) := by decide +kernel
theorem dX10_settles_44 : decode cX10_settles 44 = .ok (.aload_n 0, 1) := by decide +kernel
theorem dX10_settles_45 : decode cX10_settles 45 = .ok (.getfield 16, 3) := by decide +kernel
theorem dX10_settles_48 : decode cX10_settles 48 = .ok (.bipush 24, 2) := by decide +kernel
theorem dX10_settles_50 : decode cX10_settles 50 = .ok (.iload_n 1, 1) := by decide +kernel
theorem dX10_settles_51 : decode cX10_settles 51 = .ok (.iadd, 1) := by decide +kernel
theorem dX10_settles_52 : decode cX10_settles 52 = .ok (.iaload, 1) := by decide +kernel
theorem dX10_settles_53 : decode cX10_settles 53 = .ok (.iastore, 1) := by decide +kernel
theorem dX10_settles_54 : decode cX10_settles 54 = .ok (.iinc 1 1, 3) := by decide +kernel
theorem dX10_settles_57 : decode cX10_settles 57 = .ok (.goto (-39), 3) := by decide +kernel
theorem dX10_settles_60 : decode cX10_settles 60 = .ok (.iconst 0, 1) := by decide +kernel
theorem dX10_settles_61 : decode cX10_settles 61 = .ok (.istore_n 1, 1) := by decide +kernel
theorem dX10_settles_62 : decode cX10_settles 62 = .ok (.iload_n 1, 1) := by decide +kernel
theorem dX10_settles_63 : decode cX10_settles 63 = .ok (.iconst 3, 1) := by decide +kernel
theorem dX10_settles_64 : decode cX10_settles 64 = .ok (.if_icmp .ge 37, 3) := by decide +kernel
theorem dX10_settles_67 : decode cX10_settles 67 = .ok (.aload_n 0, 1) := by decide +kernel
theorem dX10_settles_68 : decode cX10_settles 68 = .ok (.getfield 19, 3) := by decide +kernel
theorem dX10_settles_71 : decode cX10_settles 71 = .ok (.iload_n 1, 1) := by decide +kernel
theorem dX10_settles_72 : decode cX10_settles 72 = .ok (.aload_n 0, 1) := by decide +kernel
theorem dX10_settles_73 : decode cX10_settles 73 = .ok (.getfield 19, 3) := by decide +kernel
theorem dX10_settles_76 : decode cX10_settles 76 = .ok (.iconst 3, 1) := by decide +kernel
theorem dX10_settles_77 : decode cX10_settles 77 = .ok (.iload_n 1, 1) := by decide +kernel
theorem dX10_settles_78 : decode cX10_settles 78 = .ok (.iadd, 1) := by decide +kernel
theorem dX10_settles_79 : decode cX10_settles 79 = .ok (.iaload, 1) := by decide +kernel
theorem dX10_settles_80 : decode cX10_settles 80 = .ok (.iastore, 1) := by decide +kernel
theorem dX10_settles_81 : decode cX10_settles 81 = .ok (.aload_n 0, 1) := by decide +kernel
theorem dX10_settles_82 : decode cX10_settles 82 = .ok (.getfield 22, 3) := by decide +kernel
theorem dX10_settles_85 : decode cX10_settles 85 = .ok (.iload_n 1, 1) := by decide +kernel
theorem dX10_settles_86 : decode cX10_settles 86 = .ok (.aload_n 0, 1) := by decide +kernel
theorem dX10_settles_87 : decode cX10_settles 87 = .ok (.getfield 22, 3) := by decide +kernel
theorem dX10_settles_90 : decode cX10_settles 90 = .ok (.iconst 3, 1) := by decide +kernel
theorem dX10_settles_91 : decode cX10_settles 91 = .ok (.iload_n 1, 1) := by decide +kernel
theorem dX10_settles_92 : decode cX10_settles 92 = .ok (.iadd, 1) := by decide +kernel
theorem dX10_settles_93 : decode cX10_settles 93 = .ok (.iaload, 1) := by decide +kernel
theorem dX10_settles_94 : decode cX10_settles 94 = .ok (.iastore, 1) := by decide +kernel
theorem dX10_settles_95 : decode cX10_settles 95 = .ok (.iinc 1 1, 3) := by decide +kernel
theorem dX10_settles_98 : decode cX10_settles 98 = .ok (.goto (-36), 3) := by decide +kernel
theorem dX10_settles_101 : decode cX10_settles 101 = .ok (.aload_n 0, 1) := by decide +kernel
theorem dX10_settles_102 : decode cX10_settles 102 = .ok (.getfield 25, 3) := by decide +kernel
theorem dX10_settles_105 : decode cX10_settles 105 = .ok (.iconst 4, 1) := by decide +kernel
theorem dX10_settles_106 : decode cX10_settles 106 = .ok (.aload_n 0, 1) := by decide +kernel
theorem dX10_settles_107 : decode cX10_settles 107 = .ok (.getfield 25, 3) := by decide +kernel
theorem dX10_settles_110 : decode cX10_settles 110 = .ok (.bipush 11, 2) := by decide +kernel
theorem dX10_settles_112 : decode cX10_settles 112 = .ok (.iaload, 1) := by decide +kernel
theorem dX10_settles_113 : decode cX10_settles 113 = .ok (.bipush (-9), 2) := by decide +kernel
theorem dX10_settles_115 : decode cX10_settles 115 = .ok (.if_icmp .ne 7, 3) := by decide +kernel
theorem dX10_settles_118 : decode cX10_settles 118 = .ok (.iconst 2, 1) := by decide +kernel
theorem dX10_settles_119 : decode cX10_settles 119 = .ok (.goto 10, 3) := by decide +kernel
theorem dX10_settles_122 : decode cX10_settles 122 = .ok (.aload_n 0, 1) := by decide +kernel
theorem dX10_settles_123 : decode cX10_settles 123 = .ok (.getfield 25, 3) := by decide +kernel
theorem dX10_settles_126 : decode cX10_settles 126 = .ok (.bipush 11, 2) := by decide +kernel
theorem dX10_settles_128 : decode cX10_settles 128 = .ok (.iaload, 1) := by decide +kernel
theorem dX10_settles_129 : decode cX10_settles 129 = .ok (.iastore, 1) := by decide +kernel
theorem dX10_settles_130 : decode cX10_settles 130 = .ok (.aload_n 0, 1) := by decide +kernel
theorem dX10_settles_131 : decode cX10_settles 131 = .ok (.getfield 25, 3) := by decide +kernel
theorem dX10_settles_134 : decode cX10_settles 134 = .ok (.iconst 5, 1) := by decide +kernel
theorem dX10_settles_135 : decode cX10_settles 135 = .ok (.aload_n 0, 1) := by decide +kernel
theorem dX10_settles_136 : decode cX10_settles 136 = .ok (.getfield 25, 3) := by decide +kernel
theorem dX10_settles_139 : decode cX10_settles 139 = .ok (.bipush 12, 2) := by decide +kernel
theorem dX10_settles_141 : decode cX10_settles 141 = .ok (.iaload, 1) := by decide +kernel
theorem dX10_settles_142 : decode cX10_settles 142 = .ok (.bipush (-9), 2) := by decide +kernel
theorem dX10_settles_144 : decode cX10_settles 144 = .ok (.if_icmp .ne 7, 3) := by decide +kernel
theorem dX10_settles_147 : decode cX10_settles 147 = .ok (.iconst 3, 1) := by decide +kernel
theorem dX10_settles_148 : decode cX10_settles 148 = .ok (.goto 10, 3) := by decide +kernel
theorem dX10_settles_151 : decode cX10_settles 151 = .ok (.aload_n 0, 1) := by decide +kernel
theorem dX10_settles_152 : decode cX10_settles 152 = .ok (.getfield 25, 3) := by decide +kernel
theorem dX10_settles_155 : decode cX10_settles 155 = .ok (.bipush 12, 2) := by decide +kernel
theorem dX10_settles_157 : decode cX10_settles 157 = .ok (.iaload, 1) := by decide +kernel
theorem dX10_settles_158 : decode cX10_settles 158 = .ok (.iastore, 1) := by decide +kernel
theorem dX10_settles_159 : decode cX10_settles 159 = .ok (.aload_n 0, 1) := by decide +kernel
theorem dX10_settles_160 : decode cX10_settles 160 = .ok (.getfield 25, 3) := by decide +kernel
theorem dX10_settles_163 : decode cX10_settles 163 = .ok (.bipush 6, 2) := by decide +kernel
theorem dX10_settles_165 : decode cX10_settles 165 = .ok (.aload_n 0, 1) := by decide +kernel
theorem dX10_settles_166 : decode cX10_settles 166 = .ok (.getfield 25, 3) := by decide +kernel
theorem dX10_settles_169 : decode cX10_settles 169 = .ok (.bipush 13, 2) := by decide +kernel
theorem dX10_settles_171 : decode cX10_settles 171 = .ok (.iaload, 1) := by decide +kernel
theorem dX10_settles_172 : decode cX10_settles 172 = .ok (.bipush (-9), 2) := by decide +kernel
theorem dX10_settles_174 : decode cX10_settles 174 = .ok (.if_icmp .ne 7, 3) := by decide +kernel
theorem dX10_settles_177 : decode cX10_settles 177 = .ok (.iconst 3, 1) := by decide +kernel
theorem dX10_settles_178 : decode cX10_settles 178 = .ok (.goto 10, 3) := by decide +kernel
theorem dX10_settles_181 : decode cX10_settles 181 = .ok (.aload_n 0, 1) := by decide +kernel
theorem dX10_settles_182 : decode cX10_settles 182 = .ok (.getfield 25, 3) := by decide +kernel
theorem dX10_settles_185 : decode cX10_settles 185 = .ok (.bipush 13, 2) := by decide +kernel
theorem dX10_settles_187 : decode cX10_settles 187 = .ok (.iaload, 1) := by decide +kernel
theorem dX10_settles_188 : decode cX10_settles 188 = .ok (.iastore, 1) := by decide +kernel
theorem dX10_settles_189 : decode cX10_settles 189 = .ok (.iconst 0, 1) := by decide +kernel
theorem dX10_settles_190 : decode cX10_settles 190 = .ok (.istore_n 1, 1) := by decide +kernel
theorem dX10_settles_191 : decode cX10_settles 191 = .ok (.iload_n 1, 1) := by decide +kernel
theorem dX10_settles_192 : decode cX10_settles 192 = .ok (.bipush 9, 2) := by decide +kernel
theorem dX10_settles_194 : decode cX10_settles 194 = .ok (.if_icmp .ge 16, 3) := by decide +kernel
theorem dX10_settles_197 : decode cX10_settles 197 = .ok (.aload_n 0, 1) := by decide +kernel
theorem dX10_settles_198 : decode cX10_settles 198 = .ok (.getfield 28, 3) := by decide +kernel
theorem dX10_settles_201 : decode cX10_settles 201 = .ok (.iload_n 1, 1) := by decide +kernel
theorem dX10_settles_202 : decode cX10_settles 202 = .ok (.iconst 0, 1) := by decide +kernel
theorem dX10_settles_203 : decode cX10_settles 203 = .ok (.iastore, 1) := by decide +kernel
theorem dX10_settles_204 : decode cX10_settles 204 = .ok (.iinc 1 1, 3) := by decide +kernel
theorem dX10_settles_207 : decode cX10_settles 207 = .ok (.goto (-16), 3) := by decide +kernel
theorem dX10_settles_210 : decode cX10_settles 210 = .ok (.aload_n 0, 1) := by decide +kernel
theorem dX10_settles_211 : decode cX10_settles 211 = .ok (.iconst 0, 1) := by decide +kernel
theorem dX10_settles_212 : decode cX10_settles 212 = .ok (.putfield 65, 3) := by decide +kernel
theorem dX10_settles_215 : decode cX10_settles 215 = .ok (.aload_n 0, 1) := by decide +kernel
theorem dX10_settles_216 : decode cX10_settles 216 = .ok (.iconst 0, 1) := by decide +kernel
theorem dX10_settles_217 : decode cX10_settles 217 = .ok (.putfield 138, 3) := by decide +kernel
theorem dX10_settles_220 : decode cX10_settles 220 = .ok (.aload_n 0, 1) := by decide +kernel
theorem dX10_settles_221 : decode cX10_settles 221 = .ok (.iconst 0, 1) := by decide +kernel
theorem dX10_settles_222 : decode cX10_settles 222 = .ok (.putfield 141, 3) := by decide +kernel
theorem dX10_settles_225 : decode cX10_settles 225 = .ok (.aload_n 0, 1) := by decide +kernel
theorem dX10_settles_226 : decode cX10_settles 226 = .ok (.getfield 34, 3) := by decide +kernel
theorem dX10_settles_229 : decode cX10_settles 229 = .ok (.iconst 0, 1) := by decide +kernel
theorem dX10_settles_230 : decode cX10_settles 230 = .ok (.iconst 0, 1) := by decide +kernel
theorem dX10_settles_231 : decode cX10_settles 231 = .ok (.bastore, 1) := by decide +kernel
theorem dX10_settles_232 : decode cX10_settles 232 = .ok (.aload_n 0, 1) := by decide +kernel
theorem dX10_settles_233 : decode cX10_settles 233 = .ok (.getfield 34, 3) := by decide +kernel
theorem dX10_settles_236 : decode cX10_settles 236 = .ok (.iconst 1, 1) := by decide +kernel
theorem dX10_settles_237 : decode cX10_settles 237 = .ok (.iconst 0, 1) := by decide +kernel
theorem dX10_settles_238 : decode cX10_settles 238 = .ok (.bastore, 1) := by decide +kernel
theorem dX10_settles_239 : decode cX10_settles 239 = .ok (.return_, 1) := by decide +kernel
set_option maxRecDepth 20000 in
theorem ggX10_isYard_X10_in : GoodIn wsX10_isYard wsX10_in := goodIn_r _ [5] (by decide +kernel) (by decide +kernel)
set_option maxRecDepth 20000 in
theorem gX10_isYard_X10_in : GoodIn wsX10_isYard (va_wsS RX10 61 yX10_in wsX10_in) := goodIn_app (goodIn_of _ (by decide +kernel)) ggX10_isYard_X10_in
theorem dX10_isYard_0 : decode cX10_isYard 0 = .ok (.iload_n 1, 1) := by decide +kernel
theorem dX10_isYard_1 : decode cX10_isYard 1 = .ok (.iconst 0, 1) := by decide +kernel
theorem dX10_isYard_2 : decode cX10_isYard 2 = .ok (.aload_n 0, 1) := by decide +kernel
theorem dX10_isYard_3 : decode cX10_isYard 3 = .ok (.getfield 54, 3) := by decide +kernel
theorem dX10_isYard_6 : decode cX10_isYard 6 = .ok (.iconst 1, 1) := by decide +kernel
theorem dX10_isYard_7 : decode cX10_isYard 7 = .ok (.isub, 1) := by decide +kernel
theorem dX10_isYard_8 : decode cX10_isYard 8 = .ok (.invokestatic 61, 3) := by decide +kernel
theorem dX10_isYard_11 : decode cX10_isYard 11 = .ok (.ireturn, 1) := by decide +kernel
set_option maxRecDepth 20000 in
theorem ggX10_isRunner_X10_in : GoodIn wsX10_isRunner wsX10_in := goodIn_r _ [5] (by decide +kernel) (by decide +kernel)
set_option maxRecDepth 20000 in
theorem gX10_isRunner_X10_in : GoodIn wsX10_isRunner (va_wsS RX10 61 yX10_in wsX10_in) := goodIn_app (goodIn_of _ (by decide +kernel)) ggX10_isRunner_X10_in
theorem dX10_isRunner_0 : decode cX10_isRunner 0 = .ok (.iload_n 1, 1) := by decide +kernel
theorem dX10_isRunner_1 : decode cX10_isRunner 1 = .ok (.iconst 0, 1) := by decide +kernel
theorem dX10_isRunner_2 : decode cX10_isRunner 2 = .ok (.aload_n 0, 1) := by decide +kernel
theorem dX10_isRunner_3 : decode cX10_isRunner 3 = .ok (.getfield 135, 3) := by decide +kernel
theorem dX10_isRunner_6 : decode cX10_isRunner 6 = .ok (.iconst 1, 1) := by decide +kernel
theorem dX10_isRunner_7 : decode cX10_isRunner 7 = .ok (.isub, 1) := by decide +kernel
theorem dX10_isRunner_8 : decode cX10_isRunner 8 = .ok (.invokestatic 61, 3) := by decide +kernel
theorem dX10_isRunner_11 : decode cX10_isRunner 11 = .ok (.ireturn, 1) := by decide +kernel
set_option maxRecDepth 20000 in
theorem ggX10_isToss_X10_in : GoodIn wsX10_isToss wsX10_in := goodIn_r _ [4] (by decide +kernel) (by decide +kernel)
set_option maxRecDepth 20000 in
theorem gX10_isToss_X10_in : GoodIn wsX10_isToss (va_wsS RX10 61 yX10_in wsX10_in) := goodIn_app (goodIn_of _ (by decide +kernel)) ggX10_isToss_X10_in
theorem dX10_isToss_0 : decode cX10_isToss 0 = .ok (.iload_n 0, 1) := by decide +kernel
theorem dX10_isToss_1 : decode cX10_isToss 1 = .ok (.iconst 1, 1) := by decide +kernel
theorem dX10_isToss_2 : decode cX10_isToss 2 = .ok (.iconst 4, 1) := by decide +kernel
theorem dX10_isToss_3 : decode cX10_isToss 3 = .ok (.invokestatic 61, 3) := by decide +kernel
theorem dX10_isToss_6 : decode cX10_isToss 6 = .ok (.ifCond .eq 36, 3) := by decide +kernel
theorem dX10_isToss_9 : decode cX10_isToss 9 = .ok (.iload_n 1, 1) := by decide +kernel
theorem dX10_isToss_10 : decode cX10_isToss 10 = .ok (.iconst 0, 1) := by decide +kernel
theorem dX10_isToss_11 : decode cX10_isToss 11 = .ok (.bipush 9, 2) := by decide +kernel
theorem dX10_isToss_13 : decode cX10_isToss 13 = .ok (.invokestatic 61, 3) := by decide +kernel
theorem dX10_isToss_16 : decode cX10_isToss 16 = .ok (.ifCond .eq 26, 3) := by decide +kernel
theorem dX10_isToss_19 : decode cX10_isToss 19 = .ok (.iload_n 2, 1) := by decide +kernel
theorem dX10_isToss_20 : decode cX10_isToss 20 = .ok (.iconst 0, 1) := by decide +kernel
theorem dX10_isToss_21 : decode cX10_isToss 21 = .ok (.bipush 7, 2) := by decide +kernel
theorem dX10_isToss_23 : decode cX10_isToss 23 = .ok (.invokestatic 61, 3) := by decide +kernel
theorem dX10_isToss_26 : decode cX10_isToss 26 = .ok (.ifCond .eq 16, 3) := by decide +kernel
theorem dX10_isToss_29 : decode cX10_isToss 29 = .ok (.iload_n 3, 1) := by decide +kernel
theorem dX10_isToss_30 : decode cX10_isToss 30 = .ok (.iconst 0, 1) := by decide +kernel
theorem dX10_isToss_31 : decode cX10_isToss 31 = .ok (.iconst 1, 1) := by decide +kernel
theorem dX10_isToss_32 : decode cX10_isToss 32 = .ok (.invokestatic 61, 3) := by decide +kernel
theorem dX10_isToss_35 : decode cX10_isToss 35 = .ok (.ifCond .eq 7, 3) := by decide +kernel
theorem dX10_isToss_38 : decode cX10_isToss 38 = .ok (.iconst 1, 1) := by decide +kernel
theorem dX10_isToss_39 : decode cX10_isToss 39 = .ok (.goto 4, 3) := by decide +kernel
theorem dX10_isToss_42 : decode cX10_isToss 42 = .ok (.iconst 0, 1) := by decide +kernel
theorem dX10_isToss_43 : decode cX10_isToss 43 = .ok (.ireturn, 1) := by decide +kernel
set_option maxRecDepth 20000 in
theorem ggX10_yard_X10_isYard : GoodIn wsX10_yard wsX10_isYard := goodIn_r _ [8, 9, 10, 11, 7, 12, 13, 14, 15, 16, 17, 18, 19, 20, 21, 22, 23, 24, 25, 26, 27, 28, 29, 30, 31, 32, 33, 34, 35, 36, 37, 38, 39, 40, 41, 42, 43] (by decide +kernel) (by decide +kernel)
set_option maxRecDepth 20000 in
theorem gX10_yard_X10_isYard : GoodIn wsX10_yard (wsV RX10 144 RX10 yX10_isYard wsX10_isYard) := goodIn_app (goodIn_of _ (by decide +kernel)) ggX10_yard_X10_isYard
set_option maxRecDepth 20000 in
theorem ggX10_yard_X10_in : GoodIn wsX10_yard wsX10_in := goodIn_r _ [12] (by decide +kernel) (by decide +kernel)
set_option maxRecDepth 20000 in
theorem gX10_yard_X10_in : GoodIn wsX10_yard (va_wsS RX10 61 yX10_in wsX10_in) := goodIn_app (goodIn_of _ (by decide +kernel)) ggX10_yard_X10_in
theorem dX10_yard_0 : decode cX10_yard 0 = .ok (.aload_n 0, 1) := by decide +kernel
theorem dX10_yard_1 : decode cX10_yard 1 = .ok (.iconst 0, 1) := by decide +kernel
theorem dX10_yard_2 : decode cX10_yard 2 = .ok (.putfield 58, 3) := by decide +kernel
theorem dX10_yard_5 : decode cX10_yard 5 = .ok (.aload_n 0, 1) := by decide +kernel
theorem dX10_yard_6 : decode cX10_yard 6 = .ok (.iload_n 1, 1) := by decide +kernel
theorem dX10_yard_7 : decode cX10_yard 7 = .ok (.invokevirtual 144, 3) := by decide +kernel
theorem dX10_yard_10 : decode cX10_yard 10 = .ok (.ifCond .eq 34, 3) := by decide +kernel
theorem dX10_yard_13 : decode cX10_yard 13 = .ok (.iload_n 2, 1) := by decide +kernel
theorem dX10_yard_14 : decode cX10_yard 14 = .ok (.iconst 0, 1) := by decide +kernel
theorem dX10_yard_15 : decode cX10_yard 15 = .ok (.iconst 1, 1) := by decide +kernel
theorem dX10_yard_16 : decode cX10_yard 16 = .ok (.invokestatic 61, 3) := by decide +kernel
theorem dX10_yard_19 : decode cX10_yard 19 = .ok (.ifCond .eq 25, 3) := by decide +kernel
theorem dX10_yard_22 : decode cX10_yard 22 = .ok (.iload_n 2, 1) := by decide +kernel
theorem dX10_yard_23 : decode cX10_yard 23 = .ok (.ifCond .ne 12, 3) := by decide +kernel
theorem dX10_yard_26 : decode cX10_yard 26 = .ok (.aload_n 0, 1) := by decide +kernel
theorem dX10_yard_27 : decode cX10_yard 27 = .ok (.getfield 13, 3) := by decide +kernel
theorem dX10_yard_30 : decode cX10_yard 30 = .ok (.iload_n 1, 1) := by decide +kernel
theorem dX10_yard_31 : decode cX10_yard 31 = .ok (.iaload, 1) := by decide +kernel
theorem dX10_yard_32 : decode cX10_yard 32 = .ok (.goto 13, 3) := by decide +kernel
theorem dX10_yard_35 : decode cX10_yard 35 = .ok (.aload_n 0, 1) := by decide +kernel
theorem dX10_yard_36 : decode cX10_yard 36 = .ok (.getfield 16, 3) := by decide +kernel
theorem dX10_yard_39 : decode cX10_yard 39 = .ok (.iload_n 1, 1) := by decide +kernel
theorem dX10_yard_40 : decode cX10_yard 40 = .ok (.iaload, 1) := by decide +kernel
theorem dX10_yard_41 : decode cX10_yard 41 = .ok (.goto 4, 3) := by decide +kernel
theorem dX10_yard_44 : decode cX10_yard 44 = .ok (.iconst (-1), 1) := by decide +kernel
theorem dX10_yard_45 : decode cX10_yard 45 = .ok (.ireturn, 1) := by decide +kernel
set_option maxRecDepth 20000 in
theorem ggX10_told_X10_in : GoodIn wsX10_told wsX10_in := goodIn_r _ [7] (by decide +kernel) (by decide +kernel)
set_option maxRecDepth 20000 in
theorem gX10_told_X10_in : GoodIn wsX10_told (va_wsS RX10 61 yX10_in wsX10_in) := goodIn_app (goodIn_of _ (by decide +kernel)) ggX10_told_X10_in
theorem dX10_told_0 : decode cX10_told 0 = .ok (.aload_n 0, 1) := by decide +kernel
theorem dX10_told_1 : decode cX10_told 1 = .ok (.iconst 0, 1) := by decide +kernel
theorem dX10_told_2 : decode cX10_told 2 = .ok (.putfield 58, 3) := by decide +kernel
theorem dX10_told_5 : decode cX10_told 5 = .ok (.iload_n 1, 1) := by decide +kernel
theorem dX10_told_6 : decode cX10_told 6 = .ok (.ifCond .ne 10, 3) := by decide +kernel
theorem dX10_told_9 : decode cX10_told 9 = .ok (.aload_n 0, 1) := by decide +kernel
theorem dX10_told_10 : decode cX10_told 10 = .ok (.getfield 54, 3) := by decide +kernel
theorem dX10_told_13 : decode cX10_told 13 = .ok (.goto 26, 3) := by decide +kernel
theorem dX10_told_16 : decode cX10_told 16 = .ok (.iload_n 1, 1) := by decide +kernel
theorem dX10_told_17 : decode cX10_told 17 = .ok (.iconst 1, 1) := by decide +kernel
theorem dX10_told_18 : decode cX10_told 18 = .ok (.iconst 3, 1) := by decide +kernel
theorem dX10_told_19 : decode cX10_told 19 = .ok (.invokestatic 61, 3) := by decide +kernel
theorem dX10_told_22 : decode cX10_told 22 = .ok (.ifCond .eq 16, 3) := by decide +kernel
theorem dX10_told_25 : decode cX10_told 25 = .ok (.aload_n 0, 1) := by decide +kernel
theorem dX10_told_26 : decode cX10_told 26 = .ok (.getfield 25, 3) := by decide +kernel
theorem dX10_told_29 : decode cX10_told 29 = .ok (.iconst 4, 1) := by decide +kernel
theorem dX10_told_30 : decode cX10_told 30 = .ok (.iload_n 1, 1) := by decide +kernel
theorem dX10_told_31 : decode cX10_told 31 = .ok (.iadd, 1) := by decide +kernel
theorem dX10_told_32 : decode cX10_told 32 = .ok (.iconst 1, 1) := by decide +kernel
theorem dX10_told_33 : decode cX10_told 33 = .ok (.isub, 1) := by decide +kernel
theorem dX10_told_34 : decode cX10_told 34 = .ok (.iaload, 1) := by decide +kernel
theorem dX10_told_35 : decode cX10_told 35 = .ok (.goto 4, 3) := by decide +kernel
theorem dX10_told_38 : decode cX10_told 38 = .ok (.iconst (-1), 1) := by decide +kernel
theorem dX10_told_39 : decode cX10_told 39 = .ok (.ireturn, 1) := by decide +kernel
theorem dX10_isHome_0 : decode cX10_isHome 0 = .ok (.aload_n 0, 1) := by decide +kernel
theorem dX10_isHome_1 : decode cX10_isHome 1 = .ok (.getfield 28, 3) := by decide +kernel
theorem dX10_isHome_4 : decode cX10_isHome 4 = .ok (.iconst 3, 1) := by decide +kernel
theorem dX10_isHome_5 : decode cX10_isHome 5 = .ok (.iload_n 1, 1) := by decide +kernel
theorem dX10_isHome_6 : decode cX10_isHome 6 = .ok (.imul, 1) := by decide +kernel
theorem dX10_isHome_7 : decode cX10_isHome 7 = .ok (.iaload, 1) := by decide +kernel
theorem dX10_isHome_8 : decode cX10_isHome 8 = .ok (.aload_n 0, 1) := by decide +kernel
theorem dX10_isHome_9 : decode cX10_isHome 9 = .ok (.getfield 54, 3) := by decide +kernel
theorem dX10_isHome_12 : decode cX10_isHome 12 = .ok (.if_icmp .ne 26, 3) := by decide +kernel
theorem dX10_isHome_15 : decode cX10_isHome 15 = .ok (.aload_n 0, 1) := by decide +kernel
theorem dX10_isHome_16 : decode cX10_isHome 16 = .ok (.getfield 28, 3) := by decide +kernel
theorem dX10_isHome_19 : decode cX10_isHome 19 = .ok (.iconst 3, 1) := by decide +kernel
theorem dX10_isHome_20 : decode cX10_isHome 20 = .ok (.iload_n 1, 1) := by decide +kernel
theorem dX10_isHome_21 : decode cX10_isHome 21 = .ok (.imul, 1) := by decide +kernel
theorem dX10_isHome_22 : decode cX10_isHome 22 = .ok (.iconst 2, 1) := by decide +kernel
theorem dX10_isHome_23 : decode cX10_isHome 23 = .ok (.iadd, 1) := by decide +kernel
theorem dX10_isHome_24 : decode cX10_isHome 24 = .ok (.iaload, 1) := by decide +kernel
theorem dX10_isHome_25 : decode cX10_isHome 25 = .ok (.aload_n 0, 1) := by decide +kernel
theorem dX10_isHome_26 : decode cX10_isHome 26 = .ok (.getfield 25, 3) := by decide +kernel
theorem dX10_isHome_29 : decode cX10_isHome 29 = .ok (.iconst 5, 1) := by decide +kernel
theorem dX10_isHome_30 : decode cX10_isHome 30 = .ok (.iaload, 1) := by decide +kernel
theorem dX10_isHome_31 : decode cX10_isHome 31 = .ok (.if_icmp .lt 7, 3) := by decide +kernel
theorem dX10_isHome_34 : decode cX10_isHome 34 = .ok (.iconst 1, 1) := by decide +kernel
theorem dX10_isHome_35 : decode cX10_isHome 35 = .ok (.goto 4, 3) := by decide +kernel
