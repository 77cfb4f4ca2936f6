theorem dX6_readInto_105 : decode cX6_readInto 105 = .ok (.aload_n 0, 1) := by decide +kernel
theorem dX6_readInto_106 : decode cX6_readInto 106 = .ok (.aload_n 1, 1) := by decide +kernel
theorem dX6_readInto_107 : decode cX6_readInto 107 = .ok (.iload_n 3, 1) := by decide +kernel
theorem dX6_readInto_108 : decode cX6_readInto 108 = .ok (.iload 4, 2) := by decide +kernel
theorem dX6_readInto_110 : decode cX6_readInto 110 = .ok (.aload_n 0, 1) := by decide +kernel
theorem dX6_readInto_111 : decode cX6_readInto 111 = .ok (.getfield 28, 3) := by decide +kernel
theorem dX6_readInto_114 : decode cX6_readInto 114 = .ok (.invokevirtual 58, 3) := by decide +kernel
theorem dX6_readInto_117 : decode cX6_readInto 117 = .ok (.aload_n 0, 1) := by decide +kernel
theorem dX6_readInto_118 : decode cX6_readInto 118 = .ok (.invokevirtual 39, 3) := by decide +kernel
theorem dX6_readInto_121 : decode cX6_readInto 121 = .ok (.aload_n 0, 1) := by decide +kernel
theorem dX6_readInto_122 : decode cX6_readInto 122 = .ok (.getfield 25, 3) := by decide +kernel
theorem dX6_readInto_125 : decode cX6_readInto 125 = .ok (.bipush 9, 2) := by decide +kernel
theorem dX6_readInto_127 : decode cX6_readInto 127 = .ok (.if_icmp .eq 5, 3) := by decide +kernel
theorem dX6_readInto_130 : decode cX6_readInto 130 = .ok (.iconst (-1), 1) := by decide +kernel
theorem dX6_readInto_131 : decode cX6_readInto 131 = .ok (.ireturn, 1) := by decide +kernel
theorem dX6_readInto_132 : decode cX6_readInto 132 = .ok (.iinc 2 1, 3) := by decide +kernel
theorem dX6_readInto_135 : decode cX6_readInto 135 = .ok (.goto (-119), 3) := by decide +kernel
theorem dX6_readInto_138 : decode cX6_readInto 138 = .ok (.iconst (-1), 1) := by decide +kernel
theorem dX6_readInto_139 : decode cX6_readInto 139 = .ok (.ireturn, 1) := by decide +kernel
theorem dX6_fault_0 : decode cX6_fault 0 = .ok (.aload_n 0, 1) := by decide +kernel
theorem dX6_fault_1 : decode cX6_fault 1 = .ok (.getfield 22, 3) := by decide +kernel
theorem dX6_fault_4 : decode cX6_fault 4 = .ok (.ireturn, 1) := by decide +kernel
theorem dX6_mayBegin_0 : decode cX6_mayBegin 0 = .ok (.aload_n 0, 1) := by decide +kernel
theorem dX6_mayBegin_1 : decode cX6_mayBegin 1 = .ok (.getfield 25, 3) := by decide +kernel
theorem dX6_mayBegin_4 : decode cX6_mayBegin 4 = .ok (.tableswitch 90 1 7 #[44, 54, 54, 56, 70, 70, 70], 44) := by decide +kernel
theorem dX6_mayBegin_48 : decode cX6_mayBegin 48 = .ok (.iload_n 2, 1) := by decide +kernel
theorem dX6_mayBegin_49 : decode cX6_mayBegin 49 = .ok (.ifCond .ne 7, 3) := by decide +kernel
theorem dX6_mayBegin_52 : decode cX6_mayBegin 52 = .ok (.iconst 1, 1) := by decide +kernel
theorem dX6_mayBegin_53 : decode cX6_mayBegin 53 = .ok (.goto 4, 3) := by decide +kernel
theorem dX6_mayBegin_56 : decode cX6_mayBegin 56 = .ok (.iconst 0, 1) := by decide +kernel
theorem dX6_mayBegin_57 : decode cX6_mayBegin 57 = .ok (.ireturn, 1) := by decide +kernel
theorem dX6_mayBegin_58 : decode cX6_mayBegin 58 = .ok (.iconst 1, 1) := by decide +kernel
theorem dX6_mayBegin_59 : decode cX6_mayBegin 59 = .ok (.ireturn, 1) := by decide +kernel
theorem dX6_mayBegin_60 : decode cX6_mayBegin 60 = .ok (.aload_n 1, 1) := by decide +kernel
theorem dX6_mayBegin_61 : decode cX6_mayBegin 61 = .ok (.getfield 62, 3) := by decide +kernel
theorem dX6_mayBegin_64 : decode cX6_mayBegin 64 = .ok (.iconst 3, 1) := by decide +kernel
theorem dX6_mayBegin_65 : decode cX6_mayBegin 65 = .ok (.if_icmp .ge 7, 3) := by decide +kernel
theorem dX6_mayBegin_68 : decode cX6_mayBegin 68 = .ok (.iconst 1, 1) := by decide +kernel
theorem dX6_mayBegin_69 : decode cX6_mayBegin 69 = .ok (.goto 4, 3) := by decide +kernel
theorem dX6_mayBegin_72 : decode cX6_mayBegin 72 = .ok (.iconst 0, 1) := by decide +kernel
theorem dX6_mayBegin_73 : decode cX6_mayBegin 73 = .ok (.ireturn, 1) := by decide +kernel
theorem dX6_mayBegin_74 : decode cX6_mayBegin 74 = .ok (.aload_n 0, 1) := by decide +kernel
theorem dX6_mayBegin_75 : decode cX6_mayBegin 75 = .ok (.getfield 31, 3) := by decide +kernel
theorem dX6_mayBegin_78 : decode cX6_mayBegin 78 = .ok (.iconst 1, 1) := by decide +kernel
theorem dX6_mayBegin_79 : decode cX6_mayBegin 79 = .ok (.aload_n 0, 1) := by decide +kernel
theorem dX6_mayBegin_80 : decode cX6_mayBegin 80 = .ok (.getfield 25, 3) := by decide +kernel
theorem dX6_mayBegin_83 : decode cX6_mayBegin 83 = .ok (.ishl, 1) := by decide +kernel
theorem dX6_mayBegin_84 : decode cX6_mayBegin 84 = .ok (.iand, 1) := by decide +kernel
theorem dX6_mayBegin_85 : decode cX6_mayBegin 85 = .ok (.ifCond .ne 7, 3) := by decide +kernel
theorem dX6_mayBegin_88 : decode cX6_mayBegin 88 = .ok (.iconst 1, 1) := by decide +kernel
theorem dX6_mayBegin_89 : decode cX6_mayBegin 89 = .ok (.goto 4, 3) := by decide +kernel
theorem dX6_mayBegin_92 : decode cX6_mayBegin 92 = .ok (.iconst 0, 1) := by decide +kernel
theorem dX6_mayBegin_93 : decode cX6_mayBegin 93 = .ok (.ireturn, 1) := by decide +kernel
theorem dX6_mayBegin_94 : decode cX6_mayBegin 94 = .ok (.iconst 0, 1) := by decide +kernel
theorem dX6_mayBegin_95 : decode cX6_mayBegin 95 = .ok (.ireturn, 1) := by decide +kernel
theorem dX6_leastFirst_0 : decode cX6_leastFirst 0 = .ok (.iload_n 0, 1) := by decide +kernel
theorem dX6_leastFirst_1 : decode cX6_leastFirst 1 = .ok (.tableswitch 31 1 3 #[27, 29, 29], 27) := by decide +kernel
theorem dX6_leastFirst_28 : decode cX6_leastFirst 28 = .ok (.iconst 4, 1) := by decide +kernel
theorem dX6_leastFirst_29 : decode cX6_leastFirst 29 = .ok (.ireturn, 1) := by decide +kernel
theorem dX6_leastFirst_30 : decode cX6_leastFirst 30 = .ok (.iconst 0, 1) := by decide +kernel
theorem dX6_leastFirst_31 : decode cX6_leastFirst 31 = .ok (.ireturn, 1) := by decide +kernel
theorem dX6_leastFirst_32 : decode cX6_leastFirst 32 = .ok (.iconst 1, 1) := by decide +kernel
theorem dX6_leastFirst_33 : decode cX6_leastFirst 33 = .ok (.ireturn, 1) := by decide +kernel
theorem dX6_mostFirst_0 : decode cX6_mostFirst 0 = .ok (.iload_n 0, 1) := by decide +kernel
theorem dX6_mostFirst_1 : decode cX6_mostFirst 1 = .ok (.tableswitch 55 1 6 #[39, 42, 42, 49, 51, 53], 39) := by decide +kernel
theorem dX6_mostFirst_40 : decode cX6_mostFirst 40 = .ok (.bipush 24, 2) := by decide +kernel
theorem dX6_mostFirst_42 : decode cX6_mostFirst 42 = .ok (.ireturn, 1) := by decide +kernel
theorem dX6_mostFirst_43 : decode cX6_mostFirst 43 = .ok (.aload_n 1, 1) := by decide +kernel
theorem dX6_mostFirst_44 : decode cX6_mostFirst 44 = .ok (.getfield 65, 3) := by decide +kernel
theorem dX6_mostFirst_47 : decode cX6_mostFirst 47 = .ok (.iconst 1, 1) := by decide +kernel
theorem dX6_mostFirst_48 : decode cX6_mostFirst 48 = .ok (.isub, 1) := by decide +kernel
theorem dX6_mostFirst_49 : decode cX6_mostFirst 49 = .ok (.ireturn, 1) := by decide +kernel
theorem dX6_mostFirst_50 : decode cX6_mostFirst 50 = .ok (.iconst 4, 1) := by decide +kernel
theorem dX6_mostFirst_51 : decode cX6_mostFirst 51 = .ok (.ireturn, 1) := by decide +kernel
theorem dX6_mostFirst_52 : decode cX6_mostFirst 52 = .ok (.iconst 3, 1) := by decide +kernel
theorem dX6_mostFirst_53 : decode cX6_mostFirst 53 = .ok (.ireturn, 1) := by decide +kernel
theorem dX6_mostFirst_54 : decode cX6_mostFirst 54 = .ok (.iconst 4, 1) := by decide +kernel
theorem dX6_mostFirst_55 : decode cX6_mostFirst 55 = .ok (.ireturn, 1) := by decide +kernel
theorem dX6_mostFirst_56 : decode cX6_mostFirst 56 = .ok (.bipush 9, 2) := by decide +kernel
theorem dX6_mostFirst_58 : decode cX6_mostFirst 58 = .ok (.ireturn, 1) := by decide +kernel
set_option maxRecDepth 20000 in
theorem ggX6_tell_X3_setWind : GoodIn wsX6_tell wsX3_setWind := goodIn_r _ [6, 7, 26, 27, 28, 29, 30, 31, 32, 33, 34] (by decide +kernel) (by decide +kernel)
set_option maxRecDepth 20000 in
theorem gX6_tell_X3_setWind : GoodIn wsX6_tell (wsV RX6 68 RX3 yX3_setWind wsX3_setWind) := goodIn_app (goodIn_of _ (by decide +kernel)) ggX6_tell_X3_setWind
set_option maxRecDepth 20000 in
theorem ggX6_tell_X3_setWet : GoodIn wsX6_tell wsX3_setWet := goodIn_r _ [11, 12, 26, 27, 28, 29, 30, 31, 32, 33, 34] (by decide +kernel) (by decide +kernel)
set_option maxRecDepth 20000 in
theorem gX6_tell_X3_setWet : GoodIn wsX6_tell (wsV RX6 72 RX3 yX3_setWet wsX3_setWet) := goodIn_app (goodIn_of _ (by decide +kernel)) ggX6_tell_X3_setWet
set_option maxRecDepth 20000 in
theorem ggX6_tell_X3_addRunner : GoodIn wsX6_tell wsX3_addRunner := goodIn_r _ [16, 17, 18, 19, 26, 27, 28, 29, 30, 31, 32, 33, 34] (by decide +kernel) (by decide +kernel)
set_option maxRecDepth 20000 in
theorem gX6_tell_X3_addRunner : GoodIn wsX6_tell (wsV RX6 76 RX3 yX3_addRunner wsX3_addRunner) := goodIn_app (goodIn_of _ (by decide +kernel)) ggX6_tell_X3_addRunner
theorem dX6_tell_0 : decode cX6_tell 0 = .ok (.aload_n 0, 1) := by decide +kernel
theorem dX6_tell_1 : decode cX6_tell 1 = .ok (.dup, 1) := by decide +kernel
theorem dX6_tell_2 : decode cX6_tell 2 = .ok (.getfield 31, 3) := by decide +kernel
theorem dX6_tell_5 : decode cX6_tell 5 = .ok (.iconst 1, 1) := by decide +kernel
theorem dX6_tell_6 : decode cX6_tell 6 = .ok (.iload_n 2, 1) := by decide +kernel
theorem dX6_tell_7 : decode cX6_tell 7 = .ok (.ishl, 1) := by decide +kernel
theorem dX6_tell_8 : decode cX6_tell 8 = .ok (.ior, 1) := by decide +kernel
theorem dX6_tell_9 : decode cX6_tell 9 = .ok (.putfield 31, 3) := by decide +kernel
theorem dX6_tell_12 : decode cX6_tell 12 = .ok (.iload_n 2, 1) := by decide +kernel
theorem dX6_tell_13 : decode cX6_tell 13 = .ok (.tableswitch 91 1 6 #[39, 47, 57, 65, 75, 83], 39) := by decide +kernel
theorem dX6_tell_52 : decode cX6_tell 52 = .ok (.aload_n 1, 1) := by decide +kernel
theorem dX6_tell_53 : decode cX6_tell 53 = .ok (.iload_n 3, 1) := by decide +kernel
theorem dX6_tell_54 : decode cX6_tell 54 = .ok (.putfield 65, 3) := by decide +kernel
theorem dX6_tell_57 : decode cX6_tell 57 = .ok (.goto 52, 3) := by decide +kernel
theorem dX6_tell_60 : decode cX6_tell 60 = .ok (.aload_n 1, 1) := by decide +kernel
theorem dX6_tell_61 : decode cX6_tell 61 = .ok (.iload_n 3, 1) := by decide +kernel
theorem dX6_tell_62 : decode cX6_tell 62 = .ok (.iload 4, 2) := by decide +kernel
theorem dX6_tell_64 : decode cX6_tell 64 = .ok (.invokevirtual 68, 3) := by decide +kernel
theorem dX6_tell_67 : decode cX6_tell 67 = .ok (.goto 42, 3) := by decide +kernel
theorem dX6_tell_70 : decode cX6_tell 70 = .ok (.aload_n 1, 1) := by decide +kernel
theorem dX6_tell_71 : decode cX6_tell 71 = .ok (.iload_n 3, 1) := by decide +kernel
theorem dX6_tell_72 : decode cX6_tell 72 = .ok (.invokevirtual 72, 3) := by decide +kernel
theorem dX6_tell_75 : decode cX6_tell 75 = .ok (.goto 34, 3) := by decide +kernel
theorem dX6_tell_78 : decode cX6_tell 78 = .ok (.aload_n 1, 1) := by decide +kernel
theorem dX6_tell_79 : decode cX6_tell 79 = .ok (.iload_n 3, 1) := by decide +kernel
theorem dX6_tell_80 : decode cX6_tell 80 = .ok (.iload 4, 2) := by decide +kernel
theorem dX6_tell_82 : decode cX6_tell 82 = .ok (.invokevirtual 76, 3) := by decide +kernel
theorem dX6_tell_85 : decode cX6_tell 85 = .ok (.goto 24, 3) := by decide +kernel
theorem dX6_tell_88 : decode cX6_tell 88 = .ok (.aload_n 1, 1) := by decide +kernel
theorem dX6_tell_89 : decode cX6_tell 89 = .ok (.iload_n 3, 1) := by decide +kernel
theorem dX6_tell_90 : decode cX6_tell 90 = .ok (.putfield 79, 3) := by decide +kernel
theorem dX6_tell_93 : decode cX6_tell 93 = .ok (.goto 16, 3) := by decide +kernel
theorem dX6_tell_96 : decode cX6_tell 96 = .ok (.aload_n 1, 1) := by decide +kernel
theorem dX6_tell_97 : decode cX6_tell 97 = .ok (.iload_n 3, 1) := by decide +kernel
theorem dX6_tell_98 : decode cX6_tell 98 = .ok (.putfield 82, 3) := by decide +kernel
theorem dX6_tell_101 : decode cX6_tell 101 = .ok (.goto 8, 3) := by decide +kernel
theorem dX6_tell_104 : decode cX6_tell 104 = .ok (.aload_n 1, 1) := by decide +kernel
theorem dX6_tell_105 : decode cX6_tell 105 = .ok (.iload_n 3, 1) := by decide +kernel
theorem dX6_tell_106 : decode cX6_tell 106 = .ok (.putfield 85, 3) := by decide +kernel
theorem dX6_tell_109 : decode cX6_tell 109 = .ok (.return_, 1) := by decide +kernel
set_option maxRecDepth 20000 in
theorem ggX6_readNumber_X6_readToken : GoodIn wsX6_readNumber wsX6_readToken := goodIn_r _ [7, 8, 9, 10, 1, 11, 12, 13, 6, 14, 15, 16, 17, 18, 19, 20, 21, 22, 23, 24, 25, 26, 27, 28, 29, 30, 31, 32, 33, 34, 35, 36, 37, 38, 39, 40, 41, 42, 43, 44, 45, 46, 47, 48, 49, 50, 51, 52, 53, 54, 55, 56, 57, 58, 59, 60, 61, 62, 63, 64, 65, 66, 67, 68, 69, 70, 71, 72, 73, 74, 75, 76, 77, 78, 79, 80, 81, 82, 83, 84, 85, 86, 87, 88, 2, 89, 90, 91, 92, 93, 94, 95, 96, 97, 98, 99, 100] (by decide +kernel) (by decide +kernel)
set_option maxRecDepth 20000 in
theorem gX6_readNumber_X6_readToken : GoodIn wsX6_readNumber (wsV RX6 39 RX6 yX6_readToken wsX6_readToken) := goodIn_app (goodIn_of _ (by decide +kernel)) ggX6_readNumber_X6_readToken
theorem dX6_readNumber_0 : decode cX6_readNumber 0 = .ok (.aload_n 0, 1) := by decide +kernel
theorem dX6_readNumber_1 : decode cX6_readNumber 1 = .ok (.invokevirtual 39, 3) := by decide +kernel
theorem dX6_readNumber_4 : decode cX6_readNumber 4 = .ok (.aload_n 0, 1) := by decide +kernel
theorem dX6_readNumber_5 : decode cX6_readNumber 5 = .ok (.getfield 25, 3) := by decide +kernel
theorem dX6_readNumber_8 : decode cX6_readNumber 8 = .ok (.bipush 8, 2) := by decide +kernel
theorem dX6_readNumber_10 : decode cX6_readNumber 10 = .ok (.if_icmp .ne 23, 3) := by decide +kernel
theorem dX6_readNumber_13 : decode cX6_readNumber 13 = .ok (.aload_n 0, 1) := by decide +kernel
theorem dX6_readNumber_14 : decode cX6_readNumber 14 = .ok (.getfield 28, 3) := by decide +kernel
theorem dX6_readNumber_17 : decode cX6_readNumber 17 = .ok (.iload_n 1, 1) := by decide +kernel
theorem dX6_readNumber_18 : decode cX6_readNumber 18 = .ok (.if_icmp .lt 15, 3) := by decide +kernel
theorem dX6_readNumber_21 : decode cX6_readNumber 21 = .ok (.aload_n 0, 1) := by decide +kernel
theorem dX6_readNumber_22 : decode cX6_readNumber 22 = .ok (.getfield 28, 3) := by decide +kernel
theorem dX6_readNumber_25 : decode cX6_readNumber 25 = .ok (.iload_n 2, 1) := by decide +kernel
theorem dX6_readNumber_26 : decode cX6_readNumber 26 = .ok (.if_icmp .gt 7, 3) := by decide +kernel
theorem dX6_readNumber_29 : decode cX6_readNumber 29 = .ok (.iconst 1, 1) := by decide +kernel
theorem dX6_readNumber_30 : decode cX6_readNumber 30 = .ok (.goto 4, 3) := by decide +kernel
theorem dX6_readNumber_33 : decode cX6_readNumber 33 = .ok (.iconst 0, 1) := by decide +kernel
theorem dX6_readNumber_34 : decode cX6_readNumber 34 = .ok (.ireturn, 1) := by decide +kernel
set_option maxRecDepth 20000 in
theorem ggX6_readToken_X6_skipBlanks : GoodIn wsX6_readToken wsX6_skipBlanks := goodIn_r _ [9, 1, 3, 10, 11, 12, 13, 14, 15, 16, 89, 90, 91, 92, 93, 94, 95, 96] (by decide +kernel) (by decide +kernel)
set_option maxRecDepth 20000 in
theorem gX6_readToken_X6_skipBlanks : GoodIn wsX6_readToken (wsV RX6 88 RX6 yX6_skipBlanks wsX6_skipBlanks) := goodIn_app (goodIn_of _ (by decide +kernel)) ggX6_readToken_X6_skipBlanks
set_option maxRecDepth 20000 in
theorem ggX6_readToken_X8_byteAt : GoodIn wsX6_readToken wsX8_byteAt := goodIn_r _ [14, 15, 16, 95, 96] (by decide +kernel) (by decide +kernel)
set_option maxRecDepth 20000 in
theorem gX6_readToken_X8_byteAt : GoodIn wsX6_readToken (wsV RX6 94 RX8 yX8_byteAt wsX8_byteAt) := goodIn_app (goodIn_of _ (by decide +kernel)) ggX6_readToken_X8_byteAt
set_option maxRecDepth 20000 in
theorem ggX6_readToken_X6_isLetter : GoodIn wsX6_readToken wsX6_isLetter := goodIn_r _ [19] (by decide +kernel) (by decide +kernel)
set_option maxRecDepth 20000 in
theorem gX6_readToken_X6_isLetter : GoodIn wsX6_readToken (va_wsS RX6 97 yX6_isLetter wsX6_isLetter) := goodIn_app (goodIn_of _ (by decide +kernel)) ggX6_readToken_X6_isLetter
set_option maxRecDepth 20000 in
theorem ggX6_readToken_X6_readWord : GoodIn wsX6_readToken wsX6_readWord := goodIn_r _ [23, 1, 3, 2, 4, 10, 11, 12, 13, 14, 15, 16, 17, 18, 8, 19, 24, 25, 26, 27, 28, 29, 30, 31, 32, 33, 34, 35, 36, 37, 38, 39, 40, 41, 42, 43, 44, 45, 46, 47, 48, 49, 50, 51, 52, 53, 54, 55, 56, 57, 58, 59, 60, 61, 62, 63, 64, 65, 66, 67, 68, 69, 70, 71, 72, 73, 74, 75, 76, 89, 90, 91, 92, 93, 94, 95, 96] (by decide +kernel) (by decide +kernel)
set_option maxRecDepth 20000 in
theorem gX6_readToken_X6_readWord : GoodIn wsX6_readToken (wsV RX6 101 RX6 yX6_readWord wsX6_readWord) := goodIn_app (goodIn_of _ (by decide +kernel)) ggX6_readToken_X6_readWord
set_option maxRecDepth 20000 in
theorem ggX6_readToken_X6_isDigit : GoodIn wsX6_readToken wsX6_isDigit := goodIn_r _ [79] (by decide +kernel) (by decide +kernel)
set_option maxRecDepth 20000 in
theorem gX6_readToken_X6_isDigit : GoodIn wsX6_readToken (va_wsS RX6 104 yX6_isDigit wsX6_isDigit) := goodIn_app (goodIn_of _ (by decide +kernel)) ggX6_readToken_X6_isDigit
set_option maxRecDepth 20000 in
theorem ggX6_readToken_X6_readDigits : GoodIn wsX6_readToken wsX6_readDigits := goodIn_r _ [83, 84, 1, 3, 85, 86, 87, 88, 2, 4, 10, 11, 12, 13, 14, 15, 16, 77, 78, 8, 79, 89, 90, 91, 92, 93, 94, 95, 96] (by decide +kernel) (by decide +kernel)
set_option maxRecDepth 20000 in
theorem gX6_readToken_X6_readDigits : GoodIn wsX6_readToken (wsV RX6 107 RX6 yX6_readDigits wsX6_readDigits) := goodIn_app (goodIn_of _ (by decide +kernel)) ggX6_readToken_X6_readDigits
theorem dX6_readToken_0 : decode cX6_readToken 0 = .ok (.aload_n 0, 1) := by decide +kernel
theorem dX6_readToken_1 : decode cX6_readToken 1 = .ok (.invokevirtual 88, 3) := by decide +kernel
theorem dX6_readToken_4 : decode cX6_readToken 4 = .ok (.aload_n 0, 1) := by decide +kernel
theorem dX6_readToken_5 : decode cX6_readToken 5 = .ok (.aload_n 0, 1) := by decide +kernel
theorem dX6_readToken_6 : decode cX6_readToken 6 = .ok (.getfield 18, 3) := by decide +kernel
theorem dX6_readToken_9 : decode cX6_readToken 9 = .ok (.putfield 22, 3) := by decide +kernel
theorem dX6_readToken_12 : decode cX6_readToken 12 = .ok (.aload_n 0, 1) := by decide +kernel
theorem dX6_readToken_13 : decode cX6_readToken 13 = .ok (.getfield 18, 3) := by decide +kernel
theorem dX6_readToken_16 : decode cX6_readToken 16 = .ok (.aload_n 0, 1) := by decide +kernel
theorem dX6_readToken_17 : decode cX6_readToken 17 = .ok (.getfield 12, 3) := by decide +kernel
theorem dX6_readToken_20 : decode cX6_readToken 20 = .ok (.getfield 91, 3) := by decide +kernel
theorem dX6_readToken_23 : decode cX6_readToken 23 = .ok (.if_icmp .lt 9, 3) := by decide +kernel
theorem dX6_readToken_26 : decode cX6_readToken 26 = .ok (.aload_n 0, 1) := by decide +kernel
theorem dX6_readToken_27 : decode cX6_readToken 27 = .ok (.iconst 0, 1) := by decide +kernel
theorem dX6_readToken_28 : decode cX6_readToken 28 = .ok (.putfield 25, 3) := by decide +kernel
theorem dX6_readToken_31 : decode cX6_readToken 31 = .ok (.return_, 1) := by decide +kernel
theorem dX6_readToken_32 : decode cX6_readToken 32 = .ok (.aload_n 0, 1) := by decide +kernel
theorem dX6_readToken_33 : decode cX6_readToken 33 = .ok (.getfield 12, 3) := by decide +kernel
theorem dX6_readToken_36 : decode cX6_readToken 36 = .ok (.aload_n 0, 1) := by decide +kernel
theorem dX6_readToken_37 : decode cX6_readToken 37 = .ok (.getfield 18, 3) := by decide +kernel
theorem dX6_readToken_40 : decode cX6_readToken 40 = .ok (.invokevirtual 94, 3) := by decide +kernel
theorem dX6_readToken_43 : decode cX6_readToken 43 = .ok (.istore_n 1, 1) := by decide +kernel
theorem dX6_readToken_44 : decode cX6_readToken 44 = .ok (.iload_n 1, 1) := by decide +kernel
theorem dX6_readToken_45 : decode cX6_readToken 45 = .ok (.invokestatic 97, 3) := by decide +kernel
theorem dX6_readToken_48 : decode cX6_readToken 48 = .ok (.ifCond .eq 10, 3) := by decide +kernel
theorem dX6_readToken_51 : decode cX6_readToken 51 = .ok (.aload_n 0, 1) := by decide +kernel
theorem dX6_readToken_52 : decode cX6_readToken 52 = .ok (.invokevirtual 101, 3) := by decide +kernel
theorem dX6_readToken_55 : decode cX6_readToken 55 = .ok (.goto 44, 3) := by decide +kernel
theorem dX6_readToken_58 : decode cX6_readToken 58 = .ok (.iload_n 1, 1) := by decide +kernel
theorem dX6_readToken_59 : decode cX6_readToken 59 = .ok (.invokestatic 104, 3) := by decide +kernel
theorem dX6_readToken_62 : decode cX6_readToken 62 = .ok (.ifCond .eq 10, 3) := by decide +kernel
theorem dX6_readToken_65 : decode cX6_readToken 65 = .ok (.aload_n 0, 1) := by decide +kernel
theorem dX6_readToken_66 : decode cX6_readToken 66 = .ok (.invokevirtual 107, 3) := by decide +kernel
theorem dX6_readToken_69 : decode cX6_readToken 69 = .ok (.goto 30, 3) := by decide +kernel
theorem dX6_readToken_72 : decode cX6_readToken 72 = .ok (.aload_n 0, 1) := by decide +kernel
theorem dX6_readToken_73 : decode cX6_readToken 73 = .ok (.dup, 1) := by decide +kernel
theorem dX6_readToken_74 : decode cX6_readToken 74 = .ok (.getfield 18, 3) := by decide +kernel
theorem dX6_readToken_77 : decode cX6_readToken 77 = .ok (.iconst 1, 1) := by decide +kernel
theorem dX6_readToken_78 : decode cX6_readToken 78 = .ok (.iadd, 1) := by decide +kernel
theorem dX6_readToken_79 : decode cX6_readToken 79 = .ok (.putfield 18, 3) := by decide +kernel
theorem dX6_readToken_82 : decode cX6_readToken 82 = .ok (.aload_n 0, 1) := by decide +kernel
theorem dX6_readToken_83 : decode cX6_readToken 83 = .ok (.iload_n 1, 1) := by decide +kernel
theorem dX6_readToken_84 : decode cX6_readToken 84 = .ok (.bipush 59, 2) := by decide +kernel
theorem dX6_readToken_86 : decode cX6_readToken 86 = .ok (.if_icmp .ne 8, 3) := by decide +kernel
theorem dX6_readToken_89 : decode cX6_readToken 89 = .ok (.bipush 9, 2) := by decide +kernel
theorem dX6_readToken_91 : decode cX6_readToken 91 = .ok (.goto 5, 3) := by decide +kernel
theorem dX6_readToken_94 : decode cX6_readToken 94 = .ok (.bipush 10, 2) := by decide +kernel
theorem dX6_readToken_96 : decode cX6_readToken 96 = .ok (.putfield 25, 3) := by decide +kernel
theorem dX6_readToken_99 : decode cX6_readToken 99 = .ok (.return_, 1) := by decide +kernel
set_option maxRecDepth 20000 in
theorem ggX6_skipBlanks_X8_byteAt : GoodIn wsX6_skipBlanks wsX8_byteAt := goodIn_r _ [7, 8, 9, 16, 17] (by decide +kernel) (by decide +kernel)
set_option maxRecDepth 20000 in
theorem gX6_skipBlanks_X8_byteAt : GoodIn wsX6_skipBlanks (wsV RX6 94 RX8 yX8_byteAt wsX8_byteAt) := goodIn_app (goodIn_of _ (by decide +kernel)) ggX6_skipBlanks_X8_byteAt
theorem dX6_skipBlanks_0 : decode cX6_skipBlanks 0 = .ok (.aload_n 0, 1) := by decide +kernel
theorem dX6_skipBlanks_1 : decode cX6_skipBlanks 1 = .ok (.getfield 18, 3) := by decide +kernel
theorem dX6_skipBlanks_4 : decode cX6_skipBlanks 4 = .ok (.aload_n 0, 1) := by decide +kernel
theorem dX6_skipBlanks_5 : decode cX6_skipBlanks 5 = .ok (.getfield 12, 3) := by decide +kernel
theorem dX6_skipBlanks_8 : decode cX6_skipBlanks 8 = .ok (.getfield 91, 3) := by decide +kernel
theorem dX6_skipBlanks_11 : decode cX6_skipBlanks 11 = .ok (.if_icmp .ge 32, 3) := by decide +kernel
theorem dX6_skipBlanks_14 : decode cX6_skipBlanks 14 = .ok (.aload_n 0, 1) := by decide +kernel
theorem dX6_skipBlanks_15 : decode cX6_skipBlanks 15 = .ok (.getfield 12, 3) := by decide +kernel
theorem dX6_skipBlanks_18 : decode cX6_skipBlanks 18 = .ok (.aload_n 0, 1) := by decide +kernel
theorem dX6_skipBlanks_19 : decode cX6_skipBlanks 19 = .ok (.getfield 18, 3) := by decide +kernel
theorem dX6_skipBlanks_22 : decode cX6_skipBlanks 22 = .ok (.invokevirtual 94, 3) := by decide +kernel
theorem dX6_skipBlanks_25 : decode cX6_skipBlanks 25 = .ok (.bipush 32, 2) := by decide +kernel
theorem dX6_skipBlanks_27 : decode cX6_skipBlanks 27 = .ok (.if_icmp .ne 16, 3) := by decide +kernel
theorem dX6_skipBlanks_30 : decode cX6_skipBlanks 30 = .ok (.aload_n 0, 1) := by decide +kernel
theorem dX6_skipBlanks_31 : decode cX6_skipBlanks 31 = .ok (.dup, 1) := by decide +kernel
theorem dX6_skipBlanks_32 : decode cX6_skipBlanks 32 = .ok (.getfield 18, 3) := by decide +kernel
theorem dX6_skipBlanks_35 : decode cX6_skipBlanks 35 = .ok (.iconst 1, 1) := by decide +kernel
theorem dX6_skipBlanks_36 : decode cX6_skipBlanks 36 = .ok (.iadd, 1) := by decide +kernel
theorem dX6_skipBlanks_37 : decode cX6_skipBlanks 37 = .ok (.putfield 18, 3) := by decide +kernel
theorem dX6_skipBlanks_40 : decode cX6_skipBlanks 40 = .ok (.goto (-40), 3) := by decide +kernel
theorem dX6_skipBlanks_43 : decode cX6_skipBlanks 43 = .ok (.return_, 1) := by decide +kernel
set_option maxRecDepth 20000 in
theorem ggX6_readWord_X8_byteAt : GoodIn wsX6_readWord wsX8_byteAt := goodIn_r _ [9, 10, 11, 75, 76] (by decide +kernel) (by decide +kernel)
set_option maxRecDepth 20000 in
theorem gX6_readWord_X8_byteAt : GoodIn wsX6_readWord (wsV RX6 94 RX8 yX8_byteAt wsX8_byteAt) := goodIn_app (goodIn_of _ (by decide +kernel)) ggX6_readWord_X8_byteAt
set_option maxRecDepth 20000 in
theorem ggX6_readWord_X6_isLetter : GoodIn wsX6_readWord wsX6_isLetter := goodIn_r _ [15] (by decide +kernel) (by decide +kernel)
set_option maxRecDepth 20000 in
theorem gX6_readWord_X6_isLetter : GoodIn wsX6_readWord (va_wsS RX6 97 yX6_isLetter wsX6_isLetter) := goodIn_app (goodIn_of _ (by decide +kernel)) ggX6_readWord_X6_isLetter
set_option maxRecDepth 20000 in
theorem ggX6_readWord_X8_holds : GoodIn wsX6_readWord wsX8_holds := goodIn_r _ [19, 11, 20, 21, 22, 23, 24, 25, 26, 27, 28, 29, 30, 31, 32, 33, 34, 35, 36, 37, 38, 39, 40, 41, 42, 43, 44, 45, 46, 47, 48, 49, 50, 51, 52, 53, 54, 55, 56, 57, 58, 59, 60, 61, 62, 63, 64, 65, 66, 67, 68, 75, 76] (by decide +kernel) (by decide +kernel)
set_option maxRecDepth 20000 in
theorem gX6_readWord_X8_holds : GoodIn wsX6_readWord (wsV RX6 112 RX8 yX8_holds wsX8_holds) := goodIn_app (goodIn_of _ (by decide +kernel)) ggX6_readWord_X8_holds
theorem dX6_readWord_0 : decode cX6_readWord 0 = .ok (.aload_n 0, 1) := by decide +kernel
theorem dX6_readWord_1 : decode cX6_readWord 1 = .ok (.getfield 18, 3) := by decide +kernel
theorem dX6_readWord_4 : decode cX6_readWord 4 = .ok (.aload_n 0, 1) := by decide +kernel
theorem dX6_readWord_5 : decode cX6_readWord 5 = .ok (.getfield 12, 3) := by decide +kernel
theorem dX6_readWord_8 : decode cX6_readWord 8 = .ok (.getfield 91, 3) := by decide +kernel
theorem dX6_readWord_11 : decode cX6_readWord 11 = .ok (.if_icmp .ge 33, 3) := by decide +kernel
theorem dX6_readWord_14 : decode cX6_readWord 14 = .ok (.aload_n 0, 1) := by decide +kernel
theorem dX6_readWord_15 : decode cX6_readWord 15 = .ok (.getfield 12, 3) := by decide +kernel
theorem dX6_readWord_18 : decode cX6_readWord 18 = .ok (.aload_n 0, 1) := by decide +kernel
theorem dX6_readWord_19 : decode cX6_readWord 19 = .ok (.getfield 18, 3) := by decide +kernel
theorem dX6_readWord_22 : decode cX6_readWord 22 = .ok (.invokevirtual 94, 3) := by decide +kernel
theorem dX6_readWord_25 : decode cX6_readWord 25 = .ok (.invokestatic 97, 3) := by decide +kernel
theorem dX6_readWord_28 : decode cX6_readWord 28 = .ok (.ifCond .eq 16, 3) := by decide +kernel
theorem dX6_readWord_31 : decode cX6_readWord 31 = .ok (.aload_n 0, 1) := by decide +kernel
theorem dX6_readWord_32 : decode cX6_readWord 32 = .ok (.dup, 1) := by decide +kernel
theorem dX6_readWord_33 : decode cX6_readWord 33 = .ok (.getfield 18, 3) := by decide +kernel
theorem dX6_readWord_36 : decode cX6_readWord 36 = .ok (.iconst 1, 1) := by decide +kernel
theorem dX6_readWord_37 : decode cX6_readWord 37 = .ok (.iadd, 1) := by decide +kernel
theorem dX6_readWord_38 : decode cX6_readWord 38 = .ok (.putfield 18, 3) := by decide +kernel
theorem dX6_readWord_41 : decode cX6_readWord 41 = .ok (.goto (-41), 3) := by decide +kernel
theorem dX6_readWord_44 : decode cX6_readWord 44 = .ok (.aload_n 0, 1) := by decide +kernel
theorem dX6_readWord_45 : decode cX6_readWord 45 = .ok (.getfield 12, 3) := by decide +kernel
theorem dX6_readWord_48 : decode cX6_readWord 48 = .ok (.ldc 110, 2) := by decide +kernel
theorem dX6_readWord_50 : decode cX6_readWord 50 = .ok (.aload_n 0, 1) := by decide +kernel
theorem dX6_readWord_51 : decode cX6_readWord 51 = .ok (.getfield 22, 3) := by decide +kernel
theorem dX6_readWord_54 : decode cX6_readWord 54 = .ok (.aload_n 0, 1) := by decide +kernel
theorem dX6_readWord_55 : decode cX6_readWord 55 = .ok (.getfield 18, 3) := by decide +kernel
theorem dX6_readWord_58 : decode cX6_readWord 58 = .ok (.invokevirtual 112, 3) := by decide +kernel
theorem dX6_readWord_61 : decode cX6_readWord 61 = .ok (.ifCond .eq 11, 3) := by decide +kernel
theorem dX6_readWord_64 : decode cX6_readWord 64 = .ok (.aload_n 0, 1) := by decide +kernel
theorem dX6_readWord_65 : decode cX6_readWord 65 = .ok (.iconst 1, 1) := by decide +kernel
theorem dX6_readWord_66 : decode cX6_readWord 66 = .ok (.putfield 25, 3) := by decide +kernel
theorem dX6_readWord_69 : decode cX6_readWord 69 = .ok (.goto 179, 3) := by decide +kernel
theorem dX6_readWord_72 : decode cX6_readWord 72 = .ok (.aload_n 0, 1) := by decide +kernel
theorem dX6_readWord_73 : decode cX6_readWord 73 = .ok (.getfield 12, 3) := by decide +kernel
theorem dX6_readWord_76 : decode cX6_readWord 76 = .ok (.ldc 116, 2) := by decide +kernel
theorem dX6_readWord_78 : decode cX6_readWord 78 = .ok (.aload_n 0, 1) := by decide +kernel
theorem dX6_readWord_79 : decode cX6_readWord 79 = .ok (.getfield 22, 3) := by decide +kernel
theorem dX6_readWord_82 : decode cX6_readWord 82 = .ok (.aload_n 0, 1) := by decide +kernel
theorem dX6_readWord_83 : decode cX6_readWord 83 = .ok (.getfield 18, 3) := by decide +kernel
theorem dX6_readWord_86 : decode cX6_readWord 86 = .ok (.invokevirtual 112, 3) := by decide +kernel
theorem dX6_readWord_89 : decode cX6_readWord 89 = .ok (.ifCond .eq 11, 3) := by decide +kernel
theorem dX6_readWord_92 : decode cX6_readWord 92 = .ok (.aload_n 0, 1) := by decide +kernel
theorem dX6_readWord_93 : decode cX6_readWord 93 = .ok (.iconst 2, 1) := by decide +kernel
theorem dX6_readWord_94 : decode cX6_readWord 94 = .ok (.putfield 25, 3) := by decide +kernel
theorem dX6_readWord_97 : decode cX6_readWord 97 = .ok (.goto 151, 3) := by decide +kernel
theorem dX6_readWord_100 : decode cX6_readWord 100 = .ok (.aload_n 0, 1) := by decide +kernel
theorem dX6_readWord_101 : decode cX6_readWord 101 = .ok (.getfield 12, 3) := by decide +kernel
theorem dX6_readWord_104 : decode cX6_readWord 104 = .ok (.ldc 118, 2) := by decide +kernel
theorem dX6_readWord_106 : decode cX6_readWord 106 = .ok (.aload_n 0, 1) := by decide +kernel
theorem dX6_readWord_107 : decode cX6_readWord 107 = .ok (.getfield 22, 3) := by decide +kernel
theorem dX6_readWord_110 : decode cX6_readWord 110 = .ok (.aload_n 0, 1) := by decide +kernel
theorem dX6_readWord_111 : decode cX6_readWord 111 = .ok (.getfield 18, 3) := by decide +kernel
theorem dX6_readWord_114 : decode cX6_readWord 114 = .ok (.invokevirtual 112, 3) := by decide +kernel
theorem dX6_readWord_117 : decode cX6_readWord 117 = .ok (.ifCond .eq 11, 3) := by decide +kernel
theorem dX6_readWord_120 : decode cX6_readWord 120 = .ok (.aload_n 0, 1) := by decide +kernel
theorem dX6_readWord_121 : decode cX6_readWord 121 = .ok (.iconst 3, 1) := by decide +kernel
theorem dX6_readWord_122 : decode cX6_readWord 122 = .ok (.putfield 25, 3) := by decide +kernel
theorem dX6_readWord_125 : decode cX6_readWord 125 = .ok (.goto 123, 3) := by decide +kernel
theorem dX6_readWord_128 : decode cX6_readWord 128 = .ok (.aload_n 0, 1) := by decide +kernel
theorem dX6_readWord_129 : decode cX6_readWord 129 = .ok (.getfield 12, 3) := by decide +kernel
theorem dX6_readWord_132 : decode cX6_readWord 132 = .ok (.ldc 120, 2) := by decide +kernel
theorem dX6_readWord_134 : decode cX6_readWord 134 = .ok (.aload_n 0, 1) := by decide +kernel
theorem dX6_readWord_135 : decode cX6_readWord 135 = .ok (.getfield 22, 3) := by decide +kernel
theorem dX6_readWord_138 : decode cX6_readWord 138 = .ok (.aload_n 0, 1) := by decide +kernel
theorem dX6_readWord_139 : decode cX6_readWord 139 = .ok (.getfield 18, 3) := by decide +kernel
theorem dX6_readWord_142 : decode cX6_readWord 142 = .ok (.invokevirtual 112, 3) := by decide +kernel
theorem dX6_readWord_145 : decode cX6_readWord 145 = .ok (.ifCond .eq 11, 3) := by decide +kernel
theorem dX6_readWord_148 : decode cX6_readWord 148 = .ok (.aload_n 0, 1) := by decide +kernel
theorem dX6_readWord_149 : decode cX6_readWord 149 = .ok (.iconst 4, 1) := by decide +kernel
theorem dX6_readWord_150 : decode cX6_readWord 150 = .ok (.putfield 25, 3) := by decide +kernel
theorem dX6_readWord_153 : decode cX6_readWord 153 = .ok (.goto 95, 3) := by decide +kernel
theorem dX6_readWord_156 : decode cX6_readWord 156 = .ok (.aload_n 0, 1) := by decide +kernel
theorem dX6_readWord_157 : decode cX6_readWord 157 = .ok (.getfield 12, 3) := by decide +kernel
theorem dX6_readWord_160 : decode cX6_readWord 160 = .ok (.ldc 122, 2) := by decide +kernel
theorem dX6_readWord_162 : decode cX6_readWord 162 = .ok (.aload_n 0, 1) := by decide +kernel
theorem dX6_readWord_163 : decode cX6_readWord 163 = .ok (.getfield 22, 3) := by decide +kernel
theorem dX6_readWord_166 : decode cX6_readWord 166 = .ok (.aload_n 0, 1) := by decide +kernel
theorem dX6_readWord_167 : decode cX6_readWord 167 = .ok (.getfield 18, 3) := by decide +kernel
theorem dX6_readWord_170 : decode cX6_readWord 170 = .ok (.invokevirtual 112, 3) := by decide +kernel
theorem dX6_readWord_173 : decode cX6_readWord 173 = .ok (.ifCond .eq 11, 3) := by decide +kernel
theorem dX6_readWord_176 : decode cX6_readWord 176 = .ok (.aload_n 0, 1) := by decide +kernel
theorem dX6_readWord_177 : decode cX6_readWord 177 = .ok (.iconst 5, 1) := by decide +kernel
theorem dX6_readWord_178 : decode cX6_readWord 178 = .ok (.putfield 25, 3) := by decide +kernel
theorem dX6_readWord_181 : decode cX6_readWord 181 = .ok (.goto 67, 3) := by decide +kernel
theorem dX6_readWord_184 : decode cX6_readWord 184 = .ok (.aload_n 0, 1) := by decide +kernel
theorem dX6_readWord_185 : decode cX6_readWord 185 = .ok (.getfield 12, 3) := by decide +kernel
theorem dX6_readWord_188 : decode cX6_readWord 188 = .ok (.ldc 123, 2) := by decide +kernel
theorem dX6_readWord_190 : decode cX6_readWord 190 = .ok (.aload_n 0, 1) := by decide +kernel
theorem dX6_readWord_191 : decode cX6_readWord 191 = .ok (.getfield 22, 3) := by decide +kernel
theorem dX6_readWord_194 : decode cX6_readWord 194 = .ok (.aload_n 0, 1) := by decide +kernel
theorem dX6_readWord_195 : decode cX6_readWord 195 = .ok (.getfield 18, 3) := by decide +kernel
theorem dX6_readWord_198 : decode cX6_readWord 198 = .ok (.invokevirtual 112, 3) := by decide +kernel
theorem dX6_readWord_201 : decode cX6_readWord 201 = .ok (.ifCond .eq 12, 3) := by decide +kernel
theorem dX6_readWord_204 : decode cX6_readWord 204 = .ok (.aload_n 0, 1) := by decide +kernel
theorem dX6_readWord_205 : decode cX6_readWord 205 = .ok (.bipush 6, 2) := by decide +kernel
theorem dX6_readWord_207 : decode cX6_readWord 207 = .ok (.putfield 25, 3) := by decide +kernel
theorem dX6_readWord_210 : decode cX6_readWord 210 = .ok (.goto 38, 3) := by decide +kernel
theorem dX6_readWord_213 : decode cX6_readWord 213 = .ok (.aload_n 0, 1) := by decide +kernel
theorem dX6_readWord_214 : decode cX6_readWord 214 = .ok (.getfield 12, 3) := by decide +kernel
theorem dX6_readWord_217 : decode cX6_readWord 217 = .ok (.ldc 124, 2) := by decide +kernel
theorem dX6_readWord_219 : decode cX6_readWord 219 = .ok (.aload_n 0, 1) := by decide +kernel
theorem dX6_readWord_220 : decode cX6_readWord 220 = .ok (.getfield 22, 3) := by decide +kernel
theorem dX6_readWord_223 : decode cX6_readWord 223 = .ok (.aload_n 0, 1) := by decide +kernel
theorem dX6_readWord_224 : decode cX6_readWord 224 = .ok (.getfield 18, 3) := by decide +kernel
theorem dX6_readWord_227 : decode cX6_readWord 227 = .ok (.invokevirtual 112, 3) := by decide +kernel
theorem dX6_readWord_230 : decode cX6_readWord 230 = .ok (.ifCond .eq 12, 3) := by decide +kernel
theorem dX6_readWord_233 : decode cX6_readWord 233 = .ok (.aload_n 0, 1) := by decide +kernel
theorem dX6_readWord_234 : decode cX6_readWord 234 = .ok (.bipush 7, 2) := by decide +kernel
theorem dX6_readWord_236 : decode cX6_readWord 236 = .ok (.putfield 25, 3) := by decide +kernel
theorem dX6_readWord_239 : decode cX6_readWord 239 = .ok (.goto 9, 3) := by decide +kernel
theorem dX6_readWord_242 : decode cX6_readWord 242 = .ok (.aload_n 0, 1) := by decide +kernel
theorem dX6_readWord_243 : decode cX6_readWord 243 = .ok (.bipush 10, 2) := by decide +kernel
theorem dX6_readWord_245 : decode cX6_readWord 245 = .ok (.putfield 25, 3) := by decide +kernel
theorem dX6_readWord_248 : decode cX6_readWord 248 = .ok (.return_, 1) := by decide +kernel
set_option maxRecDepth 20000 in
theorem ggX6_readDigits_X8_byteAt : GoodIn wsX6_readDigits wsX8_byteAt := goodIn_r _ [14, 15, 16, 27, 28] (by decide +kernel) (by decide +kernel)
set_option maxRecDepth 20000 in
theorem gX6_readDigits_X8_byteAt : GoodIn wsX6_readDigits (wsV RX6 94 RX8 yX8_byteAt wsX8_byteAt) := goodIn_app (goodIn_of _ (by decide +kernel)) ggX6_readDigits_X8_byteAt
set_option maxRecDepth 20000 in
theorem ggX6_readDigits_X6_isDigit : GoodIn wsX6_readDigits wsX6_isDigit := goodIn_r _ [20] (by decide +kernel) (by decide +kernel)
set_option maxRecDepth 20000 in
theorem gX6_readDigits_X6_isDigit : GoodIn wsX6_readDigits (va_wsS RX6 104 yX6_isDigit wsX6_isDigit) := goodIn_app (goodIn_of _ (by decide +kernel)) ggX6_readDigits_X6_isDigit
theorem dX6_readDigits_0 : decode cX6_readDigits 0 = .ok (.aload_n 0, 1) := by decide +kernel
theorem dX6_readDigits_1 : decode cX6_readDigits 1 = .ok (.iconst 0, 1) := by decide +kernel
theorem dX6_readDigits_2 : decode cX6_readDigits 2 = .ok (.putfield 28, 3) := by decide +kernel
theorem dX6_readDigits_5 : decode cX6_readDigits 5 = .ok (.aload_n 0, 1) := by decide +kernel
theorem dX6_readDigits_6 : decode cX6_readDigits 6 = .ok (.getfield 18, 3) := by decide +kernel
theorem dX6_readDigits_9 : decode cX6_readDigits 9 = .ok (.aload_n 0, 1) := by decide +kernel
theorem dX6_readDigits_10 : decode cX6_readDigits 10 = .ok (.getfield 12, 3) := by decide +kernel
theorem dX6_readDigits_13 : decode cX6_readDigits 13 = .ok (.getfield 91, 3) := by decide +kernel
theorem dX6_readDigits_16 : decode cX6_readDigits 16 = .ok (.if_icmp .ge 64, 3) := by decide +kernel
theorem dX6_readDigits_19 : decode cX6_readDigits 19 = .ok (.aload_n 0, 1) := by decide +kernel
theorem dX6_readDigits_20 : decode cX6_readDigits 20 = .ok (.getfield 12, 3) := by decide +kernel
theorem dX6_readDigits_23 : decode cX6_readDigits 23 = .ok (.aload_n 0, 1) := by decide +kernel
theorem dX6_readDigits_24 : decode cX6_readDigits 24 = .ok (.getfield 18, 3) := by decide +kernel
theorem dX6_readDigits_27 : decode cX6_readDigits 27 = .ok (.invokevirtual 94, 3) := by decide +kernel
theorem dX6_readDigits_30 : decode cX6_readDigits 30 = .ok (.invokestatic 104, 3) := by decide +kernel
theorem dX6_readDigits_33 : decode cX6_readDigits 33 = .ok (.ifCond .eq 47, 3) := by decide +kernel
theorem dX6_readDigits_36 : decode cX6_readDigits 36 = .ok (.aload_n 0, 1) := by decide +kernel
theorem dX6_readDigits_37 : decode cX6_readDigits 37 = .ok (.bipush 100, 2) := by decide +kernel
theorem dX6_readDigits_39 : decode cX6_readDigits 39 = .ok (.aload_n 0, 1) := by decide +kernel
theorem dX6_readDigits_40 : decode cX6_readDigits 40 = .ok (.getfield 28, 3) := by decide +kernel
theorem dX6_readDigits_43 : decode cX6_readDigits 43 = .ok (.bipush 10, 2) := by decide +kernel
theorem dX6_readDigits_45 : decode cX6_readDigits 45 = .ok (.imul, 1) := by decide +kernel
theorem dX6_readDigits_46 : decode cX6_readDigits 46 = .ok (.aload_n 0, 1) := by decide +kernel
theorem dX6_readDigits_47 : decode cX6_readDigits 47 = .ok (.getfield 12, 3) := by decide +kernel
theorem dX6_readDigits_50 : decode cX6_readDigits 50 = .ok (.aload_n 0, 1) := by decide +kernel
theorem dX6_readDigits_51 : decode cX6_readDigits 51 = .ok (.getfield 18, 3) := by decide +kernel
theorem dX6_readDigits_54 : decode cX6_readDigits 54 = .ok (.invokevirtual 94, 3) := by decide +kernel
theorem dX6_readDigits_57 : decode cX6_readDigits 57 = .ok (.iadd, 1) := by decide +kernel
theorem dX6_readDigits_58 : decode cX6_readDigits 58 = .ok (.bipush 48, 2) := by decide +kernel
theorem dX6_readDigits_60 : decode cX6_readDigits 60 = .ok (.isub, 1) := by decide +kernel
theorem dX6_readDigits_61 : decode cX6_readDigits 61 = .ok (.invokestatic 125, 3) := by decide +kernel
theorem dX6_readDigits_64 : decode cX6_readDigits 64 = .ok (.putfield 28, 3) := by decide +kernel
theorem dX6_readDigits_67 : decode cX6_readDigits 67 = .ok (.aload_n 0, 1) := by decide +kernel
theorem dX6_readDigits_68 : decode cX6_readDigits 68 = .ok (.dup, 1) := by decide +kernel
theorem dX6_readDigits_69 : decode cX6_readDigits 69 = .ok (.getfield 18, 3) := by decide +kernel
theorem dX6_readDigits_72 : decode cX6_readDigits 72 = .ok (.iconst 1, 1) := by decide +kernel
theorem dX6_readDigits_73 : decode cX6_readDigits 73 = .ok (.iadd, 1) := by decide +kernel
theorem dX6_readDigits_74 : decode cX6_readDigits 74 = .ok (.putfield 18, 3) := by decide +kernel
theorem dX6_readDigits_77 : decode cX6_readDigits 77 = .ok (.goto (-72), 3) := by decide +kernel
theorem dX6_readDigits_80 : decode cX6_readDigits 80 = .ok (.aload_n 0, 1) := by decide +kernel
theorem dX6_readDigits_81 : decode cX6_readDigits 81 = .ok (.getfield 12, 3) := by decide +kernel
theorem dX6_readDigits_84 : decode cX6_readDigits 84 = .ok (.aload_n 0, 1) := by decide +kernel
theorem dX6_readDigits_85 : decode cX6_readDigits 85 = .ok (.getfield 22, 3) := by decide +kernel
theorem dX6_readDigits_88 : decode cX6_readDigits 88 = .ok (.invokevirtual 94, 3) := by decide +kernel
theorem dX6_readDigits_91 : decode cX6_readDigits 91 = .ok (.bipush 48, 2) := by decide +kernel
theorem dX6_readDigits_93 : decode cX6_readDigits 93 = .ok (.if_icmp .ne 20, 3) := by decide +kernel
theorem dX6_readDigits_96 : decode cX6_readDigits 96 = .ok (.aload_n 0, 1) := by decide +kernel
theorem dX6_readDigits_97 : decode cX6_readDigits 97 = .ok (.getfield 18, 3) := by decide +kernel
theorem dX6_readDigits_100 : decode cX6_readDigits 100 = .ok (.aload_n 0, 1) := by decide +kernel
theorem dX6_readDigits_101 : decode cX6_readDigits 101 = .ok (.getfield 22, 3) := by decide +kernel
theorem dX6_readDigits_104 : decode cX6_readDigits 104 = .ok (.isub, 1) := by decide +kernel
theorem dX6_readDigits_105 : decode cX6_readDigits 105 = .ok (.iconst 1, 1) := by decide +kernel
theorem dX6_readDigits_106 : decode cX6_readDigits 106 = .ok (.if_icmp .le 7, 3) := by decide +kernel
theorem dX6_readDigits_109 : decode cX6_readDigits 109 = .ok (.iconst 1, 1) := by decide +kernel
theorem dX6_readDigits_110 : decode cX6_readDigits 110 = .ok (.goto 4, 3) := by decide +kernel
theorem dX6_readDigits_113 : decode cX6_readDigits 113 = .ok (.iconst 0, 1) := by decide +kernel
theorem dX6_readDigits_114 : decode cX6_readDigits 114 = .ok (.istore_n 1, 1) := by decide +kernel
theorem dX6_readDigits_115 : decode cX6_readDigits 115 = .ok (.aload_n 0, 1) := by decide +kernel
theorem dX6_readDigits_116 : decode cX6_readDigits 116 = .ok (.iload_n 1, 1) := by decide +kernel
theorem dX6_readDigits_117 : decode cX6_readDigits 117 = .ok (.ifCond .ne 12, 3) := by decide +kernel
theorem dX6_readDigits_120 : decode cX6_readDigits 120 = .ok (.aload_n 0, 1) := by decide +kernel
theorem dX6_readDigits_121 : decode cX6_readDigits 121 = .ok (.getfield 28, 3) := by decide +kernel
theorem dX6_readDigits_124 : decode cX6_readDigits 124 = .ok (.bipush 99, 2) := by decide +kernel
theorem dX6_readDigits_126 : decode cX6_readDigits 126 = .ok (.if_icmp .le 8, 3) := by decide +kernel
theorem dX6_readDigits_129 : decode cX6_readDigits 129 = .ok (.bipush 10, 2) := by decide +kernel
theorem dX6_readDigits_131 : decode cX6_readDigits 131 = .ok (.goto 5, 3) := by decide +kernel
theorem dX6_readDigits_134 : decode cX6_readDigits 134 = .ok (.bipush 8, 2) := by decide +kernel
theorem dX6_readDigits_136 : decode cX6_readDigits 136 = .ok (.putfield 25, 3) := by decide +kernel
theorem dX6_readDigits_139 : decode cX6_readDigits 139 = .ok (.return_, 1) := by decide +kernel
theorem dX6_isLetter_0 : decode cX6_isLetter 0 = .ok (.iload_n 0, 1) := by decide +kernel
theorem dX6_isLetter_1 : decode cX6_isLetter 1 = .ok (.bipush 97, 2) := by decide +kernel
theorem dX6_isLetter_3 : decode cX6_isLetter 3 = .ok (.if_icmp .lt 13, 3) := by decide +kernel
theorem dX6_isLetter_6 : decode cX6_isLetter 6 = .ok (.iload_n 0, 1) := by decide +kernel
theorem dX6_isLetter_7 : decode cX6_isLetter 7 = .ok (.bipush 122, 2) := by decide +kernel
theorem dX6_isLetter_9 : decode cX6_isLetter 9 = .ok (.if_icmp .gt 7, 3) := by decide +kernel
theorem dX6_isLetter_12 : decode cX6_isLetter 12 = .ok (.iconst 1, 1) := by decide +kernel
theorem dX6_isLetter_13 : decode cX6_isLetter 13 = .ok (.goto 4, 3) := by decide +kernel
theorem dX6_isLetter_16 : decode cX6_isLetter 16 = .ok (.iconst 0, 1) := by decide +kernel
theorem dX6_isLetter_17 : decode cX6_isLetter 17 = .ok (.ireturn, 1) := by decide +kernel
theorem dX6_isDigit_0 : decode cX6_isDigit 0 = .ok (.iload_n 0, 1) := by decide +kernel
theorem dX6_isDigit_1 : decode cX6_isDigit 1 = .ok (.bipush 48, 2) := by decide +kernel
theorem dX6_isDigit_3 : decode cX6_isDigit 3 = .ok (.if_icmp .lt 13, 3) := by decide +kernel
theorem dX6_isDigit_6 : decode cX6_isDigit 6 = .ok (.iload_n 0, 1) := by decide +kernel
theorem dX6_isDigit_7 : decode cX6_isDigit 7 = .ok (.bipush 57, 2) := by decide +kernel
theorem dX6_isDigit_9 : decode cX6_isDigit 9 = .ok (.if_icmp .gt 7, 3) := by decide +kernel
theorem dX6_isDigit_12 : decode cX6_isDigit 12 = .ok (.iconst 1, 1) := by decide +kernel
theorem dX6_isDigit_13 : decode cX6_isDigit 13 = .ok (.goto 4, 3) := by decide +kernel
theorem dX6_isDigit_16 : decode cX6_isDigit 16 = .ok (.iconst 0, 1) := by decide +kernel
theorem dX6_isDigit_17 : decode cX6_isDigit 17 = .ok (.ireturn, 1) := by decide +kernel
theorem dX7_init_0 : decode cX7_init 0 = .ok (.aload_n 0, 1) := by decide +kernel
theorem dX7_init_1 : decode cX7_init 1 = .ok (.invokespecial 3, 3) := by decide +kernel
theorem dX7_init_4 : decode cX7_init 4 = .ok (.aload_n 0, 1) := by decide +kernel
theorem dX7_init_5 : decode cX7_init 5 = .ok (.iconst 3, 1) := by decide +kernel
theorem dX7_init_6 : decode cX7_init 6 = .ok (.newarray .int, 2) := by decide +kernel
theorem dX7_init_8 : decode cX7_init 8 = .ok (.putfield 9, 3) := by decide +kernel
theorem dX7_init_11 : decode cX7_init 11 = .ok (.aload_n 0, 1) := by decide +kernel
theorem dX7_init_12 : decode cX7_init 12 = .ok (.iconst 3, 1) := by decide +kernel
theorem dX7_init_13 : decode cX7_init 13 = .ok (.newarray .int, 2) := by decide +kernel
theorem dX7_init_15 : decode cX7_init 15 = .ok (.putfield 15, 3) := by decide +kernel
theorem dX7_init_18 : decode cX7_init 18 = .ok (.aload_n 0, 1) := by decide +kernel
theorem dX7_init_19 : decode cX7_init 19 = .ok (.iconst 3, 1) := by decide +kernel
theorem dX7_init_20 : decode cX7_init 20 = .ok (.newarray .int, 2) := by decide +kernel
theorem dX7_init_22 : decode cX7_init 22 = .ok (.putfield 18, 3) := by decide +kernel
theorem dX7_init_25 : decode cX7_init 25 = .ok (.aload_n 0, 1) := by decide +kernel
theorem dX7_init_26 : decode cX7_init 26 = .ok (.iconst 1, 1) := by decide +kernel
theorem dX7_init_27 : decode cX7_init 27 = .ok (.putfield 21, 3) := by decide +kernel
theorem dX7_init_30 : decode cX7_init 30 = .ok (.return_, 1) := by decide +kernel
set_option maxRecDepth 20000 in
theorem ggX7_begin_X7_put : GoodIn wsX7_begin wsX7_put := goodIn_r _ [5, 6, 7, 8, 9, 10, 11, 12] (by decide +kernel) (by decide +kernel)
set_option maxRecDepth 20000 in
theorem gX7_begin_X7_put : GoodIn wsX7_begin (wsV RX7 25 RX7 yX7_put wsX7_put) := goodIn_app (goodIn_of _ (by decide +kernel)) ggX7_begin_X7_put
theorem dX7_begin_0 : decode cX7_begin 0 = .ok (.iconst 0, 1) := by decide +kernel
theorem dX7_begin_1 : decode cX7_begin 1 = .ok (.istore_n 1, 1) := by decide +kernel
theorem dX7_begin_2 : decode cX7_begin 2 = .ok (.iload_n 1, 1) := by decide +kernel
theorem dX7_begin_3 : decode cX7_begin 3 = .ok (.iconst 3, 1) := by decide +kernel
theorem dX7_begin_4 : decode cX7_begin 4 = .ok (.if_icmp .ge 17, 3) := by decide +kernel
theorem dX7_begin_7 : decode cX7_begin 7 = .ok (.aload_n 0, 1) := by decide +kernel
theorem dX7_begin_8 : decode cX7_begin 8 = .ok (.iload_n 1, 1) := by decide +kernel
theorem dX7_begin_9 : decode cX7_begin 9 = .ok (.iconst 0, 1) := by decide +kernel
theorem dX7_begin_10 : decode cX7_begin 10 = .ok (.iconst 0, 1) := by decide +kernel
theorem dX7_begin_11 : decode cX7_begin 11 = .ok (.iconst 0, 1) := by decide +kernel
theorem dX7_begin_12 : decode cX7_begin 12 = .ok (.invokevirtual 25, 3) := by decide +kernel
theorem dX7_begin_15 : decode cX7_begin 15 = .ok (.iinc 1 1, 3) := by decide +kernel
theorem dX7_begin_18 : decode cX7_begin 18 = .ok (.goto (-16), 3) := by decide +kernel
theorem dX7_begin_21 : decode cX7_begin 21 = .ok (.return_, 1) := by decide +kernel
set_option maxRecDepth 20000 in
theorem ggX7_copyFrom_X7_yardOf : GoodIn wsX7_copyFrom wsX7_yardOf := goodIn_r _ [6, 7, 22, 23, 24, 25] (by decide +kernel) (by decide +kernel)
set_option maxRecDepth 20000 in
theorem gX7_copyFrom_X7_yardOf : GoodIn wsX7_copyFrom (wsV RX7 29 RX7 yX7_yardOf wsX7_yardOf) := goodIn_app (goodIn_of _ (by decide +kernel)) ggX7_copyFrom_X7_yardOf
set_option maxRecDepth 20000 in
theorem ggX7_copyFrom_X7_beatsOf : GoodIn wsX7_copyFrom wsX7_beatsOf := goodIn_r _ [11, 12, 22, 23, 24, 25] (by decide +kernel) (by decide +kernel)
set_option maxRecDepth 20000 in
theorem gX7_copyFrom_X7_beatsOf : GoodIn wsX7_copyFrom (wsV RX7 33 RX7 yX7_beatsOf wsX7_beatsOf) := goodIn_app (goodIn_of _ (by decide +kernel)) ggX7_copyFrom_X7_beatsOf
set_option maxRecDepth 20000 in
theorem ggX7_copyFrom_X7_goodOf : GoodIn wsX7_copyFrom wsX7_goodOf := goodIn_r _ [16, 17, 22, 23, 24, 25] (by decide +kernel) (by decide +kernel)
set_option maxRecDepth 20000 in
theorem gX7_copyFrom_X7_goodOf : GoodIn wsX7_copyFrom (wsV RX7 36 RX7 yX7_goodOf wsX7_goodOf) := goodIn_app (goodIn_of _ (by decide +kernel)) ggX7_copyFrom_X7_goodOf
set_option maxRecDepth 20000 in
theorem ggX7_copyFrom_X7_put : GoodIn wsX7_copyFrom wsX7_put := goodIn_r _ [21, 7, 12, 17, 22, 23, 24, 25] (by decide +kernel) (by decide +kernel)
set_option maxRecDepth 20000 in
theorem gX7_copyFrom_X7_put : GoodIn wsX7_copyFrom (wsV RX7 25 RX7 yX7_put wsX7_put) := goodIn_app (goodIn_of _ (by decide +kernel)) ggX7_copyFrom_X7_put
theorem dX7_copyFrom_0 : decode cX7_copyFrom 0 = .ok (.iconst 0, 1) := by decide +kernel
theorem dX7_copyFrom_1 : decode cX7_copyFrom 1 = .ok (.istore_n 2, 1) := by decide +kernel
theorem dX7_copyFrom_2 : decode cX7_copyFrom 2 = .ok (.iload_n 2, 1) := by decide +kernel
theorem dX7_copyFrom_3 : decode cX7_copyFrom 3 = .ok (.iconst 3, 1) := by decide +kernel
theorem dX7_copyFrom_4 : decode cX7_copyFrom 4 = .ok (.if_icmp .ge 29, 3) := by decide +kernel
theorem dX7_copyFrom_7 : decode cX7_copyFrom 7 = .ok (.aload_n 0, 1) := by decide +kernel
theorem dX7_copyFrom_8 : decode cX7_copyFrom 8 = .ok (.iload_n 2, 1) := by decide +kernel
theorem dX7_copyFrom_9 : decode cX7_copyFrom 9 = .ok (.aload_n 1, 1) := by decide +kernel
theorem dX7_copyFrom_10 : decode cX7_copyFrom 10 = .ok (.iload_n 2, 1) := by decide +kernel
theorem dX7_copyFrom_11 : decode cX7_copyFrom 11 = .ok (.invokevirtual 29, 3) := by decide +kernel
theorem dX7_copyFrom_14 : decode cX7_copyFrom 14 = .ok (.aload_n 1, 1) := by decide +kernel
theorem dX7_copyFrom_15 : decode cX7_copyFrom 15 = .ok (.iload_n 2, 1) := by decide +kernel
theorem dX7_copyFrom_16 : decode cX7_copyFrom 16 = .ok (.invokevirtual 33, 3) := by decide +kernel
theorem dX7_copyFrom_19 : decode cX7_copyFrom 19 = .ok (.aload_n 1, 1) := by decide +kernel
theorem dX7_copyFrom_20 : decode cX7_copyFrom 20 = .ok (.iload_n 2, 1) := by decide +kernel
theorem dX7_copyFrom_21 : decode cX7_copyFrom 21 = .ok (.invokevirtual 36, 3) := by decide +kernel
theorem dX7_copyFrom_24 : decode cX7_copyFrom 24 = .ok (.invokevirtual 25, 3) := by decide +kernel
theorem dX7_copyFrom_27 : decode cX7_copyFrom 27 = .ok (.iinc 2 1, 3) := by decide +kernel
theorem dX7_copyFrom_30 : decode cX7_copyFrom 30 = .ok (.goto (-28), 3) := by decide +kernel
theorem dX7_copyFrom_33 : decode cX7_copyFrom 33 = .ok (.aload_n 0, 1) := by decide +kernel
theorem dX7_copyFrom_34 : decode cX7_copyFrom 34 = .ok (.aload_n 1, 1) := by decide +kernel
theorem dX7_copyFrom_35 : decode cX7_copyFrom 35 = .ok (.getfield 21, 3) := by decide +kernel
theorem dX7_copyFrom_38 : decode cX7_copyFrom 38 = .ok (.putfield 21, 3) := by decide +kernel
theorem dX7_copyFrom_41 : decode cX7_copyFrom 41 = .ok (.return_, 1) := by decide +kernel
theorem dX7_put_0 : decode cX7_put 0 = .ok (.iload_n 1, 1) := by decide +kernel
theorem dX7_put_1 : decode cX7_put 1 = .ok (.ifCond .lt 52, 3) := by decide +kernel
theorem dX7_put_4 : decode cX7_put 4 = .ok (.iload_n 1, 1) := by decide +kernel
theorem dX7_put_5 : decode cX7_put 5 = .ok (.aload_n 0, 1) := by decide +kernel
theorem dX7_put_6 : decode cX7_put 6 = .ok (.getfield 9, 3) := by decide +kernel
theorem dX7_put_9 : decode cX7_put 9 = .ok (.arraylength, 1) := by decide +kernel
theorem dX7_put_10 : decode cX7_put 10 = .ok (.if_icmp .ge 43, 3) := by decide +kernel
theorem dX7_put_13 : decode cX7_put 13 = .ok (.iload_n 1, 1) := by decide +kernel
theorem dX7_put_14 : decode cX7_put 14 = .ok (.aload_n 0, 1) := by decide +kernel
theorem dX7_put_15 : decode cX7_put 15 = .ok (.getfield 15, 3) := by decide +kernel
theorem dX7_put_18 : decode cX7_put 18 = .ok (.arraylength, 1) := by decide +kernel
theorem dX7_put_19 : decode cX7_put 19 = .ok (.if_icmp .ge 34, 3) := by decide +kernel
theorem dX7_put_22 : decode cX7_put 22 = .ok (.iload_n 1, 1) := by decide +kernel
theorem dX7_put_23 : decode cX7_put 23 = .ok (.aload_n 0, 1) := by decide +kernel
theorem dX7_put_24 : decode cX7_put 24 = .ok (.getfield 18, 3) := by decide +kernel
theorem dX7_put_27 : decode cX7_put 27 = .ok (.arraylength, 1) := by decide +kernel
theorem dX7_put_28 : decode cX7_put 28 = .ok (.if_icmp .ge 25, 3) := by decide +kernel
theorem dX7_put_31 : decode cX7_put 31 = .ok (.aload_n 0, 1) := by decide +kernel
theorem dX7_put_32 : decode cX7_put 32 = .ok (.getfield 9, 3) := by decide +kernel
theorem dX7_put_35 : decode cX7_put 35 = .ok (.iload_n 1, 1) := by decide +kernel
theorem dX7_put_36 : decode cX7_put 36 = .ok (.iload_n 2, 1) := by decide +kernel
theorem dX7_put_37 : decode cX7_put 37 = .ok (.iastore, 1) := by decide +kernel
theorem dX7_put_38 : decode cX7_put 38 = .ok (.aload_n 0, 1) := by decide +kernel
theorem dX7_put_39 : decode cX7_put 39 = .ok (.getfield 15, 3) := by decide +kernel
theorem dX7_put_42 : decode cX7_put 42 = .ok (.iload_n 1, 1) := by decide +kernel
theorem dX7_put_43 : decode cX7_put 43 = .ok (.iload_n 3, 1) := by decide +kernel
theorem dX7_put_44 : decode cX7_put 44 = .ok (.iastore, 1) := by decide +kernel
theorem dX7_put_45 : decode cX7_put 45 = .ok (.aload_n 0, 1) := by decide +kernel
theorem dX7_put_46 : decode cX7_put 46 = .ok (.getfield 18, 3) := by decide +kernel
theorem dX7_put_49 : decode cX7_put 49 = .ok (.iload_n 1, 1) := by decide +kernel
theorem dX7_put_50 : decode cX7_put 50 = .ok (.iload 4, 2) := by decide +kernel
theorem dX7_put_52 : decode cX7_put 52 = .ok (.iastore, 1) := by decide +kernel
theorem dX7_put_53 : decode cX7_put 53 = .ok (.return_, 1) := by decide +kernel
theorem dX7_yardOf_0 : decode cX7_yardOf 0 = .ok (.iload_n 1, 1) := by decide +kernel
theorem dX7_yardOf_1 : decode cX7_yardOf 1 = .ok (.ifCond .lt 21, 3) := by decide +kernel
theorem dX7_yardOf_4 : decode cX7_yardOf 4 = .ok (.iload_n 1, 1) := by decide +kernel
theorem dX7_yardOf_5 : decode cX7_yardOf 5 = .ok (.aload_n 0, 1) := by decide +kernel
theorem dX7_yardOf_6 : decode cX7_yardOf 6 = .ok (.getfield 9, 3) := by decide +kernel
theorem dX7_yardOf_9 : decode cX7_yardOf 9 = .ok (.arraylength, 1) := by decide +kernel
theorem dX7_yardOf_10 : decode cX7_yardOf 10 = .ok (.if_icmp .ge 12, 3) := by decide +kernel
theorem dX7_yardOf_13 : decode cX7_yardOf 13 = .ok (.aload_n 0, 1) := by decide +kernel
theorem dX7_yardOf_14 : decode cX7_yardOf 14 = .ok (.getfield 9, 3) := by decide +kernel
theorem dX7_yardOf_17 : decode cX7_yardOf 17 = .ok (.iload_n 1, 1) := by decide +kernel
theorem dX7_yardOf_18 : decode cX7_yardOf 18 = .ok (.iaload, 1) := by decide +kernel
theorem dX7_yardOf_19 : decode cX7_yardOf 19 = .ok (.goto 4, 3) := by decide +kernel
theorem dX7_yardOf_22 : decode cX7_yardOf 22 = .ok (.iconst 0, 1) := by decide +kernel
theorem dX7_yardOf_23 : decode cX7_yardOf 23 = .ok (.ireturn, 1) := by decide +kernel
theorem dX7_beatsOf_0 : decode cX7_beatsOf 0 = .ok (.iload_n 1, 1) := by decide +kernel
theorem dX7_beatsOf_1 : decode cX7_beatsOf 1 = .ok (.ifCond .lt 21, 3) := by decide +kernel
theorem dX7_beatsOf_4 : decode cX7_beatsOf 4 = .ok (.iload_n 1, 1) := by decide +kernel
theorem dX7_beatsOf_5 : decode cX7_beatsOf 5 = .ok (.aload_n 0, 1) := by decide +kernel
theorem dX7_beatsOf_6 : decode cX7_beatsOf 6 = .ok (.getfield 15, 3) := by decide +kernel
theorem dX7_beatsOf_9 : decode cX7_beatsOf 9 = .ok (.arraylength, 1) := by decide +kernel
theorem dX7_beatsOf_10 : decode cX7_beatsOf 10 = .ok (.if_icmp .ge 12, 3) := by decide +kernel
theorem dX7_beatsOf_13 : decode cX7_beatsOf 13 = .ok (.aload_n 0, 1) := by decide +kernel
theorem dX7_beatsOf_14 : decode cX7_beatsOf 14 = .ok (.getfield 15, 3) := by decide +kernel
theorem dX7_beatsOf_17 : decode cX7_beatsOf 17 = .ok (.iload_n 1, 1) := by decide +kernel
theorem dX7_beatsOf_18 : decode cX7_beatsOf 18 = .ok (.iaload, 1) := by decide +kernel
theorem dX7_beatsOf_19 : decode cX7_beatsOf 19 = .ok (.goto 4, 3) := by decide +kernel
theorem dX7_beatsOf_22 : decode cX7_beatsOf 22 = .ok (.iconst 0, 1) := by decide +kernel
theorem dX7_beatsOf_23 : decode cX7_beatsOf 23 = .ok (.ireturn, 1) := by decide +kernel
theorem dX7_goodOf_0 : decode cX7_goodOf 0 = .ok (.iload_n 1, 1) := by decide +kernel
theorem dX7_goodOf_1 : decode cX7_goodOf 1 = .ok (.ifCond .lt 21, 3) := by decide +kernel
theorem dX7_goodOf_4 : decode cX7_goodOf 4 = .ok (.iload_n 1, 1) := by decide +kernel
theorem dX7_goodOf_5 : decode cX7_goodOf 5 = .ok (.aload_n 0, 1) := by decide +kernel
theorem dX7_goodOf_6 : decode cX7_goodOf 6 = .ok (.getfield 18, 3) := by decide +kernel
theorem dX7_goodOf_9 : decode cX7_goodOf 9 = .ok (.arraylength, 1) := by decide +kernel
theorem dX7_goodOf_10 : decode cX7_goodOf 10 = .ok (.if_icmp .ge 12, 3) := by decide +kernel
theorem dX7_goodOf_13 : decode cX7_goodOf 13 = .ok (.aload_n 0, 1) := by decide +kernel
theorem dX7_goodOf_14 : decode cX7_goodOf 14 = .ok (.getfield 18, 3) := by decide +kernel
theorem dX7_goodOf_17 : decode cX7_goodOf 17 = .ok (.iload_n 1, 1) := by decide +kernel
theorem dX7_goodOf_18 : decode cX7_goodOf 18 = .ok (.iaload, 1) := by decide +kernel
theorem dX7_goodOf_19 : decode cX7_goodOf 19 = .ok (.goto 4, 3) := by decide +kernel
theorem dX7_goodOf_22 : decode cX7_goodOf 22 = .ok (.iconst 0, 1) := by decide +kernel
theorem dX7_goodOf_23 : decode cX7_goodOf 23 = .ok (.ireturn, 1) := by decide +kernel
theorem dX7_draw_0 : decode cX7_draw 0 = .ok (.aload_n 0, 1) := by decide +kernel
theorem dX7_draw_1 : decode cX7_draw 1 = .ok (.aload_n 0, 1) := by decide +kernel
theorem dX7_draw_2 : decode cX7_draw 2 = .ok (.getfield 21, 3) := by decide +kernel
theorem dX7_draw_5 : decode cX7_draw 5 = .ok (.ldc 39, 2) := by decide +kernel
theorem dX7_draw_7 : decode cX7_draw 7 = .ok (.imul, 1) := by decide +kernel
theorem dX7_draw_8 : decode cX7_draw 8 = .ok (.sipush 12345, 3) := by decide +kernel
theorem dX7_draw_11 : decode cX7_draw 11 = .ok (.iadd, 1) := by decide +kernel
theorem dX7_draw_12 : decode cX7_draw 12 = .ok (.putfield 21, 3) := by decide +kernel
theorem dX7_draw_15 : decode cX7_draw 15 = .ok (.aload_n 0, 1) := by decide +kernel
theorem dX7_draw_16 : decode cX7_draw 16 = .ok (.getfield 21, 3) := by decide +kernel
theorem dX7_draw_19 : decode cX7_draw 19 = .ok (.bipush 16, 2) := by decide +kernel
theorem dX7_draw_21 : decode cX7_draw 21 = .ok (.iushr, 1) := by decide +kernel
theorem dX7_draw_22 : decode cX7_draw 22 = .ok (.bipush 10, 2) := by decide +kernel
theorem dX7_draw_24 : decode cX7_draw 24 = .ok (.irem, 1) := by decide +kernel
theorem dX7_draw_25 : decode cX7_draw 25 = .ok (.ireturn, 1) := by decide +kernel
theorem dX8_init_0 : decode cX8_init 0 = .ok (.aload_n 0, 1) := by decide +kernel
theorem dX8_init_1 : decode cX8_init 1 = .ok (.invokespecial 1, 3) := by decide +kernel
theorem dX8_init_4 : decode cX8_init 4 = .ok (.aload_n 0, 1) := by decide +kernel
theorem dX8_init_5 : decode cX8_init 5 = .ok (.sipush 300, 3) := by decide +kernel
theorem dX8_init_8 : decode cX8_init 8 = .ok (.newarray .int, 2) := by decide +kernel
theorem dX8_init_10 : decode cX8_init 10 = .ok (.putfield 9, 3) := by decide +kernel
theorem dX8_init_13 : decode cX8_init 13 = .ok (.aload_n 0, 1) := by decide +kernel
theorem dX8_init_14 : decode cX8_init 14 = .ok (.iconst 0, 1) := by decide +kernel
theorem dX8_init_15 : decode cX8_init 15 = .ok (.putfield 13, 3) := by decide +kernel
theorem dX8_init_18 : decode cX8_init 18 = .ok (.return_, 1) := by decide +kernel
theorem dX8_append_0 : decode cX8_append 0 = .ok (.aload_n 0, 1) := by decide +kernel
theorem dX8_append_1 : decode cX8_append 1 = .ok (.getfield 13, 3) := by decide +kernel
theorem dX8_append_4 : decode cX8_append 4 = .ok (.ifCond .lt 35, 3) := by decide +kernel
theorem dX8_append_7 : decode cX8_append 7 = .ok (.aload_n 0, 1) := by decide +kernel
theorem dX8_append_8 : decode cX8_append 8 = .ok (.getfield 13, 3) := by decide +kernel
theorem dX8_append_11 : decode cX8_append 11 = .ok (.aload_n 0, 1) := by decide +kernel
theorem dX8_append_12 : decode cX8_append 12 = .ok (.getfield 9, 3) := by decide +kernel
theorem dX8_append_15 : decode cX8_append 15 = .ok (.arraylength, 1) := by decide +kernel
theorem dX8_append_16 : decode cX8_append 16 = .ok (.if_icmp .ge 23, 3) := by decide +kernel
theorem dX8_append_19 : decode cX8_append 19 = .ok (.aload_n 0, 1) := by decide +kernel
theorem dX8_append_20 : decode cX8_append 20 = .ok (.getfield 9, 3) := by decide +kernel
theorem dX8_append_23 : decode cX8_append 23 = .ok (.aload_n 0, 1) := by decide +kernel
theorem dX8_append_24 : decode cX8_append 24 = .ok (.getfield 13, 3) := by decide +kernel
theorem dX8_append_27 : decode cX8_append 27 = .ok (.iload_n 1, 1) := by decide +kernel
theorem dX8_append_28 : decode cX8_append 28 = .ok (.iastore, 1) := by decide +kernel
theorem dX8_append_29 : decode cX8_append 29 = .ok (.aload_n 0, 1) := by decide +kernel
theorem dX8_append_30 : decode cX8_append 30 = .ok (.dup, 1) := by decide +kernel
theorem dX8_append_31 : decode cX8_append 31 = .ok (.getfield 13, 3) := by decide +kernel
theorem dX8_append_34 : decode cX8_append 34 = .ok (.iconst 1, 1) := by decide +kernel
theorem dX8_append_35 : decode cX8_append 35 = .ok (.iadd, 1) := by decide +kernel
theorem dX8_append_36 : decode cX8_append 36 = .ok (.putfield 13, 3) := by decide +kernel
theorem dX8_append_39 : decode cX8_append 39 = .ok (.return_, 1) := by decide +kernel
theorem dX8_byteAt_0 : decode cX8_byteAt 0 = .ok (.iload_n 1, 1) := by decide +kernel
theorem dX8_byteAt_1 : decode cX8_byteAt 1 = .ok (.ifCond .lt 29, 3) := by decide +kernel
theorem dX8_byteAt_4 : decode cX8_byteAt 4 = .ok (.iload_n 1, 1) := by decide +kernel
theorem dX8_byteAt_5 : decode cX8_byteAt 5 = .ok (.aload_n 0, 1) := by decide +kernel
theorem dX8_byteAt_6 : decode cX8_byteAt 6 = .ok (.getfield 13, 3) := by decide +kernel
theorem dX8_byteAt_9 : decode cX8_byteAt 9 = .ok (.if_icmp .ge 21, 3) := by decide +kernel
theorem dX8_byteAt_12 : decode cX8_byteAt 12 = .ok (.iload_n 1, 1) := by decide +kernel
theorem dX8_byteAt_13 : decode cX8_byteAt 13 = .ok (.aload_n 0, 1) := by decide +kernel
theorem dX8_byteAt_14 : decode cX8_byteAt 14 = .ok (.getfield 9, 3) := by decide +kernel
theorem dX8_byteAt_17 : decode cX8_byteAt 17 = .ok (.arraylength, 1) := by decide +kernel
theorem dX8_byteAt_18 : decode cX8_byteAt 18 = .ok (.if_icmp .ge 12, 3) := by decide +kernel
theorem dX8_byteAt_21 : decode cX8_byteAt 21 = .ok (.aload_n 0, 1) := by decide +kernel
theorem dX8_byteAt_22 : decode cX8_byteAt 22 = .ok (.getfield 9, 3) := by decide +kernel
theorem dX8_byteAt_25 : decode cX8_byteAt 25 = .ok (.iload_n 1, 1) := by decide +kernel
theorem dX8_byteAt_26 : decode cX8_byteAt 26 = .ok (.iaload, 1) := by decide +kernel
theorem dX8_byteAt_27 : decode cX8_byteAt 27 = .ok (.goto 4, 3) := by decide +kernel
theorem dX8_byteAt_30 : decode cX8_byteAt 30 = .ok (.iconst 0, 1) := by decide +kernel
theorem dX8_byteAt_31 : decode cX8_byteAt 31 = .ok (.ireturn, 1) := by decide +kernel
set_option maxRecDepth 20000 in
theorem ggX8_holds_J0_length_8abf5 : GoodIn wsX8_holds wsJ0_length_8abf5 := goodIn_r _ [6, 7, 8, 9, 10, 5, 11, 12, 13] (by decide +kernel) (by decide +kernel)
set_option maxRecDepth 20000 in
theorem gX8_holds_J0_length_8abf5 : GoodIn wsX8_holds (wsV RX8 17 RJ0 yJ0_length_8abf5 wsJ0_length_8abf5) := goodIn_app (goodIn_of _ (by decide +kernel)) ggX8_holds_J0_length_8abf5
set_option maxRecDepth 20000 in
theorem ggX8_holds_J0_charAt_5068e : GoodIn wsX8_holds wsJ0_charAt_5068e := goodIn_r _ [17, 7, 18, 19, 20, 5, 21, 12, 13, 22, 23, 24, 25, 26, 27, 28, 29, 30, 31, 32, 33, 34, 35, 36, 37, 38, 39, 40, 41, 42, 43, 44, 45, 46, 47, 48, 49, 50] (by decide +kernel) (by decide +kernel)
set_option maxRecDepth 20000 in
theorem gX8_holds_J0_charAt_5068e : GoodIn wsX8_holds (wsV RX8 22 RJ0 yJ0_charAt_5068e wsJ0_charAt_5068e) := goodIn_app (goodIn_of _ (by decide +kernel)) ggX8_holds_J0_charAt_5068e
theorem dX8_holds_0 : decode cX8_holds 0 = .ok (.iload_n 2, 1) := by decide +kernel
theorem dX8_holds_1 : decode cX8_holds 1 = .ok (.ifCond .lt 22, 3) := by decide +kernel
theorem dX8_holds_4 : decode cX8_holds 4 = .ok (.iload_n 3, 1) := by decide +kernel
theorem dX8_holds_5 : decode cX8_holds 5 = .ok (.aload_n 0, 1) := by decide +kernel
theorem dX8_holds_6 : decode cX8_holds 6 = .ok (.getfield 9, 3) := by decide +kernel
theorem dX8_holds_9 : decode cX8_holds 9 = .ok (.arraylength, 1) := by decide +kernel
theorem dX8_holds_10 : decode cX8_holds 10 = .ok (.if_icmp .gt 13, 3) := by decide +kernel
theorem dX8_holds_13 : decode cX8_holds 13 = .ok (.iload_n 3, 1) := by decide +kernel
theorem dX8_holds_14 : decode cX8_holds 14 = .ok (.iload_n 2, 1) := by decide +kernel
theorem dX8_holds_15 : decode cX8_holds 15 = .ok (.isub, 1) := by decide +kernel
theorem dX8_holds_16 : decode cX8_holds 16 = .ok (.aload_n 1, 1) := by decide +kernel
theorem dX8_holds_17 : decode cX8_holds 17 = .ok (.invokevirtual 17, 3) := by decide +kernel
theorem dX8_holds_20 : decode cX8_holds 20 = .ok (.if_icmp .eq 5, 3) := by decide +kernel
theorem dX8_holds_23 : decode cX8_holds 23 = .ok (.iconst 0, 1) := by decide +kernel
theorem dX8_holds_24 : decode cX8_holds 24 = .ok (.ireturn, 1) := by decide +kernel
theorem dX8_holds_25 : decode cX8_holds 25 = .ok (.iconst 0, 1) := by decide +kernel
theorem dX8_holds_26 : decode cX8_holds 26 = .ok (.istore 4, 2) := by decide +kernel
theorem dX8_holds_28 : decode cX8_holds 28 = .ok (.iload 4, 2) := by decide +kernel
theorem dX8_holds_30 : decode cX8_holds 30 = .ok (.aload_n 1, 1) := by decide +kernel
theorem dX8_holds_31 : decode cX8_holds 31 = .ok (.invokevirtual 17, 3) := by decide +kernel
theorem dX8_holds_34 : decode cX8_holds 34 = .ok (.if_icmp .ge 29, 3) := by decide +kernel
theorem dX8_holds_37 : decode cX8_holds 37 = .ok (.aload_n 0, 1) := by decide +kernel
theorem dX8_holds_38 : decode cX8_holds 38 = .ok (.getfield 9, 3) := by decide +kernel
theorem dX8_holds_41 : decode cX8_holds 41 = .ok (.iload_n 2, 1) := by decide +kernel
theorem dX8_holds_42 : decode cX8_holds 42 = .ok (.iload 4, 2) := by decide +kernel
theorem dX8_holds_44 : decode cX8_holds 44 = .ok (.iadd, 1) := by decide +kernel
theorem dX8_holds_45 : decode cX8_holds 45 = .ok (.iaload, 1) := by decide +kernel
theorem dX8_holds_46 : decode cX8_holds 46 = .ok (.aload_n 1, 1) := by decide +kernel
theorem dX8_holds_47 : decode cX8_holds 47 = .ok (.iload 4, 2) := by decide +kernel
theorem dX8_holds_49 : decode cX8_holds 49 = .ok (.invokevirtual 22, 3) := by decide +kernel
theorem dX8_holds_52 : decode cX8_holds 52 = .ok (.if_icmp .eq 5, 3) := by decide +kernel
theorem dX8_holds_55 : decode cX8_holds 55 = .ok (.iconst 0, 1) := by decide +kernel
theorem dX8_holds_56 : decode cX8_holds 56 = .ok (.ireturn, 1) := by decide +kernel
theorem dX8_holds_57 : decode cX8_holds 57 = .ok (.iinc 4 1, 3) := by decide +kernel
theorem dX8_holds_60 : decode cX8_holds 60 = .ok (.goto (-32), 3) := by decide +kernel
theorem dX8_holds_63 : decode cX8_holds 63 = .ok (.iconst 1, 1) := by decide +kernel
theorem dX8_holds_64 : decode cX8_holds 64 = .ok (.ireturn, 1) := by decide +kernel
set_option maxRecDepth 20000 in
theorem ggX9_init_X6_init : GoodIn wsX9_init wsX6_init := goodIn_r _ [41, 42, 2, 3, 43, 44, 45, 46, 47, 48, 49, 50, 51, 52, 53, 54, 55, 56, 57, 164, 165, 114, 115, 116, 117, 118, 119] (by decide +kernel) (by decide +kernel)
set_option maxRecDepth 20000 in
theorem gX9_init_X6_init_n9 : GoodIn wsX9_init (wsX6_init) := ggX9_init_X6_init
set_option maxRecDepth 20000 in
theorem ggX9_init_X7_init : GoodIn wsX9_init wsX7_init := goodIn_r _ [59, 60, 2, 3, 55, 61, 62, 63, 64, 132, 133, 134, 135] (by decide +kernel) (by decide +kernel)
set_option maxRecDepth 20000 in
theorem gX9_init_X7_init_n23 : GoodIn wsX9_init (wsX7_init) := ggX9_init_X7_init
set_option maxRecDepth 20000 in
theorem ggX9_init_X2_init : GoodIn wsX9_init wsX2_init := goodIn_r _ [66, 67, 2, 3, 68, 10, 11, 69, 70, 58, 59, 60, 55, 61, 62, 63, 64, 132, 133, 134, 135, 136, 137] (by decide +kernel) (by decide +kernel)
set_option maxRecDepth 20000 in
theorem gX9_init_X2_init_n30 : GoodIn wsX9_init (wsX2_init) := ggX9_init_X2_init
set_option maxRecDepth 20000 in
theorem ggX9_init_X0_init : GoodIn wsX9_init wsX0_init := goodIn_r _ [72, 73, 2, 3, 55, 74, 75, 76, 77, 78, 138, 139, 140, 141, 142] (by decide +kernel) (by decide +kernel)
set_option maxRecDepth 20000 in
theorem gX9_init_X0_init_n40 : GoodIn wsX9_init (wsX0_init) := ggX9_init_X0_init
set_option maxRecDepth 20000 in
theorem ggX9_init_X5_init : GoodIn wsX9_init wsX5_init := goodIn_r _ [80, 81, 2, 3, 55, 82, 83, 84, 143, 144, 145] (by decide +kernel) (by decide +kernel)
set_option maxRecDepth 20000 in
theorem gX9_init_X5_init_n47 : GoodIn wsX9_init (wsX5_init) := ggX9_init_X5_init
set_option maxRecDepth 20000 in
theorem ggX9_init_X1_init : GoodIn wsX9_init wsX1_init := goodIn_r _ [86, 87, 2, 3, 88, 89, 90, 91, 146, 147, 148, 149] (by decide +kernel) (by decide +kernel)
set_option maxRecDepth 20000 in
theorem gX9_init_X1_init_n54 : GoodIn wsX9_init (wsX1_init) := ggX9_init_X1_init
set_option maxRecDepth 20000 in
theorem ggX9_init_X4_init : GoodIn wsX9_init wsX4_init := goodIn_r _ [93, 94, 2, 3, 95, 96, 55, 97, 98, 99, 100, 150, 151, 152, 153, 154] (by decide +kernel) (by decide +kernel)
set_option maxRecDepth 20000 in
theorem gX9_init_X4_init_n61 : GoodIn wsX9_init (wsX4_init) := ggX9_init_X4_init
set_option maxRecDepth 20000 in
theorem ggX9_init_X3_init : GoodIn wsX9_init wsX3_init := goodIn_r _ [102, 103, 2, 3, 55, 104, 105, 106, 107, 108, 109, 110, 111, 112, 113, 155, 156, 157, 158, 159, 160, 161, 162, 163] (by decide +kernel) (by decide +kernel)
set_option maxRecDepth 20000 in
theorem gX9_init_X3_init_n68 : GoodIn wsX9_init (wsX3_init) := ggX9_init_X3_init
theorem dX9_init_0 : decode cX9_init 0 = .ok (.aload_n 0, 1) := by decide +kernel
theorem dX9_init_1 : decode cX9_init 1 = .ok (.invokespecial 1, 3) := by decide +kernel
theorem dX9_init_4 : decode cX9_init 4 = .ok (.aload_n 0, 1) := by decide +kernel
theorem dX9_init_5 : decode cX9_init 5 = .ok (.new 7, 3) := by decide +kernel
theorem dX9_init_8 : decode cX9_init 8 = .ok (.dup, 1) := by decide +kernel
theorem dX9_init_9 : decode cX9_init 9 = .ok (.invokespecial 9, 3) := by decide +kernel
theorem dX9_init_12 : decode cX9_init 12 = .ok (.putfield 10, 3) := by decide +kernel
theorem dX9_init_15 : decode cX9_init 15 = .ok (.aload_n 0, 1) := by decide +kernel
theorem dX9_init_16 : decode cX9_init 16 = .ok (.aload_n 0, 1) := by decide +kernel
theorem dX9_init_17 : decode cX9_init 17 = .ok (.getfield 10, 3) := by decide +kernel
theorem dX9_init_20 : decode cX9_init 20 = .ok (.getfield 16, 3) := by decide +kernel
theorem dX9_init_23 : decode cX9_init 23 = .ok (.putfield 20, 3) := by decide +kernel
theorem dX9_init_26 : decode cX9_init 26 = .ok (.aload_n 0, 1) := by decide +kernel
theorem dX9_init_27 : decode cX9_init 27 = .ok (.new 21, 3) := by decide +kernel
theorem dX9_init_30 : decode cX9_init 30 = .ok (.dup, 1) := by decide +kernel
theorem dX9_init_31 : decode cX9_init 31 = .ok (.invokespecial 23, 3) := by decide +kernel
theorem dX9_init_34 : decode cX9_init 34 = .ok (.putfield 24, 3) := by decide +kernel
theorem dX9_init_37 : decode cX9_init 37 = .ok (.aload_n 0, 1) := by decide +kernel
theorem dX9_init_38 : decode cX9_init 38 = .ok (.new 28, 3) := by decide +kernel
theorem dX9_init_41 : decode cX9_init 41 = .ok (.dup, 1) := by decide +kernel
theorem dX9_init_42 : decode cX9_init 42 = .ok (.invokespecial 30, 3) := by decide +kernel
theorem dX9_init_45 : decode cX9_init 45 = .ok (.putfield 31, 3) := by decide +kernel
theorem dX9_init_48 : decode cX9_init 48 = .ok (.aload_n 0, 1) := by decide +kernel
theorem dX9_init_49 : decode cX9_init 49 = .ok (.new 28, 3) := by decide +kernel
theorem dX9_init_52 : decode cX9_init 52 = .ok (.dup, 1) := by decide +kernel
theorem dX9_init_53 : decode cX9_init 53 = .ok (.invokespecial 30, 3) := by decide +kernel
theorem dX9_init_56 : decode cX9_init 56 = .ok (.putfield 35, 3) := by decide +kernel
theorem dX9_init_59 : decode cX9_init 59 = .ok (.aload_n 0, 1) := by decide +kernel
theorem dX9_init_60 : decode cX9_init 60 = .ok (.new 38, 3) := by decide +kernel
theorem dX9_init_63 : decode cX9_init 63 = .ok (.dup, 1) := by decide +kernel
theorem dX9_init_64 : decode cX9_init 64 = .ok (.invokespecial 40, 3) := by decide +kernel
theorem dX9_init_67 : decode cX9_init 67 = .ok (.putfield 41, 3) := by decide +kernel
theorem dX9_init_70 : decode cX9_init 70 = .ok (.aload_n 0, 1) := by decide +kernel
theorem dX9_init_71 : decode cX9_init 71 = .ok (.new 45, 3) := by decide +kernel
theorem dX9_init_74 : decode cX9_init 74 = .ok (.dup, 1) := by decide +kernel
theorem dX9_init_75 : decode cX9_init 75 = .ok (.invokespecial 47, 3) := by decide +kernel
theorem dX9_init_78 : decode cX9_init 78 = .ok (.putfield 48, 3) := by decide +kernel
theorem dX9_init_81 : decode cX9_init 81 = .ok (.aload_n 0, 1) := by decide +kernel
theorem dX9_init_82 : decode cX9_init 82 = .ok (.new 52, 3) := by decide +kernel
theorem dX9_init_85 : decode cX9_init 85 = .ok (.dup, 1) := by decide +kernel
theorem dX9_init_86 : decode cX9_init 86 = .ok (.invokespecial 54, 3) := by decide +kernel
theorem dX9_init_89 : decode cX9_init 89 = .ok (.putfield 55, 3) := by decide +kernel
theorem dX9_init_92 : decode cX9_init 92 = .ok (.aload_n 0, 1) := by decide +kernel
theorem dX9_init_93 : decode cX9_init 93 = .ok (.new 59, 3) := by decide +kernel
theorem dX9_init_96 : decode cX9_init 96 = .ok (.dup, 1) := by decide +kernel
theorem dX9_init_97 : decode cX9_init 97 = .ok (.invokespecial 61, 3) := by decide +kernel
theorem dX9_init_100 : decode cX9_init 100 = .ok (.putfield 62, 3) := by decide +kernel
theorem dX9_init_103 : decode cX9_init 103 = .ok (.aload_n 0, 1) := by decide +kernel
theorem dX9_init_104 : decode cX9_init 104 = .ok (.new 66, 3) := by decide +kernel
theorem dX9_init_107 : decode cX9_init 107 = .ok (.dup, 1) := by decide +kernel
theorem dX9_init_108 : decode cX9_init 108 = .ok (.invokespecial 68, 3) := by decide +kernel
theorem dX9_init_111 : decode cX9_init 111 = .ok (.putfield 69, 3) := by decide +kernel
theorem dX9_init_114 : decode cX9_init 114 = .ok (.aload_n 0, 1) := by decide +kernel
theorem dX9_init_115 : decode cX9_init 115 = .ok (.new 66, 3) := by decide +kernel
theorem dX9_init_118 : decode cX9_init 118 = .ok (.dup, 1) := by decide +kernel
theorem dX9_init_119 : decode cX9_init 119 = .ok (.invokespecial 68, 3) := by decide +kernel
theorem dX9_init_122 : decode cX9_init 122 = .ok (.putfield 73, 3) := by decide +kernel
theorem dX9_init_125 : decode cX9_init 125 = .ok (.aload_n 0, 1) := by decide +kernel
theorem dX9_init_126 : decode cX9_init 126 = .ok (.lconst 0, 1) := by decide +kernel
theorem dX9_init_127 : decode cX9_init 127 = .ok (.putfield 76, 3) := by decide +kernel
theorem dX9_init_130 : decode cX9_init 130 = .ok (.return_, 1) := by decide +kernel
set_option maxRecDepth 20000 in
theorem ggX9_type_X8_append : GoodIn wsX9_type wsX8_append := goodIn_r _ [6, 7, 8, 21, 22] (by decide +kernel) (by decide +kernel)
set_option maxRecDepth 20000 in
theorem gX9_type_X8_append : GoodIn wsX9_type (wsV RX9 86 RX8 yX8_append wsX8_append) := goodIn_app (goodIn_of _ (by decide +kernel)) ggX9_type_X8_append
theorem dX9_type_0 : decode cX9_type 0 = .ok (.iload_n 3, 1) := by decide +kernel
theorem dX9_type_1 : decode cX9_type 1 = .ok (.iconst 1, 1) := by decide +kernel
theorem dX9_type_2 : decode cX9_type 2 = .ok (.if_icmp .lt 9, 3) := by decide +kernel
theorem dX9_type_5 : decode cX9_type 5 = .ok (.iload_n 3, 1) := by decide +kernel
theorem dX9_type_6 : decode cX9_type 6 = .ok (.bipush 8, 2) := by decide +kernel
theorem dX9_type_8 : decode cX9_type 8 = .ok (.if_icmp .le 5, 3) := by decide +kernel
theorem dX9_type_11 : decode cX9_type 11 = .ok (.iconst (-1), 1) := by decide +kernel
theorem dX9_type_12 : decode cX9_type 12 = .ok (.ireturn, 1) := by decide +kernel
theorem dX9_type_13 : decode cX9_type 13 = .ok (.aload_n 0, 1) := by decide +kernel
theorem dX9_type_14 : decode cX9_type 14 = .ok (.getfield 20, 3) := by decide +kernel
theorem dX9_type_17 : decode cX9_type 17 = .ok (.getfield 80, 3) := by decide +kernel
theorem dX9_type_20 : decode cX9_type 20 = .ok (.sipush 300, 3) := by decide +kernel
theorem dX9_type_23 : decode cX9_type 23 = .ok (.iload_n 3, 1) := by decide +kernel
theorem dX9_type_24 : decode cX9_type 24 = .ok (.isub, 1) := by decide +kernel
theorem dX9_type_25 : decode cX9_type 25 = .ok (.if_icmp .le 6, 3) := by decide +kernel
theorem dX9_type_28 : decode cX9_type 28 = .ok (.bipush (-3), 2) := by decide +kernel
theorem dX9_type_30 : decode cX9_type 30 = .ok (.ireturn, 1) := by decide +kernel
theorem dX9_type_31 : decode cX9_type 31 = .ok (.iload_n 3, 1) := by decide +kernel
theorem dX9_type_32 : decode cX9_type 32 = .ok (.iconst 1, 1) := by decide +kernel
theorem dX9_type_33 : decode cX9_type 33 = .ok (.isub, 1) := by decide +kernel
theorem dX9_type_34 : decode cX9_type 34 = .ok (.istore 4, 2) := by decide +kernel
theorem dX9_type_36 : decode cX9_type 36 = .ok (.iload 4, 2) := by decide +kernel
theorem dX9_type_38 : decode cX9_type 38 = .ok (.ifCond .lt 28, 3) := by decide +kernel
theorem dX9_type_41 : decode cX9_type 41 = .ok (.aload_n 0, 1) := by decide +kernel
theorem dX9_type_42 : decode cX9_type 42 = .ok (.getfield 20, 3) := by decide +kernel
theorem dX9_type_45 : decode cX9_type 45 = .ok (.lload_n 1, 1) := by decide +kernel
theorem dX9_type_46 : decode cX9_type 46 = .ok (.bipush 8, 2) := by decide +kernel
theorem dX9_type_48 : decode cX9_type 48 = .ok (.iload 4, 2) := by decide +kernel
theorem dX9_type_50 : decode cX9_type 50 = .ok (.imul, 1) := by decide +kernel
theorem dX9_type_51 : decode cX9_type 51 = .ok (.lushr, 1) := by decide +kernel
theorem dX9_type_52 : decode cX9_type 52 = .ok (.l2i, 1) := by decide +kernel
theorem dX9_type_53 : decode cX9_type 53 = .ok (.sipush 255, 3) := by decide +kernel
theorem dX9_type_56 : decode cX9_type 56 = .ok (.iand, 1) := by decide +kernel
theorem dX9_type_57 : decode cX9_type 57 = .ok (.invokevirtual 86, 3) := by decide +kernel
theorem dX9_type_60 : decode cX9_type 60 = .ok (.iinc 4 (-1), 3) := by decide +kernel
theorem dX9_type_63 : decode cX9_type 63 = .ok (.goto (-27), 3) := by decide +kernel
theorem dX9_type_66 : decode cX9_type 66 = .ok (.aload_n 0, 1) := by decide +kernel
theorem dX9_type_67 : decode cX9_type 67 = .ok (.getfield 20, 3) := by decide +kernel
theorem dX9_type_70 : decode cX9_type 70 = .ok (.getfield 80, 3) := by decide +kernel
theorem dX9_type_73 : decode cX9_type 73 = .ok (.ireturn, 1) := by decide +kernel
theorem dX9_clear_0 : decode cX9_clear 0 = .ok (.aload_n 0, 1) := by decide +kernel
theorem dX9_clear_1 : decode cX9_clear 1 = .ok (.getfield 20, 3) := by decide +kernel
theorem dX9_clear_4 : decode cX9_clear 4 = .ok (.getfield 80, 3) := by decide +kernel
theorem dX9_clear_7 : decode cX9_clear 7 = .ok (.istore_n 1, 1) := by decide +kernel
theorem dX9_clear_8 : decode cX9_clear 8 = .ok (.aload_n 0, 1) := by decide +kernel
theorem dX9_clear_9 : decode cX9_clear 9 = .ok (.getfield 20, 3) := by decide +kernel
theorem dX9_clear_12 : decode cX9_clear 12 = .ok (.iconst 0, 1) := by decide +kernel
theorem dX9_clear_13 : decode cX9_clear 13 = .ok (.putfield 80, 3) := by decide +kernel
theorem dX9_clear_16 : decode cX9_clear 16 = .ok (.iload_n 1, 1) := by decide +kernel
theorem dX9_clear_17 : decode cX9_clear 17 = .ok (.ireturn, 1) := by decide +kernel
set_option maxRecDepth 20000 in
theorem ggX9_lane_X6_readInto : GoodIn wsX9_lane wsX6_readInto := goodIn_r _ [14, 15, 16, 17, 18, 19, 20, 21, 22, 23, 24, 25, 26, 27, 28, 29, 30, 31, 32, 33, 13, 34, 35, 36, 37, 38, 39, 40, 41, 42, 43, 44, 45, 46, 47, 48, 49, 50, 51, 52, 53, 54, 55, 56, 57, 58, 59, 60, 61, 62, 63, 64, 65, 66, 67, 68, 69, 70, 71, 72, 73, 74, 75, 76, 77, 78, 79, 80, 81, 82, 83, 84, 85, 86, 87, 88, 89, 90, 91, 92, 93, 94, 95, 96, 97, 98, 99, 100, 101, 102, 103, 104, 105, 106, 107, 108, 109, 110, 111, 112, 113, 114, 115, 116, 117, 118, 119, 120, 121, 122, 123, 124, 125, 126, 127, 128, 129, 130, 131, 132, 133, 134, 135, 136, 137, 138, 139, 140, 141, 142, 143, 144, 145, 146, 147, 148, 149, 150, 191, 192, 193, 194, 195, 196, 197, 198, 199, 200, 201, 202, 203, 204, 205, 179, 180] (by decide +kernel) (by decide +kernel)
set_option maxRecDepth 20000 in
theorem gX9_lane_X6_readInto : GoodIn wsX9_lane (wsV RX9 90 RX6 yX6_readInto wsX6_readInto) := goodIn_app (goodIn_of _ (by decide +kernel)) ggX9_lane_X6_readInto
set_option maxRecDepth 20000 in
theorem ggX9_lane_X6_fault : GoodIn wsX9_lane wsX6_fault := goodIn_r _ [154, 35, 191, 192, 193, 194, 195, 196] (by decide +kernel) (by decide +kernel)
set_option maxRecDepth 20000 in
theorem gX9_lane_X6_fault : GoodIn wsX9_lane (wsV RX9 94 RX6 yX6_fault wsX6_fault) := goodIn_app (goodIn_of _ (by decide +kernel)) ggX9_lane_X6_fault
set_option maxRecDepth 20000 in
theorem ggX9_lane_X7_begin : GoodIn wsX9_lane wsX7_begin := goodIn_r _ [159, 160, 161, 162, 158, 163, 164, 165, 166, 206, 207, 208, 209] (by decide +kernel) (by decide +kernel)
set_option maxRecDepth 20000 in
theorem gX9_lane_X7_begin : GoodIn wsX9_lane (wsV RX9 98 RX7 yX7_begin wsX7_begin) := goodIn_app (goodIn_of _ (by decide +kernel)) ggX9_lane_X7_begin
theorem dX9_lane_0 : decode cX9_lane 0 = .ok (.aload_n 0, 1) := by decide +kernel
theorem dX9_lane_1 : decode cX9_lane 1 = .ok (.getfield 10, 3) := by decide +kernel
theorem dX9_lane_4 : decode cX9_lane 4 = .ok (.aload_n 0, 1) := by decide +kernel
theorem dX9_lane_5 : decode cX9_lane 5 = .ok (.getfield 73, 3) := by decide +kernel
theorem dX9_lane_8 : decode cX9_lane 8 = .ok (.invokevirtual 90, 3) := by decide +kernel
theorem dX9_lane_11 : decode cX9_lane 11 = .ok (.istore_n 1, 1) := by decide +kernel
theorem dX9_lane_12 : decode cX9_lane 12 = .ok (.iload_n 1, 1) := by decide +kernel
theorem dX9_lane_13 : decode cX9_lane 13 = .ok (.iconst (-1), 1) := by decide +kernel
theorem dX9_lane_14 : decode cX9_lane 14 = .ok (.if_icmp .ne 14, 3) := by decide +kernel
theorem dX9_lane_17 : decode cX9_lane 17 = .ok (.bipush (-10), 2) := by decide +kernel
theorem dX9_lane_19 : decode cX9_lane 19 = .ok (.aload_n 0, 1) := by decide +kernel
theorem dX9_lane_20 : decode cX9_lane 20 = .ok (.getfield 10, 3) := by decide +kernel
theorem dX9_lane_23 : decode cX9_lane 23 = .ok (.invokevirtual 94, 3) := by decide +kernel
theorem dX9_lane_26 : decode cX9_lane 26 = .ok (.isub, 1) := by decide +kernel
theorem dX9_lane_27 : decode cX9_lane 27 = .ok (.ireturn, 1) := by decide +kernel
theorem dX9_lane_28 : decode cX9_lane 28 = .ok (.aload_n 0, 1) := by decide +kernel
theorem dX9_lane_29 : decode cX9_lane 29 = .ok (.getfield 69, 3) := by decide +kernel
theorem dX9_lane_32 : decode cX9_lane 32 = .ok (.astore_n 2, 1) := by decide +kernel
theorem dX9_lane_33 : decode cX9_lane 33 = .ok (.aload_n 0, 1) := by decide +kernel
theorem dX9_lane_34 : decode cX9_lane 34 = .ok (.aload_n 0, 1) := by decide +kernel
theorem dX9_lane_35 : decode cX9_lane 35 = .ok (.getfield 73, 3) := by decide +kernel
theorem dX9_lane_38 : decode cX9_lane 38 = .ok (.putfield 69, 3) := by decide +kernel
theorem dX9_lane_41 : decode cX9_lane 41 = .ok (.aload_n 0, 1) := by decide +kernel
theorem dX9_lane_42 : decode cX9_lane 42 = .ok (.aload_n 2, 1) := by decide +kernel
theorem dX9_lane_43 : decode cX9_lane 43 = .ok (.putfield 73, 3) := by decide +kernel
theorem dX9_lane_46 : decode cX9_lane 46 = .ok (.aload_n 0, 1) := by decide +kernel
theorem dX9_lane_47 : decode cX9_lane 47 = .ok (.getfield 20, 3) := by decide +kernel
theorem dX9_lane_50 : decode cX9_lane 50 = .ok (.iconst 0, 1) := by decide +kernel
theorem dX9_lane_51 : decode cX9_lane 51 = .ok (.putfield 80, 3) := by decide +kernel
theorem dX9_lane_54 : decode cX9_lane 54 = .ok (.aload_n 0, 1) := by decide +kernel
theorem dX9_lane_55 : decode cX9_lane 55 = .ok (.getfield 24, 3) := by decide +kernel
theorem dX9_lane_58 : decode cX9_lane 58 = .ok (.invokevirtual 98, 3) := by decide +kernel
theorem dX9_lane_61 : decode cX9_lane 61 = .ok (.aload_n 0, 1) := by decide +kernel
theorem dX9_lane_62 : decode cX9_lane 62 = .ok (.getfield 41, 3) := by decide +kernel
theorem dX9_lane_65 : decode cX9_lane 65 = .ok (.iconst 0, 1) := by decide +kernel
theorem dX9_lane_66 : decode cX9_lane 66 = .ok (.putfield 101, 3) := by decide +kernel
theorem dX9_lane_69 : decode cX9_lane 69 = .ok (.aload_n 0, 1) := by decide +kernel
theorem dX9_lane_70 : decode cX9_lane 70 = .ok (.getfield 48, 3) := by decide +kernel
theorem dX9_lane_73 : decode cX9_lane 73 = .ok (.iconst 0, 1) := by decide +kernel
theorem dX9_lane_74 : decode cX9_lane 74 = .ok (.putfield 104, 3) := by decide +kernel
theorem dX9_lane_77 : decode cX9_lane 77 = .ok (.aload_n 0, 1) := by decide +kernel
theorem dX9_lane_78 : decode cX9_lane 78 = .ok (.getfield 31, 3) := by decide +kernel
theorem dX9_lane_81 : decode cX9_lane 81 = .ok (.iconst 0, 1) := by decide +kernel
theorem dX9_lane_82 : decode cX9_lane 82 = .ok (.putfield 105, 3) := by decide +kernel
theorem dX9_lane_85 : decode cX9_lane 85 = .ok (.aload_n 0, 1) := by decide +kernel
theorem dX9_lane_86 : decode cX9_lane 86 = .ok (.getfield 35, 3) := by decide +kernel
theorem dX9_lane_89 : decode cX9_lane 89 = .ok (.iconst 0, 1) := by decide +kernel
theorem dX9_lane_90 : decode cX9_lane 90 = .ok (.putfield 105, 3) := by decide +kernel
theorem dX9_lane_93 : decode cX9_lane 93 = .ok (.iload_n 1, 1) := by decide +kernel
theorem dX9_lane_94 : decode cX9_lane 94 = .ok (.ireturn, 1) := by decide +kernel
set_option maxRecDepth 20000 in
theorem ggX9_yard_X3_isYard : GoodIn wsX9_yard wsX3_isYard := goodIn_r _ [6, 7, 31, 32, 33, 34, 35, 36, 37, 38, 39] (by decide +kernel) (by decide +kernel)
set_option maxRecDepth 20000 in
theorem gX9_yard_X3_isYard : GoodIn wsX9_yard (wsV RX9 109 RX3 yX3_isYard wsX3_isYard) := goodIn_app (goodIn_of _ (by decide +kernel)) ggX9_yard_X3_isYard
set_option maxRecDepth 20000 in
theorem ggX9_yard_X3_windAt : GoodIn wsX9_yard wsX3_windAt := goodIn_r _ [11, 12, 31, 32, 33, 34, 35, 36, 37, 38, 39] (by decide +kernel) (by decide +kernel)
set_option maxRecDepth 20000 in
theorem gX9_yard_X3_windAt : GoodIn wsX9_yard (wsV RX9 113 RX3 yX3_windAt wsX3_windAt) := goodIn_app (goodIn_of _ (by decide +kernel)) ggX9_yard_X3_windAt
set_option maxRecDepth 20000 in
theorem ggX9_yard_X3_isWet : GoodIn wsX9_yard wsX3_isWet := goodIn_r _ [16, 17, 18, 3, 4, 5, 6, 7, 31, 32, 33, 34, 35, 36, 37, 38, 39] (by decide +kernel) (by decide +kernel)
set_option maxRecDepth 20000 in
theorem gX9_yard_X3_isWet : GoodIn wsX9_yard (wsV RX9 117 RX3 yX3_isWet wsX3_isWet) := goodIn_app (goodIn_of _ (by decide +kernel)) ggX9_yard_X3_isWet
theorem dX9_yard_0 : decode cX9_yard 0 = .ok (.aload_n 0, 1) := by decide +kernel
theorem dX9_yard_1 : decode cX9_yard 1 = .ok (.getfield 69, 3) := by decide +kernel
theorem dX9_yard_4 : decode cX9_yard 4 = .ok (.iload_n 1, 1) := by decide +kernel
theorem dX9_yard_5 : decode cX9_yard 5 = .ok (.invokevirtual 109, 3) := by decide +kernel
theorem dX9_yard_8 : decode cX9_yard 8 = .ok (.ifCond .eq 12, 3) := by decide +kernel
theorem dX9_yard_11 : decode cX9_yard 11 = .ok (.iload_n 2, 1) := by decide +kernel
theorem dX9_yard_12 : decode cX9_yard 12 = .ok (.ifCond .lt 8, 3) := by decide +kernel
theorem dX9_yard_15 : decode cX9_yard 15 = .ok (.iload_n 2, 1) := by decide +kernel
theorem dX9_yard_16 : decode cX9_yard 16 = .ok (.iconst 1, 1) := by decide +kernel
theorem dX9_yard_17 : decode cX9_yard 17 = .ok (.if_icmp .le 5, 3) := by decide +kernel
theorem dX9_yard_20 : decode cX9_yard 20 = .ok (.iconst (-1), 1) := by decide +kernel
theorem dX9_yard_21 : decode cX9_yard 21 = .ok (.ireturn, 1) := by decide +kernel
theorem dX9_yard_22 : decode cX9_yard 22 = .ok (.iload_n 2, 1) := by decide +kernel
theorem dX9_yard_23 : decode cX9_yard 23 = .ok (.ifCond .ne 14, 3) := by decide +kernel
theorem dX9_yard_26 : decode cX9_yard 26 = .ok (.aload_n 0, 1) := by decide +kernel
theorem dX9_yard_27 : decode cX9_yard 27 = .ok (.getfield 69, 3) := by decide +kernel
theorem dX9_yard_30 : decode cX9_yard 30 = .ok (.iload_n 1, 1) := by decide +kernel
theorem dX9_yard_31 : decode cX9_yard 31 = .ok (.invokevirtual 113, 3) := by decide +kernel
theorem dX9_yard_34 : decode cX9_yard 34 = .ok (.goto 19, 3) := by decide +kernel
theorem dX9_yard_37 : decode cX9_yard 37 = .ok (.aload_n 0, 1) := by decide +kernel
theorem dX9_yard_38 : decode cX9_yard 38 = .ok (.getfield 69, 3) := by decide +kernel
theorem dX9_yard_41 : decode cX9_yard 41 = .ok (.iload_n 1, 1) := by decide +kernel
theorem dX9_yard_42 : decode cX9_yard 42 = .ok (.invokevirtual 117, 3) := by decide +kernel
theorem dX9_yard_45 : decode cX9_yard 45 = .ok (.ifCond .eq 7, 3) := by decide +kernel
theorem dX9_yard_48 : decode cX9_yard 48 = .ok (.iconst 1, 1) := by decide +kernel
theorem dX9_yard_49 : decode cX9_yard 49 = .ok (.goto 4, 3) := by decide +kernel
theorem dX9_yard_52 : decode cX9_yard 52 = .ok (.iconst 0, 1) := by decide +kernel
theorem dX9_yard_53 : decode cX9_yard 53 = .ok (.ireturn, 1) := by decide +kernel
theorem dX9_told_0 : decode cX9_told 0 = .ok (.iload_n 1, 1) := by decide +kernel
theorem dX9_told_1 : decode cX9_told 1 = .ok (.tableswitch 63 0 3 #[31, 39, 47, 55], 31) := by decide +kernel
theorem dX9_told_32 : decode cX9_told 32 = .ok (.aload_n 0, 1) := by decide +kernel
theorem dX9_told_33 : decode cX9_told 33 = .ok (.getfield 69, 3) := by decide +kernel
theorem dX9_told_36 : decode cX9_told 36 = .ok (.getfield 120, 3) := by decide +kernel
theorem dX9_told_39 : decode cX9_told 39 = .ok (.ireturn, 1) := by decide +kernel
theorem dX9_told_40 : decode cX9_told 40 = .ok (.aload_n 0, 1) := by decide +kernel
theorem dX9_told_41 : decode cX9_told 41 = .ok (.getfield 69, 3) := by decide +kernel
theorem dX9_told_44 : decode cX9_told 44 = .ok (.getfield 123, 3) := by decide +kernel
theorem dX9_told_47 : decode cX9_told 47 = .ok (.ireturn, 1) := by decide +kernel
theorem dX9_told_48 : decode cX9_told 48 = .ok (.aload_n 0, 1) := by decide +kernel
theorem dX9_told_49 : decode cX9_told 49 = .ok (.getfield 69, 3) := by decide +kernel
theorem dX9_told_52 : decode cX9_told 52 = .ok (.getfield 126, 3) := by decide +kernel
theorem dX9_told_55 : decode cX9_told 55 = .ok (.ireturn, 1) := by decide +kernel
theorem dX9_told_56 : decode cX9_told 56 = .ok (.aload_n 0, 1) := by decide +kernel
theorem dX9_told_57 : decode cX9_told 57 = .ok (.getfield 69, 3) := by decide +kernel
theorem dX9_told_60 : decode cX9_told 60 = .ok (.getfield 129, 3) := by decide +kernel
theorem dX9_told_63 : decode cX9_told 63 = .ok (.ireturn, 1) := by decide +kernel
theorem dX9_told_64 : decode cX9_told 64 = .ok (.iconst (-1), 1) := by decide +kernel
theorem dX9_told_65 : decode cX9_told 65 = .ok (.ireturn, 1) := by decide +kernel
set_option maxRecDepth 20000 in
theorem ggX9_runner_X3_isRunner : GoodIn wsX9_runner wsX3_isRunner := goodIn_r _ [7, 8, 56, 57, 58, 59, 60, 61, 62, 63, 64] (by decide +kernel) (by decide +kernel)
set_option maxRecDepth 20000 in
theorem gX9_runner_X3_isRunner : GoodIn wsX9_runner (wsV RX9 132 RX3 yX3_isRunner wsX3_isRunner) := goodIn_app (goodIn_of _ (by decide +kernel)) ggX9_runner_X3_isRunner
set_option maxRecDepth 20000 in
theorem ggX9_runner_X3_paceOf : GoodIn wsX9_runner wsX3_paceOf := goodIn_r _ [12, 13, 56, 57, 58, 59, 60, 61, 62, 63, 64] (by decide +kernel) (by decide +kernel)
set_option maxRecDepth 20000 in
theorem gX9_runner_X3_paceOf : GoodIn wsX9_runner (wsV RX9 135 RX3 yX3_paceOf wsX3_paceOf) := goodIn_app (goodIn_of _ (by decide +kernel)) ggX9_runner_X3_paceOf
set_option maxRecDepth 20000 in
theorem ggX9_runner_X3_panOf : GoodIn wsX9_runner wsX3_panOf := goodIn_r _ [17, 18, 56, 57, 58, 59, 60, 61, 62, 63, 64] (by decide +kernel) (by decide +kernel)
set_option maxRecDepth 20000 in
theorem gX9_runner_X3_panOf : GoodIn wsX9_runner (wsV RX9 138 RX3 yX3_panOf wsX3_panOf) := goodIn_app (goodIn_of _ (by decide +kernel)) ggX9_runner_X3_panOf
set_option maxRecDepth 20000 in
theorem ggX9_runner_X7_yardOf : GoodIn wsX9_runner wsX7_yardOf := goodIn_r _ [23, 24, 65, 66, 67, 68] (by decide +kernel) (by decide +kernel)
set_option maxRecDepth 20000 in
theorem gX9_runner_X7_yardOf : GoodIn wsX9_runner (wsV RX9 141 RX7 yX7_yardOf wsX7_yardOf) := goodIn_app (goodIn_of _ (by decide +kernel)) ggX9_runner_X7_yardOf
set_option maxRecDepth 20000 in
theorem ggX9_runner_X7_beatsOf : GoodIn wsX9_runner wsX7_beatsOf := goodIn_r _ [28, 29, 65, 66, 67, 68] (by decide +kernel) (by decide +kernel)
set_option maxRecDepth 20000 in
theorem gX9_runner_X7_beatsOf : GoodIn wsX9_runner (wsV RX9 144 RX7 yX7_beatsOf wsX7_beatsOf) := goodIn_app (goodIn_of _ (by decide +kernel)) ggX9_runner_X7_beatsOf
set_option maxRecDepth 20000 in
theorem ggX9_runner_X7_goodOf : GoodIn wsX9_runner wsX7_goodOf := goodIn_r _ [33, 34, 65, 66, 67, 68] (by decide +kernel) (by decide +kernel)
set_option maxRecDepth 20000 in
theorem gX9_runner_X7_goodOf : GoodIn wsX9_runner (wsV RX9 147 RX7 yX7_goodOf wsX7_goodOf) := goodIn_app (goodIn_of _ (by decide +kernel)) ggX9_runner_X7_goodOf
set_option maxRecDepth 20000 in
theorem ggX9_runner_X9_isHome : GoodIn wsX9_runner wsX9_isHome := goodIn_r _ [39, 2, 1, 40, 41, 42, 38, 43, 19, 20, 21, 22, 23, 24, 30, 31, 32, 33, 34, 44, 45, 46, 47, 48, 49, 50, 51, 52, 53, 54, 55, 56, 57, 58, 59, 60, 61, 62, 63, 64, 65, 66, 67, 68] (by decide +kernel) (by decide +kernel)
set_option maxRecDepth 20000 in
theorem gX9_runner_X9_isHome : GoodIn wsX9_runner (wsV RX9 150 RX9 yX9_isHome wsX9_isHome) := goodIn_app (goodIn_of _ (by decide +kernel)) ggX9_runner_X9_isHome
theorem dX9_runner_0 : decode cX9_runner 0 = .ok (.aload_n 0, 1) := by decide +kernel
theorem dX9_runner_1 : decode cX9_runner 1 = .ok (.getfield 69, 3) := by decide +kernel
theorem dX9_runner_4 : decode cX9_runner 4 = .ok (.iload_n 1, 1) := by decide +kernel
theorem dX9_runner_5 : decode cX9_runner 5 = .ok (.invokevirtual 132, 3) := by decide +kernel
theorem dX9_runner_8 : decode cX9_runner 8 = .ok (.ifCond .ne 5, 3) := by decide +kernel
theorem dX9_runner_11 : decode cX9_runner 11 = .ok (.iconst (-1), 1) := by decide +kernel
theorem dX9_runner_12 : decode cX9_runner 12 = .ok (.ireturn, 1) := by decide +kernel
theorem dX9_runner_13 : decode cX9_runner 13 = .ok (.iload_n 2, 1) := by decide +kernel
theorem dX9_runner_14 : decode cX9_runner 14 = .ok (.tableswitch 97 0 5 #[38, 47, 56, 65, 74, 83], 38) := by decide +kernel
theorem dX9_runner_52 : decode cX9_runner 52 = .ok (.aload_n 0, 1) := by decide +kernel
theorem dX9_runner_53 : decode cX9_runner 53 = .ok (.getfield 69, 3) := by decide +kernel
theorem dX9_runner_56 : decode cX9_runner 56 = .ok (.iload_n 1, 1) := by decide +kernel
theorem dX9_runner_57 : decode cX9_runner 57 = .ok (.invokevirtual 135, 3) := by decide +kernel
theorem dX9_runner_60 : decode cX9_runner 60 = .ok (.ireturn, 1) := by decide +kernel
theorem dX9_runner_61 : decode cX9_runner 61 = .ok (.aload_n 0, 1) := by decide +kernel
theorem dX9_runner_62 : decode cX9_runner 62 = .ok (.getfield 69, 3) := by decide +kernel
theorem dX9_runner_65 : decode cX9_runner 65 = .ok (.iload_n 1, 1) := by decide +kernel
theorem dX9_runner_66 : decode cX9_runner 66 = .ok (.invokevirtual 138, 3) := by decide +kernel
theorem dX9_runner_69 : decode cX9_runner 69 = .ok (.ireturn, 1) := by decide +kernel
theorem dX9_runner_70 : decode cX9_runner 70 = .ok (.aload_n 0, 1) := by decide +kernel
theorem dX9_runner_71 : decode cX9_runner 71 = .ok (.getfield 24, 3) := by decide +kernel
theorem dX9_runner_74 : decode cX9_runner 74 = .ok (.iload_n 1, 1) := by decide +kernel
theorem dX9_runner_75 : decode cX9_runner 75 = .ok (.invokevirtual 141, 3) := by decide +kernel
theorem dX9_runner_78 : decode cX9_runner 78 = .ok (.ireturn, 1) := by decide +kernel
theorem dX9_runner_79 : decode cX9_runner 79 = .ok (.aload_n 0, 1) := by decide +kernel
theorem dX9_runner_80 : decode cX9_runner 80 = .ok (.getfield 24, 3) := by decide +kernel
theorem dX9_runner_83 : decode cX9_runner 83 = .ok (.iload_n 1, 1) := by decide +kernel
theorem dX9_runner_84 : decode cX9_runner 84 = .ok (.invokevirtual 144, 3) := by decide +kernel
theorem dX9_runner_87 : decode cX9_runner 87 = .ok (.ireturn, 1) := by decide +kernel
theorem dX9_runner_88 : decode cX9_runner 88 = .ok (.aload_n 0, 1) := by decide +kernel
theorem dX9_runner_89 : decode cX9_runner 89 = .ok (.getfield 24, 3) := by decide +kernel
theorem dX9_runner_92 : decode cX9_runner 92 = .ok (.iload_n 1, 1) := by decide +kernel
theorem dX9_runner_93 : decode cX9_runner 93 = .ok (.invokevirtual 147, 3) := by decide +kernel
theorem dX9_runner_96 : decode cX9_runner 96 = .ok (.ireturn, 1) := by decide +kernel
theorem dX9_runner_97 : decode cX9_runner 97 = .ok (.aload_n 0, 1) := by decide +kernel
theorem dX9_runner_98 : decode cX9_runner 98 = .ok (.iload_n 1, 1) := by decide +kernel
theorem dX9_runner_99 : decode cX9_runner 99 = .ok (.invokevirtual 150, 3) := by decide +kernel
theorem dX9_runner_102 : decode cX9_runner 102 = .ok (.ifCond .eq 7, 3) := by decide +kernel
theorem dX9_runner_105 : decode cX9_runner 105 = .ok (.iconst 1, 1) := by decide +kernel
theorem dX9_runner_106 : decode cX9_runner 106 = .ok (.goto 4, 3) := by decide +kernel
theorem dX9_runner_109 : decode cX9_runner 109 = .ok (.iconst 0, 1) := by decide +kernel
theorem dX9_runner_110 : decode cX9_runner 110 = .ok (.ireturn, 1) := by decide +kernel
theorem dX9_runner_111 : decode cX9_runner 111 = .ok (.iconst (-1), 1) := by decide +kernel
theorem dX9_runner_112 : decode cX9_runner 112 = .ok (.ireturn, 1) := by decide +kernel
set_option maxRecDepth 20000 in
theorem ggX9_comes_X3_isRunner : GoodIn wsX9_comes wsX3_isRunner := goodIn_r _ [7, 8, 90, 91, 92, 93, 94, 95, 96, 97, 98] (by decide +kernel) (by decide +kernel)
set_option maxRecDepth 20000 in
theorem gX9_comes_X3_isRunner : GoodIn wsX9_comes (wsV RX9 132 RX3 yX3_isRunner wsX3_isRunner) := goodIn_app (goodIn_of _ (by decide +kernel)) ggX9_comes_X3_isRunner
set_option maxRecDepth 20000 in
theorem ggX9_comes_X3_isYard : GoodIn wsX9_comes wsX3_isYard := goodIn_r _ [12, 13, 90, 91, 92, 93, 94, 95, 96, 97, 98] (by decide +kernel) (by decide +kernel)
set_option maxRecDepth 20000 in
theorem gX9_comes_X3_isYard : GoodIn wsX9_comes (wsV RX9 109 RX3 yX3_isYard wsX3_isYard) := goodIn_app (goodIn_of _ (by decide +kernel)) ggX9_comes_X3_isYard
set_option maxRecDepth 20000 in
theorem ggX9_comes_X9_isToss : GoodIn wsX9_comes wsX9_isToss := goodIn_r _ [17, 18, 19, 16, 20] (by decide +kernel) (by decide +kernel)
set_option maxRecDepth 20000 in
theorem gX9_comes_X9_isToss : GoodIn wsX9_comes (va_wsS RX9 153 yX9_isToss wsX9_isToss) := goodIn_app (goodIn_of _ (by decide +kernel)) ggX9_comes_X9_isToss
set_option maxRecDepth 20000 in
theorem ggX9_comes_X3_comesDown : GoodIn wsX9_comes wsX3_comesDown := goodIn_r _ [24, 25, 26, 27, 6, 28, 29, 90, 91, 92, 93, 94, 95, 96, 97, 98] (by decide +kernel) (by decide +kernel)
set_option maxRecDepth 20000 in
theorem gX9_comes_X3_comesDown : GoodIn wsX9_comes (wsV RX9 158 RX3 yX3_comesDown wsX3_comesDown) := goodIn_app (goodIn_of _ (by decide +kernel)) ggX9_comes_X3_comesDown
set_option maxRecDepth 20000 in
theorem ggX9_comes_X3_yardAfter : GoodIn wsX9_comes wsX3_yardAfter := goodIn_r _ [33, 34, 16, 35, 36, 37, 38, 6, 39, 13, 40, 41, 42, 43, 44, 45, 46, 47, 48, 90, 91, 92, 93, 94, 95, 96, 97, 98] (by decide +kernel) (by decide +kernel)
set_option maxRecDepth 20000 in
theorem gX9_comes_X3_yardAfter : GoodIn wsX9_comes (wsV RX9 162 RX3 yX3_yardAfter wsX3_yardAfter) := goodIn_app (goodIn_of _ (by decide +kernel)) ggX9_comes_X3_yardAfter
set_option maxRecDepth 20000 in
theorem ggX9_comes_X9_quarters : GoodIn wsX9_comes wsX9_quarters := goodIn_r _ [51] (by decide +kernel) (by decide +kernel)
set_option maxRecDepth 20000 in
theorem gX9_comes_X9_quarters : GoodIn wsX9_comes (va_wsS RX9 166 yX9_quarters wsX9_quarters) := goodIn_app (goodIn_of _ (by decide +kernel)) ggX9_comes_X9_quarters
set_option maxRecDepth 20000 in
theorem ggX9_comes_X9_isTurned : GoodIn wsX9_comes wsX9_isTurned := goodIn_r _ [54, 49, 50, 16, 51] (by decide +kernel) (by decide +kernel)
set_option maxRecDepth 20000 in
theorem gX9_comes_X9_isTurned : GoodIn wsX9_comes (va_wsS RX9 170 yX9_isTurned wsX9_isTurned) := goodIn_app (goodIn_of _ (by decide +kernel)) ggX9_comes_X9_isTurned
set_option maxRecDepth 20000 in
theorem ggX9_comes_X3_catchOf : GoodIn wsX9_comes wsX3_catchOf := goodIn_r _ [58, 59, 60, 42, 61, 40, 41, 43, 62, 63, 64, 65, 31, 32, 6, 33, 34, 16, 35, 36, 37, 38, 39, 13, 44, 45, 46, 47, 48, 66, 22, 23, 24, 25, 26, 27, 28, 29, 67, 68, 69, 70, 71, 50, 51, 72, 73, 74, 75, 76, 77, 10, 11, 12, 90, 91, 92, 93, 94, 95, 96, 97, 98] (by decide +kernel) (by decide +kernel)
set_option maxRecDepth 20000 in
theorem gX9_comes_X3_catchOf : GoodIn wsX9_comes (wsV RX9 174 RX3 yX3_catchOf wsX3_catchOf) := goodIn_app (goodIn_of _ (by decide +kernel)) ggX9_comes_X3_catchOf
theorem dX9_comes_0 : decode cX9_comes 0 = .ok (.aload_n 0, 1) := by decide +kernel
theorem dX9_comes_1 : decode cX9_comes 1 = .ok (.getfield 69, 3) := by decide +kernel
theorem dX9_comes_4 : decode cX9_comes 4 = .ok (.iload_n 1, 1) := by decide +kernel
theorem dX9_comes_5 : decode cX9_comes 5 = .ok (.invokevirtual 132, 3) := by decide +kernel
theorem dX9_comes_8 : decode cX9_comes 8 = .ok (.ifCond .eq 27, 3) := by decide +kernel
theorem dX9_comes_11 : decode cX9_comes 11 = .ok (.aload_n 0, 1) := by decide +kernel
theorem dX9_comes_12 : decode cX9_comes 12 = .ok (.getfield 69, 3) := by decide +kernel
theorem dX9_comes_15 : decode cX9_comes 15 = .ok (.iload_n 2, 1) := by decide +kernel
theorem dX9_comes_16 : decode cX9_comes 16 = .ok (.invokevirtual 109, 3) := by decide +kernel
theorem dX9_comes_19 : decode cX9_comes 19 = .ok (.ifCond .eq 16, 3) := by decide +kernel
theorem dX9_comes_22 : decode cX9_comes 22 = .ok (.iload_n 3, 1) := by decide +kernel
theorem dX9_comes_23 : decode cX9_comes 23 = .ok (.iload 4, 2) := by decide +kernel
theorem dX9_comes_25 : decode cX9_comes 25 = .ok (.iload 5, 2) := by decide +kernel
theorem dX9_comes_27 : decode cX9_comes 27 = .ok (.iload 6, 2) := by decide +kernel
theorem dX9_comes_29 : decode cX9_comes 29 = .ok (.invokestatic 153, 3) := by decide +kernel
theorem dX9_comes_32 : decode cX9_comes 32 = .ok (.ifCond .ne 6, 3) := by decide +kernel
theorem dX9_comes_35 : decode cX9_comes 35 = .ok (.ldc 157, 2) := by decide +kernel
theorem dX9_comes_37 : decode cX9_comes 37 = .ok (.ireturn, 1) := by decide +kernel
theorem dX9_comes_38 : decode cX9_comes 38 = .ok (.iload 7, 2) := by decide +kernel
theorem dX9_comes_40 : decode cX9_comes 40 = .ok (.tableswitch 100 0 4 #[36, 48, 61, 68, 83], 36) := by decide +kernel
theorem dX9_comes_76 : decode cX9_comes 76 = .ok (.aload_n 0, 1) := by decide +kernel
theorem dX9_comes_77 : decode cX9_comes 77 = .ok (.getfield 69, 3) := by decide +kernel
theorem dX9_comes_80 : decode cX9_comes 80 = .ok (.iload_n 2, 1) := by decide +kernel
theorem dX9_comes_81 : decode cX9_comes 81 = .ok (.iload_n 3, 1) := by decide +kernel
theorem dX9_comes_82 : decode cX9_comes 82 = .ok (.iload 4, 2) := by decide +kernel
theorem dX9_comes_84 : decode cX9_comes 84 = .ok (.invokevirtual 158, 3) := by decide +kernel
theorem dX9_comes_87 : decode cX9_comes 87 = .ok (.ireturn, 1) := by decide +kernel
theorem dX9_comes_88 : decode cX9_comes 88 = .ok (.aload_n 0, 1) := by decide +kernel
theorem dX9_comes_89 : decode cX9_comes 89 = .ok (.getfield 69, 3) := by decide +kernel
theorem dX9_comes_92 : decode cX9_comes 92 = .ok (.iload_n 1, 1) := by decide +kernel
theorem dX9_comes_93 : decode cX9_comes 93 = .ok (.iload_n 2, 1) := by decide +kernel
theorem dX9_comes_94 : decode cX9_comes 94 = .ok (.iload_n 3, 1) := by decide +kernel
theorem dX9_comes_95 : decode cX9_comes 95 = .ok (.iload 6, 2) := by decide +kernel
theorem dX9_comes_97 : decode cX9_comes 97 = .ok (.invokevirtual 162, 3) := by decide +kernel
theorem dX9_comes_100 : decode cX9_comes 100 = .ok (.ireturn, 1) := by decide +kernel
theorem dX9_comes_101 : decode cX9_comes 101 = .ok (.iload_n 3, 1) := by decide +kernel
theorem dX9_comes_102 : decode cX9_comes 102 = .ok (.iload 5, 2) := by decide +kernel
theorem dX9_comes_104 : decode cX9_comes 104 = .ok (.invokestatic 166, 3) := by decide +kernel
theorem dX9_comes_107 : decode cX9_comes 107 = .ok (.ireturn, 1) := by decide +kernel
theorem dX9_comes_108 : decode cX9_comes 108 = .ok (.iload_n 3, 1) := by decide +kernel
