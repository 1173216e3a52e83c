theorem dX9_canRead_85 : decode cX9_canRead 85 = .ok (.aload_n 0, 1) := by decide +kernel
theorem dX9_canRead_86 : decode cX9_canRead 86 = .ok (.iload 6, 2) := by decide +kernel
theorem dX9_canRead_88 : decode cX9_canRead 88 = .ok (.invokevirtual 124, 3) := by decide +kernel
theorem dX9_canRead_91 : decode cX9_canRead 91 = .ok (.ifCond .le 16, 3) := by decide +kernel
theorem dX9_canRead_94 : decode cX9_canRead 94 = .ok (.iload 4, 2) := by decide +kernel
theorem dX9_canRead_96 : decode cX9_canRead 96 = .ok (.iload_n 2, 1) := by decide +kernel
theorem dX9_canRead_97 : decode cX9_canRead 97 = .ok (.iload 5, 2) := by decide +kernel
theorem dX9_canRead_99 : decode cX9_canRead 99 = .ok (.imul, 1) := by decide +kernel
theorem dX9_canRead_100 : decode cX9_canRead 100 = .ok (.if_icmp .gt 7, 3) := by decide +kernel
theorem dX9_canRead_103 : decode cX9_canRead 103 = .ok (.iconst 1, 1) := by decide +kernel
theorem dX9_canRead_104 : decode cX9_canRead 104 = .ok (.goto 4, 3) := by decide +kernel
theorem dX9_canRead_107 : decode cX9_canRead 107 = .ok (.iconst 0, 1) := by decide +kernel
theorem dX9_canRead_108 : decode cX9_canRead 108 = .ok (.istore_n 3, 1) := by decide +kernel
theorem dX9_canRead_109 : decode cX9_canRead 109 = .ok (.iinc 6 1, 3) := by decide +kernel
theorem dX9_canRead_112 : decode cX9_canRead 112 = .ok (.goto (-92), 3) := by decide +kernel
theorem dX9_canRead_115 : decode cX9_canRead 115 = .ok (.iload_n 3, 1) := by decide +kernel
theorem dX9_canRead_116 : decode cX9_canRead 116 = .ok (.ireturn, 1) := by decide +kernel
set_option maxRecDepth 20000 in
theorem ggX9_reads_X9_in : GoodIn wsX9_reads wsX9_in := goodIn_r _ [7] (by decide +kernel) (by decide +kernel)
set_option maxRecDepth 20000 in
theorem gX9_reads_X9_in : GoodIn wsX9_reads (va_wsS RX9 56 yX9_in wsX9_in) := goodIn_app (goodIn_of _ (by decide +kernel)) ggX9_reads_X9_in
set_option maxRecDepth 20000 in
theorem ggX9_reads_X9_bad : GoodIn wsX9_reads wsX9_bad := goodIn_r _ [11, 12, 51, 52, 53, 54, 55, 56, 57, 58, 59, 60, 61, 62, 63, 64, 65, 66, 67, 68] (by decide +kernel) (by decide +kernel)
set_option maxRecDepth 20000 in
theorem gX9_reads_X9_bad : GoodIn wsX9_reads (wsV RX9 73 RX9 yX9_bad wsX9_bad) := goodIn_app (goodIn_of _ (by decide +kernel)) ggX9_reads_X9_bad
set_option maxRecDepth 20000 in
theorem ggX9_reads_X9_many : GoodIn wsX9_reads wsX9_many := goodIn_r _ [16, 3, 51, 52, 53, 54, 55, 56, 57, 58, 59, 60, 61, 62, 63, 64, 65, 66, 67, 68] (by decide +kernel) (by decide +kernel)
set_option maxRecDepth 20000 in
theorem gX9_reads_X9_many : GoodIn wsX9_reads (wsV RX9 52 RX9 yX9_many wsX9_many) := goodIn_app (goodIn_of _ (by decide +kernel)) ggX9_reads_X9_many
set_option maxRecDepth 20000 in
theorem ggX9_reads_X9_canRead : GoodIn wsX9_reads wsX9_canRead := goodIn_r _ [20, 3, 21, 22, 23, 6, 24, 13, 14, 15, 16, 25, 26, 27, 28, 29, 30, 31, 51, 52, 53, 54, 55, 56, 57, 58, 59, 60, 61, 62, 63, 64, 65, 66, 67, 68] (by decide +kernel) (by decide +kernel)
set_option maxRecDepth 20000 in
theorem gX9_reads_X9_canRead : GoodIn wsX9_reads (wsV RX9 147 RX9 yX9_canRead wsX9_canRead) := goodIn_app (goodIn_of _ (by decide +kernel)) ggX9_reads_X9_canRead
set_option maxRecDepth 20000 in
theorem ggX9_reads_X9_has : GoodIn wsX9_reads wsX9_has := goodIn_r _ [27] (by decide +kernel) (by decide +kernel)
set_option maxRecDepth 20000 in
theorem gX9_reads_X9_has : GoodIn wsX9_reads (va_wsS RX9 94 yX9_has wsX9_has) := goodIn_app (goodIn_of _ (by decide +kernel)) ggX9_reads_X9_has
set_option maxRecDepth 20000 in
theorem ggX9_reads_X9_noteOf : GoodIn wsX9_reads wsX9_noteOf := goodIn_r _ [31, 3, 51, 52, 53, 54, 55, 56, 57, 58, 59, 60, 61, 62, 63, 64, 65, 66, 67, 68] (by decide +kernel) (by decide +kernel)
set_option maxRecDepth 20000 in
theorem gX9_reads_X9_noteOf : GoodIn wsX9_reads (wsV RX9 124 RX9 yX9_noteOf wsX9_noteOf) := goodIn_app (goodIn_of _ (by decide +kernel)) ggX9_reads_X9_noteOf
set_option maxRecDepth 20000 in
theorem ggX9_reads_X9_cost : GoodIn wsX9_reads wsX9_cost := goodIn_r _ [35, 3, 36, 37, 6, 38, 39, 40, 41, 42, 43, 44, 25, 26, 27, 45, 46, 47, 48, 49, 50, 51, 52, 53, 54, 55, 56, 57, 58, 59, 60, 61, 62, 63, 64, 65, 66, 67, 68] (by decide +kernel) (by decide +kernel)
set_option maxRecDepth 20000 in
theorem gX9_reads_X9_cost : GoodIn wsX9_reads (wsV RX9 134 RX9 yX9_cost wsX9_cost) := goodIn_app (goodIn_of _ (by decide +kernel)) ggX9_reads_X9_cost
theorem dX9_reads_0 : decode cX9_reads 0 = .ok (.iload_n 1, 1) := by decide +kernel
theorem dX9_reads_1 : decode cX9_reads 1 = .ok (.i2l, 1) := by decide +kernel
theorem dX9_reads_2 : decode cX9_reads 2 = .ok (.lconst 0, 1) := by decide +kernel
theorem dX9_reads_3 : decode cX9_reads 3 = .ok (.ldc2_w 64, 3) := by decide +kernel
theorem dX9_reads_6 : decode cX9_reads 6 = .ok (.invokestatic 56, 3) := by decide +kernel
theorem dX9_reads_9 : decode cX9_reads 9 = .ok (.ifCond .eq 13, 3) := by decide +kernel
theorem dX9_reads_12 : decode cX9_reads 12 = .ok (.iload_n 2, 1) := by decide +kernel
theorem dX9_reads_13 : decode cX9_reads 13 = .ok (.i2l, 1) := by decide +kernel
theorem dX9_reads_14 : decode cX9_reads 14 = .ok (.lconst 0, 1) := by decide +kernel
theorem dX9_reads_15 : decode cX9_reads 15 = .ok (.lconst 1, 1) := by decide +kernel
theorem dX9_reads_16 : decode cX9_reads 16 = .ok (.invokestatic 56, 3) := by decide +kernel
theorem dX9_reads_19 : decode cX9_reads 19 = .ok (.ifCond .ne 10, 3) := by decide +kernel
theorem dX9_reads_22 : decode cX9_reads 22 = .ok (.aload_n 0, 1) := by decide +kernel
theorem dX9_reads_23 : decode cX9_reads 23 = .ok (.bipush (-2), 2) := by decide +kernel
theorem dX9_reads_25 : decode cX9_reads 25 = .ok (.invokevirtual 73, 3) := by decide +kernel
theorem dX9_reads_28 : decode cX9_reads 28 = .ok (.ireturn, 1) := by decide +kernel
theorem dX9_reads_29 : decode cX9_reads 29 = .ok (.iconst 0, 1) := by decide +kernel
theorem dX9_reads_30 : decode cX9_reads 30 = .ok (.istore_n 3, 1) := by decide +kernel
theorem dX9_reads_31 : decode cX9_reads 31 = .ok (.ldc 137, 2) := by decide +kernel
theorem dX9_reads_33 : decode cX9_reads 33 = .ok (.istore 4, 2) := by decide +kernel
theorem dX9_reads_35 : decode cX9_reads 35 = .ok (.iconst 0, 1) := by decide +kernel
theorem dX9_reads_36 : decode cX9_reads 36 = .ok (.istore 5, 2) := by decide +kernel
theorem dX9_reads_38 : decode cX9_reads 38 = .ok (.iload 5, 2) := by decide +kernel
theorem dX9_reads_40 : decode cX9_reads 40 = .ok (.iconst 1, 1) := by decide +kernel
theorem dX9_reads_41 : decode cX9_reads 41 = .ok (.aload_n 0, 1) := by decide +kernel
theorem dX9_reads_42 : decode cX9_reads 42 = .ok (.invokevirtual 52, 3) := by decide +kernel
theorem dX9_reads_45 : decode cX9_reads 45 = .ok (.ishl, 1) := by decide +kernel
theorem dX9_reads_46 : decode cX9_reads 46 = .ok (.if_icmp .ge 111, 3) := by decide +kernel
theorem dX9_reads_49 : decode cX9_reads 49 = .ok (.aload_n 0, 1) := by decide +kernel
theorem dX9_reads_50 : decode cX9_reads 50 = .ok (.iload 5, 2) := by decide +kernel
theorem dX9_reads_52 : decode cX9_reads 52 = .ok (.iload_n 1, 1) := by decide +kernel
theorem dX9_reads_53 : decode cX9_reads 53 = .ok (.invokevirtual 147, 3) := by decide +kernel
theorem dX9_reads_56 : decode cX9_reads 56 = .ok (.ifCond .eq 7, 3) := by decide +kernel
theorem dX9_reads_59 : decode cX9_reads 59 = .ok (.iconst 0, 1) := by decide +kernel
theorem dX9_reads_60 : decode cX9_reads 60 = .ok (.goto 5, 3) := by decide +kernel
theorem dX9_reads_63 : decode cX9_reads 63 = .ok (.ldc 137, 2) := by decide +kernel
theorem dX9_reads_65 : decode cX9_reads 65 = .ok (.istore 6, 2) := by decide +kernel
theorem dX9_reads_67 : decode cX9_reads 67 = .ok (.aload_n 0, 1) := by decide +kernel
theorem dX9_reads_68 : decode cX9_reads 68 = .ok (.getfield 7, 3) := by decide +kernel
theorem dX9_reads_71 : decode cX9_reads 71 = .ok (.iconst 4, 1) := by decide +kernel
theorem dX9_reads_72 : decode cX9_reads 72 = .ok (.iaload, 1) := by decide +kernel
theorem dX9_reads_73 : decode cX9_reads 73 = .ok (.istore 7, 2) := by decide +kernel
theorem dX9_reads_75 : decode cX9_reads 75 = .ok (.iload 7, 2) := by decide +kernel
theorem dX9_reads_77 : decode cX9_reads 77 = .ok (.aload_n 0, 1) := by decide +kernel
theorem dX9_reads_78 : decode cX9_reads 78 = .ok (.invokevirtual 52, 3) := by decide +kernel
theorem dX9_reads_81 : decode cX9_reads 81 = .ok (.if_icmp .ge 40, 3) := by decide +kernel
theorem dX9_reads_84 : decode cX9_reads 84 = .ok (.iload 6, 2) := by decide +kernel
theorem dX9_reads_86 : decode cX9_reads 86 = .ok (.aload_n 0, 1) := by decide +kernel
theorem dX9_reads_87 : decode cX9_reads 87 = .ok (.iload 7, 2) := by decide +kernel
theorem dX9_reads_89 : decode cX9_reads 89 = .ok (.iload 5, 2) := by decide +kernel
theorem dX9_reads_91 : decode cX9_reads 91 = .ok (.iload 7, 2) := by decide +kernel
theorem dX9_reads_93 : decode cX9_reads 93 = .ok (.invokestatic 94, 3) := by decide +kernel
theorem dX9_reads_96 : decode cX9_reads 96 = .ok (.ifCond .eq 12, 3) := by decide +kernel
theorem dX9_reads_99 : decode cX9_reads 99 = .ok (.aload_n 0, 1) := by decide +kernel
theorem dX9_reads_100 : decode cX9_reads 100 = .ok (.iload 7, 2) := by decide +kernel
theorem dX9_reads_102 : decode cX9_reads 102 = .ok (.invokevirtual 124, 3) := by decide +kernel
theorem dX9_reads_105 : decode cX9_reads 105 = .ok (.goto 4, 3) := by decide +kernel
theorem dX9_reads_108 : decode cX9_reads 108 = .ok (.iconst 0, 1) := by decide +kernel
theorem dX9_reads_109 : decode cX9_reads 109 = .ok (.invokevirtual 134, 3) := by decide +kernel
theorem dX9_reads_112 : decode cX9_reads 112 = .ok (.iadd, 1) := by decide +kernel
theorem dX9_reads_113 : decode cX9_reads 113 = .ok (.istore 6, 2) := by decide +kernel
theorem dX9_reads_115 : decode cX9_reads 115 = .ok (.iinc 7 1, 3) := by decide +kernel
theorem dX9_reads_118 : decode cX9_reads 118 = .ok (.goto (-43), 3) := by decide +kernel
theorem dX9_reads_121 : decode cX9_reads 121 = .ok (.iload 6, 2) := by decide +kernel
theorem dX9_reads_123 : decode cX9_reads 123 = .ok (.iload 4, 2) := by decide +kernel
theorem dX9_reads_125 : decode cX9_reads 125 = .ok (.if_icmp .ge 8, 3) := by decide +kernel
theorem dX9_reads_128 : decode cX9_reads 128 = .ok (.iload 5, 2) := by decide +kernel
theorem dX9_reads_130 : decode cX9_reads 130 = .ok (.goto 4, 3) := by decide +kernel
theorem dX9_reads_133 : decode cX9_reads 133 = .ok (.iload_n 3, 1) := by decide +kernel
theorem dX9_reads_134 : decode cX9_reads 134 = .ok (.istore_n 3, 1) := by decide +kernel
theorem dX9_reads_135 : decode cX9_reads 135 = .ok (.iload 6, 2) := by decide +kernel
theorem dX9_reads_137 : decode cX9_reads 137 = .ok (.iload 4, 2) := by decide +kernel
theorem dX9_reads_139 : decode cX9_reads 139 = .ok (.if_icmp .ge 8, 3) := by decide +kernel
theorem dX9_reads_142 : decode cX9_reads 142 = .ok (.iload 6, 2) := by decide +kernel
theorem dX9_reads_144 : decode cX9_reads 144 = .ok (.goto 5, 3) := by decide +kernel
theorem dX9_reads_147 : decode cX9_reads 147 = .ok (.iload 4, 2) := by decide +kernel
theorem dX9_reads_149 : decode cX9_reads 149 = .ok (.istore 4, 2) := by decide +kernel
theorem dX9_reads_151 : decode cX9_reads 151 = .ok (.iinc 5 1, 3) := by decide +kernel
theorem dX9_reads_154 : decode cX9_reads 154 = .ok (.goto (-116), 3) := by decide +kernel
theorem dX9_reads_157 : decode cX9_reads 157 = .ok (.iload_n 2, 1) := by decide +kernel
theorem dX9_reads_158 : decode cX9_reads 158 = .ok (.ifCond .ne 7, 3) := by decide +kernel
theorem dX9_reads_161 : decode cX9_reads 161 = .ok (.iload_n 3, 1) := by decide +kernel
theorem dX9_reads_162 : decode cX9_reads 162 = .ok (.goto 5, 3) := by decide +kernel
theorem dX9_reads_165 : decode cX9_reads 165 = .ok (.iload 4, 2) := by decide +kernel
theorem dX9_reads_167 : decode cX9_reads 167 = .ok (.ireturn, 1) := by decide +kernel
set_option maxRecDepth 20000 in
theorem ggX9_wrong_X9_isBend : GoodIn wsX9_wrong wsX9_isBend := goodIn_r _ [5, 6, 7, 8, 4, 9, 10, 11, 12, 13, 45, 46, 47, 48, 49, 50, 51, 52, 53, 54, 55, 56, 57, 58, 59, 60, 61, 62] (by decide +kernel) (by decide +kernel)
set_option maxRecDepth 20000 in
theorem gX9_wrong_X9_isBend : GoodIn wsX9_wrong (wsV RX9 87 RX9 yX9_isBend wsX9_isBend) := goodIn_app (goodIn_of _ (by decide +kernel)) ggX9_wrong_X9_isBend
set_option maxRecDepth 20000 in
theorem ggX9_wrong_X9_noteOf : GoodIn wsX9_wrong wsX9_noteOf := goodIn_r _ [17, 10, 45, 46, 47, 48, 49, 50, 51, 52, 53, 54, 55, 56, 57, 58, 59, 60, 61, 62] (by decide +kernel) (by decide +kernel)
set_option maxRecDepth 20000 in
theorem gX9_wrong_X9_noteOf : GoodIn wsX9_wrong (wsV RX9 124 RX9 yX9_noteOf wsX9_noteOf) := goodIn_app (goodIn_of _ (by decide +kernel)) ggX9_wrong_X9_noteOf
set_option maxRecDepth 20000 in
theorem ggX9_wrong_X9_cost : GoodIn wsX9_wrong wsX9_cost := goodIn_r _ [21, 10, 22, 23, 4, 24, 25, 26, 27, 28, 29, 30, 31, 32, 33, 34, 35, 36, 37, 38, 39, 45, 46, 47, 48, 49, 50, 51, 52, 53, 54, 55, 56, 57, 58, 59, 60, 61, 62] (by decide +kernel) (by decide +kernel)
set_option maxRecDepth 20000 in
theorem gX9_wrong_X9_cost : GoodIn wsX9_wrong (wsV RX9 134 RX9 yX9_cost wsX9_cost) := goodIn_app (goodIn_of _ (by decide +kernel)) ggX9_wrong_X9_cost
set_option maxRecDepth 20000 in
theorem ggX9_wrong_X9_bad : GoodIn wsX9_wrong wsX9_bad := goodIn_r _ [43, 44, 45, 46, 47, 48, 49, 50, 51, 52, 53, 54, 55, 56, 57, 58, 59, 60, 61, 62] (by decide +kernel) (by decide +kernel)
set_option maxRecDepth 20000 in
theorem gX9_wrong_X9_bad : GoodIn wsX9_wrong (wsV RX9 73 RX9 yX9_bad wsX9_bad) := goodIn_app (goodIn_of _ (by decide +kernel)) ggX9_wrong_X9_bad
theorem dX9_wrong_0 : decode cX9_wrong 0 = .ok (.aload_n 0, 1) := by decide +kernel
theorem dX9_wrong_1 : decode cX9_wrong 1 = .ok (.iload_n 1, 1) := by decide +kernel
theorem dX9_wrong_2 : decode cX9_wrong 2 = .ok (.invokevirtual 87, 3) := by decide +kernel
theorem dX9_wrong_5 : decode cX9_wrong 5 = .ok (.ifCond .eq 23, 3) := by decide +kernel
theorem dX9_wrong_8 : decode cX9_wrong 8 = .ok (.aload_n 0, 1) := by decide +kernel
theorem dX9_wrong_9 : decode cX9_wrong 9 = .ok (.iload_n 1, 1) := by decide +kernel
theorem dX9_wrong_10 : decode cX9_wrong 10 = .ok (.aload_n 0, 1) := by decide +kernel
theorem dX9_wrong_11 : decode cX9_wrong 11 = .ok (.iload_n 1, 1) := by decide +kernel
theorem dX9_wrong_12 : decode cX9_wrong 12 = .ok (.invokevirtual 124, 3) := by decide +kernel
theorem dX9_wrong_15 : decode cX9_wrong 15 = .ok (.invokevirtual 134, 3) := by decide +kernel
theorem dX9_wrong_18 : decode cX9_wrong 18 = .ok (.aload_n 0, 1) := by decide +kernel
theorem dX9_wrong_19 : decode cX9_wrong 19 = .ok (.iload_n 1, 1) := by decide +kernel
theorem dX9_wrong_20 : decode cX9_wrong 20 = .ok (.iconst 0, 1) := by decide +kernel
theorem dX9_wrong_21 : decode cX9_wrong 21 = .ok (.invokevirtual 134, 3) := by decide +kernel
theorem dX9_wrong_24 : decode cX9_wrong 24 = .ok (.isub, 1) := by decide +kernel
theorem dX9_wrong_25 : decode cX9_wrong 25 = .ok (.goto 10, 3) := by decide +kernel
theorem dX9_wrong_28 : decode cX9_wrong 28 = .ok (.aload_n 0, 1) := by decide +kernel
theorem dX9_wrong_29 : decode cX9_wrong 29 = .ok (.sipush (-1000), 3) := by decide +kernel
theorem dX9_wrong_32 : decode cX9_wrong 32 = .ok (.invokevirtual 73, 3) := by decide +kernel
theorem dX9_wrong_35 : decode cX9_wrong 35 = .ok (.ireturn, 1) := by decide +kernel
set_option maxRecDepth 20000 in
theorem ggX9_turned_X9_many : GoodIn wsX9_turned wsX9_many := goodIn_r _ [5, 6, 33, 34, 35, 36, 37, 38, 39, 40, 41, 42, 43, 44, 45, 46, 47, 48, 49, 50] (by decide +kernel) (by decide +kernel)
set_option maxRecDepth 20000 in
theorem gX9_turned_X9_many : GoodIn wsX9_turned (wsV RX9 52 RX9 yX9_many wsX9_many) := goodIn_app (goodIn_of _ (by decide +kernel)) ggX9_turned_X9_many
set_option maxRecDepth 20000 in
theorem ggX9_turned_X9_noteOf : GoodIn wsX9_turned wsX9_noteOf := goodIn_r _ [10, 6, 33, 34, 35, 36, 37, 38, 39, 40, 41, 42, 43, 44, 45, 46, 47, 48, 49, 50] (by decide +kernel) (by decide +kernel)
set_option maxRecDepth 20000 in
theorem gX9_turned_X9_noteOf : GoodIn wsX9_turned (wsV RX9 124 RX9 yX9_noteOf wsX9_noteOf) := goodIn_app (goodIn_of _ (by decide +kernel)) ggX9_turned_X9_noteOf
set_option maxRecDepth 20000 in
theorem ggX9_turned_X9_cost : GoodIn wsX9_turned wsX9_cost := goodIn_r _ [14, 6, 15, 16, 4, 17, 18, 19, 20, 21, 22, 23, 24, 25, 26, 27, 28, 29, 30, 31, 32, 33, 34, 35, 36, 37, 38, 39, 40, 41, 42, 43, 44, 45, 46, 47, 48, 49, 50] (by decide +kernel) (by decide +kernel)
set_option maxRecDepth 20000 in
theorem gX9_turned_X9_cost : GoodIn wsX9_turned (wsV RX9 134 RX9 yX9_cost wsX9_cost) := goodIn_app (goodIn_of _ (by decide +kernel)) ggX9_turned_X9_cost
theorem dX9_turned_0 : decode cX9_turned 0 = .ok (.iconst (-1), 1) := by decide +kernel
theorem dX9_turned_1 : decode cX9_turned 1 = .ok (.istore_n 1, 1) := by decide +kernel
theorem dX9_turned_2 : decode cX9_turned 2 = .ok (.iconst 0, 1) := by decide +kernel
theorem dX9_turned_3 : decode cX9_turned 3 = .ok (.istore_n 2, 1) := by decide +kernel
theorem dX9_turned_4 : decode cX9_turned 4 = .ok (.iconst 0, 1) := by decide +kernel
theorem dX9_turned_5 : decode cX9_turned 5 = .ok (.istore_n 3, 1) := by decide +kernel
theorem dX9_turned_6 : decode cX9_turned 6 = .ok (.iload_n 3, 1) := by decide +kernel
theorem dX9_turned_7 : decode cX9_turned 7 = .ok (.iconst 1, 1) := by decide +kernel
theorem dX9_turned_8 : decode cX9_turned 8 = .ok (.iadd, 1) := by decide +kernel
theorem dX9_turned_9 : decode cX9_turned 9 = .ok (.aload_n 0, 1) := by decide +kernel
theorem dX9_turned_10 : decode cX9_turned 10 = .ok (.invokevirtual 52, 3) := by decide +kernel
theorem dX9_turned_13 : decode cX9_turned 13 = .ok (.if_icmp .ge 87, 3) := by decide +kernel
theorem dX9_turned_16 : decode cX9_turned 16 = .ok (.aload_n 0, 1) := by decide +kernel
theorem dX9_turned_17 : decode cX9_turned 17 = .ok (.iload_n 3, 1) := by decide +kernel
theorem dX9_turned_18 : decode cX9_turned 18 = .ok (.aload_n 0, 1) := by decide +kernel
theorem dX9_turned_19 : decode cX9_turned 19 = .ok (.iload_n 3, 1) := by decide +kernel
theorem dX9_turned_20 : decode cX9_turned 20 = .ok (.invokevirtual 124, 3) := by decide +kernel
theorem dX9_turned_23 : decode cX9_turned 23 = .ok (.invokevirtual 134, 3) := by decide +kernel
theorem dX9_turned_26 : decode cX9_turned 26 = .ok (.aload_n 0, 1) := by decide +kernel
theorem dX9_turned_27 : decode cX9_turned 27 = .ok (.iload_n 3, 1) := by decide +kernel
theorem dX9_turned_28 : decode cX9_turned 28 = .ok (.iconst 1, 1) := by decide +kernel
theorem dX9_turned_29 : decode cX9_turned 29 = .ok (.iadd, 1) := by decide +kernel
theorem dX9_turned_30 : decode cX9_turned 30 = .ok (.aload_n 0, 1) := by decide +kernel
theorem dX9_turned_31 : decode cX9_turned 31 = .ok (.iload_n 3, 1) := by decide +kernel
theorem dX9_turned_32 : decode cX9_turned 32 = .ok (.iconst 1, 1) := by decide +kernel
theorem dX9_turned_33 : decode cX9_turned 33 = .ok (.iadd, 1) := by decide +kernel
theorem dX9_turned_34 : decode cX9_turned 34 = .ok (.invokevirtual 124, 3) := by decide +kernel
theorem dX9_turned_37 : decode cX9_turned 37 = .ok (.invokevirtual 134, 3) := by decide +kernel
theorem dX9_turned_40 : decode cX9_turned 40 = .ok (.iadd, 1) := by decide +kernel
theorem dX9_turned_41 : decode cX9_turned 41 = .ok (.aload_n 0, 1) := by decide +kernel
theorem dX9_turned_42 : decode cX9_turned 42 = .ok (.iload_n 3, 1) := by decide +kernel
theorem dX9_turned_43 : decode cX9_turned 43 = .ok (.aload_n 0, 1) := by decide +kernel
theorem dX9_turned_44 : decode cX9_turned 44 = .ok (.iload_n 3, 1) := by decide +kernel
theorem dX9_turned_45 : decode cX9_turned 45 = .ok (.iconst 1, 1) := by decide +kernel
theorem dX9_turned_46 : decode cX9_turned 46 = .ok (.iadd, 1) := by decide +kernel
theorem dX9_turned_47 : decode cX9_turned 47 = .ok (.invokevirtual 124, 3) := by decide +kernel
theorem dX9_turned_50 : decode cX9_turned 50 = .ok (.invokevirtual 134, 3) := by decide +kernel
theorem dX9_turned_53 : decode cX9_turned 53 = .ok (.isub, 1) := by decide +kernel
theorem dX9_turned_54 : decode cX9_turned 54 = .ok (.aload_n 0, 1) := by decide +kernel
theorem dX9_turned_55 : decode cX9_turned 55 = .ok (.iload_n 3, 1) := by decide +kernel
theorem dX9_turned_56 : decode cX9_turned 56 = .ok (.iconst 1, 1) := by decide +kernel
theorem dX9_turned_57 : decode cX9_turned 57 = .ok (.iadd, 1) := by decide +kernel
theorem dX9_turned_58 : decode cX9_turned 58 = .ok (.aload_n 0, 1) := by decide +kernel
theorem dX9_turned_59 : decode cX9_turned 59 = .ok (.iload_n 3, 1) := by decide +kernel
theorem dX9_turned_60 : decode cX9_turned 60 = .ok (.invokevirtual 124, 3) := by decide +kernel
theorem dX9_turned_63 : decode cX9_turned 63 = .ok (.invokevirtual 134, 3) := by decide +kernel
theorem dX9_turned_66 : decode cX9_turned 66 = .ok (.isub, 1) := by decide +kernel
theorem dX9_turned_67 : decode cX9_turned 67 = .ok (.istore 4, 2) := by decide +kernel
theorem dX9_turned_69 : decode cX9_turned 69 = .ok (.iload 4, 2) := by decide +kernel
theorem dX9_turned_71 : decode cX9_turned 71 = .ok (.iload_n 2, 1) := by decide +kernel
theorem dX9_turned_72 : decode cX9_turned 72 = .ok (.if_icmp .le 7, 3) := by decide +kernel
theorem dX9_turned_75 : decode cX9_turned 75 = .ok (.iload_n 3, 1) := by decide +kernel
theorem dX9_turned_76 : decode cX9_turned 76 = .ok (.goto 4, 3) := by decide +kernel
theorem dX9_turned_79 : decode cX9_turned 79 = .ok (.iload_n 1, 1) := by decide +kernel
theorem dX9_turned_80 : decode cX9_turned 80 = .ok (.istore_n 1, 1) := by decide +kernel
theorem dX9_turned_81 : decode cX9_turned 81 = .ok (.iload 4, 2) := by decide +kernel
theorem dX9_turned_83 : decode cX9_turned 83 = .ok (.iload_n 2, 1) := by decide +kernel
theorem dX9_turned_84 : decode cX9_turned 84 = .ok (.if_icmp .le 8, 3) := by decide +kernel
theorem dX9_turned_87 : decode cX9_turned 87 = .ok (.iload 4, 2) := by decide +kernel
theorem dX9_turned_89 : decode cX9_turned 89 = .ok (.goto 4, 3) := by decide +kernel
theorem dX9_turned_92 : decode cX9_turned 92 = .ok (.iload_n 2, 1) := by decide +kernel
theorem dX9_turned_93 : decode cX9_turned 93 = .ok (.istore_n 2, 1) := by decide +kernel
theorem dX9_turned_94 : decode cX9_turned 94 = .ok (.iinc 3 1, 3) := by decide +kernel
theorem dX9_turned_97 : decode cX9_turned 97 = .ok (.goto (-91), 3) := by decide +kernel
theorem dX9_turned_100 : decode cX9_turned 100 = .ok (.iload_n 1, 1) := by decide +kernel
theorem dX9_turned_101 : decode cX9_turned 101 = .ok (.ireturn, 1) := by decide +kernel
set_option maxRecDepth 20000 in
theorem ggX9_felt_X9_in : GoodIn wsX9_felt wsX9_in := goodIn_r _ [6] (by decide +kernel) (by decide +kernel)
set_option maxRecDepth 20000 in
theorem gX9_felt_X9_in : GoodIn wsX9_felt (va_wsS RX9 56 yX9_in wsX9_in) := goodIn_app (goodIn_of _ (by decide +kernel)) ggX9_felt_X9_in
set_option maxRecDepth 20000 in
theorem ggX9_felt_X9_bad : GoodIn wsX9_felt wsX9_bad := goodIn_r _ [10, 11, 16, 17, 18, 19, 20, 21, 22, 23, 24, 25, 26, 27, 28, 29, 30, 31, 32, 33] (by decide +kernel) (by decide +kernel)
set_option maxRecDepth 20000 in
theorem gX9_felt_X9_bad : GoodIn wsX9_felt (wsV RX9 73 RX9 yX9_bad wsX9_bad) := goodIn_app (goodIn_of _ (by decide +kernel)) ggX9_felt_X9_bad
set_option maxRecDepth 20000 in
theorem ggX9_felt_X9_full : GoodIn wsX9_felt wsX9_full := goodIn_r _ [15, 11, 16, 17, 18, 19, 20, 21, 22, 23, 24, 25, 26, 27, 28, 29, 30, 31, 32, 33] (by decide +kernel) (by decide +kernel)
set_option maxRecDepth 20000 in
theorem gX9_felt_X9_full : GoodIn wsX9_felt (wsV RX9 80 RX9 yX9_full wsX9_full) := goodIn_app (goodIn_of _ (by decide +kernel)) ggX9_felt_X9_full
theorem dX9_felt_0 : decode cX9_felt 0 = .ok (.iload_n 1, 1) := by decide +kernel
theorem dX9_felt_1 : decode cX9_felt 1 = .ok (.i2l, 1) := by decide +kernel
theorem dX9_felt_2 : decode cX9_felt 2 = .ok (.lconst 1, 1) := by decide +kernel
theorem dX9_felt_3 : decode cX9_felt 3 = .ok (.ldc2_w 62, 3) := by decide +kernel
theorem dX9_felt_6 : decode cX9_felt 6 = .ok (.invokestatic 56, 3) := by decide +kernel
theorem dX9_felt_9 : decode cX9_felt 9 = .ok (.ifCond .ne 10, 3) := by decide +kernel
theorem dX9_felt_12 : decode cX9_felt 12 = .ok (.aload_n 0, 1) := by decide +kernel
theorem dX9_felt_13 : decode cX9_felt 13 = .ok (.bipush (-2), 2) := by decide +kernel
theorem dX9_felt_15 : decode cX9_felt 15 = .ok (.invokevirtual 73, 3) := by decide +kernel
theorem dX9_felt_18 : decode cX9_felt 18 = .ok (.ireturn, 1) := by decide +kernel
theorem dX9_felt_19 : decode cX9_felt 19 = .ok (.aload_n 0, 1) := by decide +kernel
theorem dX9_felt_20 : decode cX9_felt 20 = .ok (.getfield 7, 3) := by decide +kernel
theorem dX9_felt_23 : decode cX9_felt 23 = .ok (.iconst 1, 1) := by decide +kernel
theorem dX9_felt_24 : decode cX9_felt 24 = .ok (.iaload, 1) := by decide +kernel
theorem dX9_felt_25 : decode cX9_felt 25 = .ok (.iconst 3, 1) := by decide +kernel
theorem dX9_felt_26 : decode cX9_felt 26 = .ok (.if_icmp .ne 8, 3) := by decide +kernel
theorem dX9_felt_29 : decode cX9_felt 29 = .ok (.aload_n 0, 1) := by decide +kernel
theorem dX9_felt_30 : decode cX9_felt 30 = .ok (.invokevirtual 80, 3) := by decide +kernel
theorem dX9_felt_33 : decode cX9_felt 33 = .ok (.ireturn, 1) := by decide +kernel
theorem dX9_felt_34 : decode cX9_felt 34 = .ok (.aload_n 0, 1) := by decide +kernel
theorem dX9_felt_35 : decode cX9_felt 35 = .ok (.getfield 7, 3) := by decide +kernel
theorem dX9_felt_38 : decode cX9_felt 38 = .ok (.bipush 42, 2) := by decide +kernel
theorem dX9_felt_40 : decode cX9_felt 40 = .ok (.aload_n 0, 1) := by decide +kernel
theorem dX9_felt_41 : decode cX9_felt 41 = .ok (.getfield 7, 3) := by decide +kernel
theorem dX9_felt_44 : decode cX9_felt 44 = .ok (.iconst 1, 1) := by decide +kernel
theorem dX9_felt_45 : decode cX9_felt 45 = .ok (.iaload, 1) := by decide +kernel
theorem dX9_felt_46 : decode cX9_felt 46 = .ok (.iadd, 1) := by decide +kernel
theorem dX9_felt_47 : decode cX9_felt 47 = .ok (.iload_n 1, 1) := by decide +kernel
theorem dX9_felt_48 : decode cX9_felt 48 = .ok (.iastore, 1) := by decide +kernel
theorem dX9_felt_49 : decode cX9_felt 49 = .ok (.aload_n 0, 1) := by decide +kernel
theorem dX9_felt_50 : decode cX9_felt 50 = .ok (.getfield 7, 3) := by decide +kernel
theorem dX9_felt_53 : decode cX9_felt 53 = .ok (.iconst 1, 1) := by decide +kernel
theorem dX9_felt_54 : decode cX9_felt 54 = .ok (.dup2, 1) := by decide +kernel
theorem dX9_felt_55 : decode cX9_felt 55 = .ok (.iaload, 1) := by decide +kernel
theorem dX9_felt_56 : decode cX9_felt 56 = .ok (.iconst 1, 1) := by decide +kernel
theorem dX9_felt_57 : decode cX9_felt 57 = .ok (.iadd, 1) := by decide +kernel
theorem dX9_felt_58 : decode cX9_felt 58 = .ok (.iastore, 1) := by decide +kernel
theorem dX9_felt_59 : decode cX9_felt 59 = .ok (.aload_n 0, 1) := by decide +kernel
theorem dX9_felt_60 : decode cX9_felt 60 = .ok (.getfield 7, 3) := by decide +kernel
theorem dX9_felt_63 : decode cX9_felt 63 = .ok (.iconst 1, 1) := by decide +kernel
theorem dX9_felt_64 : decode cX9_felt 64 = .ok (.iaload, 1) := by decide +kernel
theorem dX9_felt_65 : decode cX9_felt 65 = .ok (.ireturn, 1) := by decide +kernel
set_option maxRecDepth 20000 in
theorem ggX9_places_X9_many : GoodIn wsX9_places wsX9_many := goodIn_r _ [6, 1, 10, 11, 12, 13, 14, 15, 16, 17, 18, 19, 20, 21, 22, 23, 24, 25, 26, 27] (by decide +kernel) (by decide +kernel)
set_option maxRecDepth 20000 in
theorem gX9_places_X9_many : GoodIn wsX9_places (wsV RX9 52 RX9 yX9_many wsX9_many) := goodIn_app (goodIn_of _ (by decide +kernel)) ggX9_places_X9_many
set_option maxRecDepth 20000 in
theorem ggX9_places_X9_holdsOf : GoodIn wsX9_places wsX9_holdsOf := goodIn_r _ [9] (by decide +kernel) (by decide +kernel)
set_option maxRecDepth 20000 in
theorem gX9_places_X9_holdsOf : GoodIn wsX9_places (va_wsS RX9 90 yX9_holdsOf wsX9_holdsOf) := goodIn_app (goodIn_of _ (by decide +kernel)) ggX9_places_X9_holdsOf
theorem dX9_places_0 : decode cX9_places 0 = .ok (.iconst 0, 1) := by decide +kernel
theorem dX9_places_1 : decode cX9_places 1 = .ok (.istore_n 1, 1) := by decide +kernel
theorem dX9_places_2 : decode cX9_places 2 = .ok (.iconst 0, 1) := by decide +kernel
theorem dX9_places_3 : decode cX9_places 3 = .ok (.istore_n 2, 1) := by decide +kernel
theorem dX9_places_4 : decode cX9_places 4 = .ok (.iload_n 2, 1) := by decide +kernel
theorem dX9_places_5 : decode cX9_places 5 = .ok (.aload_n 0, 1) := by decide +kernel
theorem dX9_places_6 : decode cX9_places 6 = .ok (.invokevirtual 52, 3) := by decide +kernel
theorem dX9_places_9 : decode cX9_places 9 = .ok (.if_icmp .ge 111, 3) := by decide +kernel
theorem dX9_places_12 : decode cX9_places 12 = .ok (.iload_n 2, 1) := by decide +kernel
theorem dX9_places_13 : decode cX9_places 13 = .ok (.aload_n 0, 1) := by decide +kernel
theorem dX9_places_14 : decode cX9_places 14 = .ok (.getfield 7, 3) := by decide +kernel
theorem dX9_places_17 : decode cX9_places 17 = .ok (.iconst 1, 1) := by decide +kernel
theorem dX9_places_18 : decode cX9_places 18 = .ok (.iaload, 1) := by decide +kernel
theorem dX9_places_19 : decode cX9_places 19 = .ok (.isub, 1) := by decide +kernel
theorem dX9_places_20 : decode cX9_places 20 = .ok (.iconst 1, 1) := by decide +kernel
theorem dX9_places_21 : decode cX9_places 21 = .ok (.iadd, 1) := by decide +kernel
theorem dX9_places_22 : decode cX9_places 22 = .ok (.istore_n 3, 1) := by decide +kernel
theorem dX9_places_23 : decode cX9_places 23 = .ok (.iload_n 3, 1) := by decide +kernel
theorem dX9_places_24 : decode cX9_places 24 = .ok (.ifCond .ge 12, 3) := by decide +kernel
theorem dX9_places_27 : decode cX9_places 27 = .ok (.aload_n 0, 1) := by decide +kernel
theorem dX9_places_28 : decode cX9_places 28 = .ok (.getfield 7, 3) := by decide +kernel
theorem dX9_places_31 : decode cX9_places 31 = .ok (.iconst 1, 1) := by decide +kernel
theorem dX9_places_32 : decode cX9_places 32 = .ok (.iaload, 1) := by decide +kernel
theorem dX9_places_33 : decode cX9_places 33 = .ok (.ifCond .ne 7, 3) := by decide +kernel
theorem dX9_places_36 : decode cX9_places 36 = .ok (.iconst 1, 1) := by decide +kernel
theorem dX9_places_37 : decode cX9_places 37 = .ok (.goto 4, 3) := by decide +kernel
theorem dX9_places_40 : decode cX9_places 40 = .ok (.iconst 0, 1) := by decide +kernel
theorem dX9_places_41 : decode cX9_places 41 = .ok (.istore 4, 2) := by decide +kernel
theorem dX9_places_43 : decode cX9_places 43 = .ok (.iconst 0, 1) := by decide +kernel
theorem dX9_places_44 : decode cX9_places 44 = .ok (.istore 5, 2) := by decide +kernel
theorem dX9_places_46 : decode cX9_places 46 = .ok (.iload 5, 2) := by decide +kernel
theorem dX9_places_48 : decode cX9_places 48 = .ok (.aload_n 0, 1) := by decide +kernel
theorem dX9_places_49 : decode cX9_places 49 = .ok (.getfield 7, 3) := by decide +kernel
theorem dX9_places_52 : decode cX9_places 52 = .ok (.iconst 1, 1) := by decide +kernel
theorem dX9_places_53 : decode cX9_places 53 = .ok (.iaload, 1) := by decide +kernel
theorem dX9_places_54 : decode cX9_places 54 = .ok (.if_icmp .ge 45, 3) := by decide +kernel
theorem dX9_places_57 : decode cX9_places 57 = .ok (.iload 4, 2) := by decide +kernel
theorem dX9_places_59 : decode cX9_places 59 = .ok (.ifCond .eq 40, 3) := by decide +kernel
theorem dX9_places_62 : decode cX9_places 62 = .ok (.aload_n 0, 1) := by decide +kernel
theorem dX9_places_63 : decode cX9_places 63 = .ok (.getfield 7, 3) := by decide +kernel
theorem dX9_places_66 : decode cX9_places 66 = .ok (.iload_n 3, 1) := by decide +kernel
theorem dX9_places_67 : decode cX9_places 67 = .ok (.iload 5, 2) := by decide +kernel
theorem dX9_places_69 : decode cX9_places 69 = .ok (.iadd, 1) := by decide +kernel
theorem dX9_places_70 : decode cX9_places 70 = .ok (.invokestatic 90, 3) := by decide +kernel
theorem dX9_places_73 : decode cX9_places 73 = .ok (.aload_n 0, 1) := by decide +kernel
theorem dX9_places_74 : decode cX9_places 74 = .ok (.getfield 7, 3) := by decide +kernel
theorem dX9_places_77 : decode cX9_places 77 = .ok (.bipush 42, 2) := by decide +kernel
theorem dX9_places_79 : decode cX9_places 79 = .ok (.iload 5, 2) := by decide +kernel
theorem dX9_places_81 : decode cX9_places 81 = .ok (.iadd, 1) := by decide +kernel
theorem dX9_places_82 : decode cX9_places 82 = .ok (.iaload, 1) := by decide +kernel
theorem dX9_places_83 : decode cX9_places 83 = .ok (.if_icmp .ne 7, 3) := by decide +kernel
theorem dX9_places_86 : decode cX9_places 86 = .ok (.iconst 1, 1) := by decide +kernel
theorem dX9_places_87 : decode cX9_places 87 = .ok (.goto 4, 3) := by decide +kernel
theorem dX9_places_90 : decode cX9_places 90 = .ok (.iconst 0, 1) := by decide +kernel
theorem dX9_places_91 : decode cX9_places 91 = .ok (.istore 4, 2) := by decide +kernel
theorem dX9_places_93 : decode cX9_places 93 = .ok (.iinc 5 1, 3) := by decide +kernel
theorem dX9_places_96 : decode cX9_places 96 = .ok (.goto (-50), 3) := by decide +kernel
theorem dX9_places_99 : decode cX9_places 99 = .ok (.iload_n 1, 1) := by decide +kernel
theorem dX9_places_100 : decode cX9_places 100 = .ok (.iload 4, 2) := by decide +kernel
theorem dX9_places_102 : decode cX9_places 102 = .ok (.ifCond .eq 9, 3) := by decide +kernel
theorem dX9_places_105 : decode cX9_places 105 = .ok (.iconst 1, 1) := by decide +kernel
theorem dX9_places_106 : decode cX9_places 106 = .ok (.iload_n 2, 1) := by decide +kernel
theorem dX9_places_107 : decode cX9_places 107 = .ok (.ishl, 1) := by decide +kernel
theorem dX9_places_108 : decode cX9_places 108 = .ok (.goto 4, 3) := by decide +kernel
theorem dX9_places_111 : decode cX9_places 111 = .ok (.iconst 0, 1) := by decide +kernel
theorem dX9_places_112 : decode cX9_places 112 = .ok (.ior, 1) := by decide +kernel
theorem dX9_places_113 : decode cX9_places 113 = .ok (.istore_n 1, 1) := by decide +kernel
theorem dX9_places_114 : decode cX9_places 114 = .ok (.iinc 2 1, 3) := by decide +kernel
theorem dX9_places_117 : decode cX9_places 117 = .ok (.goto (-113), 3) := by decide +kernel
theorem dX9_places_120 : decode cX9_places 120 = .ok (.iload_n 1, 1) := by decide +kernel
theorem dX9_places_121 : decode cX9_places 121 = .ok (.ireturn, 1) := by decide +kernel
set_option maxRecDepth 20000 in
theorem ggX9_where_X9_places : GoodIn wsX9_where wsX9_places := goodIn_r _ [5, 6, 7, 8, 9, 4, 10, 11, 12, 13, 14, 15, 16, 17, 18, 19, 20, 21, 22, 23, 24, 25, 26, 27, 28, 29, 30, 31] (by decide +kernel) (by decide +kernel)
set_option maxRecDepth 20000 in
theorem gX9_where_X9_places : GoodIn wsX9_where (wsV RX9 150 RX9 yX9_places wsX9_places) := goodIn_app (goodIn_of _ (by decide +kernel)) ggX9_where_X9_places
theorem dX9_where_0 : decode cX9_where 0 = .ok (.aload_n 0, 1) := by decide +kernel
theorem dX9_where_1 : decode cX9_where 1 = .ok (.invokevirtual 150, 3) := by decide +kernel
theorem dX9_where_4 : decode cX9_where 4 = .ok (.ireturn, 1) := by decide +kernel
set_option maxRecDepth 20000 in
theorem ggX9_next_X9_places : GoodIn wsX9_next wsX9_places := goodIn_r _ [6, 1, 7, 8, 9, 5, 10, 11, 12, 13, 20, 21, 22, 23, 24, 25, 26, 27, 28, 29, 30, 31, 32, 33, 34, 35, 36, 37] (by decide +kernel) (by decide +kernel)
set_option maxRecDepth 20000 in
theorem gX9_next_X9_places : GoodIn wsX9_next (wsV RX9 150 RX9 yX9_places wsX9_places) := goodIn_app (goodIn_of _ (by decide +kernel)) ggX9_next_X9_places
set_option maxRecDepth 20000 in
theorem ggX9_next_X9_many : GoodIn wsX9_next wsX9_many := goodIn_r _ [10, 1, 20, 21, 22, 23, 24, 25, 26, 27, 28, 29, 30, 31, 32, 33, 34, 35, 36, 37] (by decide +kernel) (by decide +kernel)
set_option maxRecDepth 20000 in
theorem gX9_next_X9_many : GoodIn wsX9_next (wsV RX9 52 RX9 yX9_many wsX9_many) := goodIn_app (goodIn_of _ (by decide +kernel)) ggX9_next_X9_many
set_option maxRecDepth 20000 in
theorem ggX9_next_X9_has : GoodIn wsX9_next wsX9_has := goodIn_r _ [16] (by decide +kernel) (by decide +kernel)
set_option maxRecDepth 20000 in
theorem gX9_next_X9_has : GoodIn wsX9_next (va_wsS RX9 94 yX9_has wsX9_has) := goodIn_app (goodIn_of _ (by decide +kernel)) ggX9_next_X9_has
set_option maxRecDepth 20000 in
theorem ggX9_next_X9_holdsOf : GoodIn wsX9_next wsX9_holdsOf := goodIn_r _ [13] (by decide +kernel) (by decide +kernel)
set_option maxRecDepth 20000 in
theorem gX9_next_X9_holdsOf : GoodIn wsX9_next (va_wsS RX9 90 yX9_holdsOf wsX9_holdsOf) := goodIn_app (goodIn_of _ (by decide +kernel)) ggX9_next_X9_holdsOf
set_option maxRecDepth 20000 in
theorem ggX9_next_X9_bits : GoodIn wsX9_next wsX9_bits := goodIn_r _ [19] (by decide +kernel) (by decide +kernel)
set_option maxRecDepth 20000 in
theorem gX9_next_X9_bits : GoodIn wsX9_next (va_wsS RX9 141 yX9_bits wsX9_bits) := goodIn_app (goodIn_of _ (by decide +kernel)) ggX9_next_X9_bits
theorem dX9_next_0 : decode cX9_next 0 = .ok (.iconst 0, 1) := by decide +kernel
theorem dX9_next_1 : decode cX9_next 1 = .ok (.istore_n 1, 1) := by decide +kernel
theorem dX9_next_2 : decode cX9_next 2 = .ok (.aload_n 0, 1) := by decide +kernel
theorem dX9_next_3 : decode cX9_next 3 = .ok (.invokevirtual 150, 3) := by decide +kernel
theorem dX9_next_6 : decode cX9_next 6 = .ok (.istore_n 2, 1) := by decide +kernel
theorem dX9_next_7 : decode cX9_next 7 = .ok (.iconst 0, 1) := by decide +kernel
theorem dX9_next_8 : decode cX9_next 8 = .ok (.istore_n 3, 1) := by decide +kernel
theorem dX9_next_9 : decode cX9_next 9 = .ok (.iload_n 3, 1) := by decide +kernel
theorem dX9_next_10 : decode cX9_next 10 = .ok (.iconst 1, 1) := by decide +kernel
theorem dX9_next_11 : decode cX9_next 11 = .ok (.iadd, 1) := by decide +kernel
theorem dX9_next_12 : decode cX9_next 12 = .ok (.aload_n 0, 1) := by decide +kernel
theorem dX9_next_13 : decode cX9_next 13 = .ok (.invokevirtual 52, 3) := by decide +kernel
theorem dX9_next_16 : decode cX9_next 16 = .ok (.if_icmp .ge 36, 3) := by decide +kernel
theorem dX9_next_19 : decode cX9_next 19 = .ok (.iload_n 1, 1) := by decide +kernel
theorem dX9_next_20 : decode cX9_next 20 = .ok (.iload_n 2, 1) := by decide +kernel
theorem dX9_next_21 : decode cX9_next 21 = .ok (.iload_n 3, 1) := by decide +kernel
theorem dX9_next_22 : decode cX9_next 22 = .ok (.invokestatic 94, 3) := by decide +kernel
theorem dX9_next_25 : decode cX9_next 25 = .ok (.ifCond .eq 18, 3) := by decide +kernel
theorem dX9_next_28 : decode cX9_next 28 = .ok (.iconst 1, 1) := by decide +kernel
theorem dX9_next_29 : decode cX9_next 29 = .ok (.aload_n 0, 1) := by decide +kernel
theorem dX9_next_30 : decode cX9_next 30 = .ok (.getfield 7, 3) := by decide +kernel
theorem dX9_next_33 : decode cX9_next 33 = .ok (.iload_n 3, 1) := by decide +kernel
theorem dX9_next_34 : decode cX9_next 34 = .ok (.iconst 1, 1) := by decide +kernel
theorem dX9_next_35 : decode cX9_next 35 = .ok (.iadd, 1) := by decide +kernel
theorem dX9_next_36 : decode cX9_next 36 = .ok (.invokestatic 90, 3) := by decide +kernel
theorem dX9_next_39 : decode cX9_next 39 = .ok (.ishl, 1) := by decide +kernel
theorem dX9_next_40 : decode cX9_next 40 = .ok (.goto 4, 3) := by decide +kernel
theorem dX9_next_43 : decode cX9_next 43 = .ok (.iconst 0, 1) := by decide +kernel
theorem dX9_next_44 : decode cX9_next 44 = .ok (.ior, 1) := by decide +kernel
theorem dX9_next_45 : decode cX9_next 45 = .ok (.istore_n 1, 1) := by decide +kernel
theorem dX9_next_46 : decode cX9_next 46 = .ok (.iinc 3 1, 3) := by decide +kernel
theorem dX9_next_49 : decode cX9_next 49 = .ok (.goto (-40), 3) := by decide +kernel
theorem dX9_next_52 : decode cX9_next 52 = .ok (.iload_n 1, 1) := by decide +kernel
theorem dX9_next_53 : decode cX9_next 53 = .ok (.invokestatic 141, 3) := by decide +kernel
theorem dX9_next_56 : decode cX9_next 56 = .ok (.ireturn, 1) := by decide +kernel
set_option maxRecDepth 20000 in
theorem ggX9_seen_X9_isNote : GoodIn wsX9_seen wsX9_isNote := goodIn_r _ [7, 1, 8, 9, 6, 10] (by decide +kernel) (by decide +kernel)
set_option maxRecDepth 20000 in
theorem gX9_seen_X9_isNote : GoodIn wsX9_seen (va_wsS RX9 77 yX9_isNote wsX9_isNote) := goodIn_app (goodIn_of _ (by decide +kernel)) ggX9_seen_X9_isNote
set_option maxRecDepth 20000 in
theorem ggX9_seen_X9_in : GoodIn wsX9_seen wsX9_in := goodIn_r _ [10] (by decide +kernel) (by decide +kernel)
set_option maxRecDepth 20000 in
theorem gX9_seen_X9_in : GoodIn wsX9_seen (va_wsS RX9 56 yX9_in wsX9_in) := goodIn_app (goodIn_of _ (by decide +kernel)) ggX9_seen_X9_in
set_option maxRecDepth 20000 in
theorem ggX9_seen_X9_isFog : GoodIn wsX9_seen wsX9_isFog := goodIn_r _ [13, 14, 8, 9, 6, 10] (by decide +kernel) (by decide +kernel)
set_option maxRecDepth 20000 in
theorem gX9_seen_X9_isFog : GoodIn wsX9_seen (va_wsS RX9 70 yX9_isFog wsX9_isFog) := goodIn_app (goodIn_of _ (by decide +kernel)) ggX9_seen_X9_isFog
set_option maxRecDepth 20000 in
theorem ggX9_seen_X9_bad : GoodIn wsX9_seen wsX9_bad := goodIn_r _ [18, 19, 24, 25, 26, 27, 28, 29, 30, 31, 32, 33, 34, 35, 36, 37, 38, 39, 40, 41] (by decide +kernel) (by decide +kernel)
set_option maxRecDepth 20000 in
theorem gX9_seen_X9_bad : GoodIn wsX9_seen (wsV RX9 73 RX9 yX9_bad wsX9_bad) := goodIn_app (goodIn_of _ (by decide +kernel)) ggX9_seen_X9_bad
set_option maxRecDepth 20000 in
theorem ggX9_seen_X9_full : GoodIn wsX9_seen wsX9_full := goodIn_r _ [23, 19, 24, 25, 26, 27, 28, 29, 30, 31, 32, 33, 34, 35, 36, 37, 38, 39, 40, 41] (by decide +kernel) (by decide +kernel)
set_option maxRecDepth 20000 in
theorem gX9_seen_X9_full : GoodIn wsX9_seen (wsV RX9 80 RX9 yX9_full wsX9_full) := goodIn_app (goodIn_of _ (by decide +kernel)) ggX9_seen_X9_full
theorem dX9_seen_0 : decode cX9_seen 0 = .ok (.iload_n 1, 1) := by decide +kernel
theorem dX9_seen_1 : decode cX9_seen 1 = .ok (.invokestatic 77, 3) := by decide +kernel
theorem dX9_seen_4 : decode cX9_seen 4 = .ok (.ifCond .eq 46, 3) := by decide +kernel
theorem dX9_seen_7 : decode cX9_seen 7 = .ok (.iload_n 2, 1) := by decide +kernel
theorem dX9_seen_8 : decode cX9_seen 8 = .ok (.i2l, 1) := by decide +kernel
theorem dX9_seen_9 : decode cX9_seen 9 = .ok (.lconst 1, 1) := by decide +kernel
theorem dX9_seen_10 : decode cX9_seen 10 = .ok (.ldc2_w 62, 3) := by decide +kernel
theorem dX9_seen_13 : decode cX9_seen 13 = .ok (.invokestatic 56, 3) := by decide +kernel
theorem dX9_seen_16 : decode cX9_seen 16 = .ok (.ifCond .eq 34, 3) := by decide +kernel
theorem dX9_seen_19 : decode cX9_seen 19 = .ok (.iload_n 3, 1) := by decide +kernel
theorem dX9_seen_20 : decode cX9_seen 20 = .ok (.invokestatic 70, 3) := by decide +kernel
theorem dX9_seen_23 : decode cX9_seen 23 = .ok (.ifCond .eq 27, 3) := by decide +kernel
theorem dX9_seen_26 : decode cX9_seen 26 = .ok (.iload 4, 2) := by decide +kernel
theorem dX9_seen_28 : decode cX9_seen 28 = .ok (.i2l, 1) := by decide +kernel
theorem dX9_seen_29 : decode cX9_seen 29 = .ok (.lconst 0, 1) := by decide +kernel
theorem dX9_seen_30 : decode cX9_seen 30 = .ok (.lconst 1, 1) := by decide +kernel
theorem dX9_seen_31 : decode cX9_seen 31 = .ok (.invokestatic 56, 3) := by decide +kernel
theorem dX9_seen_34 : decode cX9_seen 34 = .ok (.ifCond .eq 16, 3) := by decide +kernel
theorem dX9_seen_37 : decode cX9_seen 37 = .ok (.iload 5, 2) := by decide +kernel
theorem dX9_seen_39 : decode cX9_seen 39 = .ok (.i2l, 1) := by decide +kernel
theorem dX9_seen_40 : decode cX9_seen 40 = .ok (.lconst 1, 1) := by decide +kernel
theorem dX9_seen_41 : decode cX9_seen 41 = .ok (.ldc2_w 153, 3) := by decide +kernel
theorem dX9_seen_44 : decode cX9_seen 44 = .ok (.invokestatic 56, 3) := by decide +kernel
theorem dX9_seen_47 : decode cX9_seen 47 = .ok (.ifCond .ne 10, 3) := by decide +kernel
theorem dX9_seen_50 : decode cX9_seen 50 = .ok (.aload_n 0, 1) := by decide +kernel
theorem dX9_seen_51 : decode cX9_seen 51 = .ok (.bipush (-2), 2) := by decide +kernel
theorem dX9_seen_53 : decode cX9_seen 53 = .ok (.invokevirtual 73, 3) := by decide +kernel
theorem dX9_seen_56 : decode cX9_seen 56 = .ok (.ireturn, 1) := by decide +kernel
theorem dX9_seen_57 : decode cX9_seen 57 = .ok (.aload_n 0, 1) := by decide +kernel
theorem dX9_seen_58 : decode cX9_seen 58 = .ok (.getfield 7, 3) := by decide +kernel
theorem dX9_seen_61 : decode cX9_seen 61 = .ok (.iconst 2, 1) := by decide +kernel
theorem dX9_seen_62 : decode cX9_seen 62 = .ok (.iaload, 1) := by decide +kernel
theorem dX9_seen_63 : decode cX9_seen 63 = .ok (.bipush 6, 2) := by decide +kernel
theorem dX9_seen_65 : decode cX9_seen 65 = .ok (.if_icmp .ne 8, 3) := by decide +kernel
theorem dX9_seen_68 : decode cX9_seen 68 = .ok (.aload_n 0, 1) := by decide +kernel
theorem dX9_seen_69 : decode cX9_seen 69 = .ok (.invokevirtual 80, 3) := by decide +kernel
theorem dX9_seen_72 : decode cX9_seen 72 = .ok (.ireturn, 1) := by decide +kernel
theorem dX9_seen_73 : decode cX9_seen 73 = .ok (.bipush 45, 2) := by decide +kernel
theorem dX9_seen_75 : decode cX9_seen 75 = .ok (.iconst 5, 1) := by decide +kernel
theorem dX9_seen_76 : decode cX9_seen 76 = .ok (.aload_n 0, 1) := by decide +kernel
theorem dX9_seen_77 : decode cX9_seen 77 = .ok (.getfield 7, 3) := by decide +kernel
theorem dX9_seen_80 : decode cX9_seen 80 = .ok (.iconst 2, 1) := by decide +kernel
theorem dX9_seen_81 : decode cX9_seen 81 = .ok (.iaload, 1) := by decide +kernel
theorem dX9_seen_82 : decode cX9_seen 82 = .ok (.imul, 1) := by decide +kernel
theorem dX9_seen_83 : decode cX9_seen 83 = .ok (.iadd, 1) := by decide +kernel
theorem dX9_seen_84 : decode cX9_seen 84 = .ok (.istore 6, 2) := by decide +kernel
theorem dX9_seen_86 : decode cX9_seen 86 = .ok (.aload_n 0, 1) := by decide +kernel
theorem dX9_seen_87 : decode cX9_seen 87 = .ok (.getfield 7, 3) := by decide +kernel
theorem dX9_seen_90 : decode cX9_seen 90 = .ok (.iload 6, 2) := by decide +kernel
theorem dX9_seen_92 : decode cX9_seen 92 = .ok (.iload_n 1, 1) := by decide +kernel
theorem dX9_seen_93 : decode cX9_seen 93 = .ok (.iastore, 1) := by decide +kernel
theorem dX9_seen_94 : decode cX9_seen 94 = .ok (.aload_n 0, 1) := by decide +kernel
theorem dX9_seen_95 : decode cX9_seen 95 = .ok (.getfield 7, 3) := by decide +kernel
theorem dX9_seen_98 : decode cX9_seen 98 = .ok (.iload 6, 2) := by decide +kernel
theorem dX9_seen_100 : decode cX9_seen 100 = .ok (.iconst 1, 1) := by decide +kernel
theorem dX9_seen_101 : decode cX9_seen 101 = .ok (.iadd, 1) := by decide +kernel
theorem dX9_seen_102 : decode cX9_seen 102 = .ok (.iload_n 2, 1) := by decide +kernel
theorem dX9_seen_103 : decode cX9_seen 103 = .ok (.iastore, 1) := by decide +kernel
theorem dX9_seen_104 : decode cX9_seen 104 = .ok (.aload_n 0, 1) := by decide +kernel
theorem dX9_seen_105 : decode cX9_seen 105 = .ok (.getfield 7, 3) := by decide +kernel
theorem dX9_seen_108 : decode cX9_seen 108 = .ok (.iload 6, 2) := by decide +kernel
theorem dX9_seen_110 : decode cX9_seen 110 = .ok (.iconst 2, 1) := by decide +kernel
theorem dX9_seen_111 : decode cX9_seen 111 = .ok (.iadd, 1) := by decide +kernel
theorem dX9_seen_112 : decode cX9_seen 112 = .ok (.iload_n 3, 1) := by decide +kernel
theorem dX9_seen_113 : decode cX9_seen 113 = .ok (.iastore, 1) := by decide +kernel
theorem dX9_seen_114 : decode cX9_seen 114 = .ok (.aload_n 0, 1) := by decide +kernel
theorem dX9_seen_115 : decode cX9_seen 115 = .ok (.getfield 7, 3) := by decide +kernel
theorem dX9_seen_118 : decode cX9_seen 118 = .ok (.iload 6, 2) := by decide +kernel
theorem dX9_seen_120 : decode cX9_seen 120 = .ok (.iconst 3, 1) := by decide +kernel
theorem dX9_seen_121 : decode cX9_seen 121 = .ok (.iadd, 1) := by decide +kernel
theorem dX9_seen_122 : decode cX9_seen 122 = .ok (.iload 4, 2) := by decide +kernel
theorem dX9_seen_124 : decode cX9_seen 124 = .ok (.iastore, 1) := by decide +kernel
theorem dX9_seen_125 : decode cX9_seen 125 = .ok (.aload_n 0, 1) := by decide +kernel
theorem dX9_seen_126 : decode cX9_seen 126 = .ok (.getfield 7, 3) := by decide +kernel
theorem dX9_seen_129 : decode cX9_seen 129 = .ok (.iload 6, 2) := by decide +kernel
theorem dX9_seen_131 : decode cX9_seen 131 = .ok (.iconst 4, 1) := by decide +kernel
theorem dX9_seen_132 : decode cX9_seen 132 = .ok (.iadd, 1) := by decide +kernel
theorem dX9_seen_133 : decode cX9_seen 133 = .ok (.iload 5, 2) := by decide +kernel
theorem dX9_seen_135 : decode cX9_seen 135 = .ok (.iastore, 1) := by decide +kernel
theorem dX9_seen_136 : decode cX9_seen 136 = .ok (.aload_n 0, 1) := by decide +kernel
theorem dX9_seen_137 : decode cX9_seen 137 = .ok (.getfield 7, 3) := by decide +kernel
theorem dX9_seen_140 : decode cX9_seen 140 = .ok (.iconst 2, 1) := by decide +kernel
theorem dX9_seen_141 : decode cX9_seen 141 = .ok (.dup2, 1) := by decide +kernel
theorem dX9_seen_142 : decode cX9_seen 142 = .ok (.iaload, 1) := by decide +kernel
theorem dX9_seen_143 : decode cX9_seen 143 = .ok (.iconst 1, 1) := by decide +kernel
theorem dX9_seen_144 : decode cX9_seen 144 = .ok (.iadd, 1) := by decide +kernel
theorem dX9_seen_145 : decode cX9_seen 145 = .ok (.iastore, 1) := by decide +kernel
theorem dX9_seen_146 : decode cX9_seen 146 = .ok (.aload_n 0, 1) := by decide +kernel
theorem dX9_seen_147 : decode cX9_seen 147 = .ok (.getfield 7, 3) := by decide +kernel
theorem dX9_seen_150 : decode cX9_seen 150 = .ok (.iconst 2, 1) := by decide +kernel
theorem dX9_seen_151 : decode cX9_seen 151 = .ok (.iaload, 1) := by decide +kernel
theorem dX9_seen_152 : decode cX9_seen 152 = .ok (.ireturn, 1) := by decide +kernel
set_option maxRecDepth 20000 in
theorem ggX9_forget_X9_in : GoodIn wsX9_forget wsX9_in := goodIn_r _ [5] (by decide +kernel) (by decide +kernel)
set_option maxRecDepth 20000 in
theorem gX9_forget_X9_in : GoodIn wsX9_forget (va_wsS RX9 56 yX9_in wsX9_in) := goodIn_app (goodIn_of _ (by decide +kernel)) ggX9_forget_X9_in
set_option maxRecDepth 20000 in
theorem ggX9_forget_X9_bad : GoodIn wsX9_forget wsX9_bad := goodIn_r _ [9, 10, 11, 12, 13, 14, 15, 16, 17, 18, 19, 20, 21, 22, 23, 24, 25, 26, 27, 28] (by decide +kernel) (by decide +kernel)
set_option maxRecDepth 20000 in
theorem gX9_forget_X9_bad : GoodIn wsX9_forget (wsV RX9 73 RX9 yX9_bad wsX9_bad) := goodIn_app (goodIn_of _ (by decide +kernel)) ggX9_forget_X9_bad
theorem dX9_forget_0 : decode cX9_forget 0 = .ok (.iload_n 1, 1) := by decide +kernel
theorem dX9_forget_1 : decode cX9_forget 1 = .ok (.i2l, 1) := by decide +kernel
theorem dX9_forget_2 : decode cX9_forget 2 = .ok (.lconst 0, 1) := by decide +kernel
theorem dX9_forget_3 : decode cX9_forget 3 = .ok (.lconst 1, 1) := by decide +kernel
theorem dX9_forget_4 : decode cX9_forget 4 = .ok (.invokestatic 56, 3) := by decide +kernel
theorem dX9_forget_7 : decode cX9_forget 7 = .ok (.ifCond .ne 10, 3) := by decide +kernel
theorem dX9_forget_10 : decode cX9_forget 10 = .ok (.aload_n 0, 1) := by decide +kernel
theorem dX9_forget_11 : decode cX9_forget 11 = .ok (.bipush (-2), 2) := by decide +kernel
theorem dX9_forget_13 : decode cX9_forget 13 = .ok (.invokevirtual 73, 3) := by decide +kernel
theorem dX9_forget_16 : decode cX9_forget 16 = .ok (.ireturn, 1) := by decide +kernel
theorem dX9_forget_17 : decode cX9_forget 17 = .ok (.aload_n 0, 1) := by decide +kernel
theorem dX9_forget_18 : decode cX9_forget 18 = .ok (.getfield 7, 3) := by decide +kernel
theorem dX9_forget_21 : decode cX9_forget 21 = .ok (.iconst 1, 1) := by decide +kernel
theorem dX9_forget_22 : decode cX9_forget 22 = .ok (.iload_n 1, 1) := by decide +kernel
theorem dX9_forget_23 : decode cX9_forget 23 = .ok (.iadd, 1) := by decide +kernel
theorem dX9_forget_24 : decode cX9_forget 24 = .ok (.iaload, 1) := by decide +kernel
theorem dX9_forget_25 : decode cX9_forget 25 = .ok (.istore_n 2, 1) := by decide +kernel
theorem dX9_forget_26 : decode cX9_forget 26 = .ok (.aload_n 0, 1) := by decide +kernel
theorem dX9_forget_27 : decode cX9_forget 27 = .ok (.getfield 7, 3) := by decide +kernel
theorem dX9_forget_30 : decode cX9_forget 30 = .ok (.iconst 1, 1) := by decide +kernel
theorem dX9_forget_31 : decode cX9_forget 31 = .ok (.iload_n 1, 1) := by decide +kernel
theorem dX9_forget_32 : decode cX9_forget 32 = .ok (.iadd, 1) := by decide +kernel
theorem dX9_forget_33 : decode cX9_forget 33 = .ok (.iconst 0, 1) := by decide +kernel
theorem dX9_forget_34 : decode cX9_forget 34 = .ok (.iastore, 1) := by decide +kernel
theorem dX9_forget_35 : decode cX9_forget 35 = .ok (.iload_n 2, 1) := by decide +kernel
theorem dX9_forget_36 : decode cX9_forget 36 = .ok (.ireturn, 1) := by decide +kernel
set_option maxRecDepth 20000 in
theorem ggX9_kindsThat_X9_paceAs : GoodIn wsX9_kindsThat wsX9_paceAs := goodIn_r _ [5] (by decide +kernel) (by decide +kernel)
set_option maxRecDepth 20000 in
theorem gX9_kindsThat_X9_paceAs : GoodIn wsX9_kindsThat (va_wsS RX9 98 yX9_paceAs wsX9_paceAs) := goodIn_app (goodIn_of _ (by decide +kernel)) ggX9_kindsThat_X9_paceAs
theorem dX9_kindsThat_0 : decode cX9_kindsThat 0 = .ok (.iconst 0, 1) := by decide +kernel
theorem dX9_kindsThat_1 : decode cX9_kindsThat 1 = .ok (.istore_n 1, 1) := by decide +kernel
theorem dX9_kindsThat_2 : decode cX9_kindsThat 2 = .ok (.iconst 0, 1) := by decide +kernel
theorem dX9_kindsThat_3 : decode cX9_kindsThat 3 = .ok (.istore_n 2, 1) := by decide +kernel
theorem dX9_kindsThat_4 : decode cX9_kindsThat 4 = .ok (.iload_n 2, 1) := by decide +kernel
theorem dX9_kindsThat_5 : decode cX9_kindsThat 5 = .ok (.bipush 6, 2) := by decide +kernel
theorem dX9_kindsThat_7 : decode cX9_kindsThat 7 = .ok (.if_icmp .ge 123, 3) := by decide +kernel
theorem dX9_kindsThat_10 : decode cX9_kindsThat 10 = .ok (.iconst 1, 1) := by decide +kernel
theorem dX9_kindsThat_11 : decode cX9_kindsThat 11 = .ok (.istore_n 3, 1) := by decide +kernel
theorem dX9_kindsThat_12 : decode cX9_kindsThat 12 = .ok (.iconst 0, 1) := by decide +kernel
theorem dX9_kindsThat_13 : decode cX9_kindsThat 13 = .ok (.istore 4, 2) := by decide +kernel
theorem dX9_kindsThat_15 : decode cX9_kindsThat 15 = .ok (.iload 4, 2) := by decide +kernel
theorem dX9_kindsThat_17 : decode cX9_kindsThat 17 = .ok (.aload_n 0, 1) := by decide +kernel
theorem dX9_kindsThat_18 : decode cX9_kindsThat 18 = .ok (.getfield 7, 3) := by decide +kernel
theorem dX9_kindsThat_21 : decode cX9_kindsThat 21 = .ok (.iconst 2, 1) := by decide +kernel
theorem dX9_kindsThat_22 : decode cX9_kindsThat 22 = .ok (.iaload, 1) := by decide +kernel
theorem dX9_kindsThat_23 : decode cX9_kindsThat 23 = .ok (.if_icmp .ge 87, 3) := by decide +kernel
theorem dX9_kindsThat_26 : decode cX9_kindsThat 26 = .ok (.bipush 45, 2) := by decide +kernel
theorem dX9_kindsThat_28 : decode cX9_kindsThat 28 = .ok (.iconst 5, 1) := by decide +kernel
theorem dX9_kindsThat_29 : decode cX9_kindsThat 29 = .ok (.iload 4, 2) := by decide +kernel
theorem dX9_kindsThat_31 : decode cX9_kindsThat 31 = .ok (.imul, 1) := by decide +kernel
theorem dX9_kindsThat_32 : decode cX9_kindsThat 32 = .ok (.iadd, 1) := by decide +kernel
theorem dX9_kindsThat_33 : decode cX9_kindsThat 33 = .ok (.istore 5, 2) := by decide +kernel
theorem dX9_kindsThat_35 : decode cX9_kindsThat 35 = .ok (.iload_n 3, 1) := by decide +kernel
theorem dX9_kindsThat_36 : decode cX9_kindsThat 36 = .ok (.ifCond .eq 66, 3) := by decide +kernel
theorem dX9_kindsThat_39 : decode cX9_kindsThat 39 = .ok (.iload_n 2, 1) := by decide +kernel
theorem dX9_kindsThat_40 : decode cX9_kindsThat 40 = .ok (.aload_n 0, 1) := by decide +kernel
theorem dX9_kindsThat_41 : decode cX9_kindsThat 41 = .ok (.getfield 7, 3) := by decide +kernel
theorem dX9_kindsThat_44 : decode cX9_kindsThat 44 = .ok (.iload 5, 2) := by decide +kernel
theorem dX9_kindsThat_46 : decode cX9_kindsThat 46 = .ok (.iaload, 1) := by decide +kernel
theorem dX9_kindsThat_47 : decode cX9_kindsThat 47 = .ok (.aload_n 0, 1) := by decide +kernel
theorem dX9_kindsThat_48 : decode cX9_kindsThat 48 = .ok (.getfield 7, 3) := by decide +kernel
theorem dX9_kindsThat_51 : decode cX9_kindsThat 51 = .ok (.iload 5, 2) := by decide +kernel
theorem dX9_kindsThat_53 : decode cX9_kindsThat 53 = .ok (.iconst 1, 1) := by decide +kernel
theorem dX9_kindsThat_54 : decode cX9_kindsThat 54 = .ok (.iadd, 1) := by decide +kernel
theorem dX9_kindsThat_55 : decode cX9_kindsThat 55 = .ok (.iaload, 1) := by decide +kernel
theorem dX9_kindsThat_56 : decode cX9_kindsThat 56 = .ok (.aload_n 0, 1) := by decide +kernel
theorem dX9_kindsThat_57 : decode cX9_kindsThat 57 = .ok (.getfield 7, 3) := by decide +kernel
theorem dX9_kindsThat_60 : decode cX9_kindsThat 60 = .ok (.iload 5, 2) := by decide +kernel
theorem dX9_kindsThat_62 : decode cX9_kindsThat 62 = .ok (.iconst 2, 1) := by decide +kernel
theorem dX9_kindsThat_63 : decode cX9_kindsThat 63 = .ok (.iadd, 1) := by decide +kernel
theorem dX9_kindsThat_64 : decode cX9_kindsThat 64 = .ok (.iaload, 1) := by decide +kernel
theorem dX9_kindsThat_65 : decode cX9_kindsThat 65 = .ok (.aload_n 0, 1) := by decide +kernel
theorem dX9_kindsThat_66 : decode cX9_kindsThat 66 = .ok (.getfield 7, 3) := by decide +kernel
theorem dX9_kindsThat_69 : decode cX9_kindsThat 69 = .ok (.iload 5, 2) := by decide +kernel
theorem dX9_kindsThat_71 : decode cX9_kindsThat 71 = .ok (.iconst 3, 1) := by decide +kernel
theorem dX9_kindsThat_72 : decode cX9_kindsThat 72 = .ok (.iadd, 1) := by decide +kernel
theorem dX9_kindsThat_73 : decode cX9_kindsThat 73 = .ok (.iaload, 1) := by decide +kernel
theorem dX9_kindsThat_74 : decode cX9_kindsThat 74 = .ok (.iconst 1, 1) := by decide +kernel
theorem dX9_kindsThat_75 : decode cX9_kindsThat 75 = .ok (.if_icmp .ne 7, 3) := by decide +kernel
theorem dX9_kindsThat_78 : decode cX9_kindsThat 78 = .ok (.iconst 1, 1) := by decide +kernel
theorem dX9_kindsThat_79 : decode cX9_kindsThat 79 = .ok (.goto 4, 3) := by decide +kernel
theorem dX9_kindsThat_82 : decode cX9_kindsThat 82 = .ok (.iconst 0, 1) := by decide +kernel
theorem dX9_kindsThat_83 : decode cX9_kindsThat 83 = .ok (.invokestatic 98, 3) := by decide +kernel
theorem dX9_kindsThat_86 : decode cX9_kindsThat 86 = .ok (.aload_n 0, 1) := by decide +kernel
theorem dX9_kindsThat_87 : decode cX9_kindsThat 87 = .ok (.getfield 7, 3) := by decide +kernel
theorem dX9_kindsThat_90 : decode cX9_kindsThat 90 = .ok (.iload 5, 2) := by decide +kernel
theorem dX9_kindsThat_92 : decode cX9_kindsThat 92 = .ok (.iconst 4, 1) := by decide +kernel
theorem dX9_kindsThat_93 : decode cX9_kindsThat 93 = .ok (.iadd, 1) := by decide +kernel
theorem dX9_kindsThat_94 : decode cX9_kindsThat 94 = .ok (.iaload, 1) := by decide +kernel
theorem dX9_kindsThat_95 : decode cX9_kindsThat 95 = .ok (.if_icmp .ne 7, 3) := by decide +kernel
theorem dX9_kindsThat_98 : decode cX9_kindsThat 98 = .ok (.iconst 1, 1) := by decide +kernel
theorem dX9_kindsThat_99 : decode cX9_kindsThat 99 = .ok (.goto 4, 3) := by decide +kernel
theorem dX9_kindsThat_102 : decode cX9_kindsThat 102 = .ok (.iconst 0, 1) := by decide +kernel
theorem dX9_kindsThat_103 : decode cX9_kindsThat 103 = .ok (.istore_n 3, 1) := by decide +kernel
theorem dX9_kindsThat_104 : decode cX9_kindsThat 104 = .ok (.iinc 4 1, 3) := by decide +kernel
theorem dX9_kindsThat_107 : decode cX9_kindsThat 107 = .ok (.goto (-92), 3) := by decide +kernel
theorem dX9_kindsThat_110 : decode cX9_kindsThat 110 = .ok (.iload_n 1, 1) := by decide +kernel
theorem dX9_kindsThat_111 : decode cX9_kindsThat 111 = .ok (.iload_n 3, 1) := by decide +kernel
theorem dX9_kindsThat_112 : decode cX9_kindsThat 112 = .ok (.ifCond .eq 9, 3) := by decide +kernel
theorem dX9_kindsThat_115 : decode cX9_kindsThat 115 = .ok (.iconst 1, 1) := by decide +kernel
theorem dX9_kindsThat_116 : decode cX9_kindsThat 116 = .ok (.iload_n 2, 1) := by decide +kernel
theorem dX9_kindsThat_117 : decode cX9_kindsThat 117 = .ok (.ishl, 1) := by decide +kernel
theorem dX9_kindsThat_118 : decode cX9_kindsThat 118 = .ok (.goto 4, 3) := by decide +kernel
theorem dX9_kindsThat_121 : decode cX9_kindsThat 121 = .ok (.iconst 0, 1) := by decide +kernel
theorem dX9_kindsThat_122 : decode cX9_kindsThat 122 = .ok (.ior, 1) := by decide +kernel
theorem dX9_kindsThat_123 : decode cX9_kindsThat 123 = .ok (.istore_n 1, 1) := by decide +kernel
theorem dX9_kindsThat_124 : decode cX9_kindsThat 124 = .ok (.iinc 2 1, 3) := by decide +kernel
theorem dX9_kindsThat_127 : decode cX9_kindsThat 127 = .ok (.goto (-123), 3) := by decide +kernel
theorem dX9_kindsThat_130 : decode cX9_kindsThat 130 = .ok (.iload_n 1, 1) := by decide +kernel
theorem dX9_kindsThat_131 : decode cX9_kindsThat 131 = .ok (.ireturn, 1) := by decide +kernel
set_option maxRecDepth 20000 in
theorem ggX9_is_X9_kindsThat : GoodIn wsX9_is wsX9_kindsThat := goodIn_r _ [5, 6, 7, 8, 4, 9, 10, 11, 12, 13, 14, 15, 16, 17, 18, 19, 20, 21, 22, 23, 24, 25, 26, 27] (by decide +kernel) (by decide +kernel)
set_option maxRecDepth 20000 in
theorem gX9_is_X9_kindsThat : GoodIn wsX9_is (wsV RX9 155 RX9 yX9_kindsThat wsX9_kindsThat) := goodIn_app (goodIn_of _ (by decide +kernel)) ggX9_is_X9_kindsThat
theorem dX9_is_0 : decode cX9_is 0 = .ok (.aload_n 0, 1) := by decide +kernel
theorem dX9_is_1 : decode cX9_is 1 = .ok (.invokevirtual 155, 3) := by decide +kernel
theorem dX9_is_4 : decode cX9_is 4 = .ok (.ireturn, 1) := by decide +kernel
set_option maxRecDepth 20000 in
theorem ggX9_look_X9_kindsThat : GoodIn wsX9_look wsX9_kindsThat := goodIn_r _ [8, 3, 9, 10, 7, 11, 33, 34, 35, 36, 37, 38, 39, 40, 41, 42, 43, 44, 45, 46, 47, 48, 49, 50] (by decide +kernel) (by decide +kernel)
set_option maxRecDepth 20000 in
theorem gX9_look_X9_kindsThat : GoodIn wsX9_look (wsV RX9 155 RX9 yX9_kindsThat wsX9_kindsThat) := goodIn_app (goodIn_of _ (by decide +kernel)) ggX9_look_X9_kindsThat
set_option maxRecDepth 20000 in
theorem ggX9_look_X9_isBend : GoodIn wsX9_look wsX9_isBend := goodIn_r _ [15, 16, 17, 18, 7, 19, 3, 20, 21, 22, 33, 34, 35, 36, 37, 38, 39, 40, 41, 42, 43, 44, 45, 46, 47, 48, 49, 50] (by decide +kernel) (by decide +kernel)
set_option maxRecDepth 20000 in
theorem gX9_look_X9_isBend : GoodIn wsX9_look (wsV RX9 87 RX9 yX9_isBend wsX9_isBend) := goodIn_app (goodIn_of _ (by decide +kernel)) ggX9_look_X9_isBend
set_option maxRecDepth 20000 in
theorem ggX9_look_X9_has : GoodIn wsX9_look wsX9_has := goodIn_r _ [25] (by decide +kernel) (by decide +kernel)
set_option maxRecDepth 20000 in
theorem gX9_look_X9_has : GoodIn wsX9_look (va_wsS RX9 94 yX9_has wsX9_has) := goodIn_app (goodIn_of _ (by decide +kernel)) ggX9_look_X9_has
set_option maxRecDepth 20000 in
theorem ggX9_look_X9_noteOf : GoodIn wsX9_look wsX9_noteOf := goodIn_r _ [29, 3, 33, 34, 35, 36, 37, 38, 39, 40, 41, 42, 43, 44, 45, 46, 47, 48, 49, 50] (by decide +kernel) (by decide +kernel)
set_option maxRecDepth 20000 in
theorem gX9_look_X9_noteOf : GoodIn wsX9_look (wsV RX9 124 RX9 yX9_noteOf wsX9_noteOf) := goodIn_app (goodIn_of _ (by decide +kernel)) ggX9_look_X9_noteOf
set_option maxRecDepth 20000 in
theorem ggX9_look_X9_holdsOf : GoodIn wsX9_look wsX9_holdsOf := goodIn_r _ [32] (by decide +kernel) (by decide +kernel)
set_option maxRecDepth 20000 in
theorem gX9_look_X9_holdsOf : GoodIn wsX9_look (va_wsS RX9 90 yX9_holdsOf wsX9_holdsOf) := goodIn_app (goodIn_of _ (by decide +kernel)) ggX9_look_X9_holdsOf
set_option maxRecDepth 20000 in
theorem ggX9_look_X9_paceAs : GoodIn wsX9_look wsX9_paceAs := goodIn_r _ [11] (by decide +kernel) (by decide +kernel)
set_option maxRecDepth 20000 in
theorem gX9_look_X9_paceAs : GoodIn wsX9_look (va_wsS RX9 98 yX9_paceAs wsX9_paceAs) := goodIn_app (goodIn_of _ (by decide +kernel)) ggX9_look_X9_paceAs
theorem dX9_look_0 : decode cX9_look 0 = .ok (.aload_n 0, 1) := by decide +kernel
theorem dX9_look_1 : decode cX9_look 1 = .ok (.invokevirtual 155, 3) := by decide +kernel
theorem dX9_look_4 : decode cX9_look 4 = .ok (.istore_n 1, 1) := by decide +kernel
theorem dX9_look_5 : decode cX9_look 5 = .ok (.iconst (-1), 1) := by decide +kernel
theorem dX9_look_6 : decode cX9_look 6 = .ok (.istore_n 2, 1) := by decide +kernel
theorem dX9_look_7 : decode cX9_look 7 = .ok (.ldc 137, 2) := by decide +kernel
theorem dX9_look_9 : decode cX9_look 9 = .ok (.istore_n 3, 1) := by decide +kernel
theorem dX9_look_10 : decode cX9_look 10 = .ok (.iconst 0, 1) := by decide +kernel
theorem dX9_look_11 : decode cX9_look 11 = .ok (.istore 4, 2) := by decide +kernel
theorem dX9_look_13 : decode cX9_look 13 = .ok (.iload 4, 2) := by decide +kernel
theorem dX9_look_15 : decode cX9_look 15 = .ok (.bipush 98, 2) := by decide +kernel
theorem dX9_look_17 : decode cX9_look 17 = .ok (.if_icmp .ge 195, 3) := by decide +kernel
theorem dX9_look_20 : decode cX9_look 20 = .ok (.iload_n 1, 1) := by decide +kernel
theorem dX9_look_21 : decode cX9_look 21 = .ok (.ifCond .le 191, 3) := by decide +kernel
theorem dX9_look_24 : decode cX9_look 24 = .ok (.iload 4, 2) := by decide +kernel
theorem dX9_look_26 : decode cX9_look 26 = .ok (.bipush 10, 2) := by decide +kernel
theorem dX9_look_28 : decode cX9_look 28 = .ok (.irem, 1) := by decide +kernel
theorem dX9_look_29 : decode cX9_look 29 = .ok (.istore 5, 2) := by decide +kernel
theorem dX9_look_31 : decode cX9_look 31 = .ok (.aload_n 0, 1) := by decide +kernel
theorem dX9_look_32 : decode cX9_look 32 = .ok (.iload 5, 2) := by decide +kernel
theorem dX9_look_34 : decode cX9_look 34 = .ok (.invokevirtual 87, 3) := by decide +kernel
theorem dX9_look_37 : decode cX9_look 37 = .ok (.ifCond .eq 7, 3) := by decide +kernel
theorem dX9_look_40 : decode cX9_look 40 = .ok (.iconst 0, 1) := by decide +kernel
theorem dX9_look_41 : decode cX9_look 41 = .ok (.goto 5, 3) := by decide +kernel
theorem dX9_look_44 : decode cX9_look 44 = .ok (.ldc 137, 2) := by decide +kernel
theorem dX9_look_46 : decode cX9_look 46 = .ok (.istore 6, 2) := by decide +kernel
theorem dX9_look_48 : decode cX9_look 48 = .ok (.iconst 0, 1) := by decide +kernel
theorem dX9_look_49 : decode cX9_look 49 = .ok (.istore 7, 2) := by decide +kernel
theorem dX9_look_51 : decode cX9_look 51 = .ok (.iload 7, 2) := by decide +kernel
theorem dX9_look_53 : decode cX9_look 53 = .ok (.bipush 8, 2) := by decide +kernel
theorem dX9_look_55 : decode cX9_look 55 = .ok (.if_icmp .ge 17, 3) := by decide +kernel
theorem dX9_look_58 : decode cX9_look 58 = .ok (.aload_n 0, 1) := by decide +kernel
theorem dX9_look_59 : decode cX9_look 59 = .ok (.getfield 27, 3) := by decide +kernel
theorem dX9_look_62 : decode cX9_look 62 = .ok (.iload 7, 2) := by decide +kernel
theorem dX9_look_64 : decode cX9_look 64 = .ok (.iconst 0, 1) := by decide +kernel
theorem dX9_look_65 : decode cX9_look 65 = .ok (.iastore, 1) := by decide +kernel
theorem dX9_look_66 : decode cX9_look 66 = .ok (.iinc 7 1, 3) := by decide +kernel
theorem dX9_look_69 : decode cX9_look 69 = .ok (.goto (-18), 3) := by decide +kernel
theorem dX9_look_72 : decode cX9_look 72 = .ok (.iconst 0, 1) := by decide +kernel
theorem dX9_look_73 : decode cX9_look 73 = .ok (.istore 7, 2) := by decide +kernel
theorem dX9_look_75 : decode cX9_look 75 = .ok (.iload 7, 2) := by decide +kernel
theorem dX9_look_77 : decode cX9_look 77 = .ok (.bipush 6, 2) := by decide +kernel
theorem dX9_look_79 : decode cX9_look 79 = .ok (.if_icmp .ge 101, 3) := by decide +kernel
theorem dX9_look_82 : decode cX9_look 82 = .ok (.iload 6, 2) := by decide +kernel
theorem dX9_look_84 : decode cX9_look 84 = .ok (.ldc 137, 2) := by decide +kernel
theorem dX9_look_86 : decode cX9_look 86 = .ok (.if_icmp .ge 94, 3) := by decide +kernel
theorem dX9_look_89 : decode cX9_look 89 = .ok (.iload_n 1, 1) := by decide +kernel
theorem dX9_look_90 : decode cX9_look 90 = .ok (.iload 7, 2) := by decide +kernel
theorem dX9_look_92 : decode cX9_look 92 = .ok (.invokestatic 94, 3) := by decide +kernel
theorem dX9_look_95 : decode cX9_look 95 = .ok (.ifCond .eq 79, 3) := by decide +kernel
theorem dX9_look_98 : decode cX9_look 98 = .ok (.iload 7, 2) := by decide +kernel
theorem dX9_look_100 : decode cX9_look 100 = .ok (.aload_n 0, 1) := by decide +kernel
theorem dX9_look_101 : decode cX9_look 101 = .ok (.iload 5, 2) := by decide +kernel
theorem dX9_look_103 : decode cX9_look 103 = .ok (.invokevirtual 124, 3) := by decide +kernel
theorem dX9_look_106 : decode cX9_look 106 = .ok (.aload_n 0, 1) := by decide +kernel
theorem dX9_look_107 : decode cX9_look 107 = .ok (.getfield 7, 3) := by decide +kernel
theorem dX9_look_110 : decode cX9_look 110 = .ok (.iload 5, 2) := by decide +kernel
theorem dX9_look_112 : decode cX9_look 112 = .ok (.invokestatic 90, 3) := by decide +kernel
theorem dX9_look_115 : decode cX9_look 115 = .ok (.iload 4, 2) := by decide +kernel
theorem dX9_look_117 : decode cX9_look 117 = .ok (.bipush 10, 2) := by decide +kernel
theorem dX9_look_119 : decode cX9_look 119 = .ok (.idiv, 1) := by decide +kernel
theorem dX9_look_120 : decode cX9_look 120 = .ok (.aload_n 0, 1) := by decide +kernel
theorem dX9_look_121 : decode cX9_look 121 = .ok (.getfield 7, 3) := by decide +kernel
theorem dX9_look_124 : decode cX9_look 124 = .ok (.bipush 17, 2) := by decide +kernel
theorem dX9_look_126 : decode cX9_look 126 = .ok (.iaload, 1) := by decide +kernel
theorem dX9_look_127 : decode cX9_look 127 = .ok (.iload 5, 2) := by decide +kernel
theorem dX9_look_129 : decode cX9_look 129 = .ok (.invokestatic 94, 3) := by decide +kernel
theorem dX9_look_132 : decode cX9_look 132 = .ok (.invokestatic 98, 3) := by decide +kernel
theorem dX9_look_135 : decode cX9_look 135 = .ok (.istore 8, 2) := by decide +kernel
theorem dX9_look_137 : decode cX9_look 137 = .ok (.aload_n 0, 1) := by decide +kernel
theorem dX9_look_138 : decode cX9_look 138 = .ok (.getfield 27, 3) := by decide +kernel
theorem dX9_look_141 : decode cX9_look 141 = .ok (.iload 8, 2) := by decide +kernel
theorem dX9_look_143 : decode cX9_look 143 = .ok (.dup2, 1) := by decide +kernel
theorem dX9_look_144 : decode cX9_look 144 = .ok (.iaload, 1) := by decide +kernel
theorem dX9_look_145 : decode cX9_look 145 = .ok (.iconst 1, 1) := by decide +kernel
theorem dX9_look_146 : decode cX9_look 146 = .ok (.iadd, 1) := by decide +kernel
theorem dX9_look_147 : decode cX9_look 147 = .ok (.iastore, 1) := by decide +kernel
theorem dX9_look_148 : decode cX9_look 148 = .ok (.aload_n 0, 1) := by decide +kernel
theorem dX9_look_149 : decode cX9_look 149 = .ok (.getfield 27, 3) := by decide +kernel
theorem dX9_look_152 : decode cX9_look 152 = .ok (.iload 8, 2) := by decide +kernel
theorem dX9_look_154 : decode cX9_look 154 = .ok (.iaload, 1) := by decide +kernel
theorem dX9_look_155 : decode cX9_look 155 = .ok (.iload 6, 2) := by decide +kernel
theorem dX9_look_157 : decode cX9_look 157 = .ok (.if_icmp .le 13, 3) := by decide +kernel
theorem dX9_look_160 : decode cX9_look 160 = .ok (.aload_n 0, 1) := by decide +kernel
theorem dX9_look_161 : decode cX9_look 161 = .ok (.getfield 27, 3) := by decide +kernel
theorem dX9_look_164 : decode cX9_look 164 = .ok (.iload 8, 2) := by decide +kernel
theorem dX9_look_166 : decode cX9_look 166 = .ok (.iaload, 1) := by decide +kernel
theorem dX9_look_167 : decode cX9_look 167 = .ok (.goto 5, 3) := by decide +kernel
theorem dX9_look_170 : decode cX9_look 170 = .ok (.iload 6, 2) := by decide +kernel
theorem dX9_look_172 : decode cX9_look 172 = .ok (.istore 6, 2) := by decide +kernel
theorem dX9_look_174 : decode cX9_look 174 = .ok (.iinc 7 1, 3) := by decide +kernel
theorem dX9_look_177 : decode cX9_look 177 = .ok (.goto (-102), 3) := by decide +kernel
theorem dX9_look_180 : decode cX9_look 180 = .ok (.iload 6, 2) := by decide +kernel
theorem dX9_look_182 : decode cX9_look 182 = .ok (.iload_n 3, 1) := by decide +kernel
theorem dX9_look_183 : decode cX9_look 183 = .ok (.if_icmp .ge 8, 3) := by decide +kernel
theorem dX9_look_186 : decode cX9_look 186 = .ok (.iload 4, 2) := by decide +kernel
theorem dX9_look_188 : decode cX9_look 188 = .ok (.goto 4, 3) := by decide +kernel
theorem dX9_look_191 : decode cX9_look 191 = .ok (.iload_n 2, 1) := by decide +kernel
theorem dX9_look_192 : decode cX9_look 192 = .ok (.istore_n 2, 1) := by decide +kernel
theorem dX9_look_193 : decode cX9_look 193 = .ok (.iload 6, 2) := by decide +kernel
theorem dX9_look_195 : decode cX9_look 195 = .ok (.iload_n 3, 1) := by decide +kernel
theorem dX9_look_196 : decode cX9_look 196 = .ok (.if_icmp .ge 8, 3) := by decide +kernel
theorem dX9_look_199 : decode cX9_look 199 = .ok (.iload 6, 2) := by decide +kernel
theorem dX9_look_201 : decode cX9_look 201 = .ok (.goto 4, 3) := by decide +kernel
theorem dX9_look_204 : decode cX9_look 204 = .ok (.iload_n 3, 1) := by decide +kernel
theorem dX9_look_205 : decode cX9_look 205 = .ok (.istore_n 3, 1) := by decide +kernel
theorem dX9_look_206 : decode cX9_look 206 = .ok (.iinc 4 1, 3) := by decide +kernel
theorem dX9_look_209 : decode cX9_look 209 = .ok (.goto (-196), 3) := by decide +kernel
theorem dX9_look_212 : decode cX9_look 212 = .ok (.iload_n 2, 1) := by decide +kernel
theorem dX9_look_213 : decode cX9_look 213 = .ok (.ireturn, 1) := by decide +kernel
set_option maxRecDepth 20000 in
theorem ggX9_writes_X9_isBend : GoodIn wsX9_writes wsX9_isBend := goodIn_r _ [8, 9, 10, 11, 7, 12, 1, 13, 14, 15, 40, 41, 42, 43, 44, 45, 46, 47, 48, 49, 50, 51, 52, 53, 54, 55, 56, 57] (by decide +kernel) (by decide +kernel)
set_option maxRecDepth 20000 in
theorem gX9_writes_X9_isBend : GoodIn wsX9_writes (wsV RX9 87 RX9 yX9_isBend wsX9_isBend) := goodIn_app (goodIn_of _ (by decide +kernel)) ggX9_writes_X9_isBend
set_option maxRecDepth 20000 in
theorem ggX9_writes_X9_bad : GoodIn wsX9_writes wsX9_bad := goodIn_r _ [19, 20, 40, 41, 42, 43, 44, 45, 46, 47, 48, 49, 50, 51, 52, 53, 54, 55, 56, 57] (by decide +kernel) (by decide +kernel)
set_option maxRecDepth 20000 in
theorem gX9_writes_X9_bad : GoodIn wsX9_writes (wsV RX9 73 RX9 yX9_bad wsX9_bad) := goodIn_app (goodIn_of _ (by decide +kernel)) ggX9_writes_X9_bad
set_option maxRecDepth 20000 in
theorem ggX9_writes_X9_noteOf : GoodIn wsX9_writes wsX9_noteOf := goodIn_r _ [24, 1, 40, 41, 42, 43, 44, 45, 46, 47, 48, 49, 50, 51, 52, 53, 54, 55, 56, 57] (by decide +kernel) (by decide +kernel)
set_option maxRecDepth 20000 in
theorem gX9_writes_X9_noteOf : GoodIn wsX9_writes (wsV RX9 124 RX9 yX9_noteOf wsX9_noteOf) := goodIn_app (goodIn_of _ (by decide +kernel)) ggX9_writes_X9_noteOf
set_option maxRecDepth 20000 in
theorem ggX9_writes_X9_paceBy : GoodIn wsX9_writes wsX9_paceBy := goodIn_r _ [27, 28, 29, 7, 30, 31, 32, 33, 34, 35, 36] (by decide +kernel) (by decide +kernel)
set_option maxRecDepth 20000 in
theorem gX9_writes_X9_paceBy : GoodIn wsX9_writes (va_wsS RX9 102 yX9_paceBy wsX9_paceBy) := goodIn_app (goodIn_of _ (by decide +kernel)) ggX9_writes_X9_paceBy
set_option maxRecDepth 20000 in
theorem ggX9_writes_X9_holdsOf : GoodIn wsX9_writes wsX9_holdsOf := goodIn_r _ [30] (by decide +kernel) (by decide +kernel)
set_option maxRecDepth 20000 in
theorem gX9_writes_X9_holdsOf : GoodIn wsX9_writes (va_wsS RX9 90 yX9_holdsOf wsX9_holdsOf) := goodIn_app (goodIn_of _ (by decide +kernel)) ggX9_writes_X9_holdsOf
set_option maxRecDepth 20000 in
theorem ggX9_writes_X9_costAt : GoodIn wsX9_writes wsX9_costAt := goodIn_r _ [39] (by decide +kernel) (by decide +kernel)
set_option maxRecDepth 20000 in
theorem gX9_writes_X9_costAt : GoodIn wsX9_writes (va_wsS RX9 106 yX9_costAt wsX9_costAt) := goodIn_app (goodIn_of _ (by decide +kernel)) ggX9_writes_X9_costAt
theorem dX9_writes_0 : decode cX9_writes 0 = .ok (.aload_n 0, 1) := by decide +kernel
theorem dX9_writes_1 : decode cX9_writes 1 = .ok (.iload_n 1, 1) := by decide +kernel
theorem dX9_writes_2 : decode cX9_writes 2 = .ok (.invokevirtual 87, 3) := by decide +kernel
theorem dX9_writes_5 : decode cX9_writes 5 = .ok (.ifCond .ne 10, 3) := by decide +kernel
theorem dX9_writes_8 : decode cX9_writes 8 = .ok (.aload_n 0, 1) := by decide +kernel
theorem dX9_writes_9 : decode cX9_writes 9 = .ok (.bipush (-2), 2) := by decide +kernel
theorem dX9_writes_11 : decode cX9_writes 11 = .ok (.invokevirtual 73, 3) := by decide +kernel
theorem dX9_writes_14 : decode cX9_writes 14 = .ok (.ireturn, 1) := by decide +kernel
theorem dX9_writes_15 : decode cX9_writes 15 = .ok (.iconst 0, 1) := by decide +kernel
theorem dX9_writes_16 : decode cX9_writes 16 = .ok (.istore_n 2, 1) := by decide +kernel
theorem dX9_writes_17 : decode cX9_writes 17 = .ok (.iload_n 2, 1) := by decide +kernel
theorem dX9_writes_18 : decode cX9_writes 18 = .ok (.iconst 4, 1) := by decide +kernel
theorem dX9_writes_19 : decode cX9_writes 19 = .ok (.if_icmp .ge 123, 3) := by decide +kernel
theorem dX9_writes_22 : decode cX9_writes 22 = .ok (.iload_n 2, 1) := by decide +kernel
theorem dX9_writes_23 : decode cX9_writes 23 = .ok (.iconst 1, 1) := by decide +kernel
theorem dX9_writes_24 : decode cX9_writes 24 = .ok (.iand, 1) := by decide +kernel
theorem dX9_writes_25 : decode cX9_writes 25 = .ok (.iconst 1, 1) := by decide +kernel
theorem dX9_writes_26 : decode cX9_writes 26 = .ok (.if_icmp .ne 21, 3) := by decide +kernel
theorem dX9_writes_29 : decode cX9_writes 29 = .ok (.aload_n 0, 1) := by decide +kernel
theorem dX9_writes_30 : decode cX9_writes 30 = .ok (.iload_n 1, 1) := by decide +kernel
theorem dX9_writes_31 : decode cX9_writes 31 = .ok (.invokevirtual 124, 3) := by decide +kernel
theorem dX9_writes_34 : decode cX9_writes 34 = .ok (.ifCond .le 13, 3) := by decide +kernel
theorem dX9_writes_37 : decode cX9_writes 37 = .ok (.aload_n 0, 1) := by decide +kernel
theorem dX9_writes_38 : decode cX9_writes 38 = .ok (.iload_n 1, 1) := by decide +kernel
theorem dX9_writes_39 : decode cX9_writes 39 = .ok (.invokevirtual 124, 3) := by decide +kernel
theorem dX9_writes_42 : decode cX9_writes 42 = .ok (.iconst 1, 1) := by decide +kernel
theorem dX9_writes_43 : decode cX9_writes 43 = .ok (.isub, 1) := by decide +kernel
theorem dX9_writes_44 : decode cX9_writes 44 = .ok (.goto 8, 3) := by decide +kernel
theorem dX9_writes_47 : decode cX9_writes 47 = .ok (.aload_n 0, 1) := by decide +kernel
theorem dX9_writes_48 : decode cX9_writes 48 = .ok (.iload_n 1, 1) := by decide +kernel
theorem dX9_writes_49 : decode cX9_writes 49 = .ok (.invokevirtual 124, 3) := by decide +kernel
theorem dX9_writes_52 : decode cX9_writes 52 = .ok (.istore_n 3, 1) := by decide +kernel
theorem dX9_writes_53 : decode cX9_writes 53 = .ok (.aload_n 0, 1) := by decide +kernel
theorem dX9_writes_54 : decode cX9_writes 54 = .ok (.getfield 7, 3) := by decide +kernel
theorem dX9_writes_57 : decode cX9_writes 57 = .ok (.iload_n 1, 1) := by decide +kernel
theorem dX9_writes_58 : decode cX9_writes 58 = .ok (.iload_n 3, 1) := by decide +kernel
theorem dX9_writes_59 : decode cX9_writes 59 = .ok (.invokestatic 102, 3) := by decide +kernel
theorem dX9_writes_62 : decode cX9_writes 62 = .ok (.istore 4, 2) := by decide +kernel
theorem dX9_writes_64 : decode cX9_writes 64 = .ok (.iload_n 2, 1) := by decide +kernel
theorem dX9_writes_65 : decode cX9_writes 65 = .ok (.iconst 1, 1) := by decide +kernel
theorem dX9_writes_66 : decode cX9_writes 66 = .ok (.if_icmp .le 17, 3) := by decide +kernel
theorem dX9_writes_69 : decode cX9_writes 69 = .ok (.iload 4, 2) := by decide +kernel
theorem dX9_writes_71 : decode cX9_writes 71 = .ok (.bipush 7, 2) := by decide +kernel
theorem dX9_writes_73 : decode cX9_writes 73 = .ok (.if_icmp .ge 10, 3) := by decide +kernel
theorem dX9_writes_76 : decode cX9_writes 76 = .ok (.iload 4, 2) := by decide +kernel
theorem dX9_writes_78 : decode cX9_writes 78 = .ok (.iconst 1, 1) := by decide +kernel
theorem dX9_writes_79 : decode cX9_writes 79 = .ok (.iadd, 1) := by decide +kernel
theorem dX9_writes_80 : decode cX9_writes 80 = .ok (.goto 5, 3) := by decide +kernel
theorem dX9_writes_83 : decode cX9_writes 83 = .ok (.iload 4, 2) := by decide +kernel
theorem dX9_writes_85 : decode cX9_writes 85 = .ok (.istore 4, 2) := by decide +kernel
theorem dX9_writes_87 : decode cX9_writes 87 = .ok (.iload 4, 2) := by decide +kernel
theorem dX9_writes_89 : decode cX9_writes 89 = .ok (.aload_n 0, 1) := by decide +kernel
theorem dX9_writes_90 : decode cX9_writes 90 = .ok (.getfield 7, 3) := by decide +kernel
theorem dX9_writes_93 : decode cX9_writes 93 = .ok (.iload_n 1, 1) := by decide +kernel
theorem dX9_writes_94 : decode cX9_writes 94 = .ok (.invokestatic 90, 3) := by decide +kernel
theorem dX9_writes_97 : decode cX9_writes 97 = .ok (.invokestatic 106, 3) := by decide +kernel
theorem dX9_writes_100 : decode cX9_writes 100 = .ok (.istore 5, 2) := by decide +kernel
theorem dX9_writes_102 : decode cX9_writes 102 = .ok (.aload_n 0, 1) := by decide +kernel
theorem dX9_writes_103 : decode cX9_writes 103 = .ok (.getfield 30, 3) := by decide +kernel
theorem dX9_writes_106 : decode cX9_writes 106 = .ok (.iload_n 2, 1) := by decide +kernel
theorem dX9_writes_107 : decode cX9_writes 107 = .ok (.iload 5, 2) := by decide +kernel
theorem dX9_writes_109 : decode cX9_writes 109 = .ok (.ineg, 1) := by decide +kernel
theorem dX9_writes_110 : decode cX9_writes 110 = .ok (.iload_n 2, 1) := by decide +kernel
theorem dX9_writes_111 : decode cX9_writes 111 = .ok (.iconst 1, 1) := by decide +kernel
theorem dX9_writes_112 : decode cX9_writes 112 = .ok (.iand, 1) := by decide +kernel
theorem dX9_writes_113 : decode cX9_writes 113 = .ok (.isub, 1) := by decide +kernel
theorem dX9_writes_114 : decode cX9_writes 114 = .ok (.iastore, 1) := by decide +kernel
theorem dX9_writes_115 : decode cX9_writes 115 = .ok (.aload_n 0, 1) := by decide +kernel
theorem dX9_writes_116 : decode cX9_writes 116 = .ok (.getfield 33, 3) := by decide +kernel
theorem dX9_writes_119 : decode cX9_writes 119 = .ok (.iload_n 2, 1) := by decide +kernel
theorem dX9_writes_120 : decode cX9_writes 120 = .ok (.iload_n 2, 1) := by decide +kernel
theorem dX9_writes_121 : decode cX9_writes 121 = .ok (.iconst 1, 1) := by decide +kernel
theorem dX9_writes_122 : decode cX9_writes 122 = .ok (.if_icmp .le 10, 3) := by decide +kernel
theorem dX9_writes_125 : decode cX9_writes 125 = .ok (.iconst 2, 1) := by decide +kernel
theorem dX9_writes_126 : decode cX9_writes 126 = .ok (.iload 5, 2) := by decide +kernel
theorem dX9_writes_128 : decode cX9_writes 128 = .ok (.isub, 1) := by decide +kernel
theorem dX9_writes_129 : decode cX9_writes 129 = .ok (.goto 6, 3) := by decide +kernel
theorem dX9_writes_132 : decode cX9_writes 132 = .ok (.iload 5, 2) := by decide +kernel
theorem dX9_writes_134 : decode cX9_writes 134 = .ok (.ineg, 1) := by decide +kernel
theorem dX9_writes_135 : decode cX9_writes 135 = .ok (.iastore, 1) := by decide +kernel
theorem dX9_writes_136 : decode cX9_writes 136 = .ok (.iinc 2 1, 3) := by decide +kernel
theorem dX9_writes_139 : decode cX9_writes 139 = .ok (.goto (-122), 3) := by decide +kernel
theorem dX9_writes_142 : decode cX9_writes 142 = .ok (.iconst 0, 1) := by decide +kernel
theorem dX9_writes_143 : decode cX9_writes 143 = .ok (.istore_n 2, 1) := by decide +kernel
theorem dX9_writes_144 : decode cX9_writes 144 = .ok (.iconst 0, 1) := by decide +kernel
theorem dX9_writes_145 : decode cX9_writes 145 = .ok (.istore_n 3, 1) := by decide +kernel
theorem dX9_writes_146 : decode cX9_writes 146 = .ok (.iload_n 3, 1) := by decide +kernel
theorem dX9_writes_147 : decode cX9_writes 147 = .ok (.iconst 4, 1) := by decide +kernel
theorem dX9_writes_148 : decode cX9_writes 148 = .ok (.if_icmp .ge 65, 3) := by decide +kernel
theorem dX9_writes_151 : decode cX9_writes 151 = .ok (.aload_n 0, 1) := by decide +kernel
theorem dX9_writes_152 : decode cX9_writes 152 = .ok (.getfield 30, 3) := by decide +kernel
theorem dX9_writes_155 : decode cX9_writes 155 = .ok (.iload_n 3, 1) := by decide +kernel
theorem dX9_writes_156 : decode cX9_writes 156 = .ok (.iaload, 1) := by decide +kernel
theorem dX9_writes_157 : decode cX9_writes 157 = .ok (.aload_n 0, 1) := by decide +kernel
theorem dX9_writes_158 : decode cX9_writes 158 = .ok (.getfield 30, 3) := by decide +kernel
theorem dX9_writes_161 : decode cX9_writes 161 = .ok (.iload_n 3, 1) := by decide +kernel
theorem dX9_writes_162 : decode cX9_writes 162 = .ok (.iconst 1, 1) := by decide +kernel
theorem dX9_writes_163 : decode cX9_writes 163 = .ok (.ixor, 1) := by decide +kernel
theorem dX9_writes_164 : decode cX9_writes 164 = .ok (.iaload, 1) := by decide +kernel
theorem dX9_writes_165 : decode cX9_writes 165 = .ok (.if_icmp .lt 24, 3) := by decide +kernel
theorem dX9_writes_168 : decode cX9_writes 168 = .ok (.aload_n 0, 1) := by decide +kernel
theorem dX9_writes_169 : decode cX9_writes 169 = .ok (.getfield 33, 3) := by decide +kernel
theorem dX9_writes_172 : decode cX9_writes 172 = .ok (.iload_n 3, 1) := by decide +kernel
theorem dX9_writes_173 : decode cX9_writes 173 = .ok (.iaload, 1) := by decide +kernel
theorem dX9_writes_174 : decode cX9_writes 174 = .ok (.aload_n 0, 1) := by decide +kernel
theorem dX9_writes_175 : decode cX9_writes 175 = .ok (.getfield 33, 3) := by decide +kernel
theorem dX9_writes_178 : decode cX9_writes 178 = .ok (.iload_n 3, 1) := by decide +kernel
theorem dX9_writes_179 : decode cX9_writes 179 = .ok (.iconst 2, 1) := by decide +kernel
theorem dX9_writes_180 : decode cX9_writes 180 = .ok (.ixor, 1) := by decide +kernel
theorem dX9_writes_181 : decode cX9_writes 181 = .ok (.iaload, 1) := by decide +kernel
theorem dX9_writes_182 : decode cX9_writes 182 = .ok (.if_icmp .lt 7, 3) := by decide +kernel
theorem dX9_writes_185 : decode cX9_writes 185 = .ok (.iconst 1, 1) := by decide +kernel
theorem dX9_writes_186 : decode cX9_writes 186 = .ok (.goto 4, 3) := by decide +kernel
theorem dX9_writes_189 : decode cX9_writes 189 = .ok (.iconst 0, 1) := by decide +kernel
theorem dX9_writes_190 : decode cX9_writes 190 = .ok (.istore 4, 2) := by decide +kernel
theorem dX9_writes_192 : decode cX9_writes 192 = .ok (.iload_n 2, 1) := by decide +kernel
theorem dX9_writes_193 : decode cX9_writes 193 = .ok (.iload 4, 2) := by decide +kernel
theorem dX9_writes_195 : decode cX9_writes 195 = .ok (.ifCond .eq 9, 3) := by decide +kernel
theorem dX9_writes_198 : decode cX9_writes 198 = .ok (.iconst 1, 1) := by decide +kernel
theorem dX9_writes_199 : decode cX9_writes 199 = .ok (.iload_n 3, 1) := by decide +kernel
theorem dX9_writes_200 : decode cX9_writes 200 = .ok (.ishl, 1) := by decide +kernel
theorem dX9_writes_201 : decode cX9_writes 201 = .ok (.goto 4, 3) := by decide +kernel
theorem dX9_writes_204 : decode cX9_writes 204 = .ok (.iconst 0, 1) := by decide +kernel
theorem dX9_writes_205 : decode cX9_writes 205 = .ok (.ior, 1) := by decide +kernel
theorem dX9_writes_206 : decode cX9_writes 206 = .ok (.istore_n 2, 1) := by decide +kernel
theorem dX9_writes_207 : decode cX9_writes 207 = .ok (.iinc 3 1, 3) := by decide +kernel
theorem dX9_writes_210 : decode cX9_writes 210 = .ok (.goto (-64), 3) := by decide +kernel
theorem dX9_writes_213 : decode cX9_writes 213 = .ok (.iload_n 2, 1) := by decide +kernel
theorem dX9_writes_214 : decode cX9_writes 214 = .ok (.ireturn, 1) := by decide +kernel
theorem dX9_fraction_0 : decode cX9_fraction 0 = .ok (.lload_n 1, 1) := by decide +kernel
theorem dX9_fraction_1 : decode cX9_fraction 1 = .ok (.lstore 5, 2) := by decide +kernel
theorem dX9_fraction_3 : decode cX9_fraction 3 = .ok (.lload_n 3, 1) := by decide +kernel
theorem dX9_fraction_4 : decode cX9_fraction 4 = .ok (.lstore 7, 2) := by decide +kernel
theorem dX9_fraction_6 : decode cX9_fraction 6 = .ok (.lload 7, 2) := by decide +kernel
theorem dX9_fraction_8 : decode cX9_fraction 8 = .ok (.lconst 0, 1) := by decide +kernel
theorem dX9_fraction_9 : decode cX9_fraction 9 = .ok (.lcmp, 1) := by decide +kernel
theorem dX9_fraction_10 : decode cX9_fraction 10 = .ok (.ifCond .eq 21, 3) := by decide +kernel
theorem dX9_fraction_13 : decode cX9_fraction 13 = .ok (.lload 5, 2) := by decide +kernel
theorem dX9_fraction_15 : decode cX9_fraction 15 = .ok (.lload 7, 2) := by decide +kernel
theorem dX9_fraction_17 : decode cX9_fraction 17 = .ok (.lrem, 1) := by decide +kernel
theorem dX9_fraction_18 : decode cX9_fraction 18 = .ok (.lstore 9, 2) := by decide +kernel
theorem dX9_fraction_20 : decode cX9_fraction 20 = .ok (.lload 7, 2) := by decide +kernel
theorem dX9_fraction_22 : decode cX9_fraction 22 = .ok (.lstore 5, 2) := by decide +kernel
theorem dX9_fraction_24 : decode cX9_fraction 24 = .ok (.lload 9, 2) := by decide +kernel
theorem dX9_fraction_26 : decode cX9_fraction 26 = .ok (.lstore 7, 2) := by decide +kernel
theorem dX9_fraction_28 : decode cX9_fraction 28 = .ok (.goto (-22), 3) := by decide +kernel
theorem dX9_fraction_31 : decode cX9_fraction 31 = .ok (.aload_n 0, 1) := by decide +kernel
theorem dX9_fraction_32 : decode cX9_fraction 32 = .ok (.lload_n 1, 1) := by decide +kernel
theorem dX9_fraction_33 : decode cX9_fraction 33 = .ok (.lload 5, 2) := by decide +kernel
theorem dX9_fraction_35 : decode cX9_fraction 35 = .ok (.ldiv, 1) := by decide +kernel
theorem dX9_fraction_36 : decode cX9_fraction 36 = .ok (.putfield 158, 3) := by decide +kernel
theorem dX9_fraction_39 : decode cX9_fraction 39 = .ok (.aload_n 0, 1) := by decide +kernel
theorem dX9_fraction_40 : decode cX9_fraction 40 = .ok (.lload_n 3, 1) := by decide +kernel
theorem dX9_fraction_41 : decode cX9_fraction 41 = .ok (.lload 5, 2) := by decide +kernel
theorem dX9_fraction_43 : decode cX9_fraction 43 = .ok (.ldiv, 1) := by decide +kernel
theorem dX9_fraction_44 : decode cX9_fraction 44 = .ok (.putfield 23, 3) := by decide +kernel
theorem dX9_fraction_47 : decode cX9_fraction 47 = .ok (.return_, 1) := by decide +kernel
set_option maxRecDepth 20000 in
theorem ggX9_heard_X9_in : GoodIn wsX9_heard wsX9_in := goodIn_r _ [6] (by decide +kernel) (by decide +kernel)
set_option maxRecDepth 20000 in
theorem gX9_heard_X9_in : GoodIn wsX9_heard (va_wsS RX9 56 yX9_in wsX9_in) := goodIn_app (goodIn_of _ (by decide +kernel)) ggX9_heard_X9_in
set_option maxRecDepth 20000 in
theorem ggX9_heard_X9_bad : GoodIn wsX9_heard wsX9_bad := goodIn_r _ [10, 11, 48, 49, 50, 51, 52, 53, 54, 55, 56, 57, 58, 59, 60, 61, 62, 63, 64, 65] (by decide +kernel) (by decide +kernel)
set_option maxRecDepth 20000 in
theorem gX9_heard_X9_bad : GoodIn wsX9_heard (wsV RX9 73 RX9 yX9_bad wsX9_bad) := goodIn_app (goodIn_of _ (by decide +kernel)) ggX9_heard_X9_bad
set_option maxRecDepth 20000 in
theorem ggX9_heard_X9_many : GoodIn wsX9_heard wsX9_many := goodIn_r _ [15, 2, 48, 49, 50, 51, 52, 53, 54, 55, 56, 57, 58, 59, 60, 61, 62, 63, 64, 65] (by decide +kernel) (by decide +kernel)
set_option maxRecDepth 20000 in
theorem gX9_heard_X9_many : GoodIn wsX9_heard (wsV RX9 52 RX9 yX9_many wsX9_many) := goodIn_app (goodIn_of _ (by decide +kernel)) ggX9_heard_X9_many
set_option maxRecDepth 20000 in
theorem ggX9_heard_X9_noteOf : GoodIn wsX9_heard wsX9_noteOf := goodIn_r _ [19, 2, 48, 49, 50, 51, 52, 53, 54, 55, 56, 57, 58, 59, 60, 61, 62, 63, 64, 65] (by decide +kernel) (by decide +kernel)
set_option maxRecDepth 20000 in
theorem gX9_heard_X9_noteOf : GoodIn wsX9_heard (wsV RX9 124 RX9 yX9_noteOf wsX9_noteOf) := goodIn_app (goodIn_of _ (by decide +kernel)) ggX9_heard_X9_noteOf
set_option maxRecDepth 20000 in
theorem ggX9_heard_X9_cost : GoodIn wsX9_heard wsX9_cost := goodIn_r _ [23, 2, 24, 25, 5, 26, 27, 28, 29, 30, 31, 32, 33, 34, 35, 36, 37, 38, 39, 40, 41, 48, 49, 50, 51, 52, 53, 54, 55, 56, 57, 58, 59, 60, 61, 62, 63, 64, 65] (by decide +kernel) (by decide +kernel)
set_option maxRecDepth 20000 in
theorem gX9_heard_X9_cost : GoodIn wsX9_heard (wsV RX9 134 RX9 yX9_cost wsX9_cost) := goodIn_app (goodIn_of _ (by decide +kernel)) ggX9_heard_X9_cost
set_option maxRecDepth 20000 in
theorem ggX9_heard_X9_fraction : GoodIn wsX9_heard wsX9_fraction := goodIn_r _ [45, 46, 47, 48, 49, 50, 51, 52, 53, 54, 55, 56, 57, 58, 59, 60, 61, 62, 63, 64, 65] (by decide +kernel) (by decide +kernel)
set_option maxRecDepth 20000 in
theorem gX9_heard_X9_fraction : GoodIn wsX9_heard (wsV RX9 163 RX9 yX9_fraction wsX9_fraction) := goodIn_app (goodIn_of _ (by decide +kernel)) ggX9_heard_X9_fraction
theorem dX9_heard_0 : decode cX9_heard 0 = .ok (.iload_n 1, 1) := by decide +kernel
theorem dX9_heard_1 : decode cX9_heard 1 = .ok (.i2l, 1) := by decide +kernel
theorem dX9_heard_2 : decode cX9_heard 2 = .ok (.lconst 0, 1) := by decide +kernel
theorem dX9_heard_3 : decode cX9_heard 3 = .ok (.ldc2_w 161, 3) := by decide +kernel
theorem dX9_heard_6 : decode cX9_heard 6 = .ok (.invokestatic 56, 3) := by decide +kernel
theorem dX9_heard_9 : decode cX9_heard 9 = .ok (.ifCond .ne 10, 3) := by decide +kernel
theorem dX9_heard_12 : decode cX9_heard 12 = .ok (.aload_n 0, 1) := by decide +kernel
theorem dX9_heard_13 : decode cX9_heard 13 = .ok (.bipush (-2), 2) := by decide +kernel
theorem dX9_heard_15 : decode cX9_heard 15 = .ok (.invokevirtual 73, 3) := by decide +kernel
theorem dX9_heard_18 : decode cX9_heard 18 = .ok (.ireturn, 1) := by decide +kernel
theorem dX9_heard_19 : decode cX9_heard 19 = .ok (.iconst 0, 1) := by decide +kernel
theorem dX9_heard_20 : decode cX9_heard 20 = .ok (.istore_n 2, 1) := by decide +kernel
theorem dX9_heard_21 : decode cX9_heard 21 = .ok (.aload_n 0, 1) := by decide +kernel
theorem dX9_heard_22 : decode cX9_heard 22 = .ok (.getfield 7, 3) := by decide +kernel
theorem dX9_heard_25 : decode cX9_heard 25 = .ok (.iconst 4, 1) := by decide +kernel
theorem dX9_heard_26 : decode cX9_heard 26 = .ok (.iaload, 1) := by decide +kernel
theorem dX9_heard_27 : decode cX9_heard 27 = .ok (.istore_n 3, 1) := by decide +kernel
theorem dX9_heard_28 : decode cX9_heard 28 = .ok (.iload_n 3, 1) := by decide +kernel
theorem dX9_heard_29 : decode cX9_heard 29 = .ok (.aload_n 0, 1) := by decide +kernel
theorem dX9_heard_30 : decode cX9_heard 30 = .ok (.invokevirtual 52, 3) := by decide +kernel
theorem dX9_heard_33 : decode cX9_heard 33 = .ok (.if_icmp .ge 36, 3) := by decide +kernel
theorem dX9_heard_36 : decode cX9_heard 36 = .ok (.iload_n 2, 1) := by decide +kernel
theorem dX9_heard_37 : decode cX9_heard 37 = .ok (.bipush 10, 2) := by decide +kernel
theorem dX9_heard_39 : decode cX9_heard 39 = .ok (.iload_n 1, 1) := by decide +kernel
theorem dX9_heard_40 : decode cX9_heard 40 = .ok (.isub, 1) := by decide +kernel
theorem dX9_heard_41 : decode cX9_heard 41 = .ok (.aload_n 0, 1) := by decide +kernel
theorem dX9_heard_42 : decode cX9_heard 42 = .ok (.iload_n 3, 1) := by decide +kernel
theorem dX9_heard_43 : decode cX9_heard 43 = .ok (.aload_n 0, 1) := by decide +kernel
theorem dX9_heard_44 : decode cX9_heard 44 = .ok (.iload_n 3, 1) := by decide +kernel
theorem dX9_heard_45 : decode cX9_heard 45 = .ok (.invokevirtual 124, 3) := by decide +kernel
theorem dX9_heard_48 : decode cX9_heard 48 = .ok (.invokevirtual 134, 3) := by decide +kernel
theorem dX9_heard_51 : decode cX9_heard 51 = .ok (.imul, 1) := by decide +kernel
theorem dX9_heard_52 : decode cX9_heard 52 = .ok (.iload_n 1, 1) := by decide +kernel
theorem dX9_heard_53 : decode cX9_heard 53 = .ok (.aload_n 0, 1) := by decide +kernel
theorem dX9_heard_54 : decode cX9_heard 54 = .ok (.iload_n 3, 1) := by decide +kernel
theorem dX9_heard_55 : decode cX9_heard 55 = .ok (.iconst 0, 1) := by decide +kernel
theorem dX9_heard_56 : decode cX9_heard 56 = .ok (.invokevirtual 134, 3) := by decide +kernel
theorem dX9_heard_59 : decode cX9_heard 59 = .ok (.imul, 1) := by decide +kernel
theorem dX9_heard_60 : decode cX9_heard 60 = .ok (.iadd, 1) := by decide +kernel
theorem dX9_heard_61 : decode cX9_heard 61 = .ok (.iadd, 1) := by decide +kernel
theorem dX9_heard_62 : decode cX9_heard 62 = .ok (.istore_n 2, 1) := by decide +kernel
theorem dX9_heard_63 : decode cX9_heard 63 = .ok (.iinc 3 1, 3) := by decide +kernel
theorem dX9_heard_66 : decode cX9_heard 66 = .ok (.goto (-38), 3) := by decide +kernel
theorem dX9_heard_69 : decode cX9_heard 69 = .ok (.aload_n 0, 1) := by decide +kernel
theorem dX9_heard_70 : decode cX9_heard 70 = .ok (.iload_n 2, 1) := by decide +kernel
theorem dX9_heard_71 : decode cX9_heard 71 = .ok (.i2l, 1) := by decide +kernel
theorem dX9_heard_72 : decode cX9_heard 72 = .ok (.ldc2_w 161, 3) := by decide +kernel
theorem dX9_heard_75 : decode cX9_heard 75 = .ok (.invokevirtual 163, 3) := by decide +kernel
theorem dX9_heard_78 : decode cX9_heard 78 = .ok (.iconst 1, 1) := by decide +kernel
theorem dX9_heard_79 : decode cX9_heard 79 = .ok (.ireturn, 1) := by decide +kernel
set_option maxRecDepth 20000 in
theorem ggX9_rallies_X9_in : GoodIn wsX9_rallies wsX9_in := goodIn_r _ [15] (by decide +kernel) (by decide +kernel)
set_option maxRecDepth 20000 in
theorem gX9_rallies_X9_in : GoodIn wsX9_rallies (va_wsS RX9 56 yX9_in wsX9_in) := goodIn_app (goodIn_of _ (by decide +kernel)) ggX9_rallies_X9_in
set_option maxRecDepth 20000 in
theorem ggX9_rallies_X9_bad : GoodIn wsX9_rallies wsX9_bad := goodIn_r _ [19, 20, 46, 47, 48, 49, 50, 51, 52, 53, 54, 55, 56, 57, 58, 59, 60, 61, 62, 63] (by decide +kernel) (by decide +kernel)
set_option maxRecDepth 20000 in
theorem gX9_rallies_X9_bad : GoodIn wsX9_rallies (wsV RX9 73 RX9 yX9_bad wsX9_bad) := goodIn_app (goodIn_of _ (by decide +kernel)) ggX9_rallies_X9_bad
set_option maxRecDepth 20000 in
theorem ggX9_rallies_X9_many : GoodIn wsX9_rallies wsX9_many := goodIn_r _ [24, 4, 46, 47, 48, 49, 50, 51, 52, 53, 54, 55, 56, 57, 58, 59, 60, 61, 62, 63] (by decide +kernel) (by decide +kernel)
set_option maxRecDepth 20000 in
theorem gX9_rallies_X9_many : GoodIn wsX9_rallies (wsV RX9 52 RX9 yX9_many wsX9_many) := goodIn_app (goodIn_of _ (by decide +kernel)) ggX9_rallies_X9_many
set_option maxRecDepth 20000 in
theorem ggX9_rallies_X9_goDrive : GoodIn wsX9_rallies wsX9_goDrive := goodIn_r _ [27, 28, 29, 14, 30, 31, 32, 33, 34, 35, 36, 37, 38, 39, 40, 41, 42, 43, 44, 45] (by decide +kernel) (by decide +kernel)
set_option maxRecDepth 20000 in
theorem gX9_rallies_X9_goDrive : GoodIn wsX9_rallies (va_wsS RX9 121 yX9_goDrive wsX9_goDrive) := goodIn_app (goodIn_of _ (by decide +kernel)) ggX9_rallies_X9_goDrive
theorem dX9_rallies_0 : decode cX9_rallies 0 = .ok (.iload_n 1, 1) := by decide +kernel
theorem dX9_rallies_1 : decode cX9_rallies 1 = .ok (.i2l, 1) := by decide +kernel
theorem dX9_rallies_2 : decode cX9_rallies 2 = .ok (.lconst 0, 1) := by decide +kernel
theorem dX9_rallies_3 : decode cX9_rallies 3 = .ok (.ldc2_w 167, 3) := by decide +kernel
theorem dX9_rallies_6 : decode cX9_rallies 6 = .ok (.invokestatic 56, 3) := by decide +kernel
theorem dX9_rallies_9 : decode cX9_rallies 9 = .ok (.ifCond .eq 15, 3) := by decide +kernel
theorem dX9_rallies_12 : decode cX9_rallies 12 = .ok (.iload_n 2, 1) := by decide +kernel
theorem dX9_rallies_13 : decode cX9_rallies 13 = .ok (.i2l, 1) := by decide +kernel
theorem dX9_rallies_14 : decode cX9_rallies 14 = .ok (.lconst 0, 1) := by decide +kernel
theorem dX9_rallies_15 : decode cX9_rallies 15 = .ok (.ldc2_w 169, 3) := by decide +kernel
theorem dX9_rallies_18 : decode cX9_rallies 18 = .ok (.invokestatic 56, 3) := by decide +kernel
theorem dX9_rallies_21 : decode cX9_rallies 21 = .ok (.ifCond .ne 10, 3) := by decide +kernel
theorem dX9_rallies_24 : decode cX9_rallies 24 = .ok (.aload_n 0, 1) := by decide +kernel
theorem dX9_rallies_25 : decode cX9_rallies 25 = .ok (.bipush (-2), 2) := by decide +kernel
theorem dX9_rallies_27 : decode cX9_rallies 27 = .ok (.invokevirtual 73, 3) := by decide +kernel
theorem dX9_rallies_30 : decode cX9_rallies 30 = .ok (.ireturn, 1) := by decide +kernel
theorem dX9_rallies_31 : decode cX9_rallies 31 = .ok (.iload_n 1, 1) := by decide +kernel
theorem dX9_rallies_32 : decode cX9_rallies 32 = .ok (.i2l, 1) := by decide +kernel
theorem dX9_rallies_33 : decode cX9_rallies 33 = .ok (.lstore_n 3, 1) := by decide +kernel
theorem dX9_rallies_34 : decode cX9_rallies 34 = .ok (.iconst 0, 1) := by decide +kernel
theorem dX9_rallies_35 : decode cX9_rallies 35 = .ok (.istore 5, 2) := by decide +kernel
theorem dX9_rallies_37 : decode cX9_rallies 37 = .ok (.iconst 0, 1) := by decide +kernel
theorem dX9_rallies_38 : decode cX9_rallies 38 = .ok (.istore 6, 2) := by decide +kernel
theorem dX9_rallies_40 : decode cX9_rallies 40 = .ok (.iload 6, 2) := by decide +kernel
theorem dX9_rallies_42 : decode cX9_rallies 42 = .ok (.bipush 42, 2) := by decide +kernel
theorem dX9_rallies_44 : decode cX9_rallies 44 = .ok (.if_icmp .ge 23, 3) := by decide +kernel
theorem dX9_rallies_47 : decode cX9_rallies 47 = .ok (.aload_n 0, 1) := by decide +kernel
theorem dX9_rallies_48 : decode cX9_rallies 48 = .ok (.getfield 36, 3) := by decide +kernel
theorem dX9_rallies_51 : decode cX9_rallies 51 = .ok (.iload 6, 2) := by decide +kernel
theorem dX9_rallies_53 : decode cX9_rallies 53 = .ok (.aload_n 0, 1) := by decide +kernel
theorem dX9_rallies_54 : decode cX9_rallies 54 = .ok (.getfield 7, 3) := by decide +kernel
theorem dX9_rallies_57 : decode cX9_rallies 57 = .ok (.iload 6, 2) := by decide +kernel
theorem dX9_rallies_59 : decode cX9_rallies 59 = .ok (.iaload, 1) := by decide +kernel
theorem dX9_rallies_60 : decode cX9_rallies 60 = .ok (.iastore, 1) := by decide +kernel
theorem dX9_rallies_61 : decode cX9_rallies 61 = .ok (.iinc 6 1, 3) := by decide +kernel
theorem dX9_rallies_64 : decode cX9_rallies 64 = .ok (.goto (-24), 3) := by decide +kernel
theorem dX9_rallies_67 : decode cX9_rallies 67 = .ok (.iconst 0, 1) := by decide +kernel
theorem dX9_rallies_68 : decode cX9_rallies 68 = .ok (.istore 6, 2) := by decide +kernel
theorem dX9_rallies_70 : decode cX9_rallies 70 = .ok (.iload 6, 2) := by decide +kernel
theorem dX9_rallies_72 : decode cX9_rallies 72 = .ok (.iload_n 2, 1) := by decide +kernel
theorem dX9_rallies_73 : decode cX9_rallies 73 = .ok (.if_icmp .ge 80, 3) := by decide +kernel
theorem dX9_rallies_76 : decode cX9_rallies 76 = .ok (.lload_n 3, 1) := by decide +kernel
theorem dX9_rallies_77 : decode cX9_rallies 77 = .ok (.ldc2_w 171, 3) := by decide +kernel
theorem dX9_rallies_80 : decode cX9_rallies 80 = .ok (.lmul, 1) := by decide +kernel
theorem dX9_rallies_81 : decode cX9_rallies 81 = .ok (.ldc2_w 173, 3) := by decide +kernel
theorem dX9_rallies_84 : decode cX9_rallies 84 = .ok (.ladd, 1) := by decide +kernel
theorem dX9_rallies_85 : decode cX9_rallies 85 = .ok (.ldc2_w 175, 3) := by decide +kernel
theorem dX9_rallies_88 : decode cX9_rallies 88 = .ok (.lrem, 1) := by decide +kernel
theorem dX9_rallies_89 : decode cX9_rallies 89 = .ok (.lstore_n 3, 1) := by decide +kernel
theorem dX9_rallies_90 : decode cX9_rallies 90 = .ok (.aload_n 0, 1) := by decide +kernel
theorem dX9_rallies_91 : decode cX9_rallies 91 = .ok (.getfield 36, 3) := by decide +kernel
theorem dX9_rallies_94 : decode cX9_rallies 94 = .ok (.bipush 15, 2) := by decide +kernel
theorem dX9_rallies_96 : decode cX9_rallies 96 = .ok (.lload_n 3, 1) := by decide +kernel
theorem dX9_rallies_97 : decode cX9_rallies 97 = .ok (.ldc2_w 177, 3) := by decide +kernel
theorem dX9_rallies_100 : decode cX9_rallies 100 = .ok (.ldiv, 1) := by decide +kernel
theorem dX9_rallies_101 : decode cX9_rallies 101 = .ok (.ldc2_w 62, 3) := by decide +kernel
theorem dX9_rallies_104 : decode cX9_rallies 104 = .ok (.lrem, 1) := by decide +kernel
theorem dX9_rallies_105 : decode cX9_rallies 105 = .ok (.l2i, 1) := by decide +kernel
theorem dX9_rallies_106 : decode cX9_rallies 106 = .ok (.iastore, 1) := by decide +kernel
theorem dX9_rallies_107 : decode cX9_rallies 107 = .ok (.aload_n 0, 1) := by decide +kernel
theorem dX9_rallies_108 : decode cX9_rallies 108 = .ok (.getfield 36, 3) := by decide +kernel
theorem dX9_rallies_111 : decode cX9_rallies 111 = .ok (.bipush 16, 2) := by decide +kernel
theorem dX9_rallies_113 : decode cX9_rallies 113 = .ok (.lload_n 3, 1) := by decide +kernel
theorem dX9_rallies_114 : decode cX9_rallies 114 = .ok (.ldc2_w 179, 3) := by decide +kernel
theorem dX9_rallies_117 : decode cX9_rallies 117 = .ok (.ldiv, 1) := by decide +kernel
theorem dX9_rallies_118 : decode cX9_rallies 118 = .ok (.ldc2_w 161, 3) := by decide +kernel
theorem dX9_rallies_121 : decode cX9_rallies 121 = .ok (.lrem, 1) := by decide +kernel
theorem dX9_rallies_122 : decode cX9_rallies 122 = .ok (.l2i, 1) := by decide +kernel
theorem dX9_rallies_123 : decode cX9_rallies 123 = .ok (.iastore, 1) := by decide +kernel
theorem dX9_rallies_124 : decode cX9_rallies 124 = .ok (.aload_n 0, 1) := by decide +kernel
theorem dX9_rallies_125 : decode cX9_rallies 125 = .ok (.getfield 36, 3) := by decide +kernel
theorem dX9_rallies_128 : decode cX9_rallies 128 = .ok (.iconst 4, 1) := by decide +kernel
theorem dX9_rallies_129 : decode cX9_rallies 129 = .ok (.iconst 0, 1) := by decide +kernel
theorem dX9_rallies_130 : decode cX9_rallies 130 = .ok (.iastore, 1) := by decide +kernel
theorem dX9_rallies_131 : decode cX9_rallies 131 = .ok (.iload 5, 2) := by decide +kernel
theorem dX9_rallies_133 : decode cX9_rallies 133 = .ok (.aload_n 0, 1) := by decide +kernel
theorem dX9_rallies_134 : decode cX9_rallies 134 = .ok (.getfield 36, 3) := by decide +kernel
theorem dX9_rallies_137 : decode cX9_rallies 137 = .ok (.aload_n 0, 1) := by decide +kernel
theorem dX9_rallies_138 : decode cX9_rallies 138 = .ok (.invokevirtual 52, 3) := by decide +kernel
theorem dX9_rallies_141 : decode cX9_rallies 141 = .ok (.invokestatic 121, 3) := by decide +kernel
theorem dX9_rallies_144 : decode cX9_rallies 144 = .ok (.iadd, 1) := by decide +kernel
theorem dX9_rallies_145 : decode cX9_rallies 145 = .ok (.istore 5, 2) := by decide +kernel
theorem dX9_rallies_147 : decode cX9_rallies 147 = .ok (.iinc 6 1, 3) := by decide +kernel
theorem dX9_rallies_150 : decode cX9_rallies 150 = .ok (.goto (-80), 3) := by decide +kernel
theorem dX9_rallies_153 : decode cX9_rallies 153 = .ok (.iload 5, 2) := by decide +kernel
theorem dX9_rallies_155 : decode cX9_rallies 155 = .ok (.ireturn, 1) := by decide +kernel
set_option maxRecDepth 20000 in
theorem ggX9_type_X9_in : GoodIn wsX9_type wsX9_in := goodIn_r _ [7] (by decide +kernel) (by decide +kernel)
set_option maxRecDepth 20000 in
theorem gX9_type_X9_in : GoodIn wsX9_type (va_wsS RX9 56 yX9_in wsX9_in) := goodIn_app (goodIn_of _ (by decide +kernel)) ggX9_type_X9_in
set_option maxRecDepth 20000 in
theorem ggX9_type_X9_bad : GoodIn wsX9_type wsX9_bad := goodIn_r _ [11, 12, 17, 18, 19, 20, 21, 22, 23, 24, 25, 26, 27, 28, 29, 30, 31, 32, 33, 34] (by decide +kernel) (by decide +kernel)
set_option maxRecDepth 20000 in
theorem gX9_type_X9_bad : GoodIn wsX9_type (wsV RX9 73 RX9 yX9_bad wsX9_bad) := goodIn_app (goodIn_of _ (by decide +kernel)) ggX9_type_X9_bad
set_option maxRecDepth 20000 in
theorem ggX9_type_X9_full : GoodIn wsX9_type wsX9_full := goodIn_r _ [16, 12, 17, 18, 19, 20, 21, 22, 23, 24, 25, 26, 27, 28, 29, 30, 31, 32, 33, 34] (by decide +kernel) (by decide +kernel)
set_option maxRecDepth 20000 in
theorem gX9_type_X9_full : GoodIn wsX9_type (wsV RX9 80 RX9 yX9_full wsX9_full) := goodIn_app (goodIn_of _ (by decide +kernel)) ggX9_type_X9_full
theorem dX9_type_0 : decode cX9_type 0 = .ok (.iload_n 1, 1) := by decide +kernel
theorem dX9_type_1 : decode cX9_type 1 = .ok (.i2l, 1) := by decide +kernel
theorem dX9_type_2 : decode cX9_type 2 = .ok (.lconst 0, 1) := by decide +kernel
theorem dX9_type_3 : decode cX9_type 3 = .ok (.ldc2_w 181, 3) := by decide +kernel
theorem dX9_type_6 : decode cX9_type 6 = .ok (.invokestatic 56, 3) := by decide +kernel
theorem dX9_type_9 : decode cX9_type 9 = .ok (.ifCond .ne 10, 3) := by decide +kernel
theorem dX9_type_12 : decode cX9_type 12 = .ok (.aload_n 0, 1) := by decide +kernel
theorem dX9_type_13 : decode cX9_type 13 = .ok (.bipush (-2), 2) := by decide +kernel
theorem dX9_type_15 : decode cX9_type 15 = .ok (.invokevirtual 73, 3) := by decide +kernel
theorem dX9_type_18 : decode cX9_type 18 = .ok (.ireturn, 1) := by decide +kernel
theorem dX9_type_19 : decode cX9_type 19 = .ok (.aload_n 0, 1) := by decide +kernel
theorem dX9_type_20 : decode cX9_type 20 = .ok (.getfield 183, 3) := by decide +kernel
theorem dX9_type_23 : decode cX9_type 23 = .ok (.sipush 150, 3) := by decide +kernel
theorem dX9_type_26 : decode cX9_type 26 = .ok (.if_icmp .ne 8, 3) := by decide +kernel
theorem dX9_type_29 : decode cX9_type 29 = .ok (.aload_n 0, 1) := by decide +kernel
theorem dX9_type_30 : decode cX9_type 30 = .ok (.invokevirtual 80, 3) := by decide +kernel
theorem dX9_type_33 : decode cX9_type 33 = .ok (.ireturn, 1) := by decide +kernel
theorem dX9_type_34 : decode cX9_type 34 = .ok (.aload_n 0, 1) := by decide +kernel
theorem dX9_type_35 : decode cX9_type 35 = .ok (.getfield 39, 3) := by decide +kernel
theorem dX9_type_38 : decode cX9_type 38 = .ok (.aload_n 0, 1) := by decide +kernel
theorem dX9_type_39 : decode cX9_type 39 = .ok (.getfield 183, 3) := by decide +kernel
theorem dX9_type_42 : decode cX9_type 42 = .ok (.iload_n 1, 1) := by decide +kernel
theorem dX9_type_43 : decode cX9_type 43 = .ok (.iastore, 1) := by decide +kernel
theorem dX9_type_44 : decode cX9_type 44 = .ok (.aload_n 0, 1) := by decide +kernel
theorem dX9_type_45 : decode cX9_type 45 = .ok (.dup, 1) := by decide +kernel
theorem dX9_type_46 : decode cX9_type 46 = .ok (.getfield 183, 3) := by decide +kernel
theorem dX9_type_49 : decode cX9_type 49 = .ok (.iconst 1, 1) := by decide +kernel
theorem dX9_type_50 : decode cX9_type 50 = .ok (.iadd, 1) := by decide +kernel
theorem dX9_type_51 : decode cX9_type 51 = .ok (.putfield 183, 3) := by decide +kernel
theorem dX9_type_54 : decode cX9_type 54 = .ok (.aload_n 0, 1) := by decide +kernel
theorem dX9_type_55 : decode cX9_type 55 = .ok (.getfield 183, 3) := by decide +kernel
theorem dX9_type_58 : decode cX9_type 58 = .ok (.ireturn, 1) := by decide +kernel
theorem dX9_clear_0 : decode cX9_clear 0 = .ok (.aload_n 0, 1) := by decide +kernel
theorem dX9_clear_1 : decode cX9_clear 1 = .ok (.getfield 183, 3) := by decide +kernel
theorem dX9_clear_4 : decode cX9_clear 4 = .ok (.istore_n 1, 1) := by decide +kernel
theorem dX9_clear_5 : decode cX9_clear 5 = .ok (.aload_n 0, 1) := by decide +kernel
theorem dX9_clear_6 : decode cX9_clear 6 = .ok (.iconst 0, 1) := by decide +kernel
theorem dX9_clear_7 : decode cX9_clear 7 = .ok (.putfield 183, 3) := by decide +kernel
theorem dX9_clear_10 : decode cX9_clear 10 = .ok (.iload_n 1, 1) := by decide +kernel
theorem dX9_clear_11 : decode cX9_clear 11 = .ok (.ireturn, 1) := by decide +kernel
set_option maxRecDepth 20000 in
theorem ggX9_isSmall_X9_in : GoodIn wsX9_isSmall wsX9_in := goodIn_r _ [6] (by decide +kernel) (by decide +kernel)
set_option maxRecDepth 20000 in
theorem gX9_isSmall_X9_in : GoodIn wsX9_isSmall (va_wsS RX9 56 yX9_in wsX9_in) := goodIn_app (goodIn_of _ (by decide +kernel)) ggX9_isSmall_X9_in
theorem dX9_isSmall_0 : decode cX9_isSmall 0 = .ok (.iload_n 0, 1) := by decide +kernel
theorem dX9_isSmall_1 : decode cX9_isSmall 1 = .ok (.i2l, 1) := by decide +kernel
theorem dX9_isSmall_2 : decode cX9_isSmall 2 = .ok (.ldc2_w 187, 3) := by decide +kernel
theorem dX9_isSmall_5 : decode cX9_isSmall 5 = .ok (.ldc2_w 189, 3) := by decide +kernel
theorem dX9_isSmall_8 : decode cX9_isSmall 8 = .ok (.invokestatic 56, 3) := by decide +kernel
theorem dX9_isSmall_11 : decode cX9_isSmall 11 = .ok (.ireturn, 1) := by decide +kernel
set_option maxRecDepth 20000 in
theorem ggX9_isFigure_X9_in : GoodIn wsX9_isFigure wsX9_in := goodIn_r _ [6] (by decide +kernel) (by decide +kernel)
set_option maxRecDepth 20000 in
theorem gX9_isFigure_X9_in : GoodIn wsX9_isFigure (va_wsS RX9 56 yX9_in wsX9_in) := goodIn_app (goodIn_of _ (by decide +kernel)) ggX9_isFigure_X9_in
theorem dX9_isFigure_0 : decode cX9_isFigure 0 = .ok (.iload_n 0, 1) := by decide +kernel
theorem dX9_isFigure_1 : decode cX9_isFigure 1 = .ok (.i2l, 1) := by decide +kernel
theorem dX9_isFigure_2 : decode cX9_isFigure 2 = .ok (.ldc2_w 191, 3) := by decide +kernel
theorem dX9_isFigure_5 : decode cX9_isFigure 5 = .ok (.ldc2_w 193, 3) := by decide +kernel
theorem dX9_isFigure_8 : decode cX9_isFigure 8 = .ok (.invokestatic 56, 3) := by decide +kernel
theorem dX9_isFigure_11 : decode cX9_isFigure 11 = .ok (.ireturn, 1) := by decide +kernel
set_option maxRecDepth 20000 in
theorem ggX9_lookAt_X9_isSmall : GoodIn wsX9_lookAt wsX9_isSmall := goodIn_r _ [10, 11, 12, 13, 14, 9, 15] (by decide +kernel) (by decide +kernel)
set_option maxRecDepth 20000 in
theorem gX9_lookAt_X9_isSmall : GoodIn wsX9_lookAt (va_wsS RX9 207 yX9_isSmall wsX9_isSmall) := goodIn_app (goodIn_of _ (by decide +kernel)) ggX9_lookAt_X9_isSmall
set_option maxRecDepth 20000 in
theorem ggX9_lookAt_X9_isFigure : GoodIn wsX9_lookAt wsX9_isFigure := goodIn_r _ [18, 19, 20, 13, 14, 9, 15] (by decide +kernel) (by decide +kernel)
set_option maxRecDepth 20000 in
theorem gX9_lookAt_X9_isFigure : GoodIn wsX9_lookAt (va_wsS RX9 210 yX9_isFigure wsX9_isFigure) := goodIn_app (goodIn_of _ (by decide +kernel)) ggX9_lookAt_X9_isFigure
theorem dX9_lookAt_0 : decode cX9_lookAt 0 = .ok (.aload_n 0, 1) := by decide +kernel
theorem dX9_lookAt_1 : decode cX9_lookAt 1 = .ok (.iload_n 1, 1) := by decide +kernel
theorem dX9_lookAt_2 : decode cX9_lookAt 2 = .ok (.putfield 195, 3) := by decide +kernel
theorem dX9_lookAt_5 : decode cX9_lookAt 5 = .ok (.aload_n 0, 1) := by decide +kernel
theorem dX9_lookAt_6 : decode cX9_lookAt 6 = .ok (.getfield 195, 3) := by decide +kernel
theorem dX9_lookAt_9 : decode cX9_lookAt 9 = .ok (.aload_n 0, 1) := by decide +kernel
theorem dX9_lookAt_10 : decode cX9_lookAt 10 = .ok (.getfield 183, 3) := by decide +kernel
theorem dX9_lookAt_13 : decode cX9_lookAt 13 = .ok (.if_icmp .ge 30, 3) := by decide +kernel
theorem dX9_lookAt_16 : decode cX9_lookAt 16 = .ok (.aload_n 0, 1) := by decide +kernel
theorem dX9_lookAt_17 : decode cX9_lookAt 17 = .ok (.getfield 39, 3) := by decide +kernel
theorem dX9_lookAt_20 : decode cX9_lookAt 20 = .ok (.aload_n 0, 1) := by decide +kernel
theorem dX9_lookAt_21 : decode cX9_lookAt 21 = .ok (.getfield 195, 3) := by decide +kernel
theorem dX9_lookAt_24 : decode cX9_lookAt 24 = .ok (.iaload, 1) := by decide +kernel
theorem dX9_lookAt_25 : decode cX9_lookAt 25 = .ok (.bipush 32, 2) := by decide +kernel
theorem dX9_lookAt_27 : decode cX9_lookAt 27 = .ok (.if_icmp .ne 16, 3) := by decide +kernel
theorem dX9_lookAt_30 : decode cX9_lookAt 30 = .ok (.aload_n 0, 1) := by decide +kernel
theorem dX9_lookAt_31 : decode cX9_lookAt 31 = .ok (.dup, 1) := by decide +kernel
theorem dX9_lookAt_32 : decode cX9_lookAt 32 = .ok (.getfield 195, 3) := by decide +kernel
theorem dX9_lookAt_35 : decode cX9_lookAt 35 = .ok (.iconst 1, 1) := by decide +kernel
theorem dX9_lookAt_36 : decode cX9_lookAt 36 = .ok (.iadd, 1) := by decide +kernel
theorem dX9_lookAt_37 : decode cX9_lookAt 37 = .ok (.putfield 195, 3) := by decide +kernel
theorem dX9_lookAt_40 : decode cX9_lookAt 40 = .ok (.goto (-35), 3) := by decide +kernel
theorem dX9_lookAt_43 : decode cX9_lookAt 43 = .ok (.aload_n 0, 1) := by decide +kernel
theorem dX9_lookAt_44 : decode cX9_lookAt 44 = .ok (.iconst 0, 1) := by decide +kernel
theorem dX9_lookAt_45 : decode cX9_lookAt 45 = .ok (.putfield 198, 3) := by decide +kernel
theorem dX9_lookAt_48 : decode cX9_lookAt 48 = .ok (.aload_n 0, 1) := by decide +kernel
theorem dX9_lookAt_49 : decode cX9_lookAt 49 = .ok (.iconst 0, 1) := by decide +kernel
theorem dX9_lookAt_50 : decode cX9_lookAt 50 = .ok (.putfield 201, 3) := by decide +kernel
theorem dX9_lookAt_53 : decode cX9_lookAt 53 = .ok (.aload_n 0, 1) := by decide +kernel
theorem dX9_lookAt_54 : decode cX9_lookAt 54 = .ok (.iconst 0, 1) := by decide +kernel
theorem dX9_lookAt_55 : decode cX9_lookAt 55 = .ok (.putfield 204, 3) := by decide +kernel
theorem dX9_lookAt_58 : decode cX9_lookAt 58 = .ok (.aload_n 0, 1) := by decide +kernel
theorem dX9_lookAt_59 : decode cX9_lookAt 59 = .ok (.getfield 195, 3) := by decide +kernel
theorem dX9_lookAt_62 : decode cX9_lookAt 62 = .ok (.aload_n 0, 1) := by decide +kernel
theorem dX9_lookAt_63 : decode cX9_lookAt 63 = .ok (.getfield 183, 3) := by decide +kernel
theorem dX9_lookAt_66 : decode cX9_lookAt 66 = .ok (.if_icmp .ne 4, 3) := by decide +kernel
theorem dX9_lookAt_69 : decode cX9_lookAt 69 = .ok (.return_, 1) := by decide +kernel
theorem dX9_lookAt_70 : decode cX9_lookAt 70 = .ok (.aload_n 0, 1) := by decide +kernel
theorem dX9_lookAt_71 : decode cX9_lookAt 71 = .ok (.getfield 39, 3) := by decide +kernel
theorem dX9_lookAt_74 : decode cX9_lookAt 74 = .ok (.aload_n 0, 1) := by decide +kernel
theorem dX9_lookAt_75 : decode cX9_lookAt 75 = .ok (.getfield 195, 3) := by decide +kernel
theorem dX9_lookAt_78 : decode cX9_lookAt 78 = .ok (.iaload, 1) := by decide +kernel
theorem dX9_lookAt_79 : decode cX9_lookAt 79 = .ok (.istore_n 2, 1) := by decide +kernel
theorem dX9_lookAt_80 : decode cX9_lookAt 80 = .ok (.aload_n 0, 1) := by decide +kernel
theorem dX9_lookAt_81 : decode cX9_lookAt 81 = .ok (.iload_n 2, 1) := by decide +kernel
theorem dX9_lookAt_82 : decode cX9_lookAt 82 = .ok (.invokestatic 207, 3) := by decide +kernel
theorem dX9_lookAt_85 : decode cX9_lookAt 85 = .ok (.ifCond .eq 7, 3) := by decide +kernel
theorem dX9_lookAt_88 : decode cX9_lookAt 88 = .ok (.iconst 1, 1) := by decide +kernel
theorem dX9_lookAt_89 : decode cX9_lookAt 89 = .ok (.goto 25, 3) := by decide +kernel
theorem dX9_lookAt_92 : decode cX9_lookAt 92 = .ok (.iload_n 2, 1) := by decide +kernel
theorem dX9_lookAt_93 : decode cX9_lookAt 93 = .ok (.invokestatic 210, 3) := by decide +kernel
theorem dX9_lookAt_96 : decode cX9_lookAt 96 = .ok (.ifCond .eq 7, 3) := by decide +kernel
theorem dX9_lookAt_99 : decode cX9_lookAt 99 = .ok (.iconst 2, 1) := by decide +kernel
theorem dX9_lookAt_100 : decode cX9_lookAt 100 = .ok (.goto 14, 3) := by decide +kernel
theorem dX9_lookAt_103 : decode cX9_lookAt 103 = .ok (.iload_n 2, 1) := by decide +kernel
theorem dX9_lookAt_104 : decode cX9_lookAt 104 = .ok (.bipush 59, 2) := by decide +kernel
theorem dX9_lookAt_106 : decode cX9_lookAt 106 = .ok (.if_icmp .ne 7, 3) := by decide +kernel
theorem dX9_lookAt_109 : decode cX9_lookAt 109 = .ok (.iconst 3, 1) := by decide +kernel
theorem dX9_lookAt_110 : decode cX9_lookAt 110 = .ok (.goto 4, 3) := by decide +kernel
theorem dX9_lookAt_113 : decode cX9_lookAt 113 = .ok (.iconst 4, 1) := by decide +kernel
theorem dX9_lookAt_114 : decode cX9_lookAt 114 = .ok (.putfield 201, 3) := by decide +kernel
theorem dX9_lookAt_117 : decode cX9_lookAt 117 = .ok (.aload_n 0, 1) := by decide +kernel
theorem dX9_lookAt_118 : decode cX9_lookAt 118 = .ok (.iconst 1, 1) := by decide +kernel
theorem dX9_lookAt_119 : decode cX9_lookAt 119 = .ok (.putfield 198, 3) := by decide +kernel
theorem dX9_lookAt_122 : decode cX9_lookAt 122 = .ok (.aload_n 0, 1) := by decide +kernel
theorem dX9_lookAt_123 : decode cX9_lookAt 123 = .ok (.getfield 201, 3) := by decide +kernel
theorem dX9_lookAt_126 : decode cX9_lookAt 126 = .ok (.iconst 3, 1) := by decide +kernel
theorem dX9_lookAt_127 : decode cX9_lookAt 127 = .ok (.if_icmp .ge 7, 3) := by decide +kernel
theorem dX9_lookAt_130 : decode cX9_lookAt 130 = .ok (.iconst 1, 1) := by decide +kernel
theorem dX9_lookAt_131 : decode cX9_lookAt 131 = .ok (.goto 4, 3) := by decide +kernel
theorem dX9_lookAt_134 : decode cX9_lookAt 134 = .ok (.iconst 0, 1) := by decide +kernel
theorem dX9_lookAt_135 : decode cX9_lookAt 135 = .ok (.istore_n 3, 1) := by decide +kernel
theorem dX9_lookAt_136 : decode cX9_lookAt 136 = .ok (.iload_n 3, 1) := by decide +kernel
theorem dX9_lookAt_137 : decode cX9_lookAt 137 = .ok (.ifCond .eq 78, 3) := by decide +kernel
theorem dX9_lookAt_140 : decode cX9_lookAt 140 = .ok (.aload_n 0, 1) := by decide +kernel
theorem dX9_lookAt_141 : decode cX9_lookAt 141 = .ok (.getfield 195, 3) := by decide +kernel
theorem dX9_lookAt_144 : decode cX9_lookAt 144 = .ok (.aload_n 0, 1) := by decide +kernel
theorem dX9_lookAt_145 : decode cX9_lookAt 145 = .ok (.getfield 198, 3) := by decide +kernel
theorem dX9_lookAt_148 : decode cX9_lookAt 148 = .ok (.iadd, 1) := by decide +kernel
theorem dX9_lookAt_149 : decode cX9_lookAt 149 = .ok (.aload_n 0, 1) := by decide +kernel
theorem dX9_lookAt_150 : decode cX9_lookAt 150 = .ok (.getfield 183, 3) := by decide +kernel
theorem dX9_lookAt_153 : decode cX9_lookAt 153 = .ok (.if_icmp .ge 62, 3) := by decide +kernel
theorem dX9_lookAt_156 : decode cX9_lookAt 156 = .ok (.aload_n 0, 1) := by decide +kernel
theorem dX9_lookAt_157 : decode cX9_lookAt 157 = .ok (.getfield 39, 3) := by decide +kernel
theorem dX9_lookAt_160 : decode cX9_lookAt 160 = .ok (.aload_n 0, 1) := by decide +kernel
theorem dX9_lookAt_161 : decode cX9_lookAt 161 = .ok (.getfield 195, 3) := by decide +kernel
theorem dX9_lookAt_164 : decode cX9_lookAt 164 = .ok (.aload_n 0, 1) := by decide +kernel
theorem dX9_lookAt_165 : decode cX9_lookAt 165 = .ok (.getfield 198, 3) := by decide +kernel
theorem dX9_lookAt_168 : decode cX9_lookAt 168 = .ok (.iadd, 1) := by decide +kernel
theorem dX9_lookAt_169 : decode cX9_lookAt 169 = .ok (.iaload, 1) := by decide +kernel
theorem dX9_lookAt_170 : decode cX9_lookAt 170 = .ok (.istore 4, 2) := by decide +kernel
theorem dX9_lookAt_172 : decode cX9_lookAt 172 = .ok (.aload_n 0, 1) := by decide +kernel
theorem dX9_lookAt_173 : decode cX9_lookAt 173 = .ok (.getfield 201, 3) := by decide +kernel
theorem dX9_lookAt_176 : decode cX9_lookAt 176 = .ok (.iconst 1, 1) := by decide +kernel
theorem dX9_lookAt_177 : decode cX9_lookAt 177 = .ok (.if_icmp .ne 11, 3) := by decide +kernel
theorem dX9_lookAt_180 : decode cX9_lookAt 180 = .ok (.iload 4, 2) := by decide +kernel
theorem dX9_lookAt_182 : decode cX9_lookAt 182 = .ok (.invokestatic 207, 3) := by decide +kernel
theorem dX9_lookAt_185 : decode cX9_lookAt 185 = .ok (.goto 8, 3) := by decide +kernel
theorem dX9_lookAt_188 : decode cX9_lookAt 188 = .ok (.iload 4, 2) := by decide +kernel
theorem dX9_lookAt_190 : decode cX9_lookAt 190 = .ok (.invokestatic 210, 3) := by decide +kernel
theorem dX9_lookAt_193 : decode cX9_lookAt 193 = .ok (.istore_n 3, 1) := by decide +kernel
theorem dX9_lookAt_194 : decode cX9_lookAt 194 = .ok (.aload_n 0, 1) := by decide +kernel
theorem dX9_lookAt_195 : decode cX9_lookAt 195 = .ok (.dup, 1) := by decide +kernel
theorem dX9_lookAt_196 : decode cX9_lookAt 196 = .ok (.getfield 198, 3) := by decide +kernel
theorem dX9_lookAt_199 : decode cX9_lookAt 199 = .ok (.iload_n 3, 1) := by decide +kernel
theorem dX9_lookAt_200 : decode cX9_lookAt 200 = .ok (.ifCond .eq 7, 3) := by decide +kernel
theorem dX9_lookAt_203 : decode cX9_lookAt 203 = .ok (.iconst 1, 1) := by decide +kernel
theorem dX9_lookAt_204 : decode cX9_lookAt 204 = .ok (.goto 4, 3) := by decide +kernel
theorem dX9_lookAt_207 : decode cX9_lookAt 207 = .ok (.iconst 0, 1) := by decide +kernel
theorem dX9_lookAt_208 : decode cX9_lookAt 208 = .ok (.iadd, 1) := by decide +kernel
theorem dX9_lookAt_209 : decode cX9_lookAt 209 = .ok (.putfield 198, 3) := by decide +kernel
theorem dX9_lookAt_212 : decode cX9_lookAt 212 = .ok (.goto (-76), 3) := by decide +kernel
theorem dX9_lookAt_215 : decode cX9_lookAt 215 = .ok (.iconst 0, 1) := by decide +kernel
theorem dX9_lookAt_216 : decode cX9_lookAt 216 = .ok (.istore 4, 2) := by decide +kernel
theorem dX9_lookAt_218 : decode cX9_lookAt 218 = .ok (.iload 4, 2) := by decide +kernel
theorem dX9_lookAt_220 : decode cX9_lookAt 220 = .ok (.aload_n 0, 1) := by decide +kernel
theorem dX9_lookAt_221 : decode cX9_lookAt 221 = .ok (.getfield 198, 3) := by decide +kernel
theorem dX9_lookAt_224 : decode cX9_lookAt 224 = .ok (.if_icmp .ge 50, 3) := by decide +kernel
theorem dX9_lookAt_227 : decode cX9_lookAt 227 = .ok (.iload 4, 2) := by decide +kernel
theorem dX9_lookAt_229 : decode cX9_lookAt 229 = .ok (.iconst 2, 1) := by decide +kernel
theorem dX9_lookAt_230 : decode cX9_lookAt 230 = .ok (.if_icmp .ge 44, 3) := by decide +kernel
theorem dX9_lookAt_233 : decode cX9_lookAt 233 = .ok (.aload_n 0, 1) := by decide +kernel
theorem dX9_lookAt_234 : decode cX9_lookAt 234 = .ok (.getfield 201, 3) := by decide +kernel
theorem dX9_lookAt_237 : decode cX9_lookAt 237 = .ok (.iconst 2, 1) := by decide +kernel
theorem dX9_lookAt_238 : decode cX9_lookAt 238 = .ok (.if_icmp .ne 36, 3) := by decide +kernel
theorem dX9_lookAt_241 : decode cX9_lookAt 241 = .ok (.aload_n 0, 1) := by decide +kernel
theorem dX9_lookAt_242 : decode cX9_lookAt 242 = .ok (.bipush 10, 2) := by decide +kernel
theorem dX9_lookAt_244 : decode cX9_lookAt 244 = .ok (.aload_n 0, 1) := by decide +kernel
theorem dX9_lookAt_245 : decode cX9_lookAt 245 = .ok (.getfield 204, 3) := by decide +kernel
theorem dX9_lookAt_248 : decode cX9_lookAt 248 = .ok (.imul, 1) := by decide +kernel
theorem dX9_lookAt_249 : decode cX9_lookAt 249 = .ok (.aload_n 0, 1) := by decide +kernel
theorem dX9_lookAt_250 : decode cX9_lookAt 250 = .ok (.getfield 39, 3) := by decide +kernel
theorem dX9_lookAt_253 : decode cX9_lookAt 253 = .ok (.aload_n 0, 1) := by decide +kernel
theorem dX9_lookAt_254 : decode cX9_lookAt 254 = .ok (.getfield 195, 3) := by decide +kernel
theorem dX9_lookAt_257 : decode cX9_lookAt 257 = .ok (.iload 4, 2) := by decide +kernel
theorem dX9_lookAt_259 : decode cX9_lookAt 259 = .ok (.iadd, 1) := by decide +kernel
theorem dX9_lookAt_260 : decode cX9_lookAt 260 = .ok (.iaload, 1) := by decide +kernel
theorem dX9_lookAt_261 : decode cX9_lookAt 261 = .ok (.iadd, 1) := by decide +kernel
theorem dX9_lookAt_262 : decode cX9_lookAt 262 = .ok (.bipush 48, 2) := by decide +kernel
theorem dX9_lookAt_264 : decode cX9_lookAt 264 = .ok (.isub, 1) := by decide +kernel
theorem dX9_lookAt_265 : decode cX9_lookAt 265 = .ok (.putfield 204, 3) := by decide +kernel
theorem dX9_lookAt_268 : decode cX9_lookAt 268 = .ok (.iinc 4 1, 3) := by decide +kernel
theorem dX9_lookAt_271 : decode cX9_lookAt 271 = .ok (.goto (-53), 3) := by decide +kernel
theorem dX9_lookAt_274 : decode cX9_lookAt 274 = .ok (.aload_n 0, 1) := by decide +kernel
theorem dX9_lookAt_275 : decode cX9_lookAt 275 = .ok (.aload_n 0, 1) := by decide +kernel
theorem dX9_lookAt_276 : decode cX9_lookAt 276 = .ok (.getfield 201, 3) := by decide +kernel
theorem dX9_lookAt_279 : decode cX9_lookAt 279 = .ok (.iconst 2, 1) := by decide +kernel
theorem dX9_lookAt_280 : decode cX9_lookAt 280 = .ok (.if_icmp .ne 15, 3) := by decide +kernel
theorem dX9_lookAt_283 : decode cX9_lookAt 283 = .ok (.aload_n 0, 1) := by decide +kernel
theorem dX9_lookAt_284 : decode cX9_lookAt 284 = .ok (.getfield 198, 3) := by decide +kernel
theorem dX9_lookAt_287 : decode cX9_lookAt 287 = .ok (.iconst 2, 1) := by decide +kernel
theorem dX9_lookAt_288 : decode cX9_lookAt 288 = .ok (.if_icmp .le 7, 3) := by decide +kernel
theorem dX9_lookAt_291 : decode cX9_lookAt 291 = .ok (.iconst 4, 1) := by decide +kernel
theorem dX9_lookAt_292 : decode cX9_lookAt 292 = .ok (.goto 7, 3) := by decide +kernel
theorem dX9_lookAt_295 : decode cX9_lookAt 295 = .ok (.aload_n 0, 1) := by decide +kernel
theorem dX9_lookAt_296 : decode cX9_lookAt 296 = .ok (.getfield 201, 3) := by decide +kernel
theorem dX9_lookAt_299 : decode cX9_lookAt 299 = .ok (.putfield 201, 3) := by decide +kernel
theorem dX9_lookAt_302 : decode cX9_lookAt 302 = .ok (.return_, 1) := by decide +kernel
set_option maxRecDepth 20000 in
theorem ggX9_goBehind_X9_lookAt : GoodIn wsX9_goBehind wsX9_lookAt := goodIn_r _ [7, 1, 8, 9, 2, 10, 11, 12, 13, 6, 14, 15, 16, 17, 18, 19, 20, 21, 22, 23, 24, 25, 26, 27, 28, 29, 30, 31, 32, 33, 34, 35, 36, 37, 38, 39, 40, 41, 42] (by decide +kernel) (by decide +kernel)
set_option maxRecDepth 20000 in
theorem gX9_goBehind_X9_lookAt : GoodIn wsX9_goBehind (wsV RX9 213 RX9 yX9_lookAt wsX9_lookAt) := goodIn_app (goodIn_of _ (by decide +kernel)) ggX9_goBehind_X9_lookAt
theorem dX9_goBehind_0 : decode cX9_goBehind 0 = .ok (.aload_n 0, 1) := by decide +kernel
theorem dX9_goBehind_1 : decode cX9_goBehind 1 = .ok (.aload_n 0, 1) := by decide +kernel
theorem dX9_goBehind_2 : decode cX9_goBehind 2 = .ok (.getfield 195, 3) := by decide +kernel
theorem dX9_goBehind_5 : decode cX9_goBehind 5 = .ok (.aload_n 0, 1) := by decide +kernel
theorem dX9_goBehind_6 : decode cX9_goBehind 6 = .ok (.getfield 198, 3) := by decide +kernel
theorem dX9_goBehind_9 : decode cX9_goBehind 9 = .ok (.iadd, 1) := by decide +kernel
theorem dX9_goBehind_10 : decode cX9_goBehind 10 = .ok (.invokevirtual 213, 3) := by decide +kernel
theorem dX9_goBehind_13 : decode cX9_goBehind 13 = .ok (.return_, 1) := by decide +kernel
theorem dX9_spells_0 : decode cX9_spells 0 = .ok (.aload_n 0, 1) := by decide +kernel
theorem dX9_spells_1 : decode cX9_spells 1 = .ok (.getfield 201, 3) := by decide +kernel
theorem dX9_spells_4 : decode cX9_spells 4 = .ok (.iconst 1, 1) := by decide +kernel
theorem dX9_spells_5 : decode cX9_spells 5 = .ok (.if_icmp .ne 15, 3) := by decide +kernel
theorem dX9_spells_8 : decode cX9_spells 8 = .ok (.aload_n 0, 1) := by decide +kernel
theorem dX9_spells_9 : decode cX9_spells 9 = .ok (.getfield 198, 3) := by decide +kernel
theorem dX9_spells_12 : decode cX9_spells 12 = .ok (.iload_n 1, 1) := by decide +kernel
theorem dX9_spells_13 : decode cX9_spells 13 = .ok (.if_icmp .ne 7, 3) := by decide +kernel
theorem dX9_spells_16 : decode cX9_spells 16 = .ok (.iconst 1, 1) := by decide +kernel
theorem dX9_spells_17 : decode cX9_spells 17 = .ok (.goto 4, 3) := by decide +kernel
theorem dX9_spells_20 : decode cX9_spells 20 = .ok (.iconst 0, 1) := by decide +kernel
theorem dX9_spells_21 : decode cX9_spells 21 = .ok (.istore 8, 2) := by decide +kernel
theorem dX9_spells_23 : decode cX9_spells 23 = .ok (.iconst 0, 1) := by decide +kernel
theorem dX9_spells_24 : decode cX9_spells 24 = .ok (.istore 9, 2) := by decide +kernel
theorem dX9_spells_26 : decode cX9_spells 26 = .ok (.iload 9, 2) := by decide +kernel
theorem dX9_spells_28 : decode cX9_spells 28 = .ok (.iload_n 1, 1) := by decide +kernel
theorem dX9_spells_29 : decode cX9_spells 29 = .ok (.if_icmp .ge 90, 3) := by decide +kernel
theorem dX9_spells_32 : decode cX9_spells 32 = .ok (.iload 8, 2) := by decide +kernel
theorem dX9_spells_34 : decode cX9_spells 34 = .ok (.ifCond .eq 85, 3) := by decide +kernel
theorem dX9_spells_37 : decode cX9_spells 37 = .ok (.aload_n 0, 1) := by decide +kernel
theorem dX9_spells_38 : decode cX9_spells 38 = .ok (.getfield 39, 3) := by decide +kernel
theorem dX9_spells_41 : decode cX9_spells 41 = .ok (.aload_n 0, 1) := by decide +kernel
theorem dX9_spells_42 : decode cX9_spells 42 = .ok (.getfield 195, 3) := by decide +kernel
theorem dX9_spells_45 : decode cX9_spells 45 = .ok (.iload 9, 2) := by decide +kernel
theorem dX9_spells_47 : decode cX9_spells 47 = .ok (.iadd, 1) := by decide +kernel
theorem dX9_spells_48 : decode cX9_spells 48 = .ok (.iaload, 1) := by decide +kernel
theorem dX9_spells_49 : decode cX9_spells 49 = .ok (.iload 9, 2) := by decide +kernel
theorem dX9_spells_51 : decode cX9_spells 51 = .ok (.ifCond .ne 7, 3) := by decide +kernel
theorem dX9_spells_54 : decode cX9_spells 54 = .ok (.iload_n 2, 1) := by decide +kernel
theorem dX9_spells_55 : decode cX9_spells 55 = .ok (.goto 48, 3) := by decide +kernel
theorem dX9_spells_58 : decode cX9_spells 58 = .ok (.iload 9, 2) := by decide +kernel
theorem dX9_spells_60 : decode cX9_spells 60 = .ok (.iconst 1, 1) := by decide +kernel
theorem dX9_spells_61 : decode cX9_spells 61 = .ok (.if_icmp .ne 7, 3) := by decide +kernel
theorem dX9_spells_64 : decode cX9_spells 64 = .ok (.iload_n 3, 1) := by decide +kernel
theorem dX9_spells_65 : decode cX9_spells 65 = .ok (.goto 38, 3) := by decide +kernel
theorem dX9_spells_68 : decode cX9_spells 68 = .ok (.iload 9, 2) := by decide +kernel
theorem dX9_spells_70 : decode cX9_spells 70 = .ok (.iconst 2, 1) := by decide +kernel
theorem dX9_spells_71 : decode cX9_spells 71 = .ok (.if_icmp .ne 8, 3) := by decide +kernel
theorem dX9_spells_74 : decode cX9_spells 74 = .ok (.iload 4, 2) := by decide +kernel
theorem dX9_spells_76 : decode cX9_spells 76 = .ok (.goto 27, 3) := by decide +kernel
theorem dX9_spells_79 : decode cX9_spells 79 = .ok (.iload 9, 2) := by decide +kernel
theorem dX9_spells_81 : decode cX9_spells 81 = .ok (.iconst 3, 1) := by decide +kernel
theorem dX9_spells_82 : decode cX9_spells 82 = .ok (.if_icmp .ne 8, 3) := by decide +kernel
theorem dX9_spells_85 : decode cX9_spells 85 = .ok (.iload 5, 2) := by decide +kernel
theorem dX9_spells_87 : decode cX9_spells 87 = .ok (.goto 16, 3) := by decide +kernel
theorem dX9_spells_90 : decode cX9_spells 90 = .ok (.iload 9, 2) := by decide +kernel
theorem dX9_spells_92 : decode cX9_spells 92 = .ok (.iconst 4, 1) := by decide +kernel
theorem dX9_spells_93 : decode cX9_spells 93 = .ok (.if_icmp .ne 8, 3) := by decide +kernel
theorem dX9_spells_96 : decode cX9_spells 96 = .ok (.iload 6, 2) := by decide +kernel
theorem dX9_spells_98 : decode cX9_spells 98 = .ok (.goto 5, 3) := by decide +kernel
theorem dX9_spells_101 : decode cX9_spells 101 = .ok (.iload 7, 2) := by decide +kernel
theorem dX9_spells_103 : decode cX9_spells 103 = .ok (.if_icmp .ne 7, 3) := by decide +kernel
theorem dX9_spells_106 : decode cX9_spells 106 = .ok (.iconst 1, 1) := by decide +kernel
theorem dX9_spells_107 : decode cX9_spells 107 = .ok (.goto 4, 3) := by decide +kernel
theorem dX9_spells_110 : decode cX9_spells 110 = .ok (.iconst 0, 1) := by decide +kernel
theorem dX9_spells_111 : decode cX9_spells 111 = .ok (.istore 8, 2) := by decide +kernel
theorem dX9_spells_113 : decode cX9_spells 113 = .ok (.iinc 9 1, 3) := by decide +kernel
theorem dX9_spells_116 : decode cX9_spells 116 = .ok (.goto (-90), 3) := by decide +kernel
theorem dX9_spells_119 : decode cX9_spells 119 = .ok (.iload 8, 2) := by decide +kernel
theorem dX9_spells_121 : decode cX9_spells 121 = .ok (.ireturn, 1) := by decide +kernel
set_option maxRecDepth 20000 in
theorem ggX9_takes_X9_in : GoodIn wsX9_takes wsX9_in := goodIn_r _ [7] (by decide +kernel) (by decide +kernel)
set_option maxRecDepth 20000 in
theorem gX9_takes_X9_in : GoodIn wsX9_takes (va_wsS RX9 56 yX9_in wsX9_in) := goodIn_app (goodIn_of _ (by decide +kernel)) ggX9_takes_X9_in
set_option maxRecDepth 20000 in
theorem ggX9_takes_X9_goBehind : GoodIn wsX9_takes wsX9_goBehind := goodIn_r _ [11, 12, 13, 14, 15, 16, 6, 17, 18, 19, 1, 2, 20, 21, 22, 23, 24, 4, 5, 7, 25, 26, 27, 28, 29, 30, 31, 32, 33, 34, 35, 36, 37, 38, 39, 40, 41, 42, 43, 44, 45, 46, 47] (by decide +kernel) (by decide +kernel)
set_option maxRecDepth 20000 in
theorem gX9_takes_X9_goBehind : GoodIn wsX9_takes (wsV RX9 217 RX9 yX9_goBehind wsX9_goBehind) := goodIn_app (goodIn_of _ (by decide +kernel)) ggX9_takes_X9_goBehind
theorem dX9_takes_0 : decode cX9_takes 0 = .ok (.aload_n 0, 1) := by decide +kernel
theorem dX9_takes_1 : decode cX9_takes 1 = .ok (.getfield 201, 3) := by decide +kernel
theorem dX9_takes_4 : decode cX9_takes 4 = .ok (.iconst 2, 1) := by decide +kernel
theorem dX9_takes_5 : decode cX9_takes 5 = .ok (.if_icmp .ne 18, 3) := by decide +kernel
theorem dX9_takes_8 : decode cX9_takes 8 = .ok (.aload_n 0, 1) := by decide +kernel
theorem dX9_takes_9 : decode cX9_takes 9 = .ok (.getfield 204, 3) := by decide +kernel
theorem dX9_takes_12 : decode cX9_takes 12 = .ok (.i2l, 1) := by decide +kernel
theorem dX9_takes_13 : decode cX9_takes 13 = .ok (.iload_n 2, 1) := by decide +kernel
theorem dX9_takes_14 : decode cX9_takes 14 = .ok (.i2l, 1) := by decide +kernel
theorem dX9_takes_15 : decode cX9_takes 15 = .ok (.iload_n 3, 1) := by decide +kernel
theorem dX9_takes_16 : decode cX9_takes 16 = .ok (.i2l, 1) := by decide +kernel
theorem dX9_takes_17 : decode cX9_takes 17 = .ok (.invokestatic 56, 3) := by decide +kernel
theorem dX9_takes_20 : decode cX9_takes 20 = .ok (.ifCond .ne 5, 3) := by decide +kernel
theorem dX9_takes_23 : decode cX9_takes 23 = .ok (.iconst 0, 1) := by decide +kernel
theorem dX9_takes_24 : decode cX9_takes 24 = .ok (.ireturn, 1) := by decide +kernel
theorem dX9_takes_25 : decode cX9_takes 25 = .ok (.aload_n 0, 1) := by decide +kernel
theorem dX9_takes_26 : decode cX9_takes 26 = .ok (.getfield 45, 3) := by decide +kernel
theorem dX9_takes_29 : decode cX9_takes 29 = .ok (.iload_n 1, 1) := by decide +kernel
theorem dX9_takes_30 : decode cX9_takes 30 = .ok (.aload_n 0, 1) := by decide +kernel
theorem dX9_takes_31 : decode cX9_takes 31 = .ok (.getfield 204, 3) := by decide +kernel
theorem dX9_takes_34 : decode cX9_takes 34 = .ok (.iastore, 1) := by decide +kernel
theorem dX9_takes_35 : decode cX9_takes 35 = .ok (.aload_n 0, 1) := by decide +kernel
theorem dX9_takes_36 : decode cX9_takes 36 = .ok (.invokevirtual 217, 3) := by decide +kernel
theorem dX9_takes_39 : decode cX9_takes 39 = .ok (.iconst 1, 1) := by decide +kernel
theorem dX9_takes_40 : decode cX9_takes 40 = .ok (.ireturn, 1) := by decide +kernel
set_option maxRecDepth 20000 in
theorem ggX9_takesRoad_X9_spells : GoodIn wsX9_takesRoad wsX9_spells := goodIn_r _ [8, 3, 9, 10, 11, 42, 43, 44, 45, 46, 47, 48, 49, 50, 51, 52, 53, 54, 55, 56, 57, 58, 59] (by decide +kernel) (by decide +kernel)
set_option maxRecDepth 20000 in
theorem gX9_takesRoad_X9_spells : GoodIn wsX9_takesRoad (wsV RX9 220 RX9 yX9_spells wsX9_spells) := goodIn_app (goodIn_of _ (by decide +kernel)) ggX9_takesRoad_X9_spells
set_option maxRecDepth 20000 in
theorem ggX9_takesRoad_X9_goBehind : GoodIn wsX9_takesRoad wsX9_goBehind := goodIn_r _ [15, 11, 9, 16, 17, 18, 7, 19, 20, 10, 3, 21, 22, 23, 24, 25, 26, 27, 28, 29, 30, 31, 32, 33, 34, 42, 43, 44, 45, 46, 47, 48, 49, 50, 51, 52, 53, 54, 55, 56, 57, 58, 59] (by decide +kernel) (by decide +kernel)
set_option maxRecDepth 20000 in
theorem gX9_takesRoad_X9_goBehind : GoodIn wsX9_takesRoad (wsV RX9 217 RX9 yX9_goBehind wsX9_goBehind) := goodIn_app (goodIn_of _ (by decide +kernel)) ggX9_takesRoad_X9_goBehind
set_option maxRecDepth 20000 in
theorem ggX9_takesRoad_X9_takes : GoodIn wsX9_takesRoad wsX9_takes := goodIn_r _ [38, 3, 21, 2, 27, 28, 7, 29, 12, 13, 14, 15, 11, 9, 16, 17, 18, 19, 20, 10, 22, 23, 24, 25, 26, 30, 31, 32, 33, 34, 42, 43, 44, 45, 46, 47, 48, 49, 50, 51, 52, 53, 54, 55, 56, 57, 58, 59] (by decide +kernel) (by decide +kernel)
set_option maxRecDepth 20000 in
theorem gX9_takesRoad_X9_takes : GoodIn wsX9_takesRoad (wsV RX9 224 RX9 yX9_takes wsX9_takes) := goodIn_app (goodIn_of _ (by decide +kernel)) ggX9_takesRoad_X9_takes
set_option maxRecDepth 20000 in
theorem ggX9_takesRoad_X9_begin : GoodIn wsX9_takesRoad wsX9_begin := goodIn_r _ [41] (by decide +kernel) (by decide +kernel)
set_option maxRecDepth 20000 in
theorem gX9_takesRoad_X9_begin : GoodIn wsX9_takesRoad (va_wsS RX9 48 yX9_begin wsX9_begin) := goodIn_app (goodIn_of _ (by decide +kernel)) ggX9_takesRoad_X9_begin
theorem dX9_takesRoad_0 : decode cX9_takesRoad 0 = .ok (.aload_n 0, 1) := by decide +kernel
theorem dX9_takesRoad_1 : decode cX9_takesRoad 1 = .ok (.iconst 4, 1) := by decide +kernel
theorem dX9_takesRoad_2 : decode cX9_takesRoad 2 = .ok (.bipush 114, 2) := by decide +kernel
theorem dX9_takesRoad_4 : decode cX9_takesRoad 4 = .ok (.bipush 111, 2) := by decide +kernel
theorem dX9_takesRoad_6 : decode cX9_takesRoad 6 = .ok (.bipush 97, 2) := by decide +kernel
theorem dX9_takesRoad_8 : decode cX9_takesRoad 8 = .ok (.bipush 100, 2) := by decide +kernel
theorem dX9_takesRoad_10 : decode cX9_takesRoad 10 = .ok (.iconst 0, 1) := by decide +kernel
theorem dX9_takesRoad_11 : decode cX9_takesRoad 11 = .ok (.iconst 0, 1) := by decide +kernel
theorem dX9_takesRoad_12 : decode cX9_takesRoad 12 = .ok (.invokevirtual 220, 3) := by decide +kernel
theorem dX9_takesRoad_15 : decode cX9_takesRoad 15 = .ok (.ifCond .ne 5, 3) := by decide +kernel
theorem dX9_takesRoad_18 : decode cX9_takesRoad 18 = .ok (.iconst 0, 1) := by decide +kernel
theorem dX9_takesRoad_19 : decode cX9_takesRoad 19 = .ok (.ireturn, 1) := by decide +kernel
theorem dX9_takesRoad_20 : decode cX9_takesRoad 20 = .ok (.aload_n 0, 1) := by decide +kernel
theorem dX9_takesRoad_21 : decode cX9_takesRoad 21 = .ok (.invokevirtual 217, 3) := by decide +kernel
theorem dX9_takesRoad_24 : decode cX9_takesRoad 24 = .ok (.aload_n 0, 1) := by decide +kernel
theorem dX9_takesRoad_25 : decode cX9_takesRoad 25 = .ok (.iconst 0, 1) := by decide +kernel
theorem dX9_takesRoad_26 : decode cX9_takesRoad 26 = .ok (.iconst 0, 1) := by decide +kernel
theorem dX9_takesRoad_27 : decode cX9_takesRoad 27 = .ok (.iconst 5, 1) := by decide +kernel
theorem dX9_takesRoad_28 : decode cX9_takesRoad 28 = .ok (.invokevirtual 224, 3) := by decide +kernel
theorem dX9_takesRoad_31 : decode cX9_takesRoad 31 = .ok (.ifCond .eq 14, 3) := by decide +kernel
theorem dX9_takesRoad_34 : decode cX9_takesRoad 34 = .ok (.aload_n 0, 1) := by decide +kernel
theorem dX9_takesRoad_35 : decode cX9_takesRoad 35 = .ok (.iconst 1, 1) := by decide +kernel
theorem dX9_takesRoad_36 : decode cX9_takesRoad 36 = .ok (.iconst 0, 1) := by decide +kernel
theorem dX9_takesRoad_37 : decode cX9_takesRoad 37 = .ok (.bipush 9, 2) := by decide +kernel
theorem dX9_takesRoad_39 : decode cX9_takesRoad 39 = .ok (.invokevirtual 224, 3) := by decide +kernel
theorem dX9_takesRoad_42 : decode cX9_takesRoad 42 = .ok (.ifCond .ne 5, 3) := by decide +kernel
theorem dX9_takesRoad_45 : decode cX9_takesRoad 45 = .ok (.iconst 0, 1) := by decide +kernel
theorem dX9_takesRoad_46 : decode cX9_takesRoad 46 = .ok (.ireturn, 1) := by decide +kernel
theorem dX9_takesRoad_47 : decode cX9_takesRoad 47 = .ok (.aload_n 0, 1) := by decide +kernel
theorem dX9_takesRoad_48 : decode cX9_takesRoad 48 = .ok (.getfield 42, 3) := by decide +kernel
theorem dX9_takesRoad_51 : decode cX9_takesRoad 51 = .ok (.aload_n 0, 1) := by decide +kernel
theorem dX9_takesRoad_52 : decode cX9_takesRoad 52 = .ok (.getfield 45, 3) := by decide +kernel
theorem dX9_takesRoad_55 : decode cX9_takesRoad 55 = .ok (.iconst 0, 1) := by decide +kernel
theorem dX9_takesRoad_56 : decode cX9_takesRoad 56 = .ok (.iaload, 1) := by decide +kernel
theorem dX9_takesRoad_57 : decode cX9_takesRoad 57 = .ok (.aload_n 0, 1) := by decide +kernel
theorem dX9_takesRoad_58 : decode cX9_takesRoad 58 = .ok (.getfield 45, 3) := by decide +kernel
theorem dX9_takesRoad_61 : decode cX9_takesRoad 61 = .ok (.iconst 1, 1) := by decide +kernel
theorem dX9_takesRoad_62 : decode cX9_takesRoad 62 = .ok (.iaload, 1) := by decide +kernel
theorem dX9_takesRoad_63 : decode cX9_takesRoad 63 = .ok (.invokestatic 48, 3) := by decide +kernel
theorem dX9_takesRoad_66 : decode cX9_takesRoad 66 = .ok (.aload_n 0, 1) := by decide +kernel
theorem dX9_takesRoad_67 : decode cX9_takesRoad 67 = .ok (.getfield 201, 3) := by decide +kernel
theorem dX9_takesRoad_70 : decode cX9_takesRoad 70 = .ok (.iconst 3, 1) := by decide +kernel
theorem dX9_takesRoad_71 : decode cX9_takesRoad 71 = .ok (.if_icmp .ne 7, 3) := by decide +kernel
theorem dX9_takesRoad_74 : decode cX9_takesRoad 74 = .ok (.iconst 1, 1) := by decide +kernel
theorem dX9_takesRoad_75 : decode cX9_takesRoad 75 = .ok (.goto 4, 3) := by decide +kernel
theorem dX9_takesRoad_78 : decode cX9_takesRoad 78 = .ok (.iconst 0, 1) := by decide +kernel
theorem dX9_takesRoad_79 : decode cX9_takesRoad 79 = .ok (.ireturn, 1) := by decide +kernel
set_option maxRecDepth 20000 in
theorem ggX9_takesBend_X9_goBehind : GoodIn wsX9_takesBend wsX9_goBehind := goodIn_r _ [7, 8, 9, 10, 11, 12, 6, 13, 14, 15, 16, 17, 18, 19, 20, 21, 22, 23, 24, 25, 26, 27, 28, 29, 30, 38, 39, 40, 41, 42, 43, 44, 45, 46, 47, 48, 49, 50, 51, 52, 53, 54, 55] (by decide +kernel) (by decide +kernel)
set_option maxRecDepth 20000 in
theorem gX9_takesBend_X9_goBehind : GoodIn wsX9_takesBend (wsV RX9 217 RX9 yX9_goBehind wsX9_goBehind) := goodIn_app (goodIn_of _ (by decide +kernel)) ggX9_takesBend_X9_goBehind
set_option maxRecDepth 20000 in
theorem ggX9_takesBend_X9_takes : GoodIn wsX9_takesBend wsX9_takes := goodIn_r _ [34, 16, 17, 2, 23, 24, 6, 25, 3, 4, 5, 7, 8, 9, 10, 11, 12, 13, 14, 15, 18, 19, 20, 21, 22, 26, 27, 28, 29, 30, 38, 39, 40, 41, 42, 43, 44, 45, 46, 47, 48, 49, 50, 51, 52, 53, 54, 55] (by decide +kernel) (by decide +kernel)
set_option maxRecDepth 20000 in
theorem gX9_takesBend_X9_takes : GoodIn wsX9_takesBend (wsV RX9 224 RX9 yX9_takes wsX9_takes) := goodIn_app (goodIn_of _ (by decide +kernel)) ggX9_takesBend_X9_takes
set_option maxRecDepth 20000 in
theorem ggX9_takesBend_X9_layBend : GoodIn wsX9_takesBend wsX9_layBend := goodIn_r _ [37] (by decide +kernel) (by decide +kernel)
set_option maxRecDepth 20000 in
theorem gX9_takesBend_X9_layBend : GoodIn wsX9_takesBend (va_wsS RX9 83 yX9_layBend wsX9_layBend) := goodIn_app (goodIn_of _ (by decide +kernel)) ggX9_takesBend_X9_layBend
theorem dX9_takesBend_0 : decode cX9_takesBend 0 = .ok (.aload_n 0, 1) := by decide +kernel
theorem dX9_takesBend_1 : decode cX9_takesBend 1 = .ok (.getfield 42, 3) := by decide +kernel
theorem dX9_takesBend_4 : decode cX9_takesBend 4 = .ok (.iconst 0, 1) := by decide +kernel
theorem dX9_takesBend_5 : decode cX9_takesBend 5 = .ok (.iaload, 1) := by decide +kernel
theorem dX9_takesBend_6 : decode cX9_takesBend 6 = .ok (.bipush 8, 2) := by decide +kernel
theorem dX9_takesBend_8 : decode cX9_takesBend 8 = .ok (.if_icmp .ne 5, 3) := by decide +kernel
theorem dX9_takesBend_11 : decode cX9_takesBend 11 = .ok (.iconst 0, 1) := by decide +kernel
theorem dX9_takesBend_12 : decode cX9_takesBend 12 = .ok (.ireturn, 1) := by decide +kernel
theorem dX9_takesBend_13 : decode cX9_takesBend 13 = .ok (.aload_n 0, 1) := by decide +kernel
theorem dX9_takesBend_14 : decode cX9_takesBend 14 = .ok (.invokevirtual 217, 3) := by decide +kernel
theorem dX9_takesBend_17 : decode cX9_takesBend 17 = .ok (.aload_n 0, 1) := by decide +kernel
theorem dX9_takesBend_18 : decode cX9_takesBend 18 = .ok (.iconst 0, 1) := by decide +kernel
theorem dX9_takesBend_19 : decode cX9_takesBend 19 = .ok (.iconst 1, 1) := by decide +kernel
theorem dX9_takesBend_20 : decode cX9_takesBend 20 = .ok (.bipush 9, 2) := by decide +kernel
theorem dX9_takesBend_22 : decode cX9_takesBend 22 = .ok (.invokevirtual 224, 3) := by decide +kernel
theorem dX9_takesBend_25 : decode cX9_takesBend 25 = .ok (.ifCond .eq 36, 3) := by decide +kernel
theorem dX9_takesBend_28 : decode cX9_takesBend 28 = .ok (.aload_n 0, 1) := by decide +kernel
theorem dX9_takesBend_29 : decode cX9_takesBend 29 = .ok (.iconst 1, 1) := by decide +kernel
theorem dX9_takesBend_30 : decode cX9_takesBend 30 = .ok (.iconst 1, 1) := by decide +kernel
theorem dX9_takesBend_31 : decode cX9_takesBend 31 = .ok (.bipush 6, 2) := by decide +kernel
theorem dX9_takesBend_33 : decode cX9_takesBend 33 = .ok (.invokevirtual 224, 3) := by decide +kernel
theorem dX9_takesBend_36 : decode cX9_takesBend 36 = .ok (.ifCond .eq 25, 3) := by decide +kernel
theorem dX9_takesBend_39 : decode cX9_takesBend 39 = .ok (.aload_n 0, 1) := by decide +kernel
theorem dX9_takesBend_40 : decode cX9_takesBend 40 = .ok (.iconst 2, 1) := by decide +kernel
theorem dX9_takesBend_41 : decode cX9_takesBend 41 = .ok (.iconst 0, 1) := by decide +kernel
theorem dX9_takesBend_42 : decode cX9_takesBend 42 = .ok (.bipush 6, 2) := by decide +kernel
theorem dX9_takesBend_44 : decode cX9_takesBend 44 = .ok (.invokevirtual 224, 3) := by decide +kernel
theorem dX9_takesBend_47 : decode cX9_takesBend 47 = .ok (.ifCond .eq 14, 3) := by decide +kernel
theorem dX9_takesBend_50 : decode cX9_takesBend 50 = .ok (.aload_n 0, 1) := by decide +kernel
theorem dX9_takesBend_51 : decode cX9_takesBend 51 = .ok (.iconst 3, 1) := by decide +kernel
theorem dX9_takesBend_52 : decode cX9_takesBend 52 = .ok (.iconst 1, 1) := by decide +kernel
theorem dX9_takesBend_53 : decode cX9_takesBend 53 = .ok (.bipush 9, 2) := by decide +kernel
theorem dX9_takesBend_55 : decode cX9_takesBend 55 = .ok (.invokevirtual 224, 3) := by decide +kernel
theorem dX9_takesBend_58 : decode cX9_takesBend 58 = .ok (.ifCond .ne 5, 3) := by decide +kernel
theorem dX9_takesBend_61 : decode cX9_takesBend 61 = .ok (.iconst 0, 1) := by decide +kernel
theorem dX9_takesBend_62 : decode cX9_takesBend 62 = .ok (.ireturn, 1) := by decide +kernel
theorem dX9_takesBend_63 : decode cX9_takesBend 63 = .ok (.aload_n 0, 1) := by decide +kernel
theorem dX9_takesBend_64 : decode cX9_takesBend 64 = .ok (.getfield 42, 3) := by decide +kernel
theorem dX9_takesBend_67 : decode cX9_takesBend 67 = .ok (.aload_n 0, 1) := by decide +kernel
theorem dX9_takesBend_68 : decode cX9_takesBend 68 = .ok (.getfield 45, 3) := by decide +kernel
theorem dX9_takesBend_71 : decode cX9_takesBend 71 = .ok (.iconst 0, 1) := by decide +kernel
theorem dX9_takesBend_72 : decode cX9_takesBend 72 = .ok (.iaload, 1) := by decide +kernel
theorem dX9_takesBend_73 : decode cX9_takesBend 73 = .ok (.aload_n 0, 1) := by decide +kernel
theorem dX9_takesBend_74 : decode cX9_takesBend 74 = .ok (.getfield 45, 3) := by decide +kernel
theorem dX9_takesBend_77 : decode cX9_takesBend 77 = .ok (.iconst 1, 1) := by decide +kernel
theorem dX9_takesBend_78 : decode cX9_takesBend 78 = .ok (.iaload, 1) := by decide +kernel
theorem dX9_takesBend_79 : decode cX9_takesBend 79 = .ok (.aload_n 0, 1) := by decide +kernel
theorem dX9_takesBend_80 : decode cX9_takesBend 80 = .ok (.getfield 45, 3) := by decide +kernel
theorem dX9_takesBend_83 : decode cX9_takesBend 83 = .ok (.iconst 2, 1) := by decide +kernel
theorem dX9_takesBend_84 : decode cX9_takesBend 84 = .ok (.iaload, 1) := by decide +kernel
theorem dX9_takesBend_85 : decode cX9_takesBend 85 = .ok (.aload_n 0, 1) := by decide +kernel
theorem dX9_takesBend_86 : decode cX9_takesBend 86 = .ok (.getfield 45, 3) := by decide +kernel
theorem dX9_takesBend_89 : decode cX9_takesBend 89 = .ok (.iconst 3, 1) := by decide +kernel
theorem dX9_takesBend_90 : decode cX9_takesBend 90 = .ok (.iaload, 1) := by decide +kernel
theorem dX9_takesBend_91 : decode cX9_takesBend 91 = .ok (.invokestatic 83, 3) := by decide +kernel
theorem dX9_takesBend_94 : decode cX9_takesBend 94 = .ok (.iconst 1, 1) := by decide +kernel
theorem dX9_takesBend_95 : decode cX9_takesBend 95 = .ok (.ireturn, 1) := by decide +kernel
set_option maxRecDepth 20000 in
theorem ggX9_takesMud_X9_goBehind : GoodIn wsX9_takesMud wsX9_goBehind := goodIn_r _ [7, 8, 9, 10, 11, 12, 6, 13, 14, 15, 16, 17, 18, 19, 20, 21, 22, 23, 24, 25, 26, 27, 28, 29, 30, 35, 36, 37, 38, 39, 40, 41, 42, 43, 44, 45, 46, 47, 48, 49, 50, 51, 52] (by decide +kernel) (by decide +kernel)
set_option maxRecDepth 20000 in
theorem gX9_takesMud_X9_goBehind : GoodIn wsX9_takesMud (wsV RX9 217 RX9 yX9_goBehind wsX9_goBehind) := goodIn_app (goodIn_of _ (by decide +kernel)) ggX9_takesMud_X9_goBehind
set_option maxRecDepth 20000 in
theorem ggX9_takesMud_X9_takes : GoodIn wsX9_takesMud wsX9_takes := goodIn_r _ [34, 16, 17, 2, 23, 24, 6, 25, 3, 4, 5, 7, 8, 9, 10, 11, 12, 13, 14, 15, 18, 19, 20, 21, 22, 26, 27, 28, 29, 30, 35, 36, 37, 38, 39, 40, 41, 42, 43, 44, 45, 46, 47, 48, 49, 50, 51, 52] (by decide +kernel) (by decide +kernel)
set_option maxRecDepth 20000 in
theorem gX9_takesMud_X9_takes : GoodIn wsX9_takesMud (wsV RX9 224 RX9 yX9_takes wsX9_takes) := goodIn_app (goodIn_of _ (by decide +kernel)) ggX9_takesMud_X9_takes
theorem dX9_takesMud_0 : decode cX9_takesMud 0 = .ok (.aload_n 0, 1) := by decide +kernel
theorem dX9_takesMud_1 : decode cX9_takesMud 1 = .ok (.invokevirtual 217, 3) := by decide +kernel
theorem dX9_takesMud_4 : decode cX9_takesMud 4 = .ok (.aload_n 0, 1) := by decide +kernel
theorem dX9_takesMud_5 : decode cX9_takesMud 5 = .ok (.iconst 0, 1) := by decide +kernel
theorem dX9_takesMud_6 : decode cX9_takesMud 6 = .ok (.iconst 0, 1) := by decide +kernel
theorem dX9_takesMud_7 : decode cX9_takesMud 7 = .ok (.aload_n 0, 1) := by decide +kernel
theorem dX9_takesMud_8 : decode cX9_takesMud 8 = .ok (.getfield 42, 3) := by decide +kernel
theorem dX9_takesMud_11 : decode cX9_takesMud 11 = .ok (.iconst 0, 1) := by decide +kernel
theorem dX9_takesMud_12 : decode cX9_takesMud 12 = .ok (.iaload, 1) := by decide +kernel
theorem dX9_takesMud_13 : decode cX9_takesMud 13 = .ok (.iconst 1, 1) := by decide +kernel
theorem dX9_takesMud_14 : decode cX9_takesMud 14 = .ok (.isub, 1) := by decide +kernel
theorem dX9_takesMud_15 : decode cX9_takesMud 15 = .ok (.invokevirtual 224, 3) := by decide +kernel
theorem dX9_takesMud_18 : decode cX9_takesMud 18 = .ok (.ifCond .ne 5, 3) := by decide +kernel
theorem dX9_takesMud_21 : decode cX9_takesMud 21 = .ok (.iconst 0, 1) := by decide +kernel
theorem dX9_takesMud_22 : decode cX9_takesMud 22 = .ok (.ireturn, 1) := by decide +kernel
theorem dX9_takesMud_23 : decode cX9_takesMud 23 = .ok (.aload_n 0, 1) := by decide +kernel
theorem dX9_takesMud_24 : decode cX9_takesMud 24 = .ok (.getfield 42, 3) := by decide +kernel
theorem dX9_takesMud_27 : decode cX9_takesMud 27 = .ok (.bipush 17, 2) := by decide +kernel
theorem dX9_takesMud_29 : decode cX9_takesMud 29 = .ok (.dup2, 1) := by decide +kernel
theorem dX9_takesMud_30 : decode cX9_takesMud 30 = .ok (.iaload, 1) := by decide +kernel
theorem dX9_takesMud_31 : decode cX9_takesMud 31 = .ok (.iconst 1, 1) := by decide +kernel
theorem dX9_takesMud_32 : decode cX9_takesMud 32 = .ok (.aload_n 0, 1) := by decide +kernel
theorem dX9_takesMud_33 : decode cX9_takesMud 33 = .ok (.getfield 45, 3) := by decide +kernel
theorem dX9_takesMud_36 : decode cX9_takesMud 36 = .ok (.iconst 0, 1) := by decide +kernel
theorem dX9_takesMud_37 : decode cX9_takesMud 37 = .ok (.iaload, 1) := by decide +kernel
theorem dX9_takesMud_38 : decode cX9_takesMud 38 = .ok (.ishl, 1) := by decide +kernel
theorem dX9_takesMud_39 : decode cX9_takesMud 39 = .ok (.ior, 1) := by decide +kernel
theorem dX9_takesMud_40 : decode cX9_takesMud 40 = .ok (.iastore, 1) := by decide +kernel
theorem dX9_takesMud_41 : decode cX9_takesMud 41 = .ok (.iconst 1, 1) := by decide +kernel
theorem dX9_takesMud_42 : decode cX9_takesMud 42 = .ok (.ireturn, 1) := by decide +kernel
set_option maxRecDepth 20000 in
theorem ggX9_takesDrive_X9_goBehind : GoodIn wsX9_takesDrive wsX9_goBehind := goodIn_r _ [7, 8, 9, 10, 11, 12, 6, 13, 14, 15, 16, 17, 18, 19, 20, 21, 22, 23, 24, 25, 26, 27, 28, 29, 30, 56, 57, 58, 59, 60, 61, 62, 63, 64, 65, 66, 67, 68, 69, 70, 71, 72, 73] (by decide +kernel) (by decide +kernel)
set_option maxRecDepth 20000 in
theorem gX9_takesDrive_X9_goBehind : GoodIn wsX9_takesDrive (wsV RX9 217 RX9 yX9_goBehind wsX9_goBehind) := goodIn_app (goodIn_of _ (by decide +kernel)) ggX9_takesDrive_X9_goBehind
set_option maxRecDepth 20000 in
theorem ggX9_takesDrive_X9_takes : GoodIn wsX9_takesDrive wsX9_takes := goodIn_r _ [34, 16, 17, 2, 23, 24, 6, 25, 3, 4, 5, 7, 8, 9, 10, 11, 12, 13, 14, 15, 18, 19, 20, 21, 22, 26, 27, 28, 29, 30, 56, 57, 58, 59, 60, 61, 62, 63, 64, 65, 66, 67, 68, 69, 70, 71, 72, 73] (by decide +kernel) (by decide +kernel)
set_option maxRecDepth 20000 in
theorem gX9_takesDrive_X9_takes : GoodIn wsX9_takesDrive (wsV RX9 224 RX9 yX9_takes wsX9_takes) := goodIn_app (goodIn_of _ (by decide +kernel)) ggX9_takesDrive_X9_takes
set_option maxRecDepth 20000 in
theorem ggX9_takesDrive_X9_goDrive : GoodIn wsX9_takesDrive wsX9_goDrive := goodIn_r _ [37, 38, 39, 6, 40, 41, 42, 43, 44, 45, 46, 47, 48, 49, 50, 51, 52, 53, 54, 55] (by decide +kernel) (by decide +kernel)
set_option maxRecDepth 20000 in
theorem gX9_takesDrive_X9_goDrive : GoodIn wsX9_takesDrive (va_wsS RX9 121 yX9_goDrive wsX9_goDrive) := goodIn_app (goodIn_of _ (by decide +kernel)) ggX9_takesDrive_X9_goDrive
theorem dX9_takesDrive_0 : decode cX9_takesDrive 0 = .ok (.aload_n 0, 1) := by decide +kernel
theorem dX9_takesDrive_1 : decode cX9_takesDrive 1 = .ok (.invokevirtual 217, 3) := by decide +kernel
theorem dX9_takesDrive_4 : decode cX9_takesDrive 4 = .ok (.aload_n 0, 1) := by decide +kernel
theorem dX9_takesDrive_5 : decode cX9_takesDrive 5 = .ok (.iconst 0, 1) := by decide +kernel
theorem dX9_takesDrive_6 : decode cX9_takesDrive 6 = .ok (.iconst 1, 1) := by decide +kernel
theorem dX9_takesDrive_7 : decode cX9_takesDrive 7 = .ok (.aload_n 0, 1) := by decide +kernel
theorem dX9_takesDrive_8 : decode cX9_takesDrive 8 = .ok (.getfield 42, 3) := by decide +kernel
theorem dX9_takesDrive_11 : decode cX9_takesDrive 11 = .ok (.iconst 0, 1) := by decide +kernel
theorem dX9_takesDrive_12 : decode cX9_takesDrive 12 = .ok (.iaload, 1) := by decide +kernel
theorem dX9_takesDrive_13 : decode cX9_takesDrive 13 = .ok (.aload_n 0, 1) := by decide +kernel
theorem dX9_takesDrive_14 : decode cX9_takesDrive 14 = .ok (.getfield 42, 3) := by decide +kernel
theorem dX9_takesDrive_17 : decode cX9_takesDrive 17 = .ok (.iconst 4, 1) := by decide +kernel
theorem dX9_takesDrive_18 : decode cX9_takesDrive 18 = .ok (.iaload, 1) := by decide +kernel
theorem dX9_takesDrive_19 : decode cX9_takesDrive 19 = .ok (.isub, 1) := by decide +kernel
theorem dX9_takesDrive_20 : decode cX9_takesDrive 20 = .ok (.invokevirtual 224, 3) := by decide +kernel
theorem dX9_takesDrive_23 : decode cX9_takesDrive 23 = .ok (.ifCond .ne 5, 3) := by decide +kernel
theorem dX9_takesDrive_26 : decode cX9_takesDrive 26 = .ok (.iconst 0, 1) := by decide +kernel
theorem dX9_takesDrive_27 : decode cX9_takesDrive 27 = .ok (.ireturn, 1) := by decide +kernel
theorem dX9_takesDrive_28 : decode cX9_takesDrive 28 = .ok (.aload_n 0, 1) := by decide +kernel
theorem dX9_takesDrive_29 : decode cX9_takesDrive 29 = .ok (.getfield 42, 3) := by decide +kernel
theorem dX9_takesDrive_32 : decode cX9_takesDrive 32 = .ok (.aload_n 0, 1) := by decide +kernel
theorem dX9_takesDrive_33 : decode cX9_takesDrive 33 = .ok (.getfield 45, 3) := by decide +kernel
theorem dX9_takesDrive_36 : decode cX9_takesDrive 36 = .ok (.iconst 0, 1) := by decide +kernel
theorem dX9_takesDrive_37 : decode cX9_takesDrive 37 = .ok (.iaload, 1) := by decide +kernel
theorem dX9_takesDrive_38 : decode cX9_takesDrive 38 = .ok (.invokestatic 121, 3) := by decide +kernel
theorem dX9_takesDrive_41 : decode cX9_takesDrive 41 = .ok (.ifCond .le 7, 3) := by decide +kernel
theorem dX9_takesDrive_44 : decode cX9_takesDrive 44 = .ok (.iconst 1, 1) := by decide +kernel
theorem dX9_takesDrive_45 : decode cX9_takesDrive 45 = .ok (.goto 4, 3) := by decide +kernel
theorem dX9_takesDrive_48 : decode cX9_takesDrive 48 = .ok (.iconst 0, 1) := by decide +kernel
theorem dX9_takesDrive_49 : decode cX9_takesDrive 49 = .ok (.ireturn, 1) := by decide +kernel
set_option maxRecDepth 20000 in
theorem ggX9_takesItem_X9_spells : GoodIn wsX9_takesItem wsX9_spells := goodIn_r _ [5, 6, 7, 8, 9, 75, 76, 77, 78, 79, 80, 81, 82, 83, 84, 85, 86, 87, 88, 89, 90, 91, 92] (by decide +kernel) (by decide +kernel)
set_option maxRecDepth 20000 in
theorem gX9_takesItem_X9_spells : GoodIn wsX9_takesItem (wsV RX9 220 RX9 yX9_spells wsX9_spells) := goodIn_app (goodIn_of _ (by decide +kernel)) ggX9_takesItem_X9_spells
set_option maxRecDepth 20000 in
theorem ggX9_takesItem_X9_takesBend : GoodIn wsX9_takesItem wsX9_takesBend := goodIn_r _ [13, 14, 15, 16, 17, 18, 4, 19, 9, 7, 20, 21, 22, 23, 24, 8, 6, 25, 26, 27, 28, 29, 30, 31, 32, 33, 34, 35, 36, 37, 38, 39, 40, 41, 42, 43, 44, 45, 75, 76, 77, 78, 79, 80, 81, 82, 83, 84, 85, 86, 87, 88, 89, 90, 91, 92] (by decide +kernel) (by decide +kernel)
set_option maxRecDepth 20000 in
theorem gX9_takesItem_X9_takesBend : GoodIn wsX9_takesItem (wsV RX9 228 RX9 yX9_takesBend wsX9_takesBend) := goodIn_app (goodIn_of _ (by decide +kernel)) ggX9_takesItem_X9_takesBend
set_option maxRecDepth 20000 in
theorem ggX9_takesItem_X9_takesMud : GoodIn wsX9_takesItem wsX9_takesMud := goodIn_r _ [49, 14, 15, 16, 17, 18, 4, 19, 9, 7, 20, 21, 22, 23, 24, 8, 6, 25, 26, 27, 28, 29, 30, 31, 32, 33, 34, 35, 36, 37, 38, 39, 40, 41, 42, 75, 76, 77, 78, 79, 80, 81, 82, 83, 84, 85, 86, 87, 88, 89, 90, 91, 92] (by decide +kernel) (by decide +kernel)
set_option maxRecDepth 20000 in
theorem gX9_takesItem_X9_takesMud : GoodIn wsX9_takesItem (wsV RX9 232 RX9 yX9_takesMud wsX9_takesMud) := goodIn_app (goodIn_of _ (by decide +kernel)) ggX9_takesItem_X9_takesMud
set_option maxRecDepth 20000 in
theorem ggX9_takesItem_X9_takesDrive : GoodIn wsX9_takesItem wsX9_takesDrive := goodIn_r _ [53, 14, 15, 16, 17, 18, 4, 19, 9, 7, 20, 21, 22, 23, 24, 8, 6, 25, 26, 27, 28, 29, 30, 31, 32, 33, 34, 35, 36, 37, 38, 39, 40, 41, 42, 54, 55, 56, 57, 58, 59, 60, 61, 62, 63, 64, 65, 66, 67, 68, 69, 70, 71, 72, 73, 74, 75, 76, 77, 78, 79, 80, 81, 82, 83, 84, 85, 86, 87, 88, 89, 90, 91, 92] (by decide +kernel) (by decide +kernel)
set_option maxRecDepth 20000 in
theorem gX9_takesItem_X9_takesDrive : GoodIn wsX9_takesItem (wsV RX9 235 RX9 yX9_takesDrive wsX9_takesDrive) := goodIn_app (goodIn_of _ (by decide +kernel)) ggX9_takesItem_X9_takesDrive
theorem dX9_takesItem_0 : decode cX9_takesItem 0 = .ok (.aload_n 0, 1) := by decide +kernel
theorem dX9_takesItem_1 : decode cX9_takesItem 1 = .ok (.iconst 4, 1) := by decide +kernel
theorem dX9_takesItem_2 : decode cX9_takesItem 2 = .ok (.bipush 98, 2) := by decide +kernel
theorem dX9_takesItem_4 : decode cX9_takesItem 4 = .ok (.bipush 101, 2) := by decide +kernel
theorem dX9_takesItem_6 : decode cX9_takesItem 6 = .ok (.bipush 110, 2) := by decide +kernel
theorem dX9_takesItem_8 : decode cX9_takesItem 8 = .ok (.bipush 100, 2) := by decide +kernel
theorem dX9_takesItem_10 : decode cX9_takesItem 10 = .ok (.iconst 0, 1) := by decide +kernel
theorem dX9_takesItem_11 : decode cX9_takesItem 11 = .ok (.iconst 0, 1) := by decide +kernel
theorem dX9_takesItem_12 : decode cX9_takesItem 12 = .ok (.invokevirtual 220, 3) := by decide +kernel
theorem dX9_takesItem_15 : decode cX9_takesItem 15 = .ok (.ifCond .eq 8, 3) := by decide +kernel
theorem dX9_takesItem_18 : decode cX9_takesItem 18 = .ok (.aload_n 0, 1) := by decide +kernel
theorem dX9_takesItem_19 : decode cX9_takesItem 19 = .ok (.invokevirtual 228, 3) := by decide +kernel
theorem dX9_takesItem_22 : decode cX9_takesItem 22 = .ok (.ireturn, 1) := by decide +kernel
theorem dX9_takesItem_23 : decode cX9_takesItem 23 = .ok (.aload_n 0, 1) := by decide +kernel
theorem dX9_takesItem_24 : decode cX9_takesItem 24 = .ok (.iconst 3, 1) := by decide +kernel
theorem dX9_takesItem_25 : decode cX9_takesItem 25 = .ok (.bipush 109, 2) := by decide +kernel
theorem dX9_takesItem_27 : decode cX9_takesItem 27 = .ok (.bipush 117, 2) := by decide +kernel
theorem dX9_takesItem_29 : decode cX9_takesItem 29 = .ok (.bipush 100, 2) := by decide +kernel
theorem dX9_takesItem_31 : decode cX9_takesItem 31 = .ok (.iconst 0, 1) := by decide +kernel
theorem dX9_takesItem_32 : decode cX9_takesItem 32 = .ok (.iconst 0, 1) := by decide +kernel
theorem dX9_takesItem_33 : decode cX9_takesItem 33 = .ok (.iconst 0, 1) := by decide +kernel
theorem dX9_takesItem_34 : decode cX9_takesItem 34 = .ok (.invokevirtual 220, 3) := by decide +kernel
theorem dX9_takesItem_37 : decode cX9_takesItem 37 = .ok (.ifCond .eq 8, 3) := by decide +kernel
theorem dX9_takesItem_40 : decode cX9_takesItem 40 = .ok (.aload_n 0, 1) := by decide +kernel
theorem dX9_takesItem_41 : decode cX9_takesItem 41 = .ok (.invokevirtual 232, 3) := by decide +kernel
theorem dX9_takesItem_44 : decode cX9_takesItem 44 = .ok (.ireturn, 1) := by decide +kernel
theorem dX9_takesItem_45 : decode cX9_takesItem 45 = .ok (.aload_n 0, 1) := by decide +kernel
theorem dX9_takesItem_46 : decode cX9_takesItem 46 = .ok (.iconst 5, 1) := by decide +kernel
theorem dX9_takesItem_47 : decode cX9_takesItem 47 = .ok (.bipush 100, 2) := by decide +kernel
theorem dX9_takesItem_49 : decode cX9_takesItem 49 = .ok (.bipush 114, 2) := by decide +kernel
theorem dX9_takesItem_51 : decode cX9_takesItem 51 = .ok (.bipush 105, 2) := by decide +kernel
theorem dX9_takesItem_53 : decode cX9_takesItem 53 = .ok (.bipush 118, 2) := by decide +kernel
theorem dX9_takesItem_55 : decode cX9_takesItem 55 = .ok (.bipush 101, 2) := by decide +kernel
theorem dX9_takesItem_57 : decode cX9_takesItem 57 = .ok (.iconst 0, 1) := by decide +kernel
theorem dX9_takesItem_58 : decode cX9_takesItem 58 = .ok (.invokevirtual 220, 3) := by decide +kernel
theorem dX9_takesItem_61 : decode cX9_takesItem 61 = .ok (.ifCond .eq 14, 3) := by decide +kernel
theorem dX9_takesItem_64 : decode cX9_takesItem 64 = .ok (.aload_n 0, 1) := by decide +kernel
theorem dX9_takesItem_65 : decode cX9_takesItem 65 = .ok (.invokevirtual 235, 3) := by decide +kernel
theorem dX9_takesItem_68 : decode cX9_takesItem 68 = .ok (.ifCond .eq 7, 3) := by decide +kernel
theorem dX9_takesItem_71 : decode cX9_takesItem 71 = .ok (.iconst 1, 1) := by decide +kernel
theorem dX9_takesItem_72 : decode cX9_takesItem 72 = .ok (.goto 4, 3) := by decide +kernel
theorem dX9_takesItem_75 : decode cX9_takesItem 75 = .ok (.iconst 0, 1) := by decide +kernel
theorem dX9_takesItem_76 : decode cX9_takesItem 76 = .ok (.ireturn, 1) := by decide +kernel
set_option maxRecDepth 20000 in
theorem ggX9_read_X9_lookAt : GoodIn wsX9_read wsX9_lookAt := goodIn_r _ [9, 1, 10, 11, 12, 2, 13, 14, 15, 8, 16, 17, 18, 19, 20, 21, 22, 23, 24, 25, 26, 87, 88, 89, 90, 91, 92, 93, 94, 95, 96, 97, 98, 99, 100, 101, 102, 103, 104] (by decide +kernel) (by decide +kernel)
set_option maxRecDepth 20000 in
theorem gX9_read_X9_lookAt : GoodIn wsX9_read (wsV RX9 213 RX9 yX9_lookAt wsX9_lookAt) := goodIn_app (goodIn_of _ (by decide +kernel)) ggX9_read_X9_lookAt
set_option maxRecDepth 20000 in
theorem ggX9_read_X9_takesRoad : GoodIn wsX9_read wsX9_takesRoad := goodIn_r _ [30, 4, 31, 2, 32, 33, 34, 8, 35, 12, 11, 1, 36, 37, 38, 39, 5, 6, 7, 9, 10, 13, 14, 15, 16, 17, 18, 19, 20, 21, 22, 23, 24, 25, 26, 40, 41, 42, 43, 44, 45, 46, 87, 88, 89, 90, 91, 92, 93, 94, 95, 96, 97, 98, 99, 100, 101, 102, 103, 104] (by decide +kernel) (by decide +kernel)
set_option maxRecDepth 20000 in
theorem gX9_read_X9_takesRoad : GoodIn wsX9_read (wsV RX9 238 RX9 yX9_takesRoad wsX9_takesRoad) := goodIn_app (goodIn_of _ (by decide +kernel)) ggX9_read_X9_takesRoad
set_option maxRecDepth 20000 in
theorem ggX9_read_X9_goBehind : GoodIn wsX9_read wsX9_goBehind := goodIn_r _ [39, 1, 12, 5, 6, 7, 8, 9, 10, 11, 2, 13, 14, 15, 16, 17, 18, 19, 20, 21, 22, 23, 24, 25, 26, 87, 88, 89, 90, 91, 92, 93, 94, 95, 96, 97, 98, 99, 100, 101, 102, 103, 104] (by decide +kernel) (by decide +kernel)
set_option maxRecDepth 20000 in
theorem gX9_read_X9_goBehind : GoodIn wsX9_read (wsV RX9 217 RX9 yX9_goBehind wsX9_goBehind) := goodIn_app (goodIn_of _ (by decide +kernel)) ggX9_read_X9_goBehind
set_option maxRecDepth 20000 in
theorem ggX9_read_X9_takesItem : GoodIn wsX9_read wsX9_takesItem := goodIn_r _ [50, 32, 33, 34, 8, 35, 2, 12, 11, 1, 51, 52, 53, 54, 4, 31, 36, 37, 38, 39, 5, 6, 7, 9, 10, 13, 14, 15, 16, 17, 18, 19, 20, 21, 22, 23, 24, 25, 26, 40, 41, 42, 43, 55, 56, 57, 58, 59, 60, 61, 62, 63, 64, 65, 66, 67, 68, 69, 70, 71, 72, 73, 74, 75, 76, 77, 78, 79, 80, 81, 82, 83, 84, 85, 86, 87, 88, 89, 90, 91, 92, 93, 94, 95, 96, 97, 98, 99, 100, 101, 102, 103, 104] (by decide +kernel) (by decide +kernel)
set_option maxRecDepth 20000 in
theorem gX9_read_X9_takesItem : GoodIn wsX9_read (wsV RX9 241 RX9 yX9_takesItem wsX9_takesItem) := goodIn_app (goodIn_of _ (by decide +kernel)) ggX9_read_X9_takesItem
theorem dX9_read_0 : decode cX9_read 0 = .ok (.aload_n 0, 1) := by decide +kernel
theorem dX9_read_1 : decode cX9_read 1 = .ok (.iconst 0, 1) := by decide +kernel

