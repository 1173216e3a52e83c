theorem dX6_take_8 : decode cX6_take 8 = .ok (.invokevirtual 59, 3) := by decide +kernel
theorem dX6_take_11 : decode cX6_take 11 = .ok (.aload_n 0, 1) := by decide +kernel
theorem dX6_take_12 : decode cX6_take 12 = .ok (.getfield 19, 3) := by decide +kernel
theorem dX6_take_15 : decode cX6_take 15 = .ok (.aload_n 1, 1) := by decide +kernel
theorem dX6_take_16 : decode cX6_take 16 = .ok (.getfield 19, 3) := by decide +kernel
theorem dX6_take_19 : decode cX6_take 19 = .ok (.invokevirtual 63, 3) := by decide +kernel
theorem dX6_take_22 : decode cX6_take 22 = .ok (.aload_n 0, 1) := by decide +kernel
theorem dX6_take_23 : decode cX6_take 23 = .ok (.getfield 26, 3) := by decide +kernel
theorem dX6_take_26 : decode cX6_take 26 = .ok (.aload_n 1, 1) := by decide +kernel
theorem dX6_take_27 : decode cX6_take 27 = .ok (.getfield 26, 3) := by decide +kernel
theorem dX6_take_30 : decode cX6_take 30 = .ok (.invokevirtual 66, 3) := by decide +kernel
theorem dX6_take_33 : decode cX6_take 33 = .ok (.aload_n 0, 1) := by decide +kernel
theorem dX6_take_34 : decode cX6_take 34 = .ok (.getfield 33, 3) := by decide +kernel
theorem dX6_take_37 : decode cX6_take 37 = .ok (.aload_n 1, 1) := by decide +kernel
theorem dX6_take_38 : decode cX6_take 38 = .ok (.getfield 33, 3) := by decide +kernel
theorem dX6_take_41 : decode cX6_take 41 = .ok (.invokevirtual 69, 3) := by decide +kernel
theorem dX6_take_44 : decode cX6_take 44 = .ok (.aload_n 0, 1) := by decide +kernel
theorem dX6_take_45 : decode cX6_take 45 = .ok (.aload_n 1, 1) := by decide +kernel
theorem dX6_take_46 : decode cX6_take 46 = .ok (.getfield 37, 3) := by decide +kernel
theorem dX6_take_49 : decode cX6_take 49 = .ok (.putfield 37, 3) := by decide +kernel
theorem dX6_take_52 : decode cX6_take 52 = .ok (.aload_n 0, 1) := by decide +kernel
theorem dX6_take_53 : decode cX6_take 53 = .ok (.aload_n 1, 1) := by decide +kernel
theorem dX6_take_54 : decode cX6_take 54 = .ok (.getfield 41, 3) := by decide +kernel
theorem dX6_take_57 : decode cX6_take 57 = .ok (.putfield 41, 3) := by decide +kernel
theorem dX6_take_60 : decode cX6_take 60 = .ok (.aload_n 0, 1) := by decide +kernel
theorem dX6_take_61 : decode cX6_take 61 = .ok (.aload_n 1, 1) := by decide +kernel
theorem dX6_take_62 : decode cX6_take 62 = .ok (.getfield 44, 3) := by decide +kernel
theorem dX6_take_65 : decode cX6_take 65 = .ok (.putfield 44, 3) := by decide +kernel
theorem dX6_take_68 : decode cX6_take 68 = .ok (.aload_n 0, 1) := by decide +kernel
theorem dX6_take_69 : decode cX6_take 69 = .ok (.aload_n 1, 1) := by decide +kernel
theorem dX6_take_70 : decode cX6_take 70 = .ok (.getfield 47, 3) := by decide +kernel
theorem dX6_take_73 : decode cX6_take 73 = .ok (.putfield 47, 3) := by decide +kernel
theorem dX6_take_76 : decode cX6_take 76 = .ok (.aload_n 0, 1) := by decide +kernel
theorem dX6_take_77 : decode cX6_take 77 = .ok (.aload_n 1, 1) := by decide +kernel
theorem dX6_take_78 : decode cX6_take 78 = .ok (.getfield 50, 3) := by decide +kernel
theorem dX6_take_81 : decode cX6_take 81 = .ok (.putfield 50, 3) := by decide +kernel
theorem dX6_take_84 : decode cX6_take 84 = .ok (.return_, 1) := by decide +kernel
theorem dX6_tell_0 : decode cX6_tell 0 = .ok (.iload_n 1, 1) := by decide +kernel
theorem dX6_tell_1 : decode cX6_tell 1 = .ok (.tableswitch 51 0 3 #[31, 36, 41, 46], 31) := by decide +kernel
theorem dX6_tell_32 : decode cX6_tell 32 = .ok (.aload_n 0, 1) := by decide +kernel
theorem dX6_tell_33 : decode cX6_tell 33 = .ok (.getfield 44, 3) := by decide +kernel
theorem dX6_tell_36 : decode cX6_tell 36 = .ok (.ireturn, 1) := by decide +kernel
theorem dX6_tell_37 : decode cX6_tell 37 = .ok (.aload_n 0, 1) := by decide +kernel
theorem dX6_tell_38 : decode cX6_tell 38 = .ok (.getfield 47, 3) := by decide +kernel
theorem dX6_tell_41 : decode cX6_tell 41 = .ok (.ireturn, 1) := by decide +kernel
theorem dX6_tell_42 : decode cX6_tell 42 = .ok (.aload_n 0, 1) := by decide +kernel
theorem dX6_tell_43 : decode cX6_tell 43 = .ok (.getfield 50, 3) := by decide +kernel
theorem dX6_tell_46 : decode cX6_tell 46 = .ok (.ireturn, 1) := by decide +kernel
theorem dX6_tell_47 : decode cX6_tell 47 = .ok (.aload_n 0, 1) := by decide +kernel
theorem dX6_tell_48 : decode cX6_tell 48 = .ok (.getfield 37, 3) := by decide +kernel
theorem dX6_tell_51 : decode cX6_tell 51 = .ok (.ireturn, 1) := by decide +kernel
theorem dX6_tell_52 : decode cX6_tell 52 = .ok (.aload_n 0, 1) := by decide +kernel
theorem dX6_tell_53 : decode cX6_tell 53 = .ok (.getfield 41, 3) := by decide +kernel
theorem dX6_tell_56 : decode cX6_tell 56 = .ok (.ireturn, 1) := by decide +kernel
theorem dX6_bendsLeft_0 : decode cX6_bendsLeft 0 = .ok (.aload_n 0, 1) := by decide +kernel
theorem dX6_bendsLeft_1 : decode cX6_bendsLeft 1 = .ok (.getfield 10, 3) := by decide +kernel
theorem dX6_bendsLeft_4 : decode cX6_bendsLeft 4 = .ok (.getfield 53, 3) := by decide +kernel
theorem dX6_bendsLeft_7 : decode cX6_bendsLeft 7 = .ok (.aload_n 0, 1) := by decide +kernel
theorem dX6_bendsLeft_8 : decode cX6_bendsLeft 8 = .ok (.getfield 44, 3) := by decide +kernel
theorem dX6_bendsLeft_11 : decode cX6_bendsLeft 11 = .ok (.isub, 1) := by decide +kernel
theorem dX6_bendsLeft_12 : decode cX6_bendsLeft 12 = .ok (.ireturn, 1) := by decide +kernel
set_option maxRecDepth 20000 in
theorem ggX6_paceAt_X0_holds : GoodIn wsX6_paceAt wsX0_holds := goodIn_r _ [9, 10, 11, 25, 26, 27, 28, 29, 30] (by decide +kernel) (by decide +kernel)
set_option maxRecDepth 20000 in
theorem gX6_paceAt_X0_holds : GoodIn wsX6_paceAt (wsV RX6 72 RX0 yX0_holds wsX0_holds) := goodIn_app (goodIn_of _ (by decide +kernel)) ggX6_paceAt_X0_holds
set_option maxRecDepth 20000 in
theorem ggX6_paceAt_X2_paceOf : GoodIn wsX6_paceAt wsX2_paceOf := goodIn_r _ [15] (by decide +kernel) (by decide +kernel)
set_option maxRecDepth 20000 in
theorem gX6_paceAt_X2_paceOf : GoodIn wsX6_paceAt (va_wsS RX6 80 yX2_paceOf wsX2_paceOf) := goodIn_app (goodIn_of _ (by decide +kernel)) ggX6_paceAt_X2_paceOf
theorem dX6_paceAt_0 : decode cX6_paceAt 0 = .ok (.aload_n 0, 1) := by decide +kernel
theorem dX6_paceAt_1 : decode cX6_paceAt 1 = .ok (.getfield 37, 3) := by decide +kernel
theorem dX6_paceAt_4 : decode cX6_paceAt 4 = .ok (.iload_n 2, 1) := by decide +kernel
theorem dX6_paceAt_5 : decode cX6_paceAt 5 = .ok (.aload_n 0, 1) := by decide +kernel
theorem dX6_paceAt_6 : decode cX6_paceAt 6 = .ok (.getfield 10, 3) := by decide +kernel
theorem dX6_paceAt_9 : decode cX6_paceAt 9 = .ok (.iload_n 1, 1) := by decide +kernel
theorem dX6_paceAt_10 : decode cX6_paceAt 10 = .ok (.invokevirtual 72, 3) := by decide +kernel
theorem dX6_paceAt_13 : decode cX6_paceAt 13 = .ok (.aload_n 0, 1) := by decide +kernel
theorem dX6_paceAt_14 : decode cX6_paceAt 14 = .ok (.getfield 41, 3) := by decide +kernel
theorem dX6_paceAt_17 : decode cX6_paceAt 17 = .ok (.aload_n 0, 1) := by decide +kernel
theorem dX6_paceAt_18 : decode cX6_paceAt 18 = .ok (.getfield 10, 3) := by decide +kernel
theorem dX6_paceAt_21 : decode cX6_paceAt 21 = .ok (.getfield 76, 3) := by decide +kernel
theorem dX6_paceAt_24 : decode cX6_paceAt 24 = .ok (.iload_n 1, 1) := by decide +kernel
theorem dX6_paceAt_25 : decode cX6_paceAt 25 = .ok (.iaload, 1) := by decide +kernel
theorem dX6_paceAt_26 : decode cX6_paceAt 26 = .ok (.invokestatic 80, 3) := by decide +kernel
theorem dX6_paceAt_29 : decode cX6_paceAt 29 = .ok (.ireturn, 1) := by decide +kernel
set_option maxRecDepth 20000 in
theorem ggX6_costAt_X0_holds : GoodIn wsX6_costAt wsX0_holds := goodIn_r _ [9, 10, 11, 28, 29, 30, 31, 32, 33] (by decide +kernel) (by decide +kernel)
set_option maxRecDepth 20000 in
theorem gX6_costAt_X0_holds : GoodIn wsX6_costAt (wsV RX6 72 RX0 yX0_holds wsX0_holds) := goodIn_app (goodIn_of _ (by decide +kernel)) ggX6_costAt_X0_holds
set_option maxRecDepth 20000 in
theorem ggX6_costAt_X2_paceOf : GoodIn wsX6_costAt wsX2_paceOf := goodIn_r _ [15] (by decide +kernel) (by decide +kernel)
set_option maxRecDepth 20000 in
theorem gX6_costAt_X2_paceOf : GoodIn wsX6_costAt (va_wsS RX6 80 yX2_paceOf wsX2_paceOf) := goodIn_app (goodIn_of _ (by decide +kernel)) ggX6_costAt_X2_paceOf
set_option maxRecDepth 20000 in
theorem ggX6_costAt_X2_costOf : GoodIn wsX6_costAt wsX2_costOf := goodIn_r _ [18] (by decide +kernel) (by decide +kernel)
set_option maxRecDepth 20000 in
theorem gX6_costAt_X2_costOf : GoodIn wsX6_costAt (va_wsS RX6 86 yX2_costOf wsX2_costOf) := goodIn_app (goodIn_of _ (by decide +kernel)) ggX6_costAt_X2_costOf
theorem dX6_costAt_0 : decode cX6_costAt 0 = .ok (.aload_n 0, 1) := by decide +kernel
theorem dX6_costAt_1 : decode cX6_costAt 1 = .ok (.getfield 10, 3) := by decide +kernel
theorem dX6_costAt_4 : decode cX6_costAt 4 = .ok (.iload_n 1, 1) := by decide +kernel
theorem dX6_costAt_5 : decode cX6_costAt 5 = .ok (.invokevirtual 72, 3) := by decide +kernel
theorem dX6_costAt_8 : decode cX6_costAt 8 = .ok (.istore_n 3, 1) := by decide +kernel
theorem dX6_costAt_9 : decode cX6_costAt 9 = .ok (.aload_n 0, 1) := by decide +kernel
theorem dX6_costAt_10 : decode cX6_costAt 10 = .ok (.getfield 37, 3) := by decide +kernel
theorem dX6_costAt_13 : decode cX6_costAt 13 = .ok (.iload_n 2, 1) := by decide +kernel
theorem dX6_costAt_14 : decode cX6_costAt 14 = .ok (.iload_n 3, 1) := by decide +kernel
theorem dX6_costAt_15 : decode cX6_costAt 15 = .ok (.aload_n 0, 1) := by decide +kernel
theorem dX6_costAt_16 : decode cX6_costAt 16 = .ok (.getfield 41, 3) := by decide +kernel
theorem dX6_costAt_19 : decode cX6_costAt 19 = .ok (.aload_n 0, 1) := by decide +kernel
theorem dX6_costAt_20 : decode cX6_costAt 20 = .ok (.getfield 10, 3) := by decide +kernel
theorem dX6_costAt_23 : decode cX6_costAt 23 = .ok (.getfield 76, 3) := by decide +kernel
theorem dX6_costAt_26 : decode cX6_costAt 26 = .ok (.iload_n 1, 1) := by decide +kernel
theorem dX6_costAt_27 : decode cX6_costAt 27 = .ok (.iaload, 1) := by decide +kernel
theorem dX6_costAt_28 : decode cX6_costAt 28 = .ok (.invokestatic 80, 3) := by decide +kernel
theorem dX6_costAt_31 : decode cX6_costAt 31 = .ok (.iload_n 3, 1) := by decide +kernel
theorem dX6_costAt_32 : decode cX6_costAt 32 = .ok (.invokestatic 86, 3) := by decide +kernel
theorem dX6_costAt_35 : decode cX6_costAt 35 = .ok (.ireturn, 1) := by decide +kernel
set_option maxRecDepth 20000 in
theorem ggX6_costNoted_X6_costAt : GoodIn wsX6_costNoted wsX6_costAt := goodIn_r _ [7, 1, 8, 9, 10, 11, 12, 13, 14, 15, 16, 17, 18, 19, 20, 21, 22, 23, 24, 25, 26, 27, 28, 29, 30, 31, 32, 33, 34, 35, 36, 37, 38, 39] (by decide +kernel) (by decide +kernel)
set_option maxRecDepth 20000 in
theorem gX6_costNoted_X6_costAt : GoodIn wsX6_costNoted (wsV RX6 93 RX6 yX6_costAt wsX6_costAt) := goodIn_app (goodIn_of _ (by decide +kernel)) ggX6_costNoted_X6_costAt
theorem dX6_costNoted_0 : decode cX6_costNoted 0 = .ok (.aload_n 0, 1) := by decide +kernel
theorem dX6_costNoted_1 : decode cX6_costNoted 1 = .ok (.iload_n 1, 1) := by decide +kernel
theorem dX6_costNoted_2 : decode cX6_costNoted 2 = .ok (.aload_n 0, 1) := by decide +kernel
theorem dX6_costNoted_3 : decode cX6_costNoted 3 = .ok (.getfield 10, 3) := by decide +kernel
theorem dX6_costNoted_6 : decode cX6_costNoted 6 = .ok (.getfield 90, 3) := by decide +kernel
theorem dX6_costNoted_9 : decode cX6_costNoted 9 = .ok (.iload_n 1, 1) := by decide +kernel
theorem dX6_costNoted_10 : decode cX6_costNoted 10 = .ok (.iaload, 1) := by decide +kernel
theorem dX6_costNoted_11 : decode cX6_costNoted 11 = .ok (.invokevirtual 93, 3) := by decide +kernel
theorem dX6_costNoted_14 : decode cX6_costNoted 14 = .ok (.ireturn, 1) := by decide +kernel
set_option maxRecDepth 20000 in
theorem ggX6_secondsFrom_X6_costNoted : GoodIn wsX6_secondsFrom wsX6_costNoted := goodIn_r _ [8, 1, 9, 10, 11, 12, 7, 13, 14, 15, 16, 17, 18, 19, 20, 21, 22, 23, 24, 25, 26, 27, 28, 29, 30, 31, 32, 33, 34, 35, 36, 37, 38, 39, 40, 41, 42, 43, 44, 45] (by decide +kernel) (by decide +kernel)
set_option maxRecDepth 20000 in
theorem gX6_secondsFrom_X6_costNoted : GoodIn wsX6_secondsFrom (wsV RX6 99 RX6 yX6_costNoted wsX6_costNoted) := goodIn_app (goodIn_of _ (by decide +kernel)) ggX6_secondsFrom_X6_costNoted
theorem dX6_secondsFrom_0 : decode cX6_secondsFrom 0 = .ok (.iconst 0, 1) := by decide +kernel
theorem dX6_secondsFrom_1 : decode cX6_secondsFrom 1 = .ok (.istore_n 2, 1) := by decide +kernel
theorem dX6_secondsFrom_2 : decode cX6_secondsFrom 2 = .ok (.iload_n 1, 1) := by decide +kernel
theorem dX6_secondsFrom_3 : decode cX6_secondsFrom 3 = .ok (.istore_n 3, 1) := by decide +kernel
theorem dX6_secondsFrom_4 : decode cX6_secondsFrom 4 = .ok (.iload_n 3, 1) := by decide +kernel
theorem dX6_secondsFrom_5 : decode cX6_secondsFrom 5 = .ok (.aload_n 0, 1) := by decide +kernel
theorem dX6_secondsFrom_6 : decode cX6_secondsFrom 6 = .ok (.getfield 10, 3) := by decide +kernel
theorem dX6_secondsFrom_9 : decode cX6_secondsFrom 9 = .ok (.getfield 53, 3) := by decide +kernel
theorem dX6_secondsFrom_12 : decode cX6_secondsFrom 12 = .ok (.if_icmp .ge 27, 3) := by decide +kernel
theorem dX6_secondsFrom_15 : decode cX6_secondsFrom 15 = .ok (.iload_n 2, 1) := by decide +kernel
theorem dX6_secondsFrom_16 : decode cX6_secondsFrom 16 = .ok (.aload_n 0, 1) := by decide +kernel
theorem dX6_secondsFrom_17 : decode cX6_secondsFrom 17 = .ok (.getfield 10, 3) := by decide +kernel
theorem dX6_secondsFrom_20 : decode cX6_secondsFrom 20 = .ok (.getfield 96, 3) := by decide +kernel
theorem dX6_secondsFrom_23 : decode cX6_secondsFrom 23 = .ok (.iload_n 3, 1) := by decide +kernel
theorem dX6_secondsFrom_24 : decode cX6_secondsFrom 24 = .ok (.iaload, 1) := by decide +kernel
theorem dX6_secondsFrom_25 : decode cX6_secondsFrom 25 = .ok (.aload_n 0, 1) := by decide +kernel
theorem dX6_secondsFrom_26 : decode cX6_secondsFrom 26 = .ok (.iload_n 3, 1) := by decide +kernel
theorem dX6_secondsFrom_27 : decode cX6_secondsFrom 27 = .ok (.invokevirtual 99, 3) := by decide +kernel
theorem dX6_secondsFrom_30 : decode cX6_secondsFrom 30 = .ok (.iadd, 1) := by decide +kernel
theorem dX6_secondsFrom_31 : decode cX6_secondsFrom 31 = .ok (.iadd, 1) := by decide +kernel
theorem dX6_secondsFrom_32 : decode cX6_secondsFrom 32 = .ok (.istore_n 2, 1) := by decide +kernel
theorem dX6_secondsFrom_33 : decode cX6_secondsFrom 33 = .ok (.iinc 3 1, 3) := by decide +kernel
theorem dX6_secondsFrom_36 : decode cX6_secondsFrom 36 = .ok (.goto (-32), 3) := by decide +kernel
theorem dX6_secondsFrom_39 : decode cX6_secondsFrom 39 = .ok (.iload_n 2, 1) := by decide +kernel
theorem dX6_secondsFrom_40 : decode cX6_secondsFrom 40 = .ok (.ireturn, 1) := by decide +kernel
set_option maxRecDepth 20000 in
theorem ggX6_goOn_X6_costAt : GoodIn wsX6_goOn wsX6_costAt := goodIn_r _ [12, 2, 13, 14, 15, 16, 17, 18, 19, 20, 21, 22, 23, 24, 25, 26, 27, 28, 29, 30, 31, 32, 33, 34, 35, 36, 37, 38, 39, 40, 41, 42, 43, 44] (by decide +kernel) (by decide +kernel)
set_option maxRecDepth 20000 in
theorem gX6_goOn_X6_costAt : GoodIn wsX6_goOn (wsV RX6 93 RX6 yX6_costAt wsX6_costAt) := goodIn_app (goodIn_of _ (by decide +kernel)) ggX6_goOn_X6_costAt
theorem dX6_goOn_0 : decode cX6_goOn 0 = .ok (.iconst 0, 1) := by decide +kernel
theorem dX6_goOn_1 : decode cX6_goOn 1 = .ok (.istore_n 2, 1) := by decide +kernel
theorem dX6_goOn_2 : decode cX6_goOn 2 = .ok (.iconst 0, 1) := by decide +kernel
theorem dX6_goOn_3 : decode cX6_goOn 3 = .ok (.istore_n 3, 1) := by decide +kernel
theorem dX6_goOn_4 : decode cX6_goOn 4 = .ok (.iload_n 3, 1) := by decide +kernel
theorem dX6_goOn_5 : decode cX6_goOn 5 = .ok (.iload_n 1, 1) := by decide +kernel
theorem dX6_goOn_6 : decode cX6_goOn 6 = .ok (.if_icmp .ge 90, 3) := by decide +kernel
theorem dX6_goOn_9 : decode cX6_goOn 9 = .ok (.aload_n 0, 1) := by decide +kernel
theorem dX6_goOn_10 : decode cX6_goOn 10 = .ok (.getfield 44, 3) := by decide +kernel
theorem dX6_goOn_13 : decode cX6_goOn 13 = .ok (.aload_n 0, 1) := by decide +kernel
theorem dX6_goOn_14 : decode cX6_goOn 14 = .ok (.getfield 10, 3) := by decide +kernel
theorem dX6_goOn_17 : decode cX6_goOn 17 = .ok (.getfield 53, 3) := by decide +kernel
theorem dX6_goOn_20 : decode cX6_goOn 20 = .ok (.if_icmp .ge 76, 3) := by decide +kernel
theorem dX6_goOn_23 : decode cX6_goOn 23 = .ok (.aload_n 0, 1) := by decide +kernel
theorem dX6_goOn_24 : decode cX6_goOn 24 = .ok (.aload_n 0, 1) := by decide +kernel
theorem dX6_goOn_25 : decode cX6_goOn 25 = .ok (.getfield 44, 3) := by decide +kernel
theorem dX6_goOn_28 : decode cX6_goOn 28 = .ok (.aload_n 0, 1) := by decide +kernel
theorem dX6_goOn_29 : decode cX6_goOn 29 = .ok (.getfield 10, 3) := by decide +kernel
theorem dX6_goOn_32 : decode cX6_goOn 32 = .ok (.getfield 90, 3) := by decide +kernel
theorem dX6_goOn_35 : decode cX6_goOn 35 = .ok (.aload_n 0, 1) := by decide +kernel
theorem dX6_goOn_36 : decode cX6_goOn 36 = .ok (.getfield 44, 3) := by decide +kernel
theorem dX6_goOn_39 : decode cX6_goOn 39 = .ok (.iaload, 1) := by decide +kernel
theorem dX6_goOn_40 : decode cX6_goOn 40 = .ok (.invokevirtual 93, 3) := by decide +kernel
theorem dX6_goOn_43 : decode cX6_goOn 43 = .ok (.istore 4, 2) := by decide +kernel
theorem dX6_goOn_45 : decode cX6_goOn 45 = .ok (.iload 4, 2) := by decide +kernel
theorem dX6_goOn_47 : decode cX6_goOn 47 = .ok (.bipush 60, 2) := by decide +kernel
theorem dX6_goOn_49 : decode cX6_goOn 49 = .ok (.if_icmp .ne 13, 3) := by decide +kernel
theorem dX6_goOn_52 : decode cX6_goOn 52 = .ok (.aload_n 0, 1) := by decide +kernel
theorem dX6_goOn_53 : decode cX6_goOn 53 = .ok (.dup, 1) := by decide +kernel
theorem dX6_goOn_54 : decode cX6_goOn 54 = .ok (.getfield 50, 3) := by decide +kernel
theorem dX6_goOn_57 : decode cX6_goOn 57 = .ok (.iconst 1, 1) := by decide +kernel
theorem dX6_goOn_58 : decode cX6_goOn 58 = .ok (.iadd, 1) := by decide +kernel
theorem dX6_goOn_59 : decode cX6_goOn 59 = .ok (.putfield 50, 3) := by decide +kernel
theorem dX6_goOn_62 : decode cX6_goOn 62 = .ok (.iload_n 2, 1) := by decide +kernel
theorem dX6_goOn_63 : decode cX6_goOn 63 = .ok (.aload_n 0, 1) := by decide +kernel
theorem dX6_goOn_64 : decode cX6_goOn 64 = .ok (.getfield 10, 3) := by decide +kernel
theorem dX6_goOn_67 : decode cX6_goOn 67 = .ok (.getfield 96, 3) := by decide +kernel
theorem dX6_goOn_70 : decode cX6_goOn 70 = .ok (.aload_n 0, 1) := by decide +kernel
theorem dX6_goOn_71 : decode cX6_goOn 71 = .ok (.getfield 44, 3) := by decide +kernel
theorem dX6_goOn_74 : decode cX6_goOn 74 = .ok (.iaload, 1) := by decide +kernel
theorem dX6_goOn_75 : decode cX6_goOn 75 = .ok (.iload 4, 2) := by decide +kernel
theorem dX6_goOn_77 : decode cX6_goOn 77 = .ok (.iadd, 1) := by decide +kernel
theorem dX6_goOn_78 : decode cX6_goOn 78 = .ok (.iadd, 1) := by decide +kernel
theorem dX6_goOn_79 : decode cX6_goOn 79 = .ok (.istore_n 2, 1) := by decide +kernel
theorem dX6_goOn_80 : decode cX6_goOn 80 = .ok (.aload_n 0, 1) := by decide +kernel
theorem dX6_goOn_81 : decode cX6_goOn 81 = .ok (.dup, 1) := by decide +kernel
theorem dX6_goOn_82 : decode cX6_goOn 82 = .ok (.getfield 44, 3) := by decide +kernel
theorem dX6_goOn_85 : decode cX6_goOn 85 = .ok (.iconst 1, 1) := by decide +kernel
theorem dX6_goOn_86 : decode cX6_goOn 86 = .ok (.iadd, 1) := by decide +kernel
theorem dX6_goOn_87 : decode cX6_goOn 87 = .ok (.putfield 44, 3) := by decide +kernel
theorem dX6_goOn_90 : decode cX6_goOn 90 = .ok (.iinc 3 1, 3) := by decide +kernel
theorem dX6_goOn_93 : decode cX6_goOn 93 = .ok (.goto (-89), 3) := by decide +kernel
theorem dX6_goOn_96 : decode cX6_goOn 96 = .ok (.aload_n 0, 1) := by decide +kernel
theorem dX6_goOn_97 : decode cX6_goOn 97 = .ok (.dup, 1) := by decide +kernel
theorem dX6_goOn_98 : decode cX6_goOn 98 = .ok (.getfield 47, 3) := by decide +kernel
theorem dX6_goOn_101 : decode cX6_goOn 101 = .ok (.iload_n 2, 1) := by decide +kernel
theorem dX6_goOn_102 : decode cX6_goOn 102 = .ok (.iadd, 1) := by decide +kernel
theorem dX6_goOn_103 : decode cX6_goOn 103 = .ok (.putfield 47, 3) := by decide +kernel
theorem dX6_goOn_106 : decode cX6_goOn 106 = .ok (.iload_n 2, 1) := by decide +kernel
theorem dX6_goOn_107 : decode cX6_goOn 107 = .ok (.ireturn, 1) := by decide +kernel
theorem dX7_init_0 : decode cX7_init 0 = .ok (.aload_n 0, 1) := by decide +kernel
theorem dX7_init_1 : decode cX7_init 1 = .ok (.invokespecial 3, 3) := by decide +kernel
theorem dX7_init_4 : decode cX7_init 4 = .ok (.aload_n 0, 1) := by decide +kernel
theorem dX7_init_5 : decode cX7_init 5 = .ok (.sipush 150, 3) := by decide +kernel
theorem dX7_init_8 : decode cX7_init 8 = .ok (.newarray .int, 2) := by decide +kernel
theorem dX7_init_10 : decode cX7_init 10 = .ok (.putfield 9, 3) := by decide +kernel
theorem dX7_init_13 : decode cX7_init 13 = .ok (.aload_n 0, 1) := by decide +kernel
theorem dX7_init_14 : decode cX7_init 14 = .ok (.iconst 0, 1) := by decide +kernel
theorem dX7_init_15 : decode cX7_init 15 = .ok (.putfield 15, 3) := by decide +kernel
theorem dX7_init_18 : decode cX7_init 18 = .ok (.aload_n 0, 1) := by decide +kernel
theorem dX7_init_19 : decode cX7_init 19 = .ok (.iconst 0, 1) := by decide +kernel
theorem dX7_init_20 : decode cX7_init 20 = .ok (.putfield 19, 3) := by decide +kernel
theorem dX7_init_23 : decode cX7_init 23 = .ok (.aload_n 0, 1) := by decide +kernel
theorem dX7_init_24 : decode cX7_init 24 = .ok (.iconst 0, 1) := by decide +kernel
theorem dX7_init_25 : decode cX7_init 25 = .ok (.putfield 22, 3) := by decide +kernel
theorem dX7_init_28 : decode cX7_init 28 = .ok (.aload_n 0, 1) := by decide +kernel
theorem dX7_init_29 : decode cX7_init 29 = .ok (.iconst 0, 1) := by decide +kernel
theorem dX7_init_30 : decode cX7_init 30 = .ok (.putfield 25, 3) := by decide +kernel
theorem dX7_init_33 : decode cX7_init 33 = .ok (.return_, 1) := by decide +kernel
theorem dX7_isFull_0 : decode cX7_isFull 0 = .ok (.aload_n 0, 1) := by decide +kernel
theorem dX7_isFull_1 : decode cX7_isFull 1 = .ok (.getfield 15, 3) := by decide +kernel
theorem dX7_isFull_4 : decode cX7_isFull 4 = .ok (.sipush 150, 3) := by decide +kernel
theorem dX7_isFull_7 : decode cX7_isFull 7 = .ok (.if_icmp .lt 7, 3) := by decide +kernel
theorem dX7_isFull_10 : decode cX7_isFull 10 = .ok (.iconst 1, 1) := by decide +kernel
theorem dX7_isFull_11 : decode cX7_isFull 11 = .ok (.goto 4, 3) := by decide +kernel
theorem dX7_isFull_14 : decode cX7_isFull 14 = .ok (.iconst 0, 1) := by decide +kernel
theorem dX7_isFull_15 : decode cX7_isFull 15 = .ok (.ireturn, 1) := by decide +kernel
set_option maxRecDepth 20000 in
theorem ggX7_add_X7_isFull : GoodIn wsX7_add wsX7_isFull := goodIn_r _ [7, 2, 8, 9, 10, 11, 12] (by decide +kernel) (by decide +kernel)
set_option maxRecDepth 20000 in
theorem gX7_add_X7_isFull : GoodIn wsX7_add (wsV RX7 28 RX7 yX7_isFull wsX7_isFull) := goodIn_app (goodIn_of _ (by decide +kernel)) ggX7_add_X7_isFull
theorem dX7_add_0 : decode cX7_add 0 = .ok (.aload_n 0, 1) := by decide +kernel
theorem dX7_add_1 : decode cX7_add 1 = .ok (.invokevirtual 28, 3) := by decide +kernel
theorem dX7_add_4 : decode cX7_add 4 = .ok (.ifCond .eq 6, 3) := by decide +kernel
theorem dX7_add_7 : decode cX7_add 7 = .ok (.bipush (-4), 2) := by decide +kernel
theorem dX7_add_9 : decode cX7_add 9 = .ok (.ireturn, 1) := by decide +kernel
theorem dX7_add_10 : decode cX7_add 10 = .ok (.aload_n 0, 1) := by decide +kernel
theorem dX7_add_11 : decode cX7_add 11 = .ok (.getfield 9, 3) := by decide +kernel
theorem dX7_add_14 : decode cX7_add 14 = .ok (.aload_n 0, 1) := by decide +kernel
theorem dX7_add_15 : decode cX7_add 15 = .ok (.getfield 15, 3) := by decide +kernel
theorem dX7_add_18 : decode cX7_add 18 = .ok (.iload_n 1, 1) := by decide +kernel
theorem dX7_add_19 : decode cX7_add 19 = .ok (.iastore, 1) := by decide +kernel
theorem dX7_add_20 : decode cX7_add 20 = .ok (.aload_n 0, 1) := by decide +kernel
theorem dX7_add_21 : decode cX7_add 21 = .ok (.dup, 1) := by decide +kernel
theorem dX7_add_22 : decode cX7_add 22 = .ok (.getfield 15, 3) := by decide +kernel
theorem dX7_add_25 : decode cX7_add 25 = .ok (.iconst 1, 1) := by decide +kernel
theorem dX7_add_26 : decode cX7_add 26 = .ok (.iadd, 1) := by decide +kernel
theorem dX7_add_27 : decode cX7_add 27 = .ok (.putfield 15, 3) := by decide +kernel
theorem dX7_add_30 : decode cX7_add 30 = .ok (.aload_n 0, 1) := by decide +kernel
theorem dX7_add_31 : decode cX7_add 31 = .ok (.getfield 15, 3) := by decide +kernel
theorem dX7_add_34 : decode cX7_add 34 = .ok (.ireturn, 1) := by decide +kernel
set_option maxRecDepth 20000 in
theorem ggX7_tell_X7_step : GoodIn wsX7_tell wsX7_step := goodIn_r _ [8, 1, 2, 9, 3, 10, 11, 12, 13, 7, 14, 15, 16, 17, 166, 167, 168, 169, 170] (by decide +kernel) (by decide +kernel)
set_option maxRecDepth 20000 in
theorem gX7_tell_X7_step : GoodIn wsX7_tell (wsV RX7 32 RX7 yX7_step wsX7_step) := goodIn_app (goodIn_of _ (by decide +kernel)) ggX7_tell_X7_step
set_option maxRecDepth 20000 in
theorem ggX7_tell_X7_roadTold : GoodIn wsX7_tell wsX7_roadTold := goodIn_r _ [21, 22, 23, 24, 7, 25, 3, 1, 2, 10, 26, 27, 28, 29, 30, 31, 32, 33, 34, 35, 36, 37, 38, 39, 40, 41, 42, 43, 44, 45, 46, 47, 48, 49, 50, 51, 52, 53, 54, 55, 56, 57, 58, 59, 60, 61, 62, 63, 64, 65, 66, 67, 68, 69, 70, 71, 72, 73, 74, 4, 5, 6, 8, 9, 11, 12, 13, 14, 15, 16, 17, 75, 76, 77, 78, 79, 80, 81, 82, 83, 84, 85, 86, 87, 88, 89, 90, 91, 92, 93, 94, 95, 96, 97, 98, 99, 100, 166, 167, 168, 169, 170, 171, 172, 173, 174, 175, 176, 177, 178, 179, 180, 181, 182, 183, 184, 185, 186, 187, 188, 189, 190, 191] (by decide +kernel) (by decide +kernel)
set_option maxRecDepth 20000 in
theorem gX7_tell_X7_roadTold : GoodIn wsX7_tell (wsV RX7 35 RX7 yX7_roadTold wsX7_roadTold) := goodIn_app (goodIn_of _ (by decide +kernel)) ggX7_tell_X7_roadTold
set_option maxRecDepth 20000 in
theorem ggX7_tell_X7_itemTold : GoodIn wsX7_tell wsX7_itemTold := goodIn_r _ [104, 22, 23, 24, 7, 25, 3, 1, 2, 10, 26, 27, 28, 29, 30, 31, 32, 33, 34, 35, 36, 37, 38, 39, 40, 41, 42, 43, 44, 45, 46, 47, 48, 49, 50, 51, 52, 53, 54, 55, 56, 57, 58, 59, 60, 61, 62, 63, 64, 65, 66, 67, 68, 69, 70, 71, 72, 73, 74, 105, 106, 107, 108, 109, 110, 111, 112, 113, 114, 115, 4, 5, 6, 8, 9, 11, 12, 13, 14, 15, 16, 17, 75, 76, 77, 78, 116, 117, 118, 119, 120, 121, 122, 123, 124, 125, 97, 98, 99, 100, 126, 127, 128, 129, 130, 131, 132, 133, 134, 135, 136, 137, 138, 139, 140, 141, 142, 82, 143, 84, 85, 94, 144, 145, 146, 147, 148, 96, 149, 95, 150, 151, 152, 153, 92, 93, 154, 155, 156, 157, 158, 159, 160, 161, 162, 163, 164, 165, 166, 167, 168, 169, 170, 171, 172, 173, 174, 175, 176, 177, 178, 179, 180, 181, 182, 183, 184, 185] (by decide +kernel) (by decide +kernel)
set_option maxRecDepth 20000 in
theorem gX7_tell_X7_itemTold : GoodIn wsX7_tell (wsV RX7 39 RX7 yX7_itemTold wsX7_itemTold) := goodIn_app (goodIn_of _ (by decide +kernel)) ggX7_tell_X7_itemTold
theorem dX7_tell_0 : decode cX7_tell 0 = .ok (.aload_n 0, 1) := by decide +kernel
theorem dX7_tell_1 : decode cX7_tell 1 = .ok (.iconst 0, 1) := by decide +kernel
theorem dX7_tell_2 : decode cX7_tell 2 = .ok (.putfield 25, 3) := by decide +kernel
theorem dX7_tell_5 : decode cX7_tell 5 = .ok (.aload_n 0, 1) := by decide +kernel
theorem dX7_tell_6 : decode cX7_tell 6 = .ok (.invokevirtual 32, 3) := by decide +kernel
theorem dX7_tell_9 : decode cX7_tell 9 = .ok (.aload_n 0, 1) := by decide +kernel
theorem dX7_tell_10 : decode cX7_tell 10 = .ok (.aload_n 1, 1) := by decide +kernel
theorem dX7_tell_11 : decode cX7_tell 11 = .ok (.invokevirtual 35, 3) := by decide +kernel
theorem dX7_tell_14 : decode cX7_tell 14 = .ok (.ifCond .ne 11, 3) := by decide +kernel
theorem dX7_tell_17 : decode cX7_tell 17 = .ok (.bipush (-10), 2) := by decide +kernel
theorem dX7_tell_19 : decode cX7_tell 19 = .ok (.aload_n 0, 1) := by decide +kernel
theorem dX7_tell_20 : decode cX7_tell 20 = .ok (.getfield 22, 3) := by decide +kernel
theorem dX7_tell_23 : decode cX7_tell 23 = .ok (.isub, 1) := by decide +kernel
theorem dX7_tell_24 : decode cX7_tell 24 = .ok (.ireturn, 1) := by decide +kernel
theorem dX7_tell_25 : decode cX7_tell 25 = .ok (.iconst 1, 1) := by decide +kernel
theorem dX7_tell_26 : decode cX7_tell 26 = .ok (.istore_n 2, 1) := by decide +kernel
theorem dX7_tell_27 : decode cX7_tell 27 = .ok (.iconst 0, 1) := by decide +kernel
theorem dX7_tell_28 : decode cX7_tell 28 = .ok (.istore_n 3, 1) := by decide +kernel
theorem dX7_tell_29 : decode cX7_tell 29 = .ok (.iload_n 3, 1) := by decide +kernel
theorem dX7_tell_30 : decode cX7_tell 30 = .ok (.sipush 150, 3) := by decide +kernel
theorem dX7_tell_33 : decode cX7_tell 33 = .ok (.if_icmp .ge 35, 3) := by decide +kernel
theorem dX7_tell_36 : decode cX7_tell 36 = .ok (.aload_n 0, 1) := by decide +kernel
theorem dX7_tell_37 : decode cX7_tell 37 = .ok (.getfield 19, 3) := by decide +kernel
theorem dX7_tell_40 : decode cX7_tell 40 = .ok (.ifCond .eq 28, 3) := by decide +kernel
theorem dX7_tell_43 : decode cX7_tell 43 = .ok (.aload_n 0, 1) := by decide +kernel
theorem dX7_tell_44 : decode cX7_tell 44 = .ok (.aload_n 1, 1) := by decide +kernel
theorem dX7_tell_45 : decode cX7_tell 45 = .ok (.invokevirtual 39, 3) := by decide +kernel
theorem dX7_tell_48 : decode cX7_tell 48 = .ok (.ifCond .ne 11, 3) := by decide +kernel
theorem dX7_tell_51 : decode cX7_tell 51 = .ok (.bipush (-10), 2) := by decide +kernel
theorem dX7_tell_53 : decode cX7_tell 53 = .ok (.aload_n 0, 1) := by decide +kernel
theorem dX7_tell_54 : decode cX7_tell 54 = .ok (.getfield 22, 3) := by decide +kernel
theorem dX7_tell_57 : decode cX7_tell 57 = .ok (.isub, 1) := by decide +kernel
theorem dX7_tell_58 : decode cX7_tell 58 = .ok (.ireturn, 1) := by decide +kernel
theorem dX7_tell_59 : decode cX7_tell 59 = .ok (.iinc 2 1, 3) := by decide +kernel
theorem dX7_tell_62 : decode cX7_tell 62 = .ok (.iinc 3 1, 3) := by decide +kernel
theorem dX7_tell_65 : decode cX7_tell 65 = .ok (.goto (-36), 3) := by decide +kernel
theorem dX7_tell_68 : decode cX7_tell 68 = .ok (.iload_n 2, 1) := by decide +kernel
theorem dX7_tell_69 : decode cX7_tell 69 = .ok (.ireturn, 1) := by decide +kernel
set_option maxRecDepth 20000 in
theorem ggX7_roadTold_X7_isWord : GoodIn wsX7_roadTold wsX7_isWord := goodIn_r _ [5, 6, 7, 8, 9, 10, 11, 12, 13, 14, 15, 16, 17, 18, 19, 20, 21, 22, 23, 24, 25, 26, 27, 28, 29, 30, 31, 32, 33, 34, 35, 36, 37, 38, 39, 40, 41, 42, 43, 44, 45, 46, 47, 48, 49, 50, 51, 52, 53, 54, 55, 56, 57, 58, 97, 98, 99, 100, 101] (by decide +kernel) (by decide +kernel)
set_option maxRecDepth 20000 in
theorem gX7_roadTold_X7_isWord : GoodIn wsX7_roadTold (wsV RX7 44 RX7 yX7_isWord wsX7_isWord) := goodIn_app (goodIn_of _ (by decide +kernel)) ggX7_roadTold_X7_isWord
set_option maxRecDepth 20000 in
theorem ggX7_roadTold_X7_step : GoodIn wsX7_roadTold wsX7_step := goodIn_r _ [62, 7, 8, 63, 6, 9, 64, 65, 66, 4, 67, 68, 69, 70, 97, 98, 99, 100, 101] (by decide +kernel) (by decide +kernel)
set_option maxRecDepth 20000 in
theorem gX7_roadTold_X7_step : GoodIn wsX7_roadTold (wsV RX7 32 RX7 yX7_step wsX7_step) := goodIn_app (goodIn_of _ (by decide +kernel)) ggX7_roadTold_X7_step
set_option maxRecDepth 20000 in
theorem ggX7_roadTold_X7_number : GoodIn wsX7_roadTold wsX7_number := goodIn_r _ [74, 6, 8, 7, 9, 68, 69, 70, 59, 60, 61, 4, 62, 63, 64, 65, 66, 67, 97, 98, 99, 100, 101] (by decide +kernel) (by decide +kernel)
set_option maxRecDepth 20000 in
theorem gX7_roadTold_X7_number : GoodIn wsX7_roadTold (wsV RX7 50 RX7 yX7_number wsX7_number) := goodIn_app (goodIn_of _ (by decide +kernel)) ggX7_roadTold_X7_number
set_option maxRecDepth 20000 in
theorem ggX7_roadTold_X6_reset : GoodIn wsX7_roadTold wsX6_reset := goodIn_r _ [79, 80, 81, 82, 83, 84, 85, 86, 87, 88, 89, 90, 91, 92, 102, 103, 104, 105, 106, 107, 108, 109, 110, 111, 112, 113, 114, 115, 116, 117, 118, 119, 120, 121, 122] (by decide +kernel) (by decide +kernel)
set_option maxRecDepth 20000 in
theorem gX7_roadTold_X6_reset : GoodIn wsX7_roadTold (wsV RX7 54 RX6 yX6_reset wsX6_reset) := goodIn_app (goodIn_of _ (by decide +kernel)) ggX7_roadTold_X6_reset
set_option maxRecDepth 20000 in
theorem ggX7_roadTold_X7_itemEnded : GoodIn wsX7_roadTold wsX7_itemEnded := goodIn_r _ [96, 6, 59, 60, 61, 4, 62, 7, 8, 63, 9, 64, 65, 66, 67, 68, 69, 70, 97, 98, 99, 100, 101] (by decide +kernel) (by decide +kernel)
set_option maxRecDepth 20000 in
theorem gX7_roadTold_X7_itemEnded : GoodIn wsX7_roadTold (wsV RX7 60 RX7 yX7_itemEnded wsX7_itemEnded) := goodIn_app (goodIn_of _ (by decide +kernel)) ggX7_roadTold_X7_itemEnded
theorem dX7_roadTold_0 : decode cX7_roadTold 0 = .ok (.aload_n 0, 1) := by decide +kernel
theorem dX7_roadTold_1 : decode cX7_roadTold 1 = .ok (.ldc 42, 2) := by decide +kernel
theorem dX7_roadTold_3 : decode cX7_roadTold 3 = .ok (.invokevirtual 44, 3) := by decide +kernel
theorem dX7_roadTold_6 : decode cX7_roadTold 6 = .ok (.ifCond .ne 5, 3) := by decide +kernel
theorem dX7_roadTold_9 : decode cX7_roadTold 9 = .ok (.iconst 0, 1) := by decide +kernel
theorem dX7_roadTold_10 : decode cX7_roadTold 10 = .ok (.ireturn, 1) := by decide +kernel
theorem dX7_roadTold_11 : decode cX7_roadTold 11 = .ok (.aload_n 0, 1) := by decide +kernel
theorem dX7_roadTold_12 : decode cX7_roadTold 12 = .ok (.invokevirtual 32, 3) := by decide +kernel
theorem dX7_roadTold_15 : decode cX7_roadTold 15 = .ok (.aload_n 0, 1) := by decide +kernel
theorem dX7_roadTold_16 : decode cX7_roadTold 16 = .ok (.iconst 0, 1) := by decide +kernel
theorem dX7_roadTold_17 : decode cX7_roadTold 17 = .ok (.iconst 5, 1) := by decide +kernel
theorem dX7_roadTold_18 : decode cX7_roadTold 18 = .ok (.invokevirtual 50, 3) := by decide +kernel
theorem dX7_roadTold_21 : decode cX7_roadTold 21 = .ok (.istore_n 2, 1) := by decide +kernel
theorem dX7_roadTold_22 : decode cX7_roadTold 22 = .ok (.iload_n 2, 1) := by decide +kernel
theorem dX7_roadTold_23 : decode cX7_roadTold 23 = .ok (.iconst (-1), 1) := by decide +kernel
theorem dX7_roadTold_24 : decode cX7_roadTold 24 = .ok (.if_icmp .ne 5, 3) := by decide +kernel
theorem dX7_roadTold_27 : decode cX7_roadTold 27 = .ok (.iconst 0, 1) := by decide +kernel
theorem dX7_roadTold_28 : decode cX7_roadTold 28 = .ok (.ireturn, 1) := by decide +kernel
theorem dX7_roadTold_29 : decode cX7_roadTold 29 = .ok (.aload_n 0, 1) := by decide +kernel
theorem dX7_roadTold_30 : decode cX7_roadTold 30 = .ok (.iconst 0, 1) := by decide +kernel
theorem dX7_roadTold_31 : decode cX7_roadTold 31 = .ok (.bipush 9, 2) := by decide +kernel
theorem dX7_roadTold_33 : decode cX7_roadTold 33 = .ok (.invokevirtual 50, 3) := by decide +kernel
theorem dX7_roadTold_36 : decode cX7_roadTold 36 = .ok (.istore_n 3, 1) := by decide +kernel
theorem dX7_roadTold_37 : decode cX7_roadTold 37 = .ok (.iload_n 3, 1) := by decide +kernel
theorem dX7_roadTold_38 : decode cX7_roadTold 38 = .ok (.iconst (-1), 1) := by decide +kernel
theorem dX7_roadTold_39 : decode cX7_roadTold 39 = .ok (.if_icmp .ne 5, 3) := by decide +kernel
theorem dX7_roadTold_42 : decode cX7_roadTold 42 = .ok (.iconst 0, 1) := by decide +kernel
theorem dX7_roadTold_43 : decode cX7_roadTold 43 = .ok (.ireturn, 1) := by decide +kernel
theorem dX7_roadTold_44 : decode cX7_roadTold 44 = .ok (.aload_n 1, 1) := by decide +kernel
theorem dX7_roadTold_45 : decode cX7_roadTold 45 = .ok (.iload_n 2, 1) := by decide +kernel
theorem dX7_roadTold_46 : decode cX7_roadTold 46 = .ok (.iload_n 3, 1) := by decide +kernel
theorem dX7_roadTold_47 : decode cX7_roadTold 47 = .ok (.invokevirtual 54, 3) := by decide +kernel
theorem dX7_roadTold_50 : decode cX7_roadTold 50 = .ok (.aload_n 0, 1) := by decide +kernel
theorem dX7_roadTold_51 : decode cX7_roadTold 51 = .ok (.invokevirtual 60, 3) := by decide +kernel
theorem dX7_roadTold_54 : decode cX7_roadTold 54 = .ok (.ireturn, 1) := by decide +kernel
set_option maxRecDepth 20000 in
theorem ggX7_itemTold_X7_isWord : GoodIn wsX7_itemTold wsX7_isWord := goodIn_r _ [5, 6, 7, 8, 9, 10, 11, 12, 13, 14, 15, 16, 17, 18, 19, 20, 21, 22, 23, 24, 25, 26, 27, 28, 29, 30, 31, 32, 33, 34, 35, 36, 37, 38, 39, 40, 41, 42, 43, 44, 45, 46, 47, 48, 49, 50, 51, 52, 53, 54, 55, 56, 57, 58, 148, 149, 150, 151, 152] (by decide +kernel) (by decide +kernel)
set_option maxRecDepth 20000 in
theorem gX7_itemTold_X7_isWord : GoodIn wsX7_itemTold (wsV RX7 44 RX7 yX7_isWord wsX7_isWord) := goodIn_app (goodIn_of _ (by decide +kernel)) ggX7_itemTold_X7_isWord
set_option maxRecDepth 20000 in
theorem ggX7_itemTold_X7_bendTold : GoodIn wsX7_itemTold wsX7_bendTold := goodIn_r _ [62, 63, 64, 65, 66, 67, 68, 69, 70, 71, 72, 4, 73, 7, 8, 74, 6, 9, 75, 76, 77, 78, 79, 80, 81, 82, 83, 84, 85, 86, 87, 88, 89, 90, 91, 92, 93, 94, 95, 96, 97, 98, 99, 153, 154, 155, 156, 157, 158, 159, 160, 161, 162, 163, 164, 165, 166, 167, 148, 149, 150, 151, 152] (by decide +kernel) (by decide +kernel)
set_option maxRecDepth 20000 in
theorem gX7_itemTold_X7_bendTold : GoodIn wsX7_itemTold (wsV RX7 65 RX7 yX7_bendTold wsX7_bendTold) := goodIn_app (goodIn_of _ (by decide +kernel)) ggX7_itemTold_X7_bendTold
set_option maxRecDepth 20000 in
theorem ggX7_itemTold_X7_mudTold : GoodIn wsX7_itemTold wsX7_mudTold := goodIn_r _ [103, 63, 104, 105, 70, 71, 72, 4, 73, 7, 8, 74, 6, 9, 75, 76, 77, 78, 79, 80, 81, 82, 83, 84, 85, 106, 107, 108, 67, 109, 69, 96, 97, 98, 99, 153, 154, 155, 156, 157, 158, 159, 160, 161, 162, 163, 164, 165, 166, 167, 148, 149, 150, 151, 152] (by decide +kernel) (by decide +kernel)
set_option maxRecDepth 20000 in
theorem gX7_itemTold_X7_mudTold : GoodIn wsX7_itemTold (wsV RX7 70 RX7 yX7_mudTold wsX7_mudTold) := goodIn_app (goodIn_of _ (by decide +kernel)) ggX7_itemTold_X7_mudTold
set_option maxRecDepth 20000 in
theorem ggX7_itemTold_X7_driveTold : GoodIn wsX7_itemTold wsX7_driveTold := goodIn_r _ [113, 70, 71, 72, 4, 73, 7, 8, 74, 6, 9, 75, 76, 77, 78, 79, 80, 81, 114, 115, 116, 117, 118, 119, 120, 121, 82, 83, 84, 85, 122, 123, 124, 125, 126, 127, 128, 129, 130, 131, 132, 133, 134, 135, 136, 137, 138, 139, 67, 140, 91, 94, 141, 142, 143, 144, 145, 146, 147, 96, 97, 98, 99, 148, 149, 150, 151, 152, 153, 154, 155, 156, 157, 158, 159, 160, 161, 162, 163, 164, 165, 166, 167] (by decide +kernel) (by decide +kernel)
set_option maxRecDepth 20000 in
theorem gX7_itemTold_X7_driveTold : GoodIn wsX7_itemTold (wsV RX7 75 RX7 yX7_driveTold wsX7_driveTold) := goodIn_app (goodIn_of _ (by decide +kernel)) ggX7_itemTold_X7_driveTold
theorem dX7_itemTold_0 : decode cX7_itemTold 0 = .ok (.aload_n 0, 1) := by decide +kernel
theorem dX7_itemTold_1 : decode cX7_itemTold 1 = .ok (.ldc 63, 2) := by decide +kernel
theorem dX7_itemTold_3 : decode cX7_itemTold 3 = .ok (.invokevirtual 44, 3) := by decide +kernel
theorem dX7_itemTold_6 : decode cX7_itemTold 6 = .ok (.ifCond .eq 9, 3) := by decide +kernel
theorem dX7_itemTold_9 : decode cX7_itemTold 9 = .ok (.aload_n 0, 1) := by decide +kernel
theorem dX7_itemTold_10 : decode cX7_itemTold 10 = .ok (.aload_n 1, 1) := by decide +kernel
theorem dX7_itemTold_11 : decode cX7_itemTold 11 = .ok (.invokevirtual 65, 3) := by decide +kernel
theorem dX7_itemTold_14 : decode cX7_itemTold 14 = .ok (.ireturn, 1) := by decide +kernel
theorem dX7_itemTold_15 : decode cX7_itemTold 15 = .ok (.aload_n 0, 1) := by decide +kernel
theorem dX7_itemTold_16 : decode cX7_itemTold 16 = .ok (.ldc 68, 2) := by decide +kernel
theorem dX7_itemTold_18 : decode cX7_itemTold 18 = .ok (.invokevirtual 44, 3) := by decide +kernel
theorem dX7_itemTold_21 : decode cX7_itemTold 21 = .ok (.ifCond .eq 9, 3) := by decide +kernel
theorem dX7_itemTold_24 : decode cX7_itemTold 24 = .ok (.aload_n 0, 1) := by decide +kernel
theorem dX7_itemTold_25 : decode cX7_itemTold 25 = .ok (.aload_n 1, 1) := by decide +kernel
theorem dX7_itemTold_26 : decode cX7_itemTold 26 = .ok (.invokevirtual 70, 3) := by decide +kernel
theorem dX7_itemTold_29 : decode cX7_itemTold 29 = .ok (.ireturn, 1) := by decide +kernel
theorem dX7_itemTold_30 : decode cX7_itemTold 30 = .ok (.aload_n 0, 1) := by decide +kernel
theorem dX7_itemTold_31 : decode cX7_itemTold 31 = .ok (.ldc 73, 2) := by decide +kernel
theorem dX7_itemTold_33 : decode cX7_itemTold 33 = .ok (.invokevirtual 44, 3) := by decide +kernel
theorem dX7_itemTold_36 : decode cX7_itemTold 36 = .ok (.ifCond .eq 9, 3) := by decide +kernel
theorem dX7_itemTold_39 : decode cX7_itemTold 39 = .ok (.aload_n 0, 1) := by decide +kernel
theorem dX7_itemTold_40 : decode cX7_itemTold 40 = .ok (.aload_n 1, 1) := by decide +kernel
theorem dX7_itemTold_41 : decode cX7_itemTold 41 = .ok (.invokevirtual 75, 3) := by decide +kernel
theorem dX7_itemTold_44 : decode cX7_itemTold 44 = .ok (.ireturn, 1) := by decide +kernel
theorem dX7_itemTold_45 : decode cX7_itemTold 45 = .ok (.iconst 0, 1) := by decide +kernel
theorem dX7_itemTold_46 : decode cX7_itemTold 46 = .ok (.ireturn, 1) := by decide +kernel
set_option maxRecDepth 20000 in
theorem ggX7_bendTold_X0_isFull : GoodIn wsX7_bendTold wsX0_isFull := goodIn_r _ [6, 7, 52, 53, 54, 55, 56, 57] (by decide +kernel) (by decide +kernel)
set_option maxRecDepth 20000 in
theorem gX7_bendTold_X0_isFull : GoodIn wsX7_bendTold (wsV RX7 82 RX0 yX0_isFull wsX0_isFull) := goodIn_app (goodIn_of _ (by decide +kernel)) ggX7_bendTold_X0_isFull
set_option maxRecDepth 20000 in
theorem ggX7_bendTold_X7_step : GoodIn wsX7_bendTold wsX7_step := goodIn_r _ [12, 13, 14, 15, 16, 17, 18, 19, 20, 11, 21, 22, 23, 24, 58, 59, 60, 61, 62] (by decide +kernel) (by decide +kernel)
set_option maxRecDepth 20000 in
theorem gX7_bendTold_X7_step : GoodIn wsX7_bendTold (wsV RX7 32 RX7 yX7_step wsX7_step) := goodIn_app (goodIn_of _ (by decide +kernel)) ggX7_bendTold_X7_step
set_option maxRecDepth 20000 in
theorem ggX7_bendTold_X7_number : GoodIn wsX7_bendTold wsX7_number := goodIn_r _ [28, 16, 14, 13, 17, 22, 23, 24, 8, 9, 10, 11, 12, 15, 18, 19, 20, 21, 58, 59, 60, 61, 62] (by decide +kernel) (by decide +kernel)
set_option maxRecDepth 20000 in
theorem gX7_bendTold_X7_number : GoodIn wsX7_bendTold (wsV RX7 50 RX7 yX7_number wsX7_number) := goodIn_app (goodIn_of _ (by decide +kernel)) ggX7_bendTold_X7_number
set_option maxRecDepth 20000 in
theorem ggX7_bendTold_X0_add : GoodIn wsX7_bendTold wsX0_add := goodIn_r _ [32, 33, 7, 34, 35, 36, 37, 38, 3, 4, 5, 6, 52, 53, 54, 55, 56, 57] (by decide +kernel) (by decide +kernel)
set_option maxRecDepth 20000 in
theorem gX7_bendTold_X0_add : GoodIn wsX7_bendTold (wsV RX7 85 RX0 yX0_add wsX0_add) := goodIn_app (goodIn_of _ (by decide +kernel)) ggX7_bendTold_X0_add
set_option maxRecDepth 20000 in
theorem ggX7_bendTold_X7_itemEnded : GoodIn wsX7_bendTold wsX7_itemEnded := goodIn_r _ [42, 16, 8, 9, 10, 11, 12, 13, 14, 15, 17, 18, 19, 20, 21, 22, 23, 24, 58, 59, 60, 61, 62] (by decide +kernel) (by decide +kernel)
set_option maxRecDepth 20000 in
theorem gX7_bendTold_X7_itemEnded : GoodIn wsX7_bendTold (wsV RX7 60 RX7 yX7_itemEnded wsX7_itemEnded) := goodIn_app (goodIn_of _ (by decide +kernel)) ggX7_bendTold_X7_itemEnded
theorem dX7_bendTold_0 : decode cX7_bendTold 0 = .ok (.aload_n 1, 1) := by decide +kernel
theorem dX7_bendTold_1 : decode cX7_bendTold 1 = .ok (.getfield 78, 3) := by decide +kernel
theorem dX7_bendTold_4 : decode cX7_bendTold 4 = .ok (.invokevirtual 82, 3) := by decide +kernel
theorem dX7_bendTold_7 : decode cX7_bendTold 7 = .ok (.ifCond .eq 5, 3) := by decide +kernel
theorem dX7_bendTold_10 : decode cX7_bendTold 10 = .ok (.iconst 0, 1) := by decide +kernel
theorem dX7_bendTold_11 : decode cX7_bendTold 11 = .ok (.ireturn, 1) := by decide +kernel
theorem dX7_bendTold_12 : decode cX7_bendTold 12 = .ok (.aload_n 0, 1) := by decide +kernel
theorem dX7_bendTold_13 : decode cX7_bendTold 13 = .ok (.invokevirtual 32, 3) := by decide +kernel
theorem dX7_bendTold_16 : decode cX7_bendTold 16 = .ok (.aload_n 0, 1) := by decide +kernel
theorem dX7_bendTold_17 : decode cX7_bendTold 17 = .ok (.iconst 1, 1) := by decide +kernel
theorem dX7_bendTold_18 : decode cX7_bendTold 18 = .ok (.bipush 9, 2) := by decide +kernel
theorem dX7_bendTold_20 : decode cX7_bendTold 20 = .ok (.invokevirtual 50, 3) := by decide +kernel
theorem dX7_bendTold_23 : decode cX7_bendTold 23 = .ok (.istore_n 2, 1) := by decide +kernel
theorem dX7_bendTold_24 : decode cX7_bendTold 24 = .ok (.iload_n 2, 1) := by decide +kernel
theorem dX7_bendTold_25 : decode cX7_bendTold 25 = .ok (.iconst (-1), 1) := by decide +kernel
theorem dX7_bendTold_26 : decode cX7_bendTold 26 = .ok (.if_icmp .ne 5, 3) := by decide +kernel
theorem dX7_bendTold_29 : decode cX7_bendTold 29 = .ok (.iconst 0, 1) := by decide +kernel
theorem dX7_bendTold_30 : decode cX7_bendTold 30 = .ok (.ireturn, 1) := by decide +kernel
theorem dX7_bendTold_31 : decode cX7_bendTold 31 = .ok (.aload_n 0, 1) := by decide +kernel
theorem dX7_bendTold_32 : decode cX7_bendTold 32 = .ok (.iconst 1, 1) := by decide +kernel
theorem dX7_bendTold_33 : decode cX7_bendTold 33 = .ok (.bipush 6, 2) := by decide +kernel
theorem dX7_bendTold_35 : decode cX7_bendTold 35 = .ok (.invokevirtual 50, 3) := by decide +kernel
theorem dX7_bendTold_38 : decode cX7_bendTold 38 = .ok (.istore_n 3, 1) := by decide +kernel
theorem dX7_bendTold_39 : decode cX7_bendTold 39 = .ok (.iload_n 3, 1) := by decide +kernel
theorem dX7_bendTold_40 : decode cX7_bendTold 40 = .ok (.iconst (-1), 1) := by decide +kernel
theorem dX7_bendTold_41 : decode cX7_bendTold 41 = .ok (.if_icmp .ne 5, 3) := by decide +kernel
theorem dX7_bendTold_44 : decode cX7_bendTold 44 = .ok (.iconst 0, 1) := by decide +kernel
theorem dX7_bendTold_45 : decode cX7_bendTold 45 = .ok (.ireturn, 1) := by decide +kernel
theorem dX7_bendTold_46 : decode cX7_bendTold 46 = .ok (.aload_n 0, 1) := by decide +kernel
theorem dX7_bendTold_47 : decode cX7_bendTold 47 = .ok (.iconst 0, 1) := by decide +kernel
theorem dX7_bendTold_48 : decode cX7_bendTold 48 = .ok (.bipush 6, 2) := by decide +kernel
theorem dX7_bendTold_50 : decode cX7_bendTold 50 = .ok (.invokevirtual 50, 3) := by decide +kernel
theorem dX7_bendTold_53 : decode cX7_bendTold 53 = .ok (.istore 4, 2) := by decide +kernel
theorem dX7_bendTold_55 : decode cX7_bendTold 55 = .ok (.iload 4, 2) := by decide +kernel
theorem dX7_bendTold_57 : decode cX7_bendTold 57 = .ok (.iconst (-1), 1) := by decide +kernel
theorem dX7_bendTold_58 : decode cX7_bendTold 58 = .ok (.if_icmp .ne 5, 3) := by decide +kernel
theorem dX7_bendTold_61 : decode cX7_bendTold 61 = .ok (.iconst 0, 1) := by decide +kernel
theorem dX7_bendTold_62 : decode cX7_bendTold 62 = .ok (.ireturn, 1) := by decide +kernel
theorem dX7_bendTold_63 : decode cX7_bendTold 63 = .ok (.aload_n 0, 1) := by decide +kernel
theorem dX7_bendTold_64 : decode cX7_bendTold 64 = .ok (.iconst 1, 1) := by decide +kernel
theorem dX7_bendTold_65 : decode cX7_bendTold 65 = .ok (.bipush 9, 2) := by decide +kernel
theorem dX7_bendTold_67 : decode cX7_bendTold 67 = .ok (.invokevirtual 50, 3) := by decide +kernel
theorem dX7_bendTold_70 : decode cX7_bendTold 70 = .ok (.istore 5, 2) := by decide +kernel
theorem dX7_bendTold_72 : decode cX7_bendTold 72 = .ok (.iload 5, 2) := by decide +kernel
theorem dX7_bendTold_74 : decode cX7_bendTold 74 = .ok (.iconst (-1), 1) := by decide +kernel
theorem dX7_bendTold_75 : decode cX7_bendTold 75 = .ok (.if_icmp .ne 5, 3) := by decide +kernel
theorem dX7_bendTold_78 : decode cX7_bendTold 78 = .ok (.iconst 0, 1) := by decide +kernel
theorem dX7_bendTold_79 : decode cX7_bendTold 79 = .ok (.ireturn, 1) := by decide +kernel
theorem dX7_bendTold_80 : decode cX7_bendTold 80 = .ok (.aload_n 1, 1) := by decide +kernel
theorem dX7_bendTold_81 : decode cX7_bendTold 81 = .ok (.getfield 78, 3) := by decide +kernel
theorem dX7_bendTold_84 : decode cX7_bendTold 84 = .ok (.iload_n 2, 1) := by decide +kernel
theorem dX7_bendTold_85 : decode cX7_bendTold 85 = .ok (.iload_n 3, 1) := by decide +kernel
theorem dX7_bendTold_86 : decode cX7_bendTold 86 = .ok (.iload 4, 2) := by decide +kernel
theorem dX7_bendTold_88 : decode cX7_bendTold 88 = .ok (.iload 5, 2) := by decide +kernel
theorem dX7_bendTold_90 : decode cX7_bendTold 90 = .ok (.invokevirtual 85, 3) := by decide +kernel
theorem dX7_bendTold_93 : decode cX7_bendTold 93 = .ok (.pop, 1) := by decide +kernel
theorem dX7_bendTold_94 : decode cX7_bendTold 94 = .ok (.aload_n 0, 1) := by decide +kernel
theorem dX7_bendTold_95 : decode cX7_bendTold 95 = .ok (.invokevirtual 60, 3) := by decide +kernel
theorem dX7_bendTold_98 : decode cX7_bendTold 98 = .ok (.ireturn, 1) := by decide +kernel
set_option maxRecDepth 20000 in
theorem ggX7_mudTold_X7_step : GoodIn wsX7_mudTold wsX7_step := goodIn_r _ [8, 9, 10, 11, 12, 13, 14, 15, 16, 7, 17, 18, 19, 20, 50, 51, 52, 53, 54] (by decide +kernel) (by decide +kernel)
set_option maxRecDepth 20000 in
theorem gX7_mudTold_X7_step : GoodIn wsX7_mudTold (wsV RX7 32 RX7 yX7_step wsX7_step) := goodIn_app (goodIn_of _ (by decide +kernel)) ggX7_mudTold_X7_step
set_option maxRecDepth 20000 in
theorem ggX7_mudTold_X7_number : GoodIn wsX7_mudTold wsX7_number := goodIn_r _ [24, 12, 10, 9, 13, 18, 19, 20, 4, 5, 6, 7, 8, 11, 14, 15, 16, 17, 50, 51, 52, 53, 54] (by decide +kernel) (by decide +kernel)
set_option maxRecDepth 20000 in
theorem gX7_mudTold_X7_number : GoodIn wsX7_mudTold (wsV RX7 50 RX7 yX7_number wsX7_number) := goodIn_app (goodIn_of _ (by decide +kernel)) ggX7_mudTold_X7_number
set_option maxRecDepth 20000 in
theorem ggX7_mudTold_X0_has : GoodIn wsX7_mudTold wsX0_has := goodIn_r _ [29, 30, 44, 45, 46, 47, 48, 49] (by decide +kernel) (by decide +kernel)
set_option maxRecDepth 20000 in
theorem gX7_mudTold_X0_has : GoodIn wsX7_mudTold (wsV RX7 90 RX0 yX0_has wsX0_has) := goodIn_app (goodIn_of _ (by decide +kernel)) ggX7_mudTold_X0_has
set_option maxRecDepth 20000 in
theorem ggX7_mudTold_X7_itemEnded : GoodIn wsX7_mudTold wsX7_itemEnded := goodIn_r _ [34, 12, 4, 5, 6, 7, 8, 9, 10, 11, 13, 14, 15, 16, 17, 18, 19, 20, 50, 51, 52, 53, 54] (by decide +kernel) (by decide +kernel)
set_option maxRecDepth 20000 in
theorem gX7_mudTold_X7_itemEnded : GoodIn wsX7_mudTold (wsV RX7 60 RX7 yX7_itemEnded wsX7_itemEnded) := goodIn_app (goodIn_of _ (by decide +kernel)) ggX7_mudTold_X7_itemEnded
theorem dX7_mudTold_0 : decode cX7_mudTold 0 = .ok (.aload_n 0, 1) := by decide +kernel
theorem dX7_mudTold_1 : decode cX7_mudTold 1 = .ok (.invokevirtual 32, 3) := by decide +kernel
theorem dX7_mudTold_4 : decode cX7_mudTold 4 = .ok (.aload_n 0, 1) := by decide +kernel
theorem dX7_mudTold_5 : decode cX7_mudTold 5 = .ok (.iconst 0, 1) := by decide +kernel
theorem dX7_mudTold_6 : decode cX7_mudTold 6 = .ok (.aload_n 1, 1) := by decide +kernel
theorem dX7_mudTold_7 : decode cX7_mudTold 7 = .ok (.getfield 78, 3) := by decide +kernel
theorem dX7_mudTold_10 : decode cX7_mudTold 10 = .ok (.getfield 89, 3) := by decide +kernel
theorem dX7_mudTold_13 : decode cX7_mudTold 13 = .ok (.iconst 1, 1) := by decide +kernel
theorem dX7_mudTold_14 : decode cX7_mudTold 14 = .ok (.isub, 1) := by decide +kernel
theorem dX7_mudTold_15 : decode cX7_mudTold 15 = .ok (.invokevirtual 50, 3) := by decide +kernel
theorem dX7_mudTold_18 : decode cX7_mudTold 18 = .ok (.istore_n 2, 1) := by decide +kernel
theorem dX7_mudTold_19 : decode cX7_mudTold 19 = .ok (.aload_n 1, 1) := by decide +kernel
theorem dX7_mudTold_20 : decode cX7_mudTold 20 = .ok (.getfield 78, 3) := by decide +kernel
theorem dX7_mudTold_23 : decode cX7_mudTold 23 = .ok (.iload_n 2, 1) := by decide +kernel
theorem dX7_mudTold_24 : decode cX7_mudTold 24 = .ok (.invokevirtual 90, 3) := by decide +kernel
theorem dX7_mudTold_27 : decode cX7_mudTold 27 = .ok (.ifCond .ne 5, 3) := by decide +kernel
theorem dX7_mudTold_30 : decode cX7_mudTold 30 = .ok (.iconst 0, 1) := by decide +kernel
theorem dX7_mudTold_31 : decode cX7_mudTold 31 = .ok (.ireturn, 1) := by decide +kernel
theorem dX7_mudTold_32 : decode cX7_mudTold 32 = .ok (.aload_n 1, 1) := by decide +kernel
theorem dX7_mudTold_33 : decode cX7_mudTold 33 = .ok (.getfield 78, 3) := by decide +kernel
theorem dX7_mudTold_36 : decode cX7_mudTold 36 = .ok (.getfield 94, 3) := by decide +kernel
theorem dX7_mudTold_39 : decode cX7_mudTold 39 = .ok (.iload_n 2, 1) := by decide +kernel
theorem dX7_mudTold_40 : decode cX7_mudTold 40 = .ok (.iconst 1, 1) := by decide +kernel
theorem dX7_mudTold_41 : decode cX7_mudTold 41 = .ok (.iastore, 1) := by decide +kernel
theorem dX7_mudTold_42 : decode cX7_mudTold 42 = .ok (.aload_n 0, 1) := by decide +kernel
theorem dX7_mudTold_43 : decode cX7_mudTold 43 = .ok (.invokevirtual 60, 3) := by decide +kernel
theorem dX7_mudTold_46 : decode cX7_mudTold 46 = .ok (.ireturn, 1) := by decide +kernel
set_option maxRecDepth 20000 in
theorem ggX7_driveTold_X7_step : GoodIn wsX7_driveTold wsX7_step := goodIn_r _ [5, 6, 7, 8, 9, 10, 11, 12, 13, 4, 14, 15, 16, 17, 63, 64, 65, 66, 67] (by decide +kernel) (by decide +kernel)
set_option maxRecDepth 20000 in
theorem gX7_driveTold_X7_step : GoodIn wsX7_driveTold (wsV RX7 32 RX7 yX7_step wsX7_step) := goodIn_app (goodIn_of _ (by decide +kernel)) ggX7_driveTold_X7_step
set_option maxRecDepth 20000 in
theorem ggX7_driveTold_X6_bendsLeft : GoodIn wsX7_driveTold wsX6_bendsLeft := goodIn_r _ [22, 23, 24, 25, 68, 69, 70, 71, 72, 73, 74, 75, 76, 77, 78, 79, 80, 81, 82] (by decide +kernel) (by decide +kernel)
set_option maxRecDepth 20000 in
theorem gX7_driveTold_X6_bendsLeft : GoodIn wsX7_driveTold (wsV RX7 96 RX6 yX6_bendsLeft wsX6_bendsLeft) := goodIn_app (goodIn_of _ (by decide +kernel)) ggX7_driveTold_X6_bendsLeft
set_option maxRecDepth 20000 in
theorem ggX7_driveTold_X7_number : GoodIn wsX7_driveTold wsX7_number := goodIn_r _ [29, 9, 7, 6, 10, 15, 16, 17, 1, 2, 3, 4, 5, 8, 11, 12, 13, 14, 63, 64, 65, 66, 67] (by decide +kernel) (by decide +kernel)
set_option maxRecDepth 20000 in
theorem gX7_driveTold_X7_number : GoodIn wsX7_driveTold (wsV RX7 50 RX7 yX7_number wsX7_number) := goodIn_app (goodIn_of _ (by decide +kernel)) ggX7_driveTold_X7_number
set_option maxRecDepth 20000 in
theorem ggX7_driveTold_X6_goOn : GoodIn wsX7_driveTold wsX6_goOn := goodIn_r _ [33, 25, 23, 24, 34, 35, 36, 37, 38, 39, 40, 21, 41, 42, 43, 44, 45, 46, 47, 48, 49, 50, 51, 52, 53, 54, 55, 56, 57, 58, 68, 69, 70, 71, 72, 73, 74, 75, 76, 77, 78, 79, 80, 81, 82] (by decide +kernel) (by decide +kernel)
set_option maxRecDepth 20000 in
theorem gX7_driveTold_X6_goOn : GoodIn wsX7_driveTold (wsV RX7 100 RX6 yX6_goOn wsX6_goOn) := goodIn_app (goodIn_of _ (by decide +kernel)) ggX7_driveTold_X6_goOn
set_option maxRecDepth 20000 in
theorem ggX7_driveTold_X7_itemEnded : GoodIn wsX7_driveTold wsX7_itemEnded := goodIn_r _ [62, 9, 1, 2, 3, 4, 5, 6, 7, 8, 10, 11, 12, 13, 14, 15, 16, 17, 63, 64, 65, 66, 67] (by decide +kernel) (by decide +kernel)
set_option maxRecDepth 20000 in
theorem gX7_driveTold_X7_itemEnded : GoodIn wsX7_driveTold (wsV RX7 60 RX7 yX7_itemEnded wsX7_itemEnded) := goodIn_app (goodIn_of _ (by decide +kernel)) ggX7_driveTold_X7_itemEnded
theorem dX7_driveTold_0 : decode cX7_driveTold 0 = .ok (.aload_n 0, 1) := by decide +kernel
theorem dX7_driveTold_1 : decode cX7_driveTold 1 = .ok (.invokevirtual 32, 3) := by decide +kernel
theorem dX7_driveTold_4 : decode cX7_driveTold 4 = .ok (.aload_n 0, 1) := by decide +kernel
theorem dX7_driveTold_5 : decode cX7_driveTold 5 = .ok (.iconst 1, 1) := by decide +kernel
theorem dX7_driveTold_6 : decode cX7_driveTold 6 = .ok (.aload_n 1, 1) := by decide +kernel
theorem dX7_driveTold_7 : decode cX7_driveTold 7 = .ok (.invokevirtual 96, 3) := by decide +kernel
theorem dX7_driveTold_10 : decode cX7_driveTold 10 = .ok (.invokevirtual 50, 3) := by decide +kernel
theorem dX7_driveTold_13 : decode cX7_driveTold 13 = .ok (.istore_n 2, 1) := by decide +kernel
theorem dX7_driveTold_14 : decode cX7_driveTold 14 = .ok (.iload_n 2, 1) := by decide +kernel
theorem dX7_driveTold_15 : decode cX7_driveTold 15 = .ok (.iconst (-1), 1) := by decide +kernel
theorem dX7_driveTold_16 : decode cX7_driveTold 16 = .ok (.if_icmp .ne 5, 3) := by decide +kernel
theorem dX7_driveTold_19 : decode cX7_driveTold 19 = .ok (.iconst 0, 1) := by decide +kernel
theorem dX7_driveTold_20 : decode cX7_driveTold 20 = .ok (.ireturn, 1) := by decide +kernel
theorem dX7_driveTold_21 : decode cX7_driveTold 21 = .ok (.aload_n 1, 1) := by decide +kernel
theorem dX7_driveTold_22 : decode cX7_driveTold 22 = .ok (.iload_n 2, 1) := by decide +kernel
theorem dX7_driveTold_23 : decode cX7_driveTold 23 = .ok (.invokevirtual 100, 3) := by decide +kernel
theorem dX7_driveTold_26 : decode cX7_driveTold 26 = .ok (.pop, 1) := by decide +kernel
theorem dX7_driveTold_27 : decode cX7_driveTold 27 = .ok (.aload_n 0, 1) := by decide +kernel
theorem dX7_driveTold_28 : decode cX7_driveTold 28 = .ok (.invokevirtual 60, 3) := by decide +kernel
theorem dX7_driveTold_31 : decode cX7_driveTold 31 = .ok (.ireturn, 1) := by decide +kernel
set_option maxRecDepth 20000 in
theorem ggX7_itemEnded_X7_step : GoodIn wsX7_itemEnded wsX7_step := goodIn_r _ [6, 7, 8, 9, 1, 10, 11, 12, 13, 5, 14, 15, 16, 17, 18, 19, 20, 21, 22] (by decide +kernel) (by decide +kernel)
set_option maxRecDepth 20000 in
theorem gX7_itemEnded_X7_step : GoodIn wsX7_itemEnded (wsV RX7 32 RX7 yX7_step wsX7_step) := goodIn_app (goodIn_of _ (by decide +kernel)) ggX7_itemEnded_X7_step
theorem dX7_itemEnded_0 : decode cX7_itemEnded 0 = .ok (.aload_n 0, 1) := by decide +kernel
theorem dX7_itemEnded_1 : decode cX7_itemEnded 1 = .ok (.getfield 19, 3) := by decide +kernel
theorem dX7_itemEnded_4 : decode cX7_itemEnded 4 = .ok (.iconst 3, 1) := by decide +kernel
theorem dX7_itemEnded_5 : decode cX7_itemEnded 5 = .ok (.if_icmp .eq 5, 3) := by decide +kernel
theorem dX7_itemEnded_8 : decode cX7_itemEnded 8 = .ok (.iconst 0, 1) := by decide +kernel
theorem dX7_itemEnded_9 : decode cX7_itemEnded 9 = .ok (.ireturn, 1) := by decide +kernel
theorem dX7_itemEnded_10 : decode cX7_itemEnded 10 = .ok (.aload_n 0, 1) := by decide +kernel
theorem dX7_itemEnded_11 : decode cX7_itemEnded 11 = .ok (.invokevirtual 32, 3) := by decide +kernel
theorem dX7_itemEnded_14 : decode cX7_itemEnded 14 = .ok (.iconst 1, 1) := by decide +kernel
theorem dX7_itemEnded_15 : decode cX7_itemEnded 15 = .ok (.ireturn, 1) := by decide +kernel
set_option maxRecDepth 20000 in
theorem ggX7_number_X8_within : GoodIn wsX7_number wsX8_within := goodIn_r _ [7] (by decide +kernel) (by decide +kernel)
set_option maxRecDepth 20000 in
theorem gX7_number_X8_within_n104 : GoodIn wsX7_number (wsX8_within) := ggX7_number_X8_within
set_option maxRecDepth 20000 in
theorem ggX7_number_X7_step : GoodIn wsX7_number wsX7_step := goodIn_r _ [12, 3, 2, 13, 1, 4, 14, 15, 16, 11, 17, 5, 6, 7, 18, 19, 20, 21, 22] (by decide +kernel) (by decide +kernel)
set_option maxRecDepth 20000 in
theorem gX7_number_X7_step : GoodIn wsX7_number (wsV RX7 32 RX7 yX7_step wsX7_step) := goodIn_app (goodIn_of _ (by decide +kernel)) ggX7_number_X7_step
theorem dX7_number_0 : decode cX7_number 0 = .ok (.aload_n 0, 1) := by decide +kernel
theorem dX7_number_1 : decode cX7_number 1 = .ok (.getfield 19, 3) := by decide +kernel
theorem dX7_number_4 : decode cX7_number 4 = .ok (.iconst 2, 1) := by decide +kernel
theorem dX7_number_5 : decode cX7_number 5 = .ok (.if_icmp .eq 5, 3) := by decide +kernel
theorem dX7_number_8 : decode cX7_number 8 = .ok (.iconst (-1), 1) := by decide +kernel
theorem dX7_number_9 : decode cX7_number 9 = .ok (.ireturn, 1) := by decide +kernel
theorem dX7_number_10 : decode cX7_number 10 = .ok (.iconst 0, 1) := by decide +kernel
theorem dX7_number_11 : decode cX7_number 11 = .ok (.istore_n 3, 1) := by decide +kernel
theorem dX7_number_12 : decode cX7_number 12 = .ok (.aload_n 0, 1) := by decide +kernel
theorem dX7_number_13 : decode cX7_number 13 = .ok (.getfield 22, 3) := by decide +kernel
theorem dX7_number_16 : decode cX7_number 16 = .ok (.istore 4, 2) := by decide +kernel
theorem dX7_number_18 : decode cX7_number 18 = .ok (.iload 4, 2) := by decide +kernel
theorem dX7_number_20 : decode cX7_number 20 = .ok (.aload_n 0, 1) := by decide +kernel
theorem dX7_number_21 : decode cX7_number 21 = .ok (.getfield 25, 3) := by decide +kernel
theorem dX7_number_24 : decode cX7_number 24 = .ok (.if_icmp .ge 25, 3) := by decide +kernel
theorem dX7_number_27 : decode cX7_number 27 = .ok (.bipush 10, 2) := by decide +kernel
theorem dX7_number_29 : decode cX7_number 29 = .ok (.iload_n 3, 1) := by decide +kernel
theorem dX7_number_30 : decode cX7_number 30 = .ok (.imul, 1) := by decide +kernel
theorem dX7_number_31 : decode cX7_number 31 = .ok (.aload_n 0, 1) := by decide +kernel
theorem dX7_number_32 : decode cX7_number 32 = .ok (.getfield 9, 3) := by decide +kernel
theorem dX7_number_35 : decode cX7_number 35 = .ok (.iload 4, 2) := by decide +kernel
theorem dX7_number_37 : decode cX7_number 37 = .ok (.iaload, 1) := by decide +kernel
theorem dX7_number_38 : decode cX7_number 38 = .ok (.iadd, 1) := by decide +kernel
theorem dX7_number_39 : decode cX7_number 39 = .ok (.bipush 48, 2) := by decide +kernel
theorem dX7_number_41 : decode cX7_number 41 = .ok (.isub, 1) := by decide +kernel
theorem dX7_number_42 : decode cX7_number 42 = .ok (.istore_n 3, 1) := by decide +kernel
theorem dX7_number_43 : decode cX7_number 43 = .ok (.iinc 4 1, 3) := by decide +kernel
theorem dX7_number_46 : decode cX7_number 46 = .ok (.goto (-28), 3) := by decide +kernel
theorem dX7_number_49 : decode cX7_number 49 = .ok (.iload_n 3, 1) := by decide +kernel
theorem dX7_number_50 : decode cX7_number 50 = .ok (.iload_n 1, 1) := by decide +kernel
theorem dX7_number_51 : decode cX7_number 51 = .ok (.iload_n 2, 1) := by decide +kernel
theorem dX7_number_52 : decode cX7_number 52 = .ok (.invokestatic 104, 3) := by decide +kernel
theorem dX7_number_55 : decode cX7_number 55 = .ok (.ifCond .ne 5, 3) := by decide +kernel
theorem dX7_number_58 : decode cX7_number 58 = .ok (.iconst (-1), 1) := by decide +kernel
theorem dX7_number_59 : decode cX7_number 59 = .ok (.ireturn, 1) := by decide +kernel
theorem dX7_number_60 : decode cX7_number 60 = .ok (.aload_n 0, 1) := by decide +kernel
theorem dX7_number_61 : decode cX7_number 61 = .ok (.invokevirtual 32, 3) := by decide +kernel
theorem dX7_number_64 : decode cX7_number 64 = .ok (.iload_n 3, 1) := by decide +kernel
theorem dX7_number_65 : decode cX7_number 65 = .ok (.ireturn, 1) := by decide +kernel
set_option maxRecDepth 20000 in
theorem ggX7_isWord_J0_length_8abf5 : GoodIn wsX7_isWord wsJ0_length_8abf5 := goodIn_r _ [9, 10, 11, 12, 13, 8, 14, 15, 16] (by decide +kernel) (by decide +kernel)
set_option maxRecDepth 20000 in
theorem gX7_isWord_J0_length_8abf5 : GoodIn wsX7_isWord (wsV RX7 108 RJ0 yJ0_length_8abf5 wsJ0_length_8abf5) := goodIn_app (goodIn_of _ (by decide +kernel)) ggX7_isWord_J0_length_8abf5
set_option maxRecDepth 20000 in
theorem ggX7_isWord_J0_charAt_5068e : GoodIn wsX7_isWord wsJ0_charAt_5068e := goodIn_r _ [20, 10, 21, 22, 23, 8, 24, 15, 16, 25, 26, 27, 28, 29, 30, 31, 32, 33, 34, 35, 36, 37, 38, 39, 40, 41, 42, 43, 44, 45, 46, 47, 48, 49, 50, 51, 52, 53] (by decide +kernel) (by decide +kernel)
set_option maxRecDepth 20000 in
theorem gX7_isWord_J0_charAt_5068e : GoodIn wsX7_isWord (wsV RX7 113 RJ0 yJ0_charAt_5068e wsJ0_charAt_5068e) := goodIn_app (goodIn_of _ (by decide +kernel)) ggX7_isWord_J0_charAt_5068e
theorem dX7_isWord_0 : decode cX7_isWord 0 = .ok (.aload_n 0, 1) := by decide +kernel
theorem dX7_isWord_1 : decode cX7_isWord 1 = .ok (.getfield 19, 3) := by decide +kernel
theorem dX7_isWord_4 : decode cX7_isWord 4 = .ok (.iconst 1, 1) := by decide +kernel
theorem dX7_isWord_5 : decode cX7_isWord 5 = .ok (.if_icmp .ne 19, 3) := by decide +kernel
theorem dX7_isWord_8 : decode cX7_isWord 8 = .ok (.aload_n 0, 1) := by decide +kernel
theorem dX7_isWord_9 : decode cX7_isWord 9 = .ok (.getfield 25, 3) := by decide +kernel
theorem dX7_isWord_12 : decode cX7_isWord 12 = .ok (.aload_n 0, 1) := by decide +kernel
theorem dX7_isWord_13 : decode cX7_isWord 13 = .ok (.getfield 22, 3) := by decide +kernel
theorem dX7_isWord_16 : decode cX7_isWord 16 = .ok (.isub, 1) := by decide +kernel
theorem dX7_isWord_17 : decode cX7_isWord 17 = .ok (.aload_n 1, 1) := by decide +kernel
theorem dX7_isWord_18 : decode cX7_isWord 18 = .ok (.invokevirtual 108, 3) := by decide +kernel
theorem dX7_isWord_21 : decode cX7_isWord 21 = .ok (.if_icmp .eq 5, 3) := by decide +kernel
theorem dX7_isWord_24 : decode cX7_isWord 24 = .ok (.iconst 0, 1) := by decide +kernel
theorem dX7_isWord_25 : decode cX7_isWord 25 = .ok (.ireturn, 1) := by decide +kernel
theorem dX7_isWord_26 : decode cX7_isWord 26 = .ok (.iconst 0, 1) := by decide +kernel
theorem dX7_isWord_27 : decode cX7_isWord 27 = .ok (.istore_n 2, 1) := by decide +kernel
theorem dX7_isWord_28 : decode cX7_isWord 28 = .ok (.iload_n 2, 1) := by decide +kernel
theorem dX7_isWord_29 : decode cX7_isWord 29 = .ok (.aload_n 1, 1) := by decide +kernel
theorem dX7_isWord_30 : decode cX7_isWord 30 = .ok (.invokevirtual 108, 3) := by decide +kernel
theorem dX7_isWord_33 : decode cX7_isWord 33 = .ok (.if_icmp .ge 30, 3) := by decide +kernel
theorem dX7_isWord_36 : decode cX7_isWord 36 = .ok (.aload_n 0, 1) := by decide +kernel
theorem dX7_isWord_37 : decode cX7_isWord 37 = .ok (.getfield 9, 3) := by decide +kernel
theorem dX7_isWord_40 : decode cX7_isWord 40 = .ok (.aload_n 0, 1) := by decide +kernel
theorem dX7_isWord_41 : decode cX7_isWord 41 = .ok (.getfield 22, 3) := by decide +kernel
theorem dX7_isWord_44 : decode cX7_isWord 44 = .ok (.iload_n 2, 1) := by decide +kernel
theorem dX7_isWord_45 : decode cX7_isWord 45 = .ok (.iadd, 1) := by decide +kernel
theorem dX7_isWord_46 : decode cX7_isWord 46 = .ok (.iaload, 1) := by decide +kernel
theorem dX7_isWord_47 : decode cX7_isWord 47 = .ok (.aload_n 1, 1) := by decide +kernel
theorem dX7_isWord_48 : decode cX7_isWord 48 = .ok (.iload_n 2, 1) := by decide +kernel
theorem dX7_isWord_49 : decode cX7_isWord 49 = .ok (.invokevirtual 113, 3) := by decide +kernel
theorem dX7_isWord_52 : decode cX7_isWord 52 = .ok (.if_icmp .eq 5, 3) := by decide +kernel
theorem dX7_isWord_55 : decode cX7_isWord 55 = .ok (.iconst 0, 1) := by decide +kernel
theorem dX7_isWord_56 : decode cX7_isWord 56 = .ok (.ireturn, 1) := by decide +kernel
theorem dX7_isWord_57 : decode cX7_isWord 57 = .ok (.iinc 2 1, 3) := by decide +kernel
theorem dX7_isWord_60 : decode cX7_isWord 60 = .ok (.goto (-32), 3) := by decide +kernel
theorem dX7_isWord_63 : decode cX7_isWord 63 = .ok (.iconst 1, 1) := by decide +kernel
theorem dX7_isWord_64 : decode cX7_isWord 64 = .ok (.ireturn, 1) := by decide +kernel
set_option maxRecDepth 20000 in
theorem ggX7_step_X7_runEnd : GoodIn wsX7_step wsX7_runEnd := goodIn_r _ [10, 3, 5, 14, 15, 16, 17, 18] (by decide +kernel) (by decide +kernel)
set_option maxRecDepth 20000 in
theorem gX7_step_X7_runEnd : GoodIn wsX7_step (wsV RX7 117 RX7 yX7_runEnd wsX7_runEnd) := goodIn_app (goodIn_of _ (by decide +kernel)) ggX7_step_X7_runEnd
set_option maxRecDepth 20000 in
theorem ggX7_step_X8_within : GoodIn wsX7_step wsX8_within := goodIn_r _ [13] (by decide +kernel) (by decide +kernel)
set_option maxRecDepth 20000 in
theorem gX7_step_X8_within_n104 : GoodIn wsX7_step (wsX8_within) := ggX7_step_X8_within
theorem dX7_step_0 : decode cX7_step 0 = .ok (.aload_n 0, 1) := by decide +kernel
theorem dX7_step_1 : decode cX7_step 1 = .ok (.aload_n 0, 1) := by decide +kernel
theorem dX7_step_2 : decode cX7_step 2 = .ok (.aload_n 0, 1) := by decide +kernel
theorem dX7_step_3 : decode cX7_step 3 = .ok (.getfield 25, 3) := by decide +kernel
theorem dX7_step_6 : decode cX7_step 6 = .ok (.bipush 32, 2) := by decide +kernel
theorem dX7_step_8 : decode cX7_step 8 = .ok (.bipush 32, 2) := by decide +kernel
theorem dX7_step_10 : decode cX7_step 10 = .ok (.invokevirtual 117, 3) := by decide +kernel
theorem dX7_step_13 : decode cX7_step 13 = .ok (.putfield 22, 3) := by decide +kernel
theorem dX7_step_16 : decode cX7_step 16 = .ok (.aload_n 0, 1) := by decide +kernel
theorem dX7_step_17 : decode cX7_step 17 = .ok (.aload_n 0, 1) := by decide +kernel
theorem dX7_step_18 : decode cX7_step 18 = .ok (.getfield 22, 3) := by decide +kernel
theorem dX7_step_21 : decode cX7_step 21 = .ok (.iconst 1, 1) := by decide +kernel
theorem dX7_step_22 : decode cX7_step 22 = .ok (.iadd, 1) := by decide +kernel
theorem dX7_step_23 : decode cX7_step 23 = .ok (.putfield 25, 3) := by decide +kernel
theorem dX7_step_26 : decode cX7_step 26 = .ok (.aload_n 0, 1) := by decide +kernel
theorem dX7_step_27 : decode cX7_step 27 = .ok (.getfield 22, 3) := by decide +kernel
theorem dX7_step_30 : decode cX7_step 30 = .ok (.aload_n 0, 1) := by decide +kernel
theorem dX7_step_31 : decode cX7_step 31 = .ok (.getfield 15, 3) := by decide +kernel
theorem dX7_step_34 : decode cX7_step 34 = .ok (.if_icmp .lt 19, 3) := by decide +kernel
theorem dX7_step_37 : decode cX7_step 37 = .ok (.aload_n 0, 1) := by decide +kernel
theorem dX7_step_38 : decode cX7_step 38 = .ok (.iconst 0, 1) := by decide +kernel
theorem dX7_step_39 : decode cX7_step 39 = .ok (.putfield 19, 3) := by decide +kernel
theorem dX7_step_42 : decode cX7_step 42 = .ok (.aload_n 0, 1) := by decide +kernel
theorem dX7_step_43 : decode cX7_step 43 = .ok (.aload_n 0, 1) := by decide +kernel
theorem dX7_step_44 : decode cX7_step 44 = .ok (.getfield 22, 3) := by decide +kernel
theorem dX7_step_47 : decode cX7_step 47 = .ok (.putfield 25, 3) := by decide +kernel
theorem dX7_step_50 : decode cX7_step 50 = .ok (.goto 129, 3) := by decide +kernel
theorem dX7_step_53 : decode cX7_step 53 = .ok (.aload_n 0, 1) := by decide +kernel
theorem dX7_step_54 : decode cX7_step 54 = .ok (.getfield 9, 3) := by decide +kernel
theorem dX7_step_57 : decode cX7_step 57 = .ok (.aload_n 0, 1) := by decide +kernel
theorem dX7_step_58 : decode cX7_step 58 = .ok (.getfield 22, 3) := by decide +kernel
theorem dX7_step_61 : decode cX7_step 61 = .ok (.iaload, 1) := by decide +kernel
theorem dX7_step_62 : decode cX7_step 62 = .ok (.bipush 97, 2) := by decide +kernel
theorem dX7_step_64 : decode cX7_step 64 = .ok (.bipush 122, 2) := by decide +kernel
theorem dX7_step_66 : decode cX7_step 66 = .ok (.invokestatic 104, 3) := by decide +kernel
theorem dX7_step_69 : decode cX7_step 69 = .ok (.ifCond .eq 27, 3) := by decide +kernel
theorem dX7_step_72 : decode cX7_step 72 = .ok (.aload_n 0, 1) := by decide +kernel
theorem dX7_step_73 : decode cX7_step 73 = .ok (.iconst 1, 1) := by decide +kernel
theorem dX7_step_74 : decode cX7_step 74 = .ok (.putfield 19, 3) := by decide +kernel
theorem dX7_step_77 : decode cX7_step 77 = .ok (.aload_n 0, 1) := by decide +kernel
theorem dX7_step_78 : decode cX7_step 78 = .ok (.aload_n 0, 1) := by decide +kernel
theorem dX7_step_79 : decode cX7_step 79 = .ok (.aload_n 0, 1) := by decide +kernel
theorem dX7_step_80 : decode cX7_step 80 = .ok (.getfield 22, 3) := by decide +kernel
theorem dX7_step_83 : decode cX7_step 83 = .ok (.bipush 97, 2) := by decide +kernel
theorem dX7_step_85 : decode cX7_step 85 = .ok (.bipush 122, 2) := by decide +kernel
theorem dX7_step_87 : decode cX7_step 87 = .ok (.invokevirtual 117, 3) := by decide +kernel
theorem dX7_step_90 : decode cX7_step 90 = .ok (.putfield 25, 3) := by decide +kernel
theorem dX7_step_93 : decode cX7_step 93 = .ok (.goto 86, 3) := by decide +kernel
theorem dX7_step_96 : decode cX7_step 96 = .ok (.aload_n 0, 1) := by decide +kernel
theorem dX7_step_97 : decode cX7_step 97 = .ok (.getfield 9, 3) := by decide +kernel
theorem dX7_step_100 : decode cX7_step 100 = .ok (.aload_n 0, 1) := by decide +kernel
theorem dX7_step_101 : decode cX7_step 101 = .ok (.getfield 22, 3) := by decide +kernel
theorem dX7_step_104 : decode cX7_step 104 = .ok (.iaload, 1) := by decide +kernel
theorem dX7_step_105 : decode cX7_step 105 = .ok (.bipush 48, 2) := by decide +kernel
theorem dX7_step_107 : decode cX7_step 107 = .ok (.bipush 57, 2) := by decide +kernel
theorem dX7_step_109 : decode cX7_step 109 = .ok (.invokestatic 104, 3) := by decide +kernel
theorem dX7_step_112 : decode cX7_step 112 = .ok (.ifCond .eq 44, 3) := by decide +kernel
theorem dX7_step_115 : decode cX7_step 115 = .ok (.aload_n 0, 1) := by decide +kernel
theorem dX7_step_116 : decode cX7_step 116 = .ok (.aload_n 0, 1) := by decide +kernel
theorem dX7_step_117 : decode cX7_step 117 = .ok (.aload_n 0, 1) := by decide +kernel
theorem dX7_step_118 : decode cX7_step 118 = .ok (.getfield 22, 3) := by decide +kernel
theorem dX7_step_121 : decode cX7_step 121 = .ok (.bipush 48, 2) := by decide +kernel
theorem dX7_step_123 : decode cX7_step 123 = .ok (.bipush 57, 2) := by decide +kernel
theorem dX7_step_125 : decode cX7_step 125 = .ok (.invokevirtual 117, 3) := by decide +kernel
theorem dX7_step_128 : decode cX7_step 128 = .ok (.putfield 25, 3) := by decide +kernel
theorem dX7_step_131 : decode cX7_step 131 = .ok (.aload_n 0, 1) := by decide +kernel
theorem dX7_step_132 : decode cX7_step 132 = .ok (.aload_n 0, 1) := by decide +kernel
theorem dX7_step_133 : decode cX7_step 133 = .ok (.getfield 25, 3) := by decide +kernel
theorem dX7_step_136 : decode cX7_step 136 = .ok (.aload_n 0, 1) := by decide +kernel
theorem dX7_step_137 : decode cX7_step 137 = .ok (.getfield 22, 3) := by decide +kernel
theorem dX7_step_140 : decode cX7_step 140 = .ok (.isub, 1) := by decide +kernel
theorem dX7_step_141 : decode cX7_step 141 = .ok (.iconst 2, 1) := by decide +kernel
theorem dX7_step_142 : decode cX7_step 142 = .ok (.if_icmp .gt 7, 3) := by decide +kernel
theorem dX7_step_145 : decode cX7_step 145 = .ok (.iconst 2, 1) := by decide +kernel
theorem dX7_step_146 : decode cX7_step 146 = .ok (.goto 4, 3) := by decide +kernel
theorem dX7_step_149 : decode cX7_step 149 = .ok (.iconst 4, 1) := by decide +kernel
theorem dX7_step_150 : decode cX7_step 150 = .ok (.putfield 19, 3) := by decide +kernel
theorem dX7_step_153 : decode cX7_step 153 = .ok (.goto 26, 3) := by decide +kernel
theorem dX7_step_156 : decode cX7_step 156 = .ok (.aload_n 0, 1) := by decide +kernel
theorem dX7_step_157 : decode cX7_step 157 = .ok (.aload_n 0, 1) := by decide +kernel
theorem dX7_step_158 : decode cX7_step 158 = .ok (.getfield 9, 3) := by decide +kernel
theorem dX7_step_161 : decode cX7_step 161 = .ok (.aload_n 0, 1) := by decide +kernel
theorem dX7_step_162 : decode cX7_step 162 = .ok (.getfield 22, 3) := by decide +kernel
theorem dX7_step_165 : decode cX7_step 165 = .ok (.iaload, 1) := by decide +kernel
theorem dX7_step_166 : decode cX7_step 166 = .ok (.bipush 59, 2) := by decide +kernel
theorem dX7_step_168 : decode cX7_step 168 = .ok (.if_icmp .ne 7, 3) := by decide +kernel
theorem dX7_step_171 : decode cX7_step 171 = .ok (.iconst 3, 1) := by decide +kernel
theorem dX7_step_172 : decode cX7_step 172 = .ok (.goto 4, 3) := by decide +kernel
theorem dX7_step_175 : decode cX7_step 175 = .ok (.iconst 4, 1) := by decide +kernel
theorem dX7_step_176 : decode cX7_step 176 = .ok (.putfield 19, 3) := by decide +kernel
theorem dX7_step_179 : decode cX7_step 179 = .ok (.return_, 1) := by decide +kernel
theorem dX7_runEnd_0 : decode cX7_runEnd 0 = .ok (.iload_n 1, 1) := by decide +kernel
theorem dX7_runEnd_1 : decode cX7_runEnd 1 = .ok (.istore 4, 2) := by decide +kernel
theorem dX7_runEnd_3 : decode cX7_runEnd 3 = .ok (.iload 4, 2) := by decide +kernel
theorem dX7_runEnd_5 : decode cX7_runEnd 5 = .ok (.aload_n 0, 1) := by decide +kernel
theorem dX7_runEnd_6 : decode cX7_runEnd 6 = .ok (.getfield 15, 3) := by decide +kernel
theorem dX7_runEnd_9 : decode cX7_runEnd 9 = .ok (.if_icmp .ge 34, 3) := by decide +kernel
theorem dX7_runEnd_12 : decode cX7_runEnd 12 = .ok (.aload_n 0, 1) := by decide +kernel
theorem dX7_runEnd_13 : decode cX7_runEnd 13 = .ok (.getfield 9, 3) := by decide +kernel
theorem dX7_runEnd_16 : decode cX7_runEnd 16 = .ok (.iload 4, 2) := by decide +kernel
theorem dX7_runEnd_18 : decode cX7_runEnd 18 = .ok (.iaload, 1) := by decide +kernel
theorem dX7_runEnd_19 : decode cX7_runEnd 19 = .ok (.iload_n 2, 1) := by decide +kernel
theorem dX7_runEnd_20 : decode cX7_runEnd 20 = .ok (.if_icmp .lt 14, 3) := by decide +kernel
theorem dX7_runEnd_23 : decode cX7_runEnd 23 = .ok (.aload_n 0, 1) := by decide +kernel
theorem dX7_runEnd_24 : decode cX7_runEnd 24 = .ok (.getfield 9, 3) := by decide +kernel
theorem dX7_runEnd_27 : decode cX7_runEnd 27 = .ok (.iload 4, 2) := by decide +kernel
theorem dX7_runEnd_29 : decode cX7_runEnd 29 = .ok (.iaload, 1) := by decide +kernel
theorem dX7_runEnd_30 : decode cX7_runEnd 30 = .ok (.iload_n 3, 1) := by decide +kernel
theorem dX7_runEnd_31 : decode cX7_runEnd 31 = .ok (.if_icmp .le 6, 3) := by decide +kernel
theorem dX7_runEnd_34 : decode cX7_runEnd 34 = .ok (.iload 4, 2) := by decide +kernel
theorem dX7_runEnd_36 : decode cX7_runEnd 36 = .ok (.ireturn, 1) := by decide +kernel
theorem dX7_runEnd_37 : decode cX7_runEnd 37 = .ok (.iinc 4 1, 3) := by decide +kernel
theorem dX7_runEnd_40 : decode cX7_runEnd 40 = .ok (.goto (-37), 3) := by decide +kernel
theorem dX7_runEnd_43 : decode cX7_runEnd 43 = .ok (.aload_n 0, 1) := by decide +kernel
theorem dX7_runEnd_44 : decode cX7_runEnd 44 = .ok (.getfield 15, 3) := by decide +kernel
theorem dX7_runEnd_47 : decode cX7_runEnd 47 = .ok (.ireturn, 1) := by decide +kernel
set_option maxRecDepth 20000 in
theorem ggX8_init_X6_init : GoodIn wsX8_init wsX6_init := goodIn_r _ [25, 26, 2, 3, 27, 28, 29, 30, 31, 32, 33, 34, 35, 36, 37, 38, 39, 40, 41, 42, 43, 44, 45, 46, 47, 48, 49, 50, 20, 51, 52, 53, 54, 55, 56, 57, 58, 59, 60, 61, 62, 63, 64, 65, 66, 67, 68, 69, 70, 71, 110, 111, 112, 113, 114, 115, 85, 86, 87, 88, 89, 90, 91, 92, 93, 116, 117, 118, 119, 120, 121] (by decide +kernel) (by decide +kernel)
set_option maxRecDepth 20000 in
theorem gX8_init_X6_init_n9 : GoodIn wsX8_init (wsX6_init) := ggX8_init_X6_init
set_option maxRecDepth 20000 in
theorem ggX8_init_X5_init : GoodIn wsX8_init wsX5_init := goodIn_r _ [73, 74, 2, 3, 20, 75, 76, 103, 104] (by decide +kernel) (by decide +kernel)
set_option maxRecDepth 20000 in
theorem gX8_init_X5_init_n29 : GoodIn wsX8_init (wsX5_init) := ggX8_init_X5_init
set_option maxRecDepth 20000 in
theorem ggX8_init_X7_init : GoodIn wsX8_init wsX7_init := goodIn_r _ [78, 79, 2, 3, 20, 80, 81, 82, 83, 84, 105, 106, 107, 108, 109] (by decide +kernel) (by decide +kernel)
set_option maxRecDepth 20000 in
theorem gX8_init_X7_init_n36 : GoodIn wsX8_init (wsX7_init) := ggX8_init_X7_init
theorem dX8_init_0 : decode cX8_init 0 = .ok (.aload_n 0, 1) := by decide +kernel
theorem dX8_init_1 : decode cX8_init 1 = .ok (.invokespecial 1, 3) := by decide +kernel
theorem dX8_init_4 : decode cX8_init 4 = .ok (.aload_n 0, 1) := by decide +kernel
theorem dX8_init_5 : decode cX8_init 5 = .ok (.new 7, 3) := by decide +kernel
theorem dX8_init_8 : decode cX8_init 8 = .ok (.dup, 1) := by decide +kernel
theorem dX8_init_9 : decode cX8_init 9 = .ok (.invokespecial 9, 3) := by decide +kernel
theorem dX8_init_12 : decode cX8_init 12 = .ok (.putfield 10, 3) := by decide +kernel
theorem dX8_init_15 : decode cX8_init 15 = .ok (.aload_n 0, 1) := by decide +kernel
theorem dX8_init_16 : decode cX8_init 16 = .ok (.new 7, 3) := by decide +kernel
theorem dX8_init_19 : decode cX8_init 19 = .ok (.dup, 1) := by decide +kernel
theorem dX8_init_20 : decode cX8_init 20 = .ok (.invokespecial 9, 3) := by decide +kernel
theorem dX8_init_23 : decode cX8_init 23 = .ok (.putfield 16, 3) := by decide +kernel
theorem dX8_init_26 : decode cX8_init 26 = .ok (.aload_n 0, 1) := by decide +kernel
theorem dX8_init_27 : decode cX8_init 27 = .ok (.iconst 2, 1) := by decide +kernel
theorem dX8_init_28 : decode cX8_init 28 = .ok (.anewarray 7, 3) := by decide +kernel
theorem dX8_init_31 : decode cX8_init 31 = .ok (.dup, 1) := by decide +kernel
theorem dX8_init_32 : decode cX8_init 32 = .ok (.iconst 0, 1) := by decide +kernel
theorem dX8_init_33 : decode cX8_init 33 = .ok (.new 7, 3) := by decide +kernel
theorem dX8_init_36 : decode cX8_init 36 = .ok (.dup, 1) := by decide +kernel
theorem dX8_init_37 : decode cX8_init 37 = .ok (.invokespecial 9, 3) := by decide +kernel
theorem dX8_init_40 : decode cX8_init 40 = .ok (.aastore, 1) := by decide +kernel
theorem dX8_init_41 : decode cX8_init 41 = .ok (.dup, 1) := by decide +kernel
theorem dX8_init_42 : decode cX8_init 42 = .ok (.iconst 1, 1) := by decide +kernel
theorem dX8_init_43 : decode cX8_init 43 = .ok (.new 7, 3) := by decide +kernel
theorem dX8_init_46 : decode cX8_init 46 = .ok (.dup, 1) := by decide +kernel
theorem dX8_init_47 : decode cX8_init 47 = .ok (.invokespecial 9, 3) := by decide +kernel
theorem dX8_init_50 : decode cX8_init 50 = .ok (.aastore, 1) := by decide +kernel
theorem dX8_init_51 : decode cX8_init 51 = .ok (.putfield 19, 3) := by decide +kernel
theorem dX8_init_54 : decode cX8_init 54 = .ok (.aload_n 0, 1) := by decide +kernel
theorem dX8_init_55 : decode cX8_init 55 = .ok (.iconst 2, 1) := by decide +kernel
theorem dX8_init_56 : decode cX8_init 56 = .ok (.newarray .boolean, 2) := by decide +kernel
theorem dX8_init_58 : decode cX8_init 58 = .ok (.putfield 23, 3) := by decide +kernel
theorem dX8_init_61 : decode cX8_init 61 = .ok (.aload_n 0, 1) := by decide +kernel
theorem dX8_init_62 : decode cX8_init 62 = .ok (.new 27, 3) := by decide +kernel
theorem dX8_init_65 : decode cX8_init 65 = .ok (.dup, 1) := by decide +kernel
theorem dX8_init_66 : decode cX8_init 66 = .ok (.invokespecial 29, 3) := by decide +kernel
theorem dX8_init_69 : decode cX8_init 69 = .ok (.putfield 30, 3) := by decide +kernel
theorem dX8_init_72 : decode cX8_init 72 = .ok (.aload_n 0, 1) := by decide +kernel
theorem dX8_init_73 : decode cX8_init 73 = .ok (.new 34, 3) := by decide +kernel
theorem dX8_init_76 : decode cX8_init 76 = .ok (.dup, 1) := by decide +kernel
theorem dX8_init_77 : decode cX8_init 77 = .ok (.invokespecial 36, 3) := by decide +kernel
theorem dX8_init_80 : decode cX8_init 80 = .ok (.putfield 37, 3) := by decide +kernel
theorem dX8_init_83 : decode cX8_init 83 = .ok (.aload_n 0, 1) := by decide +kernel
theorem dX8_init_84 : decode cX8_init 84 = .ok (.iconst 3, 1) := by decide +kernel
theorem dX8_init_85 : decode cX8_init 85 = .ok (.newarray .int, 2) := by decide +kernel
theorem dX8_init_87 : decode cX8_init 87 = .ok (.putfield 41, 3) := by decide +kernel
theorem dX8_init_90 : decode cX8_init 90 = .ok (.aload_n 0, 1) := by decide +kernel
theorem dX8_init_91 : decode cX8_init 91 = .ok (.lconst 0, 1) := by decide +kernel
theorem dX8_init_92 : decode cX8_init 92 = .ok (.putfield 45, 3) := by decide +kernel
theorem dX8_init_95 : decode cX8_init 95 = .ok (.aload_n 0, 1) := by decide +kernel
theorem dX8_init_96 : decode cX8_init 96 = .ok (.lconst 1, 1) := by decide +kernel
theorem dX8_init_97 : decode cX8_init 97 = .ok (.putfield 49, 3) := by decide +kernel
theorem dX8_init_100 : decode cX8_init 100 = .ok (.return_, 1) := by decide +kernel
set_option maxRecDepth 20000 in
theorem ggX8_road_X8_isDriver : GoodIn wsX8_road wsX8_isDriver := goodIn_r _ [7, 8, 9, 6, 10] (by decide +kernel) (by decide +kernel)
set_option maxRecDepth 20000 in
theorem gX8_road_X8_isDriver : GoodIn wsX8_road (va_wsS RX8 52 yX8_isDriver wsX8_isDriver) := goodIn_app (goodIn_of _ (by decide +kernel)) ggX8_road_X8_isDriver
set_option maxRecDepth 20000 in
theorem ggX8_road_X8_refuse : GoodIn wsX8_road wsX8_refuse := goodIn_r _ [14, 15, 34, 35, 36, 37, 38, 39, 40, 41, 42] (by decide +kernel) (by decide +kernel)
set_option maxRecDepth 20000 in
theorem gX8_road_X8_refuse : GoodIn wsX8_road (wsV RX8 56 RX8 yX8_refuse wsX8_refuse) := goodIn_app (goodIn_of _ (by decide +kernel)) ggX8_road_X8_refuse
set_option maxRecDepth 20000 in
theorem ggX8_road_X6_reset : GoodIn wsX8_road wsX6_reset := goodIn_r _ [20, 21, 22, 23, 24, 25, 26, 27, 28, 29, 30, 31, 32, 33, 43, 44, 45, 46, 47, 48, 49, 50, 51, 52, 53, 54, 55, 56, 57, 58, 59, 60, 61, 62, 63] (by decide +kernel) (by decide +kernel)
set_option maxRecDepth 20000 in
theorem gX8_road_X6_reset : GoodIn wsX8_road (wsV RX8 70 RX6 yX6_reset wsX6_reset) := goodIn_app (goodIn_of _ (by decide +kernel)) ggX8_road_X6_reset
theorem dX8_road_0 : decode cX8_road 0 = .ok (.iload_n 1, 1) := by decide +kernel
theorem dX8_road_1 : decode cX8_road 1 = .ok (.iload_n 2, 1) := by decide +kernel
theorem dX8_road_2 : decode cX8_road 2 = .ok (.invokestatic 52, 3) := by decide +kernel
theorem dX8_road_5 : decode cX8_road 5 = .ok (.ifCond .ne 10, 3) := by decide +kernel
theorem dX8_road_8 : decode cX8_road 8 = .ok (.aload_n 0, 1) := by decide +kernel
theorem dX8_road_9 : decode cX8_road 9 = .ok (.bipush (-2), 2) := by decide +kernel
theorem dX8_road_11 : decode cX8_road 11 = .ok (.invokevirtual 56, 3) := by decide +kernel
theorem dX8_road_14 : decode cX8_road 14 = .ok (.ireturn, 1) := by decide +kernel
theorem dX8_road_15 : decode cX8_road 15 = .ok (.aload_n 0, 1) := by decide +kernel
theorem dX8_road_16 : decode cX8_road 16 = .ok (.getfield 10, 3) := by decide +kernel
theorem dX8_road_19 : decode cX8_road 19 = .ok (.getfield 60, 3) := by decide +kernel
theorem dX8_road_22 : decode cX8_road 22 = .ok (.getfield 64, 3) := by decide +kernel
theorem dX8_road_25 : decode cX8_road 25 = .ok (.istore_n 3, 1) := by decide +kernel
theorem dX8_road_26 : decode cX8_road 26 = .ok (.aload_n 0, 1) := by decide +kernel
theorem dX8_road_27 : decode cX8_road 27 = .ok (.getfield 10, 3) := by decide +kernel
theorem dX8_road_30 : decode cX8_road 30 = .ok (.iload_n 1, 1) := by decide +kernel
theorem dX8_road_31 : decode cX8_road 31 = .ok (.iload_n 2, 1) := by decide +kernel
theorem dX8_road_32 : decode cX8_road 32 = .ok (.invokevirtual 70, 3) := by decide +kernel
theorem dX8_road_35 : decode cX8_road 35 = .ok (.iload_n 3, 1) := by decide +kernel
theorem dX8_road_36 : decode cX8_road 36 = .ok (.ireturn, 1) := by decide +kernel
set_option maxRecDepth 20000 in
theorem ggX8_bend_X8_within : GoodIn wsX8_bend wsX8_within := goodIn_r _ [8] (by decide +kernel) (by decide +kernel)
set_option maxRecDepth 20000 in
theorem gX8_bend_X8_within : GoodIn wsX8_bend (va_wsS RX8 74 yX8_within wsX8_within) := goodIn_app (goodIn_of _ (by decide +kernel)) ggX8_bend_X8_within
set_option maxRecDepth 20000 in
theorem ggX8_bend_X8_refuse : GoodIn wsX8_bend wsX8_refuse := goodIn_r _ [12, 13, 30, 31, 32, 33, 34, 35, 36, 37, 38] (by decide +kernel) (by decide +kernel)
set_option maxRecDepth 20000 in
theorem gX8_bend_X8_refuse : GoodIn wsX8_bend (wsV RX8 56 RX8 yX8_refuse wsX8_refuse) := goodIn_app (goodIn_of _ (by decide +kernel)) ggX8_bend_X8_refuse
set_option maxRecDepth 20000 in
theorem ggX8_bend_X0_isFull : GoodIn wsX8_bend wsX0_isFull := goodIn_r _ [18, 19, 50, 51, 52, 53, 54, 55] (by decide +kernel) (by decide +kernel)
set_option maxRecDepth 20000 in
theorem gX8_bend_X0_isFull : GoodIn wsX8_bend (wsV RX8 78 RX0 yX0_isFull wsX0_isFull) := goodIn_app (goodIn_of _ (by decide +kernel)) ggX8_bend_X0_isFull
set_option maxRecDepth 20000 in
theorem ggX8_bend_X0_add : GoodIn wsX8_bend wsX0_add := goodIn_r _ [23, 24, 19, 25, 26, 27, 28, 29, 15, 16, 17, 18, 50, 51, 52, 53, 54, 55] (by decide +kernel) (by decide +kernel)
set_option maxRecDepth 20000 in
theorem gX8_bend_X0_add : GoodIn wsX8_bend (wsV RX8 89 RX0 yX0_add wsX0_add) := goodIn_app (goodIn_of _ (by decide +kernel)) ggX8_bend_X0_add
theorem dX8_bend_0 : decode cX8_bend 0 = .ok (.iload_n 1, 1) := by decide +kernel
theorem dX8_bend_1 : decode cX8_bend 1 = .ok (.iconst 1, 1) := by decide +kernel
theorem dX8_bend_2 : decode cX8_bend 2 = .ok (.bipush 9, 2) := by decide +kernel
theorem dX8_bend_4 : decode cX8_bend 4 = .ok (.invokestatic 74, 3) := by decide +kernel
theorem dX8_bend_7 : decode cX8_bend 7 = .ok (.ifCond .eq 38, 3) := by decide +kernel
theorem dX8_bend_10 : decode cX8_bend 10 = .ok (.iload_n 2, 1) := by decide +kernel
theorem dX8_bend_11 : decode cX8_bend 11 = .ok (.iconst 1, 1) := by decide +kernel
theorem dX8_bend_12 : decode cX8_bend 12 = .ok (.bipush 6, 2) := by decide +kernel
theorem dX8_bend_14 : decode cX8_bend 14 = .ok (.invokestatic 74, 3) := by decide +kernel
theorem dX8_bend_17 : decode cX8_bend 17 = .ok (.ifCond .eq 28, 3) := by decide +kernel
theorem dX8_bend_20 : decode cX8_bend 20 = .ok (.iload_n 3, 1) := by decide +kernel
theorem dX8_bend_21 : decode cX8_bend 21 = .ok (.iconst 0, 1) := by decide +kernel
theorem dX8_bend_22 : decode cX8_bend 22 = .ok (.bipush 6, 2) := by decide +kernel
theorem dX8_bend_24 : decode cX8_bend 24 = .ok (.invokestatic 74, 3) := by decide +kernel
theorem dX8_bend_27 : decode cX8_bend 27 = .ok (.ifCond .eq 18, 3) := by decide +kernel
theorem dX8_bend_30 : decode cX8_bend 30 = .ok (.iload 4, 2) := by decide +kernel
theorem dX8_bend_32 : decode cX8_bend 32 = .ok (.iconst 1, 1) := by decide +kernel
theorem dX8_bend_33 : decode cX8_bend 33 = .ok (.bipush 9, 2) := by decide +kernel
theorem dX8_bend_35 : decode cX8_bend 35 = .ok (.invokestatic 74, 3) := by decide +kernel
theorem dX8_bend_38 : decode cX8_bend 38 = .ok (.ifCond .eq 7, 3) := by decide +kernel
theorem dX8_bend_41 : decode cX8_bend 41 = .ok (.iconst 1, 1) := by decide +kernel
theorem dX8_bend_42 : decode cX8_bend 42 = .ok (.goto 4, 3) := by decide +kernel
theorem dX8_bend_45 : decode cX8_bend 45 = .ok (.iconst 0, 1) := by decide +kernel
theorem dX8_bend_46 : decode cX8_bend 46 = .ok (.istore 5, 2) := by decide +kernel
theorem dX8_bend_48 : decode cX8_bend 48 = .ok (.iload 5, 2) := by decide +kernel
theorem dX8_bend_50 : decode cX8_bend 50 = .ok (.ifCond .ne 10, 3) := by decide +kernel
theorem dX8_bend_53 : decode cX8_bend 53 = .ok (.aload_n 0, 1) := by decide +kernel
theorem dX8_bend_54 : decode cX8_bend 54 = .ok (.bipush (-2), 2) := by decide +kernel
theorem dX8_bend_56 : decode cX8_bend 56 = .ok (.invokevirtual 56, 3) := by decide +kernel
theorem dX8_bend_59 : decode cX8_bend 59 = .ok (.ireturn, 1) := by decide +kernel
theorem dX8_bend_60 : decode cX8_bend 60 = .ok (.aload_n 0, 1) := by decide +kernel
theorem dX8_bend_61 : decode cX8_bend 61 = .ok (.getfield 10, 3) := by decide +kernel
theorem dX8_bend_64 : decode cX8_bend 64 = .ok (.getfield 60, 3) := by decide +kernel
theorem dX8_bend_67 : decode cX8_bend 67 = .ok (.invokevirtual 78, 3) := by decide +kernel
theorem dX8_bend_70 : decode cX8_bend 70 = .ok (.ifCond .eq 10, 3) := by decide +kernel
theorem dX8_bend_73 : decode cX8_bend 73 = .ok (.aload_n 0, 1) := by decide +kernel
theorem dX8_bend_74 : decode cX8_bend 74 = .ok (.bipush (-4), 2) := by decide +kernel
theorem dX8_bend_76 : decode cX8_bend 76 = .ok (.invokevirtual 56, 3) := by decide +kernel
theorem dX8_bend_79 : decode cX8_bend 79 = .ok (.ireturn, 1) := by decide +kernel
theorem dX8_bend_80 : decode cX8_bend 80 = .ok (.aload_n 0, 1) := by decide +kernel
theorem dX8_bend_81 : decode cX8_bend 81 = .ok (.getfield 10, 3) := by decide +kernel
theorem dX8_bend_84 : decode cX8_bend 84 = .ok (.getfield 82, 3) := by decide +kernel
theorem dX8_bend_87 : decode cX8_bend 87 = .ok (.iconst 0, 1) := by decide +kernel
theorem dX8_bend_88 : decode cX8_bend 88 = .ok (.putfield 86, 3) := by decide +kernel
theorem dX8_bend_91 : decode cX8_bend 91 = .ok (.aload_n 0, 1) := by decide +kernel
theorem dX8_bend_92 : decode cX8_bend 92 = .ok (.getfield 10, 3) := by decide +kernel
theorem dX8_bend_95 : decode cX8_bend 95 = .ok (.getfield 60, 3) := by decide +kernel
theorem dX8_bend_98 : decode cX8_bend 98 = .ok (.iload_n 1, 1) := by decide +kernel
theorem dX8_bend_99 : decode cX8_bend 99 = .ok (.iload_n 2, 1) := by decide +kernel
theorem dX8_bend_100 : decode cX8_bend 100 = .ok (.iload_n 3, 1) := by decide +kernel
theorem dX8_bend_101 : decode cX8_bend 101 = .ok (.iload 4, 2) := by decide +kernel
theorem dX8_bend_103 : decode cX8_bend 103 = .ok (.invokevirtual 89, 3) := by decide +kernel
theorem dX8_bend_106 : decode cX8_bend 106 = .ok (.ireturn, 1) := by decide +kernel
set_option maxRecDepth 20000 in
theorem ggX8_mud_X0_has : GoodIn wsX8_mud wsX0_has := goodIn_r _ [10, 11, 39, 40, 41, 42, 43, 44] (by decide +kernel) (by decide +kernel)
set_option maxRecDepth 20000 in
theorem gX8_mud_X0_has : GoodIn wsX8_mud (wsV RX8 93 RX0 yX0_has wsX0_has) := goodIn_app (goodIn_of _ (by decide +kernel)) ggX8_mud_X0_has
set_option maxRecDepth 20000 in
theorem ggX8_mud_X8_within : GoodIn wsX8_mud wsX8_within := goodIn_r _ [15] (by decide +kernel) (by decide +kernel)
set_option maxRecDepth 20000 in
theorem gX8_mud_X8_within : GoodIn wsX8_mud (va_wsS RX8 74 yX8_within wsX8_within) := goodIn_app (goodIn_of _ (by decide +kernel)) ggX8_mud_X8_within
set_option maxRecDepth 20000 in
theorem ggX8_mud_X8_refuse : GoodIn wsX8_mud wsX8_refuse := goodIn_r _ [19, 20, 21, 22, 23, 24, 25, 26, 27, 28, 29] (by decide +kernel) (by decide +kernel)
set_option maxRecDepth 20000 in
theorem gX8_mud_X8_refuse : GoodIn wsX8_mud (wsV RX8 56 RX8 yX8_refuse wsX8_refuse) := goodIn_app (goodIn_of _ (by decide +kernel)) ggX8_mud_X8_refuse
theorem dX8_mud_0 : decode cX8_mud 0 = .ok (.aload_n 0, 1) := by decide +kernel
theorem dX8_mud_1 : decode cX8_mud 1 = .ok (.getfield 10, 3) := by decide +kernel
theorem dX8_mud_4 : decode cX8_mud 4 = .ok (.getfield 60, 3) := by decide +kernel
theorem dX8_mud_7 : decode cX8_mud 7 = .ok (.iload_n 1, 1) := by decide +kernel
theorem dX8_mud_8 : decode cX8_mud 8 = .ok (.invokevirtual 93, 3) := by decide +kernel
theorem dX8_mud_11 : decode cX8_mud 11 = .ok (.ifCond .eq 12, 3) := by decide +kernel
theorem dX8_mud_14 : decode cX8_mud 14 = .ok (.iload_n 2, 1) := by decide +kernel
theorem dX8_mud_15 : decode cX8_mud 15 = .ok (.iconst 0, 1) := by decide +kernel
theorem dX8_mud_16 : decode cX8_mud 16 = .ok (.iconst 1, 1) := by decide +kernel
theorem dX8_mud_17 : decode cX8_mud 17 = .ok (.invokestatic 74, 3) := by decide +kernel
theorem dX8_mud_20 : decode cX8_mud 20 = .ok (.ifCond .ne 10, 3) := by decide +kernel
theorem dX8_mud_23 : decode cX8_mud 23 = .ok (.aload_n 0, 1) := by decide +kernel
theorem dX8_mud_24 : decode cX8_mud 24 = .ok (.bipush (-2), 2) := by decide +kernel
theorem dX8_mud_26 : decode cX8_mud 26 = .ok (.invokevirtual 56, 3) := by decide +kernel
theorem dX8_mud_29 : decode cX8_mud 29 = .ok (.ireturn, 1) := by decide +kernel
theorem dX8_mud_30 : decode cX8_mud 30 = .ok (.aload_n 0, 1) := by decide +kernel
theorem dX8_mud_31 : decode cX8_mud 31 = .ok (.getfield 10, 3) := by decide +kernel
theorem dX8_mud_34 : decode cX8_mud 34 = .ok (.getfield 60, 3) := by decide +kernel
theorem dX8_mud_37 : decode cX8_mud 37 = .ok (.getfield 97, 3) := by decide +kernel
theorem dX8_mud_40 : decode cX8_mud 40 = .ok (.iload_n 1, 1) := by decide +kernel
theorem dX8_mud_41 : decode cX8_mud 41 = .ok (.iaload, 1) := by decide +kernel
theorem dX8_mud_42 : decode cX8_mud 42 = .ok (.istore_n 3, 1) := by decide +kernel
theorem dX8_mud_43 : decode cX8_mud 43 = .ok (.aload_n 0, 1) := by decide +kernel
theorem dX8_mud_44 : decode cX8_mud 44 = .ok (.getfield 10, 3) := by decide +kernel
theorem dX8_mud_47 : decode cX8_mud 47 = .ok (.getfield 60, 3) := by decide +kernel
theorem dX8_mud_50 : decode cX8_mud 50 = .ok (.getfield 97, 3) := by decide +kernel
theorem dX8_mud_53 : decode cX8_mud 53 = .ok (.iload_n 1, 1) := by decide +kernel
theorem dX8_mud_54 : decode cX8_mud 54 = .ok (.iload_n 2, 1) := by decide +kernel
theorem dX8_mud_55 : decode cX8_mud 55 = .ok (.iastore, 1) := by decide +kernel
theorem dX8_mud_56 : decode cX8_mud 56 = .ok (.aload_n 0, 1) := by decide +kernel
theorem dX8_mud_57 : decode cX8_mud 57 = .ok (.getfield 10, 3) := by decide +kernel
theorem dX8_mud_60 : decode cX8_mud 60 = .ok (.getfield 82, 3) := by decide +kernel
theorem dX8_mud_63 : decode cX8_mud 63 = .ok (.iconst 0, 1) := by decide +kernel
theorem dX8_mud_64 : decode cX8_mud 64 = .ok (.putfield 86, 3) := by decide +kernel
theorem dX8_mud_67 : decode cX8_mud 67 = .ok (.iload_n 3, 1) := by decide +kernel
theorem dX8_mud_68 : decode cX8_mud 68 = .ok (.ireturn, 1) := by decide +kernel
set_option maxRecDepth 20000 in
theorem ggX8_driver_X8_isDriver : GoodIn wsX8_driver wsX8_isDriver := goodIn_r _ [9, 10, 11, 8, 12] (by decide +kernel) (by decide +kernel)
set_option maxRecDepth 20000 in
theorem gX8_driver_X8_isDriver : GoodIn wsX8_driver (va_wsS RX8 52 yX8_isDriver wsX8_isDriver) := goodIn_app (goodIn_of _ (by decide +kernel)) ggX8_driver_X8_isDriver
set_option maxRecDepth 20000 in
theorem ggX8_driver_X8_refuse : GoodIn wsX8_driver wsX8_refuse := goodIn_r _ [16, 17, 18, 19, 20, 21, 22, 23, 24, 25, 26] (by decide +kernel) (by decide +kernel)
set_option maxRecDepth 20000 in
theorem gX8_driver_X8_refuse : GoodIn wsX8_driver (wsV RX8 56 RX8 yX8_refuse wsX8_refuse) := goodIn_app (goodIn_of _ (by decide +kernel)) ggX8_driver_X8_refuse
theorem dX8_driver_0 : decode cX8_driver 0 = .ok (.iload_n 1, 1) := by decide +kernel
theorem dX8_driver_1 : decode cX8_driver 1 = .ok (.iload_n 2, 1) := by decide +kernel
theorem dX8_driver_2 : decode cX8_driver 2 = .ok (.invokestatic 52, 3) := by decide +kernel
theorem dX8_driver_5 : decode cX8_driver 5 = .ok (.ifCond .ne 10, 3) := by decide +kernel
theorem dX8_driver_8 : decode cX8_driver 8 = .ok (.aload_n 0, 1) := by decide +kernel
theorem dX8_driver_9 : decode cX8_driver 9 = .ok (.bipush (-2), 2) := by decide +kernel
theorem dX8_driver_11 : decode cX8_driver 11 = .ok (.invokevirtual 56, 3) := by decide +kernel
theorem dX8_driver_14 : decode cX8_driver 14 = .ok (.ireturn, 1) := by decide +kernel
theorem dX8_driver_15 : decode cX8_driver 15 = .ok (.aload_n 0, 1) := by decide +kernel
theorem dX8_driver_16 : decode cX8_driver 16 = .ok (.getfield 10, 3) := by decide +kernel
theorem dX8_driver_19 : decode cX8_driver 19 = .ok (.iload_n 1, 1) := by decide +kernel
theorem dX8_driver_20 : decode cX8_driver 20 = .ok (.putfield 100, 3) := by decide +kernel
theorem dX8_driver_23 : decode cX8_driver 23 = .ok (.aload_n 0, 1) := by decide +kernel
theorem dX8_driver_24 : decode cX8_driver 24 = .ok (.getfield 10, 3) := by decide +kernel
theorem dX8_driver_27 : decode cX8_driver 27 = .ok (.iload_n 2, 1) := by decide +kernel
theorem dX8_driver_28 : decode cX8_driver 28 = .ok (.putfield 103, 3) := by decide +kernel
theorem dX8_driver_31 : decode cX8_driver 31 = .ok (.aload_n 0, 1) := by decide +kernel
theorem dX8_driver_32 : decode cX8_driver 32 = .ok (.getfield 10, 3) := by decide +kernel
theorem dX8_driver_35 : decode cX8_driver 35 = .ok (.getfield 82, 3) := by decide +kernel
theorem dX8_driver_38 : decode cX8_driver 38 = .ok (.iconst 0, 1) := by decide +kernel
theorem dX8_driver_39 : decode cX8_driver 39 = .ok (.putfield 86, 3) := by decide +kernel
theorem dX8_driver_42 : decode cX8_driver 42 = .ok (.iconst 1, 1) := by decide +kernel
theorem dX8_driver_43 : decode cX8_driver 43 = .ok (.ireturn, 1) := by decide +kernel
set_option maxRecDepth 20000 in
theorem ggX8_type_X8_within : GoodIn wsX8_type wsX8_within := goodIn_r _ [5] (by decide +kernel) (by decide +kernel)
set_option maxRecDepth 20000 in
theorem gX8_type_X8_within : GoodIn wsX8_type (va_wsS RX8 74 yX8_within wsX8_within) := goodIn_app (goodIn_of _ (by decide +kernel)) ggX8_type_X8_within
set_option maxRecDepth 20000 in
theorem ggX8_type_X8_refuse : GoodIn wsX8_type wsX8_refuse := goodIn_r _ [9, 10, 23, 24, 25, 26, 27, 28, 29, 30, 31] (by decide +kernel) (by decide +kernel)
set_option maxRecDepth 20000 in
theorem gX8_type_X8_refuse : GoodIn wsX8_type (wsV RX8 56 RX8 yX8_refuse wsX8_refuse) := goodIn_app (goodIn_of _ (by decide +kernel)) ggX8_type_X8_refuse
set_option maxRecDepth 20000 in
theorem ggX8_type_X7_isFull : GoodIn wsX8_type wsX7_isFull := goodIn_r _ [15, 16, 32, 33, 34, 35, 36] (by decide +kernel) (by decide +kernel)
set_option maxRecDepth 20000 in
theorem gX8_type_X7_isFull : GoodIn wsX8_type (wsV RX8 106 RX7 yX7_isFull wsX7_isFull) := goodIn_app (goodIn_of _ (by decide +kernel)) ggX8_type_X7_isFull
set_option maxRecDepth 20000 in
theorem ggX8_type_X7_add : GoodIn wsX8_type wsX7_add := goodIn_r _ [20, 21, 16, 22, 12, 13, 14, 15, 32, 33, 34, 35, 36] (by decide +kernel) (by decide +kernel)
set_option maxRecDepth 20000 in
theorem gX8_type_X7_add : GoodIn wsX8_type (wsV RX8 107 RX7 yX7_add wsX7_add) := goodIn_app (goodIn_of _ (by decide +kernel)) ggX8_type_X7_add
theorem dX8_type_0 : decode cX8_type 0 = .ok (.iload_n 1, 1) := by decide +kernel
theorem dX8_type_1 : decode cX8_type 1 = .ok (.iconst 0, 1) := by decide +kernel
theorem dX8_type_2 : decode cX8_type 2 = .ok (.bipush 127, 2) := by decide +kernel
theorem dX8_type_4 : decode cX8_type 4 = .ok (.invokestatic 74, 3) := by decide +kernel
theorem dX8_type_7 : decode cX8_type 7 = .ok (.ifCond .ne 10, 3) := by decide +kernel
theorem dX8_type_10 : decode cX8_type 10 = .ok (.aload_n 0, 1) := by decide +kernel
theorem dX8_type_11 : decode cX8_type 11 = .ok (.bipush (-2), 2) := by decide +kernel
theorem dX8_type_13 : decode cX8_type 13 = .ok (.invokevirtual 56, 3) := by decide +kernel
theorem dX8_type_16 : decode cX8_type 16 = .ok (.ireturn, 1) := by decide +kernel
theorem dX8_type_17 : decode cX8_type 17 = .ok (.aload_n 0, 1) := by decide +kernel
theorem dX8_type_18 : decode cX8_type 18 = .ok (.getfield 37, 3) := by decide +kernel
theorem dX8_type_21 : decode cX8_type 21 = .ok (.invokevirtual 106, 3) := by decide +kernel
theorem dX8_type_24 : decode cX8_type 24 = .ok (.ifCond .eq 10, 3) := by decide +kernel
theorem dX8_type_27 : decode cX8_type 27 = .ok (.aload_n 0, 1) := by decide +kernel
theorem dX8_type_28 : decode cX8_type 28 = .ok (.bipush (-4), 2) := by decide +kernel
theorem dX8_type_30 : decode cX8_type 30 = .ok (.invokevirtual 56, 3) := by decide +kernel
theorem dX8_type_33 : decode cX8_type 33 = .ok (.ireturn, 1) := by decide +kernel
theorem dX8_type_34 : decode cX8_type 34 = .ok (.aload_n 0, 1) := by decide +kernel
theorem dX8_type_35 : decode cX8_type 35 = .ok (.getfield 37, 3) := by decide +kernel
theorem dX8_type_38 : decode cX8_type 38 = .ok (.iload_n 1, 1) := by decide +kernel
theorem dX8_type_39 : decode cX8_type 39 = .ok (.invokevirtual 107, 3) := by decide +kernel
theorem dX8_type_42 : decode cX8_type 42 = .ok (.ireturn, 1) := by decide +kernel
theorem dX8_clear_0 : decode cX8_clear 0 = .ok (.aload_n 0, 1) := by decide +kernel
theorem dX8_clear_1 : decode cX8_clear 1 = .ok (.getfield 37, 3) := by decide +kernel
theorem dX8_clear_4 : decode cX8_clear 4 = .ok (.getfield 109, 3) := by decide +kernel
theorem dX8_clear_7 : decode cX8_clear 7 = .ok (.istore_n 1, 1) := by decide +kernel
theorem dX8_clear_8 : decode cX8_clear 8 = .ok (.aload_n 0, 1) := by decide +kernel
theorem dX8_clear_9 : decode cX8_clear 9 = .ok (.getfield 37, 3) := by decide +kernel
theorem dX8_clear_12 : decode cX8_clear 12 = .ok (.iconst 0, 1) := by decide +kernel
theorem dX8_clear_13 : decode cX8_clear 13 = .ok (.putfield 109, 3) := by decide +kernel
theorem dX8_clear_16 : decode cX8_clear 16 = .ok (.iload_n 1, 1) := by decide +kernel
theorem dX8_clear_17 : decode cX8_clear 17 = .ok (.ireturn, 1) := by decide +kernel
set_option maxRecDepth 20000 in
theorem ggX8_read_X7_tell : GoodIn wsX8_read wsX7_tell := goodIn_r _ [8, 9, 10, 11, 12, 13, 14, 7, 15, 16, 17, 18, 19, 20, 21, 22, 23, 24, 25, 26, 27, 28, 29, 30, 31, 32, 33, 34, 35, 36, 37, 38, 39, 40, 41, 42, 43, 44, 45, 46, 47, 48, 49, 50, 51, 52, 53, 54, 55, 56, 57, 58, 59, 60, 61, 62, 63, 64, 65, 66, 67, 68, 69, 70, 71, 72, 73, 74, 75, 76, 77, 78, 79, 80, 81, 82, 83, 84, 85, 86, 87, 88, 89, 90, 91, 92, 93, 94, 95, 96, 97, 98, 99, 100, 101, 102, 103, 104, 105, 106, 107, 108, 109, 110, 111, 112, 113, 114, 115, 116, 117, 118, 119, 120, 121, 122, 123, 124, 125, 126, 127, 128, 129, 130, 131, 132, 133, 134, 135, 136, 137, 138, 139, 140, 141, 142, 143, 144, 145, 146, 147, 148, 149, 150, 151, 152, 153, 154, 155, 156, 157, 158, 159, 160, 161, 162, 163, 164, 165, 166, 167, 168, 169, 170, 171, 172, 218, 219, 220, 221, 222, 223, 224, 225, 226, 227, 228, 229, 230, 231, 232, 233, 234, 235, 236, 237, 238, 239, 240, 241, 242, 243] (by decide +kernel) (by decide +kernel)
set_option maxRecDepth 20000 in
theorem gX8_read_X7_tell : GoodIn wsX8_read (wsV RX8 110 RX7 yX7_tell wsX7_tell) := goodIn_app (goodIn_of _ (by decide +kernel)) ggX8_read_X7_tell
set_option maxRecDepth 20000 in
theorem ggX8_read_X6_take : GoodIn wsX8_read wsX6_take := goodIn_r _ [176, 91, 93, 95, 97, 99, 100, 101, 102, 103, 177, 178, 179, 120, 180, 127, 181, 182, 183, 184, 128, 129, 130, 131, 122, 185, 186, 187, 188, 189, 190, 191, 192, 193, 194, 195, 196, 197, 198, 199, 200, 201, 202, 203, 204, 205, 206, 207, 208, 223, 224, 225, 226, 227, 228, 229, 230, 231, 232, 233, 234, 235, 236, 237, 238, 239, 240, 241, 242, 243] (by decide +kernel) (by decide +kernel)
set_option maxRecDepth 20000 in
theorem gX8_read_X6_take : GoodIn wsX8_read (wsV RX8 114 RX6 yX6_take wsX6_take) := goodIn_app (goodIn_of _ (by decide +kernel)) ggX8_read_X6_take
theorem dX8_read_0 : decode cX8_read 0 = .ok (.aload_n 0, 1) := by decide +kernel
theorem dX8_read_1 : decode cX8_read 1 = .ok (.getfield 37, 3) := by decide +kernel
theorem dX8_read_4 : decode cX8_read 4 = .ok (.aload_n 0, 1) := by decide +kernel
theorem dX8_read_5 : decode cX8_read 5 = .ok (.getfield 16, 3) := by decide +kernel
theorem dX8_read_8 : decode cX8_read 8 = .ok (.invokevirtual 110, 3) := by decide +kernel
theorem dX8_read_11 : decode cX8_read 11 = .ok (.istore_n 1, 1) := by decide +kernel
theorem dX8_read_12 : decode cX8_read 12 = .ok (.iload_n 1, 1) := by decide +kernel
theorem dX8_read_13 : decode cX8_read 13 = .ok (.ifCond .le 14, 3) := by decide +kernel
theorem dX8_read_16 : decode cX8_read 16 = .ok (.aload_n 0, 1) := by decide +kernel
theorem dX8_read_17 : decode cX8_read 17 = .ok (.getfield 10, 3) := by decide +kernel
theorem dX8_read_20 : decode cX8_read 20 = .ok (.aload_n 0, 1) := by decide +kernel
theorem dX8_read_21 : decode cX8_read 21 = .ok (.getfield 16, 3) := by decide +kernel
theorem dX8_read_24 : decode cX8_read 24 = .ok (.invokevirtual 114, 3) := by decide +kernel
theorem dX8_read_27 : decode cX8_read 27 = .ok (.iload_n 1, 1) := by decide +kernel
theorem dX8_read_28 : decode cX8_read 28 = .ok (.ireturn, 1) := by decide +kernel
set_option maxRecDepth 20000 in
theorem ggX8_drive_X8_within : GoodIn wsX8_drive wsX8_within := goodIn_r _ [6] (by decide +kernel) (by decide +kernel)
set_option maxRecDepth 20000 in
theorem gX8_drive_X8_within : GoodIn wsX8_drive (va_wsS RX8 74 yX8_within wsX8_within) := goodIn_app (goodIn_of _ (by decide +kernel)) ggX8_drive_X8_within
set_option maxRecDepth 20000 in
theorem ggX8_drive_X8_refuse : GoodIn wsX8_drive wsX8_refuse := goodIn_r _ [10, 11, 65, 66, 67, 68, 69, 70, 71, 72, 73] (by decide +kernel) (by decide +kernel)
set_option maxRecDepth 20000 in
theorem gX8_drive_X8_refuse : GoodIn wsX8_drive (wsV RX8 56 RX8 yX8_refuse wsX8_refuse) := goodIn_app (goodIn_of _ (by decide +kernel)) ggX8_drive_X8_refuse
set_option maxRecDepth 20000 in
theorem ggX8_drive_X6_bendsLeft : GoodIn wsX8_drive wsX6_bendsLeft := goodIn_r _ [16, 17, 18, 19, 74, 75, 76, 77, 78, 79, 80, 81, 82, 83, 84, 85, 86, 87, 88] (by decide +kernel) (by decide +kernel)
set_option maxRecDepth 20000 in
theorem gX8_drive_X6_bendsLeft : GoodIn wsX8_drive (wsV RX8 118 RX6 yX6_bendsLeft wsX6_bendsLeft) := goodIn_app (goodIn_of _ (by decide +kernel)) ggX8_drive_X6_bendsLeft
set_option maxRecDepth 20000 in
theorem ggX8_drive_X4_keep : GoodIn wsX8_drive wsX4_keep := goodIn_r _ [24, 25, 26, 27, 28, 29, 30, 31, 32, 33, 34, 35, 89, 90, 74, 75, 76, 77, 78, 79, 80, 81, 82, 83, 84, 85, 86, 87, 88] (by decide +kernel) (by decide +kernel)
set_option maxRecDepth 20000 in
theorem gX8_drive_X4_keep : GoodIn wsX8_drive (wsV RX8 122 RX4 yX4_keep wsX4_keep) := goodIn_app (goodIn_of _ (by decide +kernel)) ggX8_drive_X4_keep
set_option maxRecDepth 20000 in
theorem ggX8_drive_X6_goOn : GoodIn wsX8_drive wsX6_goOn := goodIn_r _ [39, 19, 17, 18, 40, 41, 42, 43, 44, 45, 46, 15, 47, 48, 49, 50, 51, 52, 53, 54, 55, 56, 57, 58, 59, 60, 61, 62, 63, 64, 74, 75, 76, 77, 78, 79, 80, 81, 82, 83, 84, 85, 86, 87, 88] (by decide +kernel) (by decide +kernel)
set_option maxRecDepth 20000 in
theorem gX8_drive_X6_goOn : GoodIn wsX8_drive (wsV RX8 125 RX6 yX6_goOn wsX6_goOn) := goodIn_app (goodIn_of _ (by decide +kernel)) ggX8_drive_X6_goOn
theorem dX8_drive_0 : decode cX8_drive 0 = .ok (.iload_n 1, 1) := by decide +kernel
theorem dX8_drive_1 : decode cX8_drive 1 = .ok (.iconst 1, 1) := by decide +kernel
theorem dX8_drive_2 : decode cX8_drive 2 = .ok (.bipush 8, 2) := by decide +kernel
theorem dX8_drive_4 : decode cX8_drive 4 = .ok (.invokestatic 74, 3) := by decide +kernel
theorem dX8_drive_7 : decode cX8_drive 7 = .ok (.ifCond .ne 10, 3) := by decide +kernel
theorem dX8_drive_10 : decode cX8_drive 10 = .ok (.aload_n 0, 1) := by decide +kernel
theorem dX8_drive_11 : decode cX8_drive 11 = .ok (.bipush (-2), 2) := by decide +kernel
theorem dX8_drive_13 : decode cX8_drive 13 = .ok (.invokevirtual 56, 3) := by decide +kernel
theorem dX8_drive_16 : decode cX8_drive 16 = .ok (.ireturn, 1) := by decide +kernel
theorem dX8_drive_17 : decode cX8_drive 17 = .ok (.iload_n 1, 1) := by decide +kernel
theorem dX8_drive_18 : decode cX8_drive 18 = .ok (.aload_n 0, 1) := by decide +kernel
theorem dX8_drive_19 : decode cX8_drive 19 = .ok (.getfield 10, 3) := by decide +kernel
theorem dX8_drive_22 : decode cX8_drive 22 = .ok (.invokevirtual 118, 3) := by decide +kernel
theorem dX8_drive_25 : decode cX8_drive 25 = .ok (.if_icmp .le 10, 3) := by decide +kernel
theorem dX8_drive_28 : decode cX8_drive 28 = .ok (.aload_n 0, 1) := by decide +kernel
theorem dX8_drive_29 : decode cX8_drive 29 = .ok (.bipush (-3), 2) := by decide +kernel
theorem dX8_drive_31 : decode cX8_drive 31 = .ok (.invokevirtual 56, 3) := by decide +kernel
theorem dX8_drive_34 : decode cX8_drive 34 = .ok (.ireturn, 1) := by decide +kernel
theorem dX8_drive_35 : decode cX8_drive 35 = .ok (.aload_n 0, 1) := by decide +kernel
theorem dX8_drive_36 : decode cX8_drive 36 = .ok (.getfield 10, 3) := by decide +kernel
theorem dX8_drive_39 : decode cX8_drive 39 = .ok (.getfield 82, 3) := by decide +kernel
theorem dX8_drive_42 : decode cX8_drive 42 = .ok (.aload_n 0, 1) := by decide +kernel
theorem dX8_drive_43 : decode cX8_drive 43 = .ok (.getfield 10, 3) := by decide +kernel
theorem dX8_drive_46 : decode cX8_drive 46 = .ok (.invokevirtual 122, 3) := by decide +kernel
theorem dX8_drive_49 : decode cX8_drive 49 = .ok (.aload_n 0, 1) := by decide +kernel
theorem dX8_drive_50 : decode cX8_drive 50 = .ok (.getfield 10, 3) := by decide +kernel
theorem dX8_drive_53 : decode cX8_drive 53 = .ok (.iload_n 1, 1) := by decide +kernel
theorem dX8_drive_54 : decode cX8_drive 54 = .ok (.invokevirtual 125, 3) := by decide +kernel
theorem dX8_drive_57 : decode cX8_drive 57 = .ok (.ireturn, 1) := by decide +kernel
set_option maxRecDepth 20000 in
theorem ggX8_write_X0_has : GoodIn wsX8_write wsX0_has := goodIn_r _ [9, 10, 54, 55, 56, 57, 58, 59] (by decide +kernel) (by decide +kernel)
set_option maxRecDepth 20000 in
theorem gX8_write_X0_has : GoodIn wsX8_write (wsV RX8 93 RX0 yX0_has wsX0_has) := goodIn_app (goodIn_of _ (by decide +kernel)) ggX8_write_X0_has
set_option maxRecDepth 20000 in
theorem ggX8_write_X8_within : GoodIn wsX8_write wsX8_within := goodIn_r _ [14] (by decide +kernel) (by decide +kernel)
set_option maxRecDepth 20000 in
theorem gX8_write_X8_within : GoodIn wsX8_write (va_wsS RX8 74 yX8_within wsX8_within) := goodIn_app (goodIn_of _ (by decide +kernel)) ggX8_write_X8_within
set_option maxRecDepth 20000 in
theorem ggX8_write_X8_refuse : GoodIn wsX8_write wsX8_refuse := goodIn_r _ [18, 19, 36, 37, 38, 39, 40, 41, 42, 43, 44] (by decide +kernel) (by decide +kernel)
set_option maxRecDepth 20000 in
theorem gX8_write_X8_refuse : GoodIn wsX8_write (wsV RX8 56 RX8 yX8_refuse wsX8_refuse) := goodIn_app (goodIn_of _ (by decide +kernel)) ggX8_write_X8_refuse
set_option maxRecDepth 20000 in
theorem ggX8_write_X4_keep : GoodIn wsX8_write wsX4_keep := goodIn_r _ [24, 25, 26, 27, 28, 29, 30, 31, 32, 33, 34, 35, 60, 61, 45, 46, 47, 48, 49, 50, 51, 52, 53, 54, 55, 56, 57, 58, 59] (by decide +kernel) (by decide +kernel)
set_option maxRecDepth 20000 in
theorem gX8_write_X4_keep : GoodIn wsX8_write (wsV RX8 122 RX4 yX4_keep wsX4_keep) := goodIn_app (goodIn_of _ (by decide +kernel)) ggX8_write_X4_keep
theorem dX8_write_0 : decode cX8_write 0 = .ok (.aload_n 0, 1) := by decide +kernel
theorem dX8_write_1 : decode cX8_write 1 = .ok (.getfield 10, 3) := by decide +kernel
theorem dX8_write_4 : decode cX8_write 4 = .ok (.getfield 60, 3) := by decide +kernel
theorem dX8_write_7 : decode cX8_write 7 = .ok (.iload_n 1, 1) := by decide +kernel
theorem dX8_write_8 : decode cX8_write 8 = .ok (.invokevirtual 93, 3) := by decide +kernel
theorem dX8_write_11 : decode cX8_write 11 = .ok (.ifCond .eq 13, 3) := by decide +kernel
theorem dX8_write_14 : decode cX8_write 14 = .ok (.iload_n 2, 1) := by decide +kernel
theorem dX8_write_15 : decode cX8_write 15 = .ok (.iconst 0, 1) := by decide +kernel
theorem dX8_write_16 : decode cX8_write 16 = .ok (.bipush 6, 2) := by decide +kernel
theorem dX8_write_18 : decode cX8_write 18 = .ok (.invokestatic 74, 3) := by decide +kernel
theorem dX8_write_21 : decode cX8_write 21 = .ok (.ifCond .ne 10, 3) := by decide +kernel
theorem dX8_write_24 : decode cX8_write 24 = .ok (.aload_n 0, 1) := by decide +kernel
theorem dX8_write_25 : decode cX8_write 25 = .ok (.bipush (-2), 2) := by decide +kernel
theorem dX8_write_27 : decode cX8_write 27 = .ok (.invokevirtual 56, 3) := by decide +kernel
theorem dX8_write_30 : decode cX8_write 30 = .ok (.ireturn, 1) := by decide +kernel
theorem dX8_write_31 : decode cX8_write 31 = .ok (.aload_n 0, 1) := by decide +kernel
theorem dX8_write_32 : decode cX8_write 32 = .ok (.getfield 10, 3) := by decide +kernel
theorem dX8_write_35 : decode cX8_write 35 = .ok (.getfield 82, 3) := by decide +kernel
theorem dX8_write_38 : decode cX8_write 38 = .ok (.aload_n 0, 1) := by decide +kernel
theorem dX8_write_39 : decode cX8_write 39 = .ok (.getfield 10, 3) := by decide +kernel
theorem dX8_write_42 : decode cX8_write 42 = .ok (.invokevirtual 122, 3) := by decide +kernel
theorem dX8_write_45 : decode cX8_write 45 = .ok (.aload_n 0, 1) := by decide +kernel
theorem dX8_write_46 : decode cX8_write 46 = .ok (.getfield 10, 3) := by decide +kernel
theorem dX8_write_49 : decode cX8_write 49 = .ok (.getfield 60, 3) := by decide +kernel
theorem dX8_write_52 : decode cX8_write 52 = .ok (.getfield 128, 3) := by decide +kernel
theorem dX8_write_55 : decode cX8_write 55 = .ok (.iload_n 1, 1) := by decide +kernel
theorem dX8_write_56 : decode cX8_write 56 = .ok (.iaload, 1) := by decide +kernel
theorem dX8_write_57 : decode cX8_write 57 = .ok (.istore_n 3, 1) := by decide +kernel
theorem dX8_write_58 : decode cX8_write 58 = .ok (.aload_n 0, 1) := by decide +kernel
theorem dX8_write_59 : decode cX8_write 59 = .ok (.getfield 10, 3) := by decide +kernel
theorem dX8_write_62 : decode cX8_write 62 = .ok (.getfield 60, 3) := by decide +kernel
theorem dX8_write_65 : decode cX8_write 65 = .ok (.getfield 128, 3) := by decide +kernel
theorem dX8_write_68 : decode cX8_write 68 = .ok (.iload_n 1, 1) := by decide +kernel
theorem dX8_write_69 : decode cX8_write 69 = .ok (.iload_n 2, 1) := by decide +kernel
theorem dX8_write_70 : decode cX8_write 70 = .ok (.iastore, 1) := by decide +kernel
theorem dX8_write_71 : decode cX8_write 71 = .ok (.iload_n 3, 1) := by decide +kernel
theorem dX8_write_72 : decode cX8_write 72 = .ok (.ireturn, 1) := by decide +kernel
set_option maxRecDepth 20000 in
theorem ggX8_undo_X8_refuse : GoodIn wsX8_undo wsX8_refuse := goodIn_r _ [9, 10, 27, 28, 29, 30, 31, 32, 33, 34, 35] (by decide +kernel) (by decide +kernel)
set_option maxRecDepth 20000 in
theorem gX8_undo_X8_refuse : GoodIn wsX8_undo (wsV RX8 56 RX8 yX8_refuse wsX8_refuse) := goodIn_app (goodIn_of _ (by decide +kernel)) ggX8_undo_X8_refuse
set_option maxRecDepth 20000 in
theorem ggX8_undo_X4_giveBack : GoodIn wsX8_undo wsX4_giveBack := goodIn_r _ [15, 16, 17, 18, 19, 20, 21, 22, 23, 24, 25, 26, 45, 46, 36, 37, 38, 39, 40, 41, 42, 43, 44, 47, 48, 49, 50, 51, 52] (by decide +kernel) (by decide +kernel)
set_option maxRecDepth 20000 in
theorem gX8_undo_X4_giveBack : GoodIn wsX8_undo (wsV RX8 131 RX4 yX4_giveBack wsX4_giveBack) := goodIn_app (goodIn_of _ (by decide +kernel)) ggX8_undo_X4_giveBack
theorem dX8_undo_0 : decode cX8_undo 0 = .ok (.aload_n 0, 1) := by decide +kernel
theorem dX8_undo_1 : decode cX8_undo 1 = .ok (.getfield 10, 3) := by decide +kernel
theorem dX8_undo_4 : decode cX8_undo 4 = .ok (.getfield 82, 3) := by decide +kernel
theorem dX8_undo_7 : decode cX8_undo 7 = .ok (.getfield 86, 3) := by decide +kernel
theorem dX8_undo_10 : decode cX8_undo 10 = .ok (.ifCond .ne 10, 3) := by decide +kernel
theorem dX8_undo_13 : decode cX8_undo 13 = .ok (.aload_n 0, 1) := by decide +kernel
theorem dX8_undo_14 : decode cX8_undo 14 = .ok (.bipush (-3), 2) := by decide +kernel
theorem dX8_undo_16 : decode cX8_undo 16 = .ok (.invokevirtual 56, 3) := by decide +kernel
theorem dX8_undo_19 : decode cX8_undo 19 = .ok (.ireturn, 1) := by decide +kernel
theorem dX8_undo_20 : decode cX8_undo 20 = .ok (.aload_n 0, 1) := by decide +kernel
theorem dX8_undo_21 : decode cX8_undo 21 = .ok (.getfield 10, 3) := by decide +kernel
theorem dX8_undo_24 : decode cX8_undo 24 = .ok (.getfield 82, 3) := by decide +kernel
theorem dX8_undo_27 : decode cX8_undo 27 = .ok (.aload_n 0, 1) := by decide +kernel
theorem dX8_undo_28 : decode cX8_undo 28 = .ok (.getfield 10, 3) := by decide +kernel
theorem dX8_undo_31 : decode cX8_undo 31 = .ok (.invokevirtual 131, 3) := by decide +kernel
theorem dX8_undo_34 : decode cX8_undo 34 = .ok (.aload_n 0, 1) := by decide +kernel
theorem dX8_undo_35 : decode cX8_undo 35 = .ok (.getfield 10, 3) := by decide +kernel
theorem dX8_undo_38 : decode cX8_undo 38 = .ok (.getfield 134, 3) := by decide +kernel
theorem dX8_undo_41 : decode cX8_undo 41 = .ok (.ireturn, 1) := by decide +kernel
set_option maxRecDepth 20000 in
theorem ggX8_of_X0_has : GoodIn wsX8_of wsX0_has := goodIn_r _ [7, 8, 49, 50, 51, 52, 53, 54] (by decide +kernel) (by decide +kernel)
set_option maxRecDepth 20000 in
theorem gX8_of_X0_has : GoodIn wsX8_of (wsV RX8 93 RX0 yX0_has wsX0_has) := goodIn_app (goodIn_of _ (by decide +kernel)) ggX8_of_X0_has
set_option maxRecDepth 20000 in
theorem ggX8_of_X8_within : GoodIn wsX8_of wsX8_within := goodIn_r _ [12] (by decide +kernel) (by decide +kernel)
set_option maxRecDepth 20000 in
theorem gX8_of_X8_within : GoodIn wsX8_of (va_wsS RX8 74 yX8_within wsX8_within) := goodIn_app (goodIn_of _ (by decide +kernel)) ggX8_of_X8_within
set_option maxRecDepth 20000 in
theorem ggX8_of_X8_refuse : GoodIn wsX8_of wsX8_refuse := goodIn_r _ [16, 17, 31, 32, 33, 34, 35, 36, 37, 38, 39] (by decide +kernel) (by decide +kernel)
set_option maxRecDepth 20000 in
theorem gX8_of_X8_refuse : GoodIn wsX8_of (wsV RX8 56 RX8 yX8_refuse wsX8_refuse) := goodIn_app (goodIn_of _ (by decide +kernel)) ggX8_of_X8_refuse
set_option maxRecDepth 20000 in
theorem ggX8_of_X0_tell : GoodIn wsX8_of wsX0_tell := goodIn_r _ [21, 22, 23, 24, 25, 26, 27, 28, 29, 6, 30, 49, 50, 51, 52, 53, 54] (by decide +kernel) (by decide +kernel)
set_option maxRecDepth 20000 in
theorem gX8_of_X0_tell : GoodIn wsX8_of (wsV RX8 137 RX0 yX0_tell wsX0_tell) := goodIn_app (goodIn_of _ (by decide +kernel)) ggX8_of_X0_tell
theorem dX8_of_0 : decode cX8_of 0 = .ok (.aload_n 0, 1) := by decide +kernel
theorem dX8_of_1 : decode cX8_of 1 = .ok (.getfield 10, 3) := by decide +kernel
theorem dX8_of_4 : decode cX8_of 4 = .ok (.getfield 60, 3) := by decide +kernel
theorem dX8_of_7 : decode cX8_of 7 = .ok (.iload_n 1, 1) := by decide +kernel
theorem dX8_of_8 : decode cX8_of 8 = .ok (.invokevirtual 93, 3) := by decide +kernel
theorem dX8_of_11 : decode cX8_of 11 = .ok (.ifCond .eq 12, 3) := by decide +kernel
theorem dX8_of_14 : decode cX8_of 14 = .ok (.iload_n 2, 1) := by decide +kernel
theorem dX8_of_15 : decode cX8_of 15 = .ok (.iconst 0, 1) := by decide +kernel
theorem dX8_of_16 : decode cX8_of 16 = .ok (.iconst 5, 1) := by decide +kernel
theorem dX8_of_17 : decode cX8_of 17 = .ok (.invokestatic 74, 3) := by decide +kernel
theorem dX8_of_20 : decode cX8_of 20 = .ok (.ifCond .ne 10, 3) := by decide +kernel
theorem dX8_of_23 : decode cX8_of 23 = .ok (.aload_n 0, 1) := by decide +kernel
theorem dX8_of_24 : decode cX8_of 24 = .ok (.bipush (-2), 2) := by decide +kernel
theorem dX8_of_26 : decode cX8_of 26 = .ok (.invokevirtual 56, 3) := by decide +kernel
theorem dX8_of_29 : decode cX8_of 29 = .ok (.ireturn, 1) := by decide +kernel
theorem dX8_of_30 : decode cX8_of 30 = .ok (.aload_n 0, 1) := by decide +kernel
theorem dX8_of_31 : decode cX8_of 31 = .ok (.getfield 10, 3) := by decide +kernel
theorem dX8_of_34 : decode cX8_of 34 = .ok (.getfield 60, 3) := by decide +kernel
theorem dX8_of_37 : decode cX8_of 37 = .ok (.iload_n 1, 1) := by decide +kernel
theorem dX8_of_38 : decode cX8_of 38 = .ok (.iload_n 2, 1) := by decide +kernel
theorem dX8_of_39 : decode cX8_of 39 = .ok (.invokevirtual 137, 3) := by decide +kernel
theorem dX8_of_42 : decode cX8_of 42 = .ok (.ireturn, 1) := by decide +kernel
set_option maxRecDepth 20000 in
theorem ggX8_now_X8_within : GoodIn wsX8_now wsX8_within := goodIn_r _ [5] (by decide +kernel) (by decide +kernel)
set_option maxRecDepth 20000 in
theorem gX8_now_X8_within : GoodIn wsX8_now (va_wsS RX8 74 yX8_within wsX8_within) := goodIn_app (goodIn_of _ (by decide +kernel)) ggX8_now_X8_within
set_option maxRecDepth 20000 in
theorem ggX8_now_X8_refuse : GoodIn wsX8_now wsX8_refuse := goodIn_r _ [9, 10, 21, 22, 23, 24, 25, 26, 27, 28, 29] (by decide +kernel) (by decide +kernel)
set_option maxRecDepth 20000 in
theorem gX8_now_X8_refuse : GoodIn wsX8_now (wsV RX8 56 RX8 yX8_refuse wsX8_refuse) := goodIn_app (goodIn_of _ (by decide +kernel)) ggX8_now_X8_refuse
set_option maxRecDepth 20000 in
theorem ggX8_now_X6_tell : GoodIn wsX8_now wsX6_tell := goodIn_r _ [15, 16, 17, 18, 19, 20, 30, 31, 32, 33, 34, 35, 36, 37, 38] (by decide +kernel) (by decide +kernel)
set_option maxRecDepth 20000 in
theorem gX8_now_X6_tell : GoodIn wsX8_now (wsV RX8 140 RX6 yX6_tell wsX6_tell) := goodIn_app (goodIn_of _ (by decide +kernel)) ggX8_now_X6_tell
theorem dX8_now_0 : decode cX8_now 0 = .ok (.iload_n 1, 1) := by decide +kernel
theorem dX8_now_1 : decode cX8_now 1 = .ok (.iconst 0, 1) := by decide +kernel
theorem dX8_now_2 : decode cX8_now 2 = .ok (.iconst 4, 1) := by decide +kernel
theorem dX8_now_3 : decode cX8_now 3 = .ok (.invokestatic 74, 3) := by decide +kernel
theorem dX8_now_6 : decode cX8_now 6 = .ok (.ifCond .ne 10, 3) := by decide +kernel
theorem dX8_now_9 : decode cX8_now 9 = .ok (.aload_n 0, 1) := by decide +kernel
theorem dX8_now_10 : decode cX8_now 10 = .ok (.bipush (-2), 2) := by decide +kernel
theorem dX8_now_12 : decode cX8_now 12 = .ok (.invokevirtual 56, 3) := by decide +kernel
theorem dX8_now_15 : decode cX8_now 15 = .ok (.ireturn, 1) := by decide +kernel
theorem dX8_now_16 : decode cX8_now 16 = .ok (.aload_n 0, 1) := by decide +kernel
theorem dX8_now_17 : decode cX8_now 17 = .ok (.getfield 10, 3) := by decide +kernel
theorem dX8_now_20 : decode cX8_now 20 = .ok (.iload_n 1, 1) := by decide +kernel
theorem dX8_now_21 : decode cX8_now 21 = .ok (.invokevirtual 140, 3) := by decide +kernel
theorem dX8_now_24 : decode cX8_now 24 = .ok (.ireturn, 1) := by decide +kernel
set_option maxRecDepth 20000 in
theorem ggX8_pace_X0_has : GoodIn wsX8_pace wsX0_has := goodIn_r _ [8, 9, 63, 64, 65, 66, 67, 68] (by decide +kernel) (by decide +kernel)
set_option maxRecDepth 20000 in
theorem gX8_pace_X0_has : GoodIn wsX8_pace (wsV RX8 93 RX0 yX0_has wsX0_has) := goodIn_app (goodIn_of _ (by decide +kernel)) ggX8_pace_X0_has
set_option maxRecDepth 20000 in
theorem ggX8_pace_X8_within : GoodIn wsX8_pace wsX8_within := goodIn_r _ [13] (by decide +kernel) (by decide +kernel)
set_option maxRecDepth 20000 in
theorem gX8_pace_X8_within : GoodIn wsX8_pace (va_wsS RX8 74 yX8_within wsX8_within) := goodIn_app (goodIn_of _ (by decide +kernel)) ggX8_pace_X8_within
set_option maxRecDepth 20000 in
theorem ggX8_pace_X8_refuse : GoodIn wsX8_pace wsX8_refuse := goodIn_r _ [17, 18, 45, 46, 47, 48, 49, 50, 51, 52, 53] (by decide +kernel) (by decide +kernel)
set_option maxRecDepth 20000 in
theorem gX8_pace_X8_refuse : GoodIn wsX8_pace (wsV RX8 56 RX8 yX8_refuse wsX8_refuse) := goodIn_app (goodIn_of _ (by decide +kernel)) ggX8_pace_X8_refuse
set_option maxRecDepth 20000 in
theorem ggX8_pace_X6_paceAt : GoodIn wsX8_pace wsX6_paceAt := goodIn_r _ [23, 24, 25, 26, 27, 28, 29, 30, 7, 31, 32, 33, 34, 35, 36, 37, 54, 55, 56, 57, 58, 59, 60, 61, 62, 63, 64, 65, 66, 67, 68] (by decide +kernel) (by decide +kernel)
set_option maxRecDepth 20000 in
theorem gX8_pace_X6_paceAt : GoodIn wsX8_pace (wsV RX8 142 RX6 yX6_paceAt wsX6_paceAt) := goodIn_app (goodIn_of _ (by decide +kernel)) ggX8_pace_X6_paceAt
set_option maxRecDepth 20000 in
theorem ggX8_pace_X6_costAt : GoodIn wsX8_pace wsX6_costAt := goodIn_r _ [41, 25, 24, 26, 27, 28, 29, 30, 7, 31, 32, 33, 34, 35, 36, 37, 42, 43, 44, 54, 55, 56, 57, 58, 59, 60, 61, 62, 63, 64, 65, 66, 67, 68] (by decide +kernel) (by decide +kernel)
set_option maxRecDepth 20000 in
theorem gX8_pace_X6_costAt : GoodIn wsX8_pace (wsV RX8 145 RX6 yX6_costAt wsX6_costAt) := goodIn_app (goodIn_of _ (by decide +kernel)) ggX8_pace_X6_costAt
theorem dX8_pace_0 : decode cX8_pace 0 = .ok (.aload_n 0, 1) := by decide +kernel
theorem dX8_pace_1 : decode cX8_pace 1 = .ok (.getfield 10, 3) := by decide +kernel
theorem dX8_pace_4 : decode cX8_pace 4 = .ok (.getfield 60, 3) := by decide +kernel
theorem dX8_pace_7 : decode cX8_pace 7 = .ok (.iload_n 1, 1) := by decide +kernel
theorem dX8_pace_8 : decode cX8_pace 8 = .ok (.invokevirtual 93, 3) := by decide +kernel
theorem dX8_pace_11 : decode cX8_pace 11 = .ok (.ifCond .eq 22, 3) := by decide +kernel
theorem dX8_pace_14 : decode cX8_pace 14 = .ok (.iload_n 2, 1) := by decide +kernel
theorem dX8_pace_15 : decode cX8_pace 15 = .ok (.iconst (-1), 1) := by decide +kernel
theorem dX8_pace_16 : decode cX8_pace 16 = .ok (.bipush 6, 2) := by decide +kernel
theorem dX8_pace_18 : decode cX8_pace 18 = .ok (.invokestatic 74, 3) := by decide +kernel
theorem dX8_pace_21 : decode cX8_pace 21 = .ok (.ifCond .eq 12, 3) := by decide +kernel
theorem dX8_pace_24 : decode cX8_pace 24 = .ok (.iload_n 3, 1) := by decide +kernel
theorem dX8_pace_25 : decode cX8_pace 25 = .ok (.iconst 0, 1) := by decide +kernel
theorem dX8_pace_26 : decode cX8_pace 26 = .ok (.iconst 1, 1) := by decide +kernel
theorem dX8_pace_27 : decode cX8_pace 27 = .ok (.invokestatic 74, 3) := by decide +kernel
theorem dX8_pace_30 : decode cX8_pace 30 = .ok (.ifCond .ne 10, 3) := by decide +kernel
theorem dX8_pace_33 : decode cX8_pace 33 = .ok (.aload_n 0, 1) := by decide +kernel
theorem dX8_pace_34 : decode cX8_pace 34 = .ok (.bipush (-2), 2) := by decide +kernel
theorem dX8_pace_36 : decode cX8_pace 36 = .ok (.invokevirtual 56, 3) := by decide +kernel
theorem dX8_pace_39 : decode cX8_pace 39 = .ok (.ireturn, 1) := by decide +kernel
theorem dX8_pace_40 : decode cX8_pace 40 = .ok (.iload_n 2, 1) := by decide +kernel
theorem dX8_pace_41 : decode cX8_pace 41 = .ok (.iconst (-1), 1) := by decide +kernel
theorem dX8_pace_42 : decode cX8_pace 42 = .ok (.if_icmp .ne 18, 3) := by decide +kernel
theorem dX8_pace_45 : decode cX8_pace 45 = .ok (.aload_n 0, 1) := by decide +kernel
theorem dX8_pace_46 : decode cX8_pace 46 = .ok (.getfield 10, 3) := by decide +kernel
theorem dX8_pace_49 : decode cX8_pace 49 = .ok (.getfield 60, 3) := by decide +kernel
theorem dX8_pace_52 : decode cX8_pace 52 = .ok (.getfield 128, 3) := by decide +kernel
theorem dX8_pace_55 : decode cX8_pace 55 = .ok (.iload_n 1, 1) := by decide +kernel
theorem dX8_pace_56 : decode cX8_pace 56 = .ok (.iaload, 1) := by decide +kernel
theorem dX8_pace_57 : decode cX8_pace 57 = .ok (.goto 4, 3) := by decide +kernel
theorem dX8_pace_60 : decode cX8_pace 60 = .ok (.iload_n 2, 1) := by decide +kernel
theorem dX8_pace_61 : decode cX8_pace 61 = .ok (.istore 4, 2) := by decide +kernel
theorem dX8_pace_63 : decode cX8_pace 63 = .ok (.iload_n 3, 1) := by decide +kernel
theorem dX8_pace_64 : decode cX8_pace 64 = .ok (.ifCond .ne 16, 3) := by decide +kernel
theorem dX8_pace_67 : decode cX8_pace 67 = .ok (.aload_n 0, 1) := by decide +kernel
theorem dX8_pace_68 : decode cX8_pace 68 = .ok (.getfield 10, 3) := by decide +kernel
theorem dX8_pace_71 : decode cX8_pace 71 = .ok (.iload_n 1, 1) := by decide +kernel
theorem dX8_pace_72 : decode cX8_pace 72 = .ok (.iload 4, 2) := by decide +kernel
theorem dX8_pace_74 : decode cX8_pace 74 = .ok (.invokevirtual 142, 3) := by decide +kernel
theorem dX8_pace_77 : decode cX8_pace 77 = .ok (.goto 13, 3) := by decide +kernel
theorem dX8_pace_80 : decode cX8_pace 80 = .ok (.aload_n 0, 1) := by decide +kernel
theorem dX8_pace_81 : decode cX8_pace 81 = .ok (.getfield 10, 3) := by decide +kernel
theorem dX8_pace_84 : decode cX8_pace 84 = .ok (.iload_n 1, 1) := by decide +kernel
theorem dX8_pace_85 : decode cX8_pace 85 = .ok (.iload 4, 2) := by decide +kernel
theorem dX8_pace_87 : decode cX8_pace 87 = .ok (.invokevirtual 145, 3) := by decide +kernel
theorem dX8_pace_90 : decode cX8_pace 90 = .ok (.ireturn, 1) := by decide +kernel
set_option maxRecDepth 20000 in
theorem ggX8_left_X6_secondsFrom : GoodIn wsX8_left wsX6_secondsFrom := goodIn_r _ [7, 8, 9, 10, 11, 12, 13, 6, 14, 15, 16, 17, 18, 19, 20, 21, 22, 23, 24, 25, 26, 27, 28, 29, 30, 31, 32, 33, 34, 35, 36, 46, 47, 48, 49, 50, 51, 52, 53, 54, 55, 56, 57, 58, 59, 60] (by decide +kernel) (by decide +kernel)
set_option maxRecDepth 20000 in
theorem gX8_left_X6_secondsFrom : GoodIn wsX8_left (wsV RX8 148 RX6 yX6_secondsFrom wsX6_secondsFrom) := goodIn_app (goodIn_of _ (by decide +kernel)) ggX8_left_X6_secondsFrom
theorem dX8_left_0 : decode cX8_left 0 = .ok (.aload_n 0, 1) := by decide +kernel
theorem dX8_left_1 : decode cX8_left 1 = .ok (.getfield 10, 3) := by decide +kernel
theorem dX8_left_4 : decode cX8_left 4 = .ok (.aload_n 0, 1) := by decide +kernel
theorem dX8_left_5 : decode cX8_left 5 = .ok (.getfield 10, 3) := by decide +kernel
theorem dX8_left_8 : decode cX8_left 8 = .ok (.getfield 134, 3) := by decide +kernel
theorem dX8_left_11 : decode cX8_left 11 = .ok (.invokevirtual 148, 3) := by decide +kernel
theorem dX8_left_14 : decode cX8_left 14 = .ok (.ireturn, 1) := by decide +kernel
set_option maxRecDepth 20000 in
theorem ggX8_mend_X8_within : GoodIn wsX8_mend wsX8_within := goodIn_r _ [6] (by decide +kernel) (by decide +kernel)
set_option maxRecDepth 20000 in
theorem gX8_mend_X8_within : GoodIn wsX8_mend (va_wsS RX8 74 yX8_within wsX8_within) := goodIn_app (goodIn_of _ (by decide +kernel)) ggX8_mend_X8_within
set_option maxRecDepth 20000 in
theorem ggX8_mend_X8_refuse : GoodIn wsX8_mend wsX8_refuse := goodIn_r _ [10, 11, 60, 61, 62, 63, 64, 65, 66, 67, 68] (by decide +kernel) (by decide +kernel)
set_option maxRecDepth 20000 in
theorem gX8_mend_X8_refuse : GoodIn wsX8_mend (wsV RX8 56 RX8 yX8_refuse wsX8_refuse) := goodIn_app (goodIn_of _ (by decide +kernel)) ggX8_mend_X8_refuse
set_option maxRecDepth 20000 in
theorem ggX8_mend_X5_bestMended : GoodIn wsX8_mend wsX5_bestMended := goodIn_r _ [16, 17, 18, 19, 20, 21, 22, 23, 15, 24, 25, 26, 27, 28, 29, 30, 31, 32, 33, 34, 35, 36, 37, 38, 39, 40, 41, 42, 43, 44, 45, 46, 47, 48, 49, 50, 51, 52, 53, 54, 5, 55, 69, 70, 71, 72, 73, 74, 75, 76, 77, 78, 79, 80, 81, 82, 83, 84, 85] (by decide +kernel) (by decide +kernel)
set_option maxRecDepth 20000 in
theorem gX8_mend_X5_bestMended : GoodIn wsX8_mend (wsV RX8 151 RX5 yX5_bestMended wsX5_bestMended) := goodIn_app (goodIn_of _ (by decide +kernel)) ggX8_mend_X5_bestMended
set_option maxRecDepth 20000 in
theorem ggX8_mend_X5_savedBy : GoodIn wsX8_mend wsX5_savedBy := goodIn_r _ [59, 19, 17, 18, 54, 5, 55, 21, 22, 23, 15, 24, 25, 26, 27, 28, 29, 30, 31, 32, 33, 34, 35, 36, 37, 38, 39, 40, 41, 42, 43, 44, 45, 46, 47, 48, 49, 50, 51, 52, 53, 69, 70, 71, 72, 73, 74, 75, 76, 77, 78, 79, 80, 81, 82, 83] (by decide +kernel) (by decide +kernel)
set_option maxRecDepth 20000 in
theorem gX8_mend_X5_savedBy : GoodIn wsX8_mend (wsV RX8 155 RX5 yX5_savedBy wsX5_savedBy) := goodIn_app (goodIn_of _ (by decide +kernel)) ggX8_mend_X5_savedBy
theorem dX8_mend_0 : decode cX8_mend 0 = .ok (.iload_n 1, 1) := by decide +kernel
theorem dX8_mend_1 : decode cX8_mend 1 = .ok (.iconst 0, 1) := by decide +kernel
theorem dX8_mend_2 : decode cX8_mend 2 = .ok (.bipush 8, 2) := by decide +kernel
theorem dX8_mend_4 : decode cX8_mend 4 = .ok (.invokestatic 74, 3) := by decide +kernel
theorem dX8_mend_7 : decode cX8_mend 7 = .ok (.ifCond .eq 12, 3) := by decide +kernel
theorem dX8_mend_10 : decode cX8_mend 10 = .ok (.iload_n 2, 1) := by decide +kernel
theorem dX8_mend_11 : decode cX8_mend 11 = .ok (.iconst 0, 1) := by decide +kernel
theorem dX8_mend_12 : decode cX8_mend 12 = .ok (.iconst 1, 1) := by decide +kernel
theorem dX8_mend_13 : decode cX8_mend 13 = .ok (.invokestatic 74, 3) := by decide +kernel
theorem dX8_mend_16 : decode cX8_mend 16 = .ok (.ifCond .ne 10, 3) := by decide +kernel
theorem dX8_mend_19 : decode cX8_mend 19 = .ok (.aload_n 0, 1) := by decide +kernel
theorem dX8_mend_20 : decode cX8_mend 20 = .ok (.bipush (-2), 2) := by decide +kernel
theorem dX8_mend_22 : decode cX8_mend 22 = .ok (.invokevirtual 56, 3) := by decide +kernel
theorem dX8_mend_25 : decode cX8_mend 25 = .ok (.ireturn, 1) := by decide +kernel
theorem dX8_mend_26 : decode cX8_mend 26 = .ok (.aload_n 0, 1) := by decide +kernel
theorem dX8_mend_27 : decode cX8_mend 27 = .ok (.getfield 30, 3) := by decide +kernel
theorem dX8_mend_30 : decode cX8_mend 30 = .ok (.aload_n 0, 1) := by decide +kernel
theorem dX8_mend_31 : decode cX8_mend 31 = .ok (.getfield 10, 3) := by decide +kernel
theorem dX8_mend_34 : decode cX8_mend 34 = .ok (.iload_n 1, 1) := by decide +kernel
theorem dX8_mend_35 : decode cX8_mend 35 = .ok (.invokevirtual 151, 3) := by decide +kernel
theorem dX8_mend_38 : decode cX8_mend 38 = .ok (.istore_n 3, 1) := by decide +kernel
theorem dX8_mend_39 : decode cX8_mend 39 = .ok (.iload_n 2, 1) := by decide +kernel
theorem dX8_mend_40 : decode cX8_mend 40 = .ok (.ifCond .ne 18, 3) := by decide +kernel
theorem dX8_mend_43 : decode cX8_mend 43 = .ok (.aload_n 0, 1) := by decide +kernel
theorem dX8_mend_44 : decode cX8_mend 44 = .ok (.getfield 30, 3) := by decide +kernel
theorem dX8_mend_47 : decode cX8_mend 47 = .ok (.aload_n 0, 1) := by decide +kernel
theorem dX8_mend_48 : decode cX8_mend 48 = .ok (.getfield 10, 3) := by decide +kernel
theorem dX8_mend_51 : decode cX8_mend 51 = .ok (.iload_n 3, 1) := by decide +kernel
theorem dX8_mend_52 : decode cX8_mend 52 = .ok (.invokevirtual 155, 3) := by decide +kernel
theorem dX8_mend_55 : decode cX8_mend 55 = .ok (.goto 4, 3) := by decide +kernel
theorem dX8_mend_58 : decode cX8_mend 58 = .ok (.iload_n 3, 1) := by decide +kernel
theorem dX8_mend_59 : decode cX8_mend 59 = .ok (.ireturn, 1) := by decide +kernel
set_option maxRecDepth 20000 in
theorem ggX8_reads_X8_within : GoodIn wsX8_reads wsX8_within := goodIn_r _ [6] (by decide +kernel) (by decide +kernel)
set_option maxRecDepth 20000 in
theorem gX8_reads_X8_within : GoodIn wsX8_reads (va_wsS RX8 74 yX8_within wsX8_within) := goodIn_app (goodIn_of _ (by decide +kernel)) ggX8_reads_X8_within
set_option maxRecDepth 20000 in
theorem ggX8_reads_X8_refuse : GoodIn wsX8_reads wsX8_refuse := goodIn_r _ [10, 11, 67, 68, 69, 70, 71, 72, 73, 74, 75] (by decide +kernel) (by decide +kernel)
set_option maxRecDepth 20000 in
theorem gX8_reads_X8_refuse : GoodIn wsX8_reads (wsV RX8 56 RX8 yX8_refuse wsX8_refuse) := goodIn_app (goodIn_of _ (by decide +kernel)) ggX8_reads_X8_refuse
set_option maxRecDepth 20000 in
theorem ggX8_reads_X5_bestSaid : GoodIn wsX8_reads wsX5_bestSaid := goodIn_r _ [16, 17, 18, 19, 20, 21, 22, 23, 24, 25, 26, 27, 28, 29, 30, 31, 32, 33, 34, 35, 36, 37, 38, 39, 40, 41, 42, 43, 44, 45, 46, 47, 48, 49, 50, 51, 52, 53, 15, 54, 55, 5, 56, 57, 58, 59, 60, 61, 62, 76, 77, 78, 79, 80, 81, 82, 83, 84, 85, 86, 87, 88, 89, 90, 91, 92] (by decide +kernel) (by decide +kernel)
set_option maxRecDepth 20000 in
theorem gX8_reads_X5_bestSaid : GoodIn wsX8_reads (wsV RX8 158 RX5 yX5_bestSaid wsX5_bestSaid) := goodIn_app (goodIn_of _ (by decide +kernel)) ggX8_reads_X5_bestSaid
set_option maxRecDepth 20000 in
theorem ggX8_reads_X5_costSaying : GoodIn wsX8_reads wsX5_costSaying := goodIn_r _ [66, 17, 18, 19, 55, 5, 56, 45, 46, 47, 25, 48, 27, 49, 50, 23, 24, 26, 28, 29, 30, 31, 32, 33, 34, 35, 36, 37, 38, 39, 40, 41, 42, 43, 44, 22, 76, 77, 78, 79, 80, 81, 82, 83, 84, 85, 86, 87, 88, 89, 90] (by decide +kernel) (by decide +kernel)
set_option maxRecDepth 20000 in
theorem gX8_reads_X5_costSaying : GoodIn wsX8_reads (wsV RX8 161 RX5 yX5_costSaying wsX5_costSaying) := goodIn_app (goodIn_of _ (by decide +kernel)) ggX8_reads_X5_costSaying
theorem dX8_reads_0 : decode cX8_reads 0 = .ok (.iload_n 1, 1) := by decide +kernel
theorem dX8_reads_1 : decode cX8_reads 1 = .ok (.iconst 0, 1) := by decide +kernel
theorem dX8_reads_2 : decode cX8_reads 2 = .ok (.bipush 9, 2) := by decide +kernel
theorem dX8_reads_4 : decode cX8_reads 4 = .ok (.invokestatic 74, 3) := by decide +kernel
theorem dX8_reads_7 : decode cX8_reads 7 = .ok (.ifCond .eq 12, 3) := by decide +kernel
theorem dX8_reads_10 : decode cX8_reads 10 = .ok (.iload_n 2, 1) := by decide +kernel
theorem dX8_reads_11 : decode cX8_reads 11 = .ok (.iconst 0, 1) := by decide +kernel
theorem dX8_reads_12 : decode cX8_reads 12 = .ok (.iconst 1, 1) := by decide +kernel
theorem dX8_reads_13 : decode cX8_reads 13 = .ok (.invokestatic 74, 3) := by decide +kernel
theorem dX8_reads_16 : decode cX8_reads 16 = .ok (.ifCond .ne 10, 3) := by decide +kernel
theorem dX8_reads_19 : decode cX8_reads 19 = .ok (.aload_n 0, 1) := by decide +kernel
theorem dX8_reads_20 : decode cX8_reads 20 = .ok (.bipush (-2), 2) := by decide +kernel
theorem dX8_reads_22 : decode cX8_reads 22 = .ok (.invokevirtual 56, 3) := by decide +kernel
theorem dX8_reads_25 : decode cX8_reads 25 = .ok (.ireturn, 1) := by decide +kernel
theorem dX8_reads_26 : decode cX8_reads 26 = .ok (.aload_n 0, 1) := by decide +kernel
theorem dX8_reads_27 : decode cX8_reads 27 = .ok (.getfield 30, 3) := by decide +kernel
theorem dX8_reads_30 : decode cX8_reads 30 = .ok (.aload_n 0, 1) := by decide +kernel
theorem dX8_reads_31 : decode cX8_reads 31 = .ok (.getfield 10, 3) := by decide +kernel
theorem dX8_reads_34 : decode cX8_reads 34 = .ok (.iload_n 1, 1) := by decide +kernel
theorem dX8_reads_35 : decode cX8_reads 35 = .ok (.invokevirtual 158, 3) := by decide +kernel
theorem dX8_reads_38 : decode cX8_reads 38 = .ok (.istore_n 3, 1) := by decide +kernel
theorem dX8_reads_39 : decode cX8_reads 39 = .ok (.iload_n 2, 1) := by decide +kernel
theorem dX8_reads_40 : decode cX8_reads 40 = .ok (.ifCond .ne 7, 3) := by decide +kernel
theorem dX8_reads_43 : decode cX8_reads 43 = .ok (.iload_n 3, 1) := by decide +kernel
theorem dX8_reads_44 : decode cX8_reads 44 = .ok (.goto 15, 3) := by decide +kernel
theorem dX8_reads_47 : decode cX8_reads 47 = .ok (.aload_n 0, 1) := by decide +kernel
theorem dX8_reads_48 : decode cX8_reads 48 = .ok (.getfield 30, 3) := by decide +kernel
theorem dX8_reads_51 : decode cX8_reads 51 = .ok (.aload_n 0, 1) := by decide +kernel
theorem dX8_reads_52 : decode cX8_reads 52 = .ok (.getfield 10, 3) := by decide +kernel
theorem dX8_reads_55 : decode cX8_reads 55 = .ok (.iload_n 3, 1) := by decide +kernel
theorem dX8_reads_56 : decode cX8_reads 56 = .ok (.invokevirtual 161, 3) := by decide +kernel
theorem dX8_reads_59 : decode cX8_reads 59 = .ok (.ireturn, 1) := by decide +kernel
set_option maxRecDepth 20000 in
theorem ggX8_wrong_X0_has : GoodIn wsX8_wrong wsX0_has := goodIn_r _ [7, 8, 61, 62, 63, 64, 65, 66] (by decide +kernel) (by decide +kernel)
set_option maxRecDepth 20000 in
theorem gX8_wrong_X0_has : GoodIn wsX8_wrong (wsV RX8 93 RX0 yX0_has wsX0_has) := goodIn_app (goodIn_of _ (by decide +kernel)) ggX8_wrong_X0_has
set_option maxRecDepth 20000 in
theorem ggX8_wrong_X8_refuse : GoodIn wsX8_wrong wsX8_refuse := goodIn_r _ [13, 14, 43, 44, 45, 46, 47, 48, 49, 50, 51] (by decide +kernel) (by decide +kernel)
set_option maxRecDepth 20000 in
theorem gX8_wrong_X8_refuse : GoodIn wsX8_wrong (wsV RX8 56 RX8 yX8_refuse wsX8_refuse) := goodIn_app (goodIn_of _ (by decide +kernel)) ggX8_wrong_X8_refuse
set_option maxRecDepth 20000 in
theorem ggX8_wrong_X6_costNoted : GoodIn wsX8_wrong wsX6_costNoted := goodIn_r _ [19, 20, 21, 22, 23, 24, 18, 25, 26, 27, 28, 29, 30, 31, 6, 32, 33, 34, 35, 36, 37, 38, 39, 40, 41, 52, 53, 54, 55, 56, 57, 58, 59, 60, 61, 62, 63, 64, 65, 66] (by decide +kernel) (by decide +kernel)
set_option maxRecDepth 20000 in
theorem gX8_wrong_X6_costNoted : GoodIn wsX8_wrong (wsV RX8 164 RX6 yX6_costNoted wsX6_costNoted) := goodIn_app (goodIn_of _ (by decide +kernel)) ggX8_wrong_X6_costNoted
set_option maxRecDepth 20000 in
theorem ggX8_wrong_X6_costAt : GoodIn wsX8_wrong wsX6_costAt := goodIn_r _ [25, 20, 26, 27, 28, 29, 30, 31, 6, 32, 33, 34, 35, 36, 37, 38, 39, 40, 41, 52, 53, 54, 55, 56, 57, 58, 59, 60, 61, 62, 63, 64, 65, 66] (by decide +kernel) (by decide +kernel)
set_option maxRecDepth 20000 in
theorem gX8_wrong_X6_costAt : GoodIn wsX8_wrong (wsV RX8 145 RX6 yX6_costAt wsX6_costAt) := goodIn_app (goodIn_of _ (by decide +kernel)) ggX8_wrong_X6_costAt
theorem dX8_wrong_0 : decode cX8_wrong 0 = .ok (.aload_n 0, 1) := by decide +kernel
theorem dX8_wrong_1 : decode cX8_wrong 1 = .ok (.getfield 10, 3) := by decide +kernel
theorem dX8_wrong_4 : decode cX8_wrong 4 = .ok (.getfield 60, 3) := by decide +kernel
theorem dX8_wrong_7 : decode cX8_wrong 7 = .ok (.iload_n 1, 1) := by decide +kernel
theorem dX8_wrong_8 : decode cX8_wrong 8 = .ok (.invokevirtual 93, 3) := by decide +kernel
theorem dX8_wrong_11 : decode cX8_wrong 11 = .ok (.ifCond .ne 14, 3) := by decide +kernel
theorem dX8_wrong_14 : decode cX8_wrong 14 = .ok (.aload_n 0, 1) := by decide +kernel
theorem dX8_wrong_15 : decode cX8_wrong 15 = .ok (.bipush (-2), 2) := by decide +kernel
theorem dX8_wrong_17 : decode cX8_wrong 17 = .ok (.invokevirtual 56, 3) := by decide +kernel
theorem dX8_wrong_20 : decode cX8_wrong 20 = .ok (.pop, 1) := by decide +kernel
theorem dX8_wrong_21 : decode cX8_wrong 21 = .ok (.sipush (-1000), 3) := by decide +kernel
theorem dX8_wrong_24 : decode cX8_wrong 24 = .ok (.ireturn, 1) := by decide +kernel
theorem dX8_wrong_25 : decode cX8_wrong 25 = .ok (.aload_n 0, 1) := by decide +kernel
theorem dX8_wrong_26 : decode cX8_wrong 26 = .ok (.getfield 10, 3) := by decide +kernel
theorem dX8_wrong_29 : decode cX8_wrong 29 = .ok (.iload_n 1, 1) := by decide +kernel
theorem dX8_wrong_30 : decode cX8_wrong 30 = .ok (.invokevirtual 164, 3) := by decide +kernel
theorem dX8_wrong_33 : decode cX8_wrong 33 = .ok (.aload_n 0, 1) := by decide +kernel
theorem dX8_wrong_34 : decode cX8_wrong 34 = .ok (.getfield 10, 3) := by decide +kernel
theorem dX8_wrong_37 : decode cX8_wrong 37 = .ok (.iload_n 1, 1) := by decide +kernel
theorem dX8_wrong_38 : decode cX8_wrong 38 = .ok (.iconst 0, 1) := by decide +kernel
theorem dX8_wrong_39 : decode cX8_wrong 39 = .ok (.invokevirtual 145, 3) := by decide +kernel
theorem dX8_wrong_42 : decode cX8_wrong 42 = .ok (.isub, 1) := by decide +kernel
theorem dX8_wrong_43 : decode cX8_wrong 43 = .ok (.ireturn, 1) := by decide +kernel
set_option maxRecDepth 20000 in
theorem ggX8_turned_X5_likeliestTurned : GoodIn wsX8_turned wsX5_likeliestTurned := goodIn_r _ [7, 8, 9, 10, 11, 12, 13, 14, 15, 16, 17, 18, 19, 20, 21, 22, 23, 24, 25, 26, 27, 28, 29, 30, 31, 32, 33, 34, 35, 36, 37, 38, 39, 49, 50, 51, 52, 53, 54, 55, 56, 57, 58, 59, 60, 61, 62, 63] (by decide +kernel) (by decide +kernel)
set_option maxRecDepth 20000 in
theorem gX8_turned_X5_likeliestTurned : GoodIn wsX8_turned (wsV RX8 167 RX5 yX5_likeliestTurned wsX5_likeliestTurned) := goodIn_app (goodIn_of _ (by decide +kernel)) ggX8_turned_X5_likeliestTurned
theorem dX8_turned_0 : decode cX8_turned 0 = .ok (.aload_n 0, 1) := by decide +kernel
theorem dX8_turned_1 : decode cX8_turned 1 = .ok (.getfield 30, 3) := by decide +kernel
theorem dX8_turned_4 : decode cX8_turned 4 = .ok (.aload_n 0, 1) := by decide +kernel
theorem dX8_turned_5 : decode cX8_turned 5 = .ok (.getfield 10, 3) := by decide +kernel
theorem dX8_turned_8 : decode cX8_turned 8 = .ok (.invokevirtual 167, 3) := by decide +kernel
theorem dX8_turned_11 : decode cX8_turned 11 = .ok (.ireturn, 1) := by decide +kernel
set_option maxRecDepth 20000 in
theorem ggX8_felt_X8_within : GoodIn wsX8_felt wsX8_within := goodIn_r _ [6] (by decide +kernel) (by decide +kernel)
set_option maxRecDepth 20000 in
theorem gX8_felt_X8_within : GoodIn wsX8_felt (va_wsS RX8 74 yX8_within wsX8_within) := goodIn_app (goodIn_of _ (by decide +kernel)) ggX8_felt_X8_within
set_option maxRecDepth 20000 in
theorem ggX8_felt_X8_refuse : GoodIn wsX8_felt wsX8_refuse := goodIn_r _ [10, 11, 24, 25, 26, 27, 28, 29, 30, 31, 32] (by decide +kernel) (by decide +kernel)
set_option maxRecDepth 20000 in
theorem gX8_felt_X8_refuse : GoodIn wsX8_felt (wsV RX8 56 RX8 yX8_refuse wsX8_refuse) := goodIn_app (goodIn_of _ (by decide +kernel)) ggX8_felt_X8_refuse
set_option maxRecDepth 20000 in
theorem ggX8_felt_X1_isFull : GoodIn wsX8_felt wsX1_isFull := goodIn_r _ [16, 17, 42, 43] (by decide +kernel) (by decide +kernel)
set_option maxRecDepth 20000 in
theorem gX8_felt_X1_isFull : GoodIn wsX8_felt (wsV RX8 174 RX1 yX1_isFull wsX1_isFull) := goodIn_app (goodIn_of _ (by decide +kernel)) ggX8_felt_X1_isFull
set_option maxRecDepth 20000 in
theorem ggX8_felt_X1_add : GoodIn wsX8_felt wsX1_add := goodIn_r _ [21, 22, 17, 23, 13, 14, 15, 16, 42, 43] (by decide +kernel) (by decide +kernel)
set_option maxRecDepth 20000 in
theorem gX8_felt_X1_add : GoodIn wsX8_felt (wsV RX8 177 RX1 yX1_add wsX1_add) := goodIn_app (goodIn_of _ (by decide +kernel)) ggX8_felt_X1_add
theorem dX8_felt_0 : decode cX8_felt 0 = .ok (.iload_n 1, 1) := by decide +kernel
theorem dX8_felt_1 : decode cX8_felt 1 = .ok (.iconst 1, 1) := by decide +kernel
theorem dX8_felt_2 : decode cX8_felt 2 = .ok (.bipush 6, 2) := by decide +kernel
theorem dX8_felt_4 : decode cX8_felt 4 = .ok (.invokestatic 74, 3) := by decide +kernel
theorem dX8_felt_7 : decode cX8_felt 7 = .ok (.ifCond .ne 10, 3) := by decide +kernel
theorem dX8_felt_10 : decode cX8_felt 10 = .ok (.aload_n 0, 1) := by decide +kernel
theorem dX8_felt_11 : decode cX8_felt 11 = .ok (.bipush (-2), 2) := by decide +kernel
theorem dX8_felt_13 : decode cX8_felt 13 = .ok (.invokevirtual 56, 3) := by decide +kernel
theorem dX8_felt_16 : decode cX8_felt 16 = .ok (.ireturn, 1) := by decide +kernel
theorem dX8_felt_17 : decode cX8_felt 17 = .ok (.aload_n 0, 1) := by decide +kernel
theorem dX8_felt_18 : decode cX8_felt 18 = .ok (.getfield 10, 3) := by decide +kernel
theorem dX8_felt_21 : decode cX8_felt 21 = .ok (.getfield 170, 3) := by decide +kernel
theorem dX8_felt_24 : decode cX8_felt 24 = .ok (.invokevirtual 174, 3) := by decide +kernel
theorem dX8_felt_27 : decode cX8_felt 27 = .ok (.ifCond .eq 10, 3) := by decide +kernel
theorem dX8_felt_30 : decode cX8_felt 30 = .ok (.aload_n 0, 1) := by decide +kernel
theorem dX8_felt_31 : decode cX8_felt 31 = .ok (.bipush (-4), 2) := by decide +kernel
theorem dX8_felt_33 : decode cX8_felt 33 = .ok (.invokevirtual 56, 3) := by decide +kernel
theorem dX8_felt_36 : decode cX8_felt 36 = .ok (.ireturn, 1) := by decide +kernel
theorem dX8_felt_37 : decode cX8_felt 37 = .ok (.aload_n 0, 1) := by decide +kernel
theorem dX8_felt_38 : decode cX8_felt 38 = .ok (.getfield 10, 3) := by decide +kernel
theorem dX8_felt_41 : decode cX8_felt 41 = .ok (.getfield 170, 3) := by decide +kernel
theorem dX8_felt_44 : decode cX8_felt 44 = .ok (.iload_n 1, 1) := by decide +kernel
theorem dX8_felt_45 : decode cX8_felt 45 = .ok (.invokevirtual 177, 3) := by decide +kernel
theorem dX8_felt_48 : decode cX8_felt 48 = .ok (.ireturn, 1) := by decide +kernel
set_option maxRecDepth 20000 in
theorem ggX8_where_X1_places : GoodIn wsX8_where wsX1_places := goodIn_r _ [8, 9, 10, 11, 12, 7, 13, 14, 15, 16, 17, 18, 19, 20, 21, 22, 41, 42, 43, 44, 45, 46, 47, 48] (by decide +kernel) (by decide +kernel)
set_option maxRecDepth 20000 in
theorem gX8_where_X1_places : GoodIn wsX8_where (wsV RX8 178 RX1 yX1_places wsX1_places) := goodIn_app (goodIn_of _ (by decide +kernel)) ggX8_where_X1_places
theorem dX8_where_0 : decode cX8_where 0 = .ok (.aload_n 0, 1) := by decide +kernel
theorem dX8_where_1 : decode cX8_where 1 = .ok (.getfield 10, 3) := by decide +kernel
theorem dX8_where_4 : decode cX8_where 4 = .ok (.getfield 170, 3) := by decide +kernel
theorem dX8_where_7 : decode cX8_where 7 = .ok (.aload_n 0, 1) := by decide +kernel
theorem dX8_where_8 : decode cX8_where 8 = .ok (.getfield 10, 3) := by decide +kernel
theorem dX8_where_11 : decode cX8_where 11 = .ok (.getfield 60, 3) := by decide +kernel
theorem dX8_where_14 : decode cX8_where 14 = .ok (.invokevirtual 178, 3) := by decide +kernel
theorem dX8_where_17 : decode cX8_where 17 = .ok (.ireturn, 1) := by decide +kernel
set_option maxRecDepth 20000 in
theorem ggX8_next_X1_waysOn : GoodIn wsX8_next wsX1_waysOn := goodIn_r _ [8, 9, 10, 11, 12, 7, 13, 14, 15, 16, 17, 18, 19, 20, 21, 22, 23, 24, 25, 26, 27, 28, 29, 48, 49, 50, 51, 52, 53, 54, 55] (by decide +kernel) (by decide +kernel)
set_option maxRecDepth 20000 in
theorem gX8_next_X1_waysOn : GoodIn wsX8_next (wsV RX8 182 RX1 yX1_waysOn wsX1_waysOn) := goodIn_app (goodIn_of _ (by decide +kernel)) ggX8_next_X1_waysOn
theorem dX8_next_0 : decode cX8_next 0 = .ok (.aload_n 0, 1) := by decide +kernel
theorem dX8_next_1 : decode cX8_next 1 = .ok (.getfield 10, 3) := by decide +kernel
theorem dX8_next_4 : decode cX8_next 4 = .ok (.getfield 170, 3) := by decide +kernel
theorem dX8_next_7 : decode cX8_next 7 = .ok (.aload_n 0, 1) := by decide +kernel
theorem dX8_next_8 : decode cX8_next 8 = .ok (.getfield 10, 3) := by decide +kernel
theorem dX8_next_11 : decode cX8_next 11 = .ok (.getfield 60, 3) := by decide +kernel
theorem dX8_next_14 : decode cX8_next 14 = .ok (.invokevirtual 182, 3) := by decide +kernel
theorem dX8_next_17 : decode cX8_next 17 = .ok (.ireturn, 1) := by decide +kernel
set_option maxRecDepth 20000 in
theorem ggX8_seen_X8_within : GoodIn wsX8_seen wsX8_within := goodIn_r _ [6] (by decide +kernel) (by decide +kernel)
set_option maxRecDepth 20000 in
theorem gX8_seen_X8_within : GoodIn wsX8_seen (va_wsS RX8 74 yX8_within wsX8_within) := goodIn_app (goodIn_of _ (by decide +kernel)) ggX8_seen_X8_within
set_option maxRecDepth 20000 in
theorem ggX8_seen_X8_refuse : GoodIn wsX8_seen wsX8_refuse := goodIn_r _ [10, 11, 24, 25, 26, 27, 28, 29, 30, 31, 32] (by decide +kernel) (by decide +kernel)
set_option maxRecDepth 20000 in
theorem gX8_seen_X8_refuse : GoodIn wsX8_seen (wsV RX8 56 RX8 yX8_refuse wsX8_refuse) := goodIn_app (goodIn_of _ (by decide +kernel)) ggX8_seen_X8_refuse
set_option maxRecDepth 20000 in
theorem ggX8_seen_X3_isFull : GoodIn wsX8_seen wsX3_isFull := goodIn_r _ [16, 17, 42, 43] (by decide +kernel) (by decide +kernel)
set_option maxRecDepth 20000 in
theorem gX8_seen_X3_isFull : GoodIn wsX8_seen (wsV RX8 189 RX3 yX3_isFull wsX3_isFull) := goodIn_app (goodIn_of _ (by decide +kernel)) ggX8_seen_X3_isFull
set_option maxRecDepth 20000 in
theorem ggX8_seen_X3_add : GoodIn wsX8_seen wsX3_add := goodIn_r _ [21, 17, 22, 23, 13, 14, 15, 16, 42, 43] (by decide +kernel) (by decide +kernel)
set_option maxRecDepth 20000 in
theorem gX8_seen_X3_add : GoodIn wsX8_seen (wsV RX8 192 RX3 yX3_add wsX3_add) := goodIn_app (goodIn_of _ (by decide +kernel)) ggX8_seen_X3_add
theorem dX8_seen_0 : decode cX8_seen 0 = .ok (.iload_n 1, 1) := by decide +kernel
theorem dX8_seen_1 : decode cX8_seen 1 = .ok (.iconst 0, 1) := by decide +kernel
theorem dX8_seen_2 : decode cX8_seen 2 = .ok (.bipush 6, 2) := by decide +kernel
theorem dX8_seen_4 : decode cX8_seen 4 = .ok (.invokestatic 74, 3) := by decide +kernel
theorem dX8_seen_7 : decode cX8_seen 7 = .ok (.ifCond .eq 48, 3) := by decide +kernel
theorem dX8_seen_10 : decode cX8_seen 10 = .ok (.iload_n 2, 1) := by decide +kernel
theorem dX8_seen_11 : decode cX8_seen 11 = .ok (.iconst 1, 1) := by decide +kernel
theorem dX8_seen_12 : decode cX8_seen 12 = .ok (.bipush 6, 2) := by decide +kernel
theorem dX8_seen_14 : decode cX8_seen 14 = .ok (.invokestatic 74, 3) := by decide +kernel
theorem dX8_seen_17 : decode cX8_seen 17 = .ok (.ifCond .eq 38, 3) := by decide +kernel
theorem dX8_seen_20 : decode cX8_seen 20 = .ok (.iload_n 3, 1) := by decide +kernel
theorem dX8_seen_21 : decode cX8_seen 21 = .ok (.iconst 0, 1) := by decide +kernel
theorem dX8_seen_22 : decode cX8_seen 22 = .ok (.bipush 9, 2) := by decide +kernel
theorem dX8_seen_24 : decode cX8_seen 24 = .ok (.invokestatic 74, 3) := by decide +kernel
theorem dX8_seen_27 : decode cX8_seen 27 = .ok (.ifCond .eq 28, 3) := by decide +kernel
theorem dX8_seen_30 : decode cX8_seen 30 = .ok (.iload 4, 2) := by decide +kernel
theorem dX8_seen_32 : decode cX8_seen 32 = .ok (.iconst 0, 1) := by decide +kernel
theorem dX8_seen_33 : decode cX8_seen 33 = .ok (.iconst 1, 1) := by decide +kernel
theorem dX8_seen_34 : decode cX8_seen 34 = .ok (.invokestatic 74, 3) := by decide +kernel
theorem dX8_seen_37 : decode cX8_seen 37 = .ok (.ifCond .eq 18, 3) := by decide +kernel
theorem dX8_seen_40 : decode cX8_seen 40 = .ok (.iload 5, 2) := by decide +kernel
theorem dX8_seen_42 : decode cX8_seen 42 = .ok (.iconst 1, 1) := by decide +kernel
theorem dX8_seen_43 : decode cX8_seen 43 = .ok (.bipush 7, 2) := by decide +kernel
theorem dX8_seen_45 : decode cX8_seen 45 = .ok (.invokestatic 74, 3) := by decide +kernel
theorem dX8_seen_48 : decode cX8_seen 48 = .ok (.ifCond .eq 7, 3) := by decide +kernel
theorem dX8_seen_51 : decode cX8_seen 51 = .ok (.iconst 1, 1) := by decide +kernel
theorem dX8_seen_52 : decode cX8_seen 52 = .ok (.goto 4, 3) := by decide +kernel
theorem dX8_seen_55 : decode cX8_seen 55 = .ok (.iconst 0, 1) := by decide +kernel
theorem dX8_seen_56 : decode cX8_seen 56 = .ok (.istore 6, 2) := by decide +kernel
theorem dX8_seen_58 : decode cX8_seen 58 = .ok (.iload 6, 2) := by decide +kernel
theorem dX8_seen_60 : decode cX8_seen 60 = .ok (.ifCond .ne 10, 3) := by decide +kernel
theorem dX8_seen_63 : decode cX8_seen 63 = .ok (.aload_n 0, 1) := by decide +kernel
theorem dX8_seen_64 : decode cX8_seen 64 = .ok (.bipush (-2), 2) := by decide +kernel
theorem dX8_seen_66 : decode cX8_seen 66 = .ok (.invokevirtual 56, 3) := by decide +kernel
theorem dX8_seen_69 : decode cX8_seen 69 = .ok (.ireturn, 1) := by decide +kernel
theorem dX8_seen_70 : decode cX8_seen 70 = .ok (.aload_n 0, 1) := by decide +kernel
theorem dX8_seen_71 : decode cX8_seen 71 = .ok (.getfield 10, 3) := by decide +kernel
theorem dX8_seen_74 : decode cX8_seen 74 = .ok (.getfield 185, 3) := by decide +kernel
theorem dX8_seen_77 : decode cX8_seen 77 = .ok (.invokevirtual 189, 3) := by decide +kernel
theorem dX8_seen_80 : decode cX8_seen 80 = .ok (.ifCond .eq 10, 3) := by decide +kernel
theorem dX8_seen_83 : decode cX8_seen 83 = .ok (.aload_n 0, 1) := by decide +kernel
theorem dX8_seen_84 : decode cX8_seen 84 = .ok (.bipush (-4), 2) := by decide +kernel
theorem dX8_seen_86 : decode cX8_seen 86 = .ok (.invokevirtual 56, 3) := by decide +kernel
theorem dX8_seen_89 : decode cX8_seen 89 = .ok (.ireturn, 1) := by decide +kernel
theorem dX8_seen_90 : decode cX8_seen 90 = .ok (.aload_n 0, 1) := by decide +kernel
theorem dX8_seen_91 : decode cX8_seen 91 = .ok (.getfield 10, 3) := by decide +kernel
theorem dX8_seen_94 : decode cX8_seen 94 = .ok (.getfield 185, 3) := by decide +kernel
theorem dX8_seen_97 : decode cX8_seen 97 = .ok (.iload_n 1, 1) := by decide +kernel
theorem dX8_seen_98 : decode cX8_seen 98 = .ok (.iload_n 2, 1) := by decide +kernel
theorem dX8_seen_99 : decode cX8_seen 99 = .ok (.iload_n 3, 1) := by decide +kernel
theorem dX8_seen_100 : decode cX8_seen 100 = .ok (.iload 4, 2) := by decide +kernel
theorem dX8_seen_102 : decode cX8_seen 102 = .ok (.iload 5, 2) := by decide +kernel
theorem dX8_seen_104 : decode cX8_seen 104 = .ok (.invokevirtual 192, 3) := by decide +kernel
theorem dX8_seen_107 : decode cX8_seen 107 = .ok (.ireturn, 1) := by decide +kernel
set_option maxRecDepth 20000 in
theorem ggX8_forget_X8_within : GoodIn wsX8_forget wsX8_within := goodIn_r _ [9] (by decide +kernel) (by decide +kernel)
set_option maxRecDepth 20000 in
theorem gX8_forget_X8_within : GoodIn wsX8_forget (va_wsS RX8 74 yX8_within wsX8_within) := goodIn_app (goodIn_of _ (by decide +kernel)) ggX8_forget_X8_within
set_option maxRecDepth 20000 in
theorem ggX8_forget_X8_refuse : GoodIn wsX8_forget wsX8_refuse := goodIn_r _ [13, 14, 15, 16, 17, 18, 19, 20, 21, 22, 23] (by decide +kernel) (by decide +kernel)
set_option maxRecDepth 20000 in
theorem gX8_forget_X8_refuse : GoodIn wsX8_forget (wsV RX8 56 RX8 yX8_refuse wsX8_refuse) := goodIn_app (goodIn_of _ (by decide +kernel)) ggX8_forget_X8_refuse
theorem dX8_forget_0 : decode cX8_forget 0 = .ok (.iload_n 1, 1) := by decide +kernel
theorem dX8_forget_1 : decode cX8_forget 1 = .ok (.iconst 0, 1) := by decide +kernel
theorem dX8_forget_2 : decode cX8_forget 2 = .ok (.iconst 1, 1) := by decide +kernel
theorem dX8_forget_3 : decode cX8_forget 3 = .ok (.invokestatic 74, 3) := by decide +kernel
theorem dX8_forget_6 : decode cX8_forget 6 = .ok (.ifCond .ne 10, 3) := by decide +kernel
theorem dX8_forget_9 : decode cX8_forget 9 = .ok (.aload_n 0, 1) := by decide +kernel
theorem dX8_forget_10 : decode cX8_forget 10 = .ok (.bipush (-2), 2) := by decide +kernel
theorem dX8_forget_12 : decode cX8_forget 12 = .ok (.invokevirtual 56, 3) := by decide +kernel
theorem dX8_forget_15 : decode cX8_forget 15 = .ok (.ireturn, 1) := by decide +kernel
theorem dX8_forget_16 : decode cX8_forget 16 = .ok (.iload_n 1, 1) := by decide +kernel
theorem dX8_forget_17 : decode cX8_forget 17 = .ok (.ifCond .ne 16, 3) := by decide +kernel
theorem dX8_forget_20 : decode cX8_forget 20 = .ok (.aload_n 0, 1) := by decide +kernel
theorem dX8_forget_21 : decode cX8_forget 21 = .ok (.getfield 10, 3) := by decide +kernel
theorem dX8_forget_24 : decode cX8_forget 24 = .ok (.getfield 170, 3) := by decide +kernel
theorem dX8_forget_27 : decode cX8_forget 27 = .ok (.getfield 195, 3) := by decide +kernel
theorem dX8_forget_30 : decode cX8_forget 30 = .ok (.goto 13, 3) := by decide +kernel
theorem dX8_forget_33 : decode cX8_forget 33 = .ok (.aload_n 0, 1) := by decide +kernel
theorem dX8_forget_34 : decode cX8_forget 34 = .ok (.getfield 10, 3) := by decide +kernel
theorem dX8_forget_37 : decode cX8_forget 37 = .ok (.getfield 185, 3) := by decide +kernel
theorem dX8_forget_40 : decode cX8_forget 40 = .ok (.getfield 196, 3) := by decide +kernel
theorem dX8_forget_43 : decode cX8_forget 43 = .ok (.istore_n 2, 1) := by decide +kernel
theorem dX8_forget_44 : decode cX8_forget 44 = .ok (.iload_n 1, 1) := by decide +kernel
theorem dX8_forget_45 : decode cX8_forget 45 = .ok (.ifCond .ne 17, 3) := by decide +kernel
theorem dX8_forget_48 : decode cX8_forget 48 = .ok (.aload_n 0, 1) := by decide +kernel
theorem dX8_forget_49 : decode cX8_forget 49 = .ok (.getfield 10, 3) := by decide +kernel
theorem dX8_forget_52 : decode cX8_forget 52 = .ok (.getfield 170, 3) := by decide +kernel
theorem dX8_forget_55 : decode cX8_forget 55 = .ok (.iconst 0, 1) := by decide +kernel
theorem dX8_forget_56 : decode cX8_forget 56 = .ok (.putfield 195, 3) := by decide +kernel
theorem dX8_forget_59 : decode cX8_forget 59 = .ok (.goto 14, 3) := by decide +kernel
theorem dX8_forget_62 : decode cX8_forget 62 = .ok (.aload_n 0, 1) := by decide +kernel
theorem dX8_forget_63 : decode cX8_forget 63 = .ok (.getfield 10, 3) := by decide +kernel
theorem dX8_forget_66 : decode cX8_forget 66 = .ok (.getfield 185, 3) := by decide +kernel
theorem dX8_forget_69 : decode cX8_forget 69 = .ok (.iconst 0, 1) := by decide +kernel
theorem dX8_forget_70 : decode cX8_forget 70 = .ok (.putfield 196, 3) := by decide +kernel
theorem dX8_forget_73 : decode cX8_forget 73 = .ok (.iload_n 2, 1) := by decide +kernel
theorem dX8_forget_74 : decode cX8_forget 74 = .ok (.ireturn, 1) := by decide +kernel
set_option maxRecDepth 20000 in
theorem ggX8_is_X3_kinds : GoodIn wsX8_is wsX3_kinds := goodIn_r _ [7, 8, 9, 10, 6, 11, 12, 13, 14, 15, 16, 17, 36, 37] (by decide +kernel) (by decide +kernel)
set_option maxRecDepth 20000 in
theorem gX8_is_X3_kinds : GoodIn wsX8_is (wsV RX8 197 RX3 yX3_kinds wsX3_kinds) := goodIn_app (goodIn_of _ (by decide +kernel)) ggX8_is_X3_kinds
theorem dX8_is_0 : decode cX8_is 0 = .ok (.aload_n 0, 1) := by decide +kernel
theorem dX8_is_1 : decode cX8_is 1 = .ok (.getfield 10, 3) := by decide +kernel
theorem dX8_is_4 : decode cX8_is 4 = .ok (.getfield 185, 3) := by decide +kernel
theorem dX8_is_7 : decode cX8_is 7 = .ok (.invokevirtual 197, 3) := by decide +kernel
theorem dX8_is_10 : decode cX8_is 10 = .ok (.ireturn, 1) := by decide +kernel
set_option maxRecDepth 20000 in
theorem ggX8_look_X3_kinds : GoodIn wsX8_look wsX3_kinds := goodIn_r _ [8, 9, 10, 11, 7, 12, 13, 14, 15, 16, 17, 18, 64, 65] (by decide +kernel) (by decide +kernel)
set_option maxRecDepth 20000 in
theorem gX8_look_X3_kinds : GoodIn wsX8_look (wsV RX8 197 RX3 yX3_kinds wsX3_kinds) := goodIn_app (goodIn_of _ (by decide +kernel)) ggX8_look_X3_kinds
set_option maxRecDepth 20000 in
theorem ggX8_look_X5_bestLook : GoodIn wsX8_look wsX5_bestLook := goodIn_r _ [23, 24, 25, 26, 27, 28, 22, 29, 30, 31, 32, 33, 34, 35, 36, 37, 38, 39, 40, 41, 42, 43, 16, 17, 18, 44, 45, 55, 56, 57, 58, 59, 60, 61, 62, 63, 66, 67, 68, 69, 70, 71, 72, 73] (by decide +kernel) (by decide +kernel)
set_option maxRecDepth 20000 in
theorem gX8_look_X5_bestLook : GoodIn wsX8_look (wsV RX8 200 RX5 yX5_bestLook wsX5_bestLook) := goodIn_app (goodIn_of _ (by decide +kernel)) ggX8_look_X5_bestLook
theorem dX8_look_0 : decode cX8_look 0 = .ok (.aload_n 0, 1) := by decide +kernel
theorem dX8_look_1 : decode cX8_look 1 = .ok (.getfield 30, 3) := by decide +kernel
theorem dX8_look_4 : decode cX8_look 4 = .ok (.aload_n 0, 1) := by decide +kernel
theorem dX8_look_5 : decode cX8_look 5 = .ok (.getfield 10, 3) := by decide +kernel
theorem dX8_look_8 : decode cX8_look 8 = .ok (.aload_n 0, 1) := by decide +kernel
theorem dX8_look_9 : decode cX8_look 9 = .ok (.getfield 10, 3) := by decide +kernel
theorem dX8_look_12 : decode cX8_look 12 = .ok (.getfield 185, 3) := by decide +kernel
theorem dX8_look_15 : decode cX8_look 15 = .ok (.invokevirtual 197, 3) := by decide +kernel
theorem dX8_look_18 : decode cX8_look 18 = .ok (.invokevirtual 200, 3) := by decide +kernel
theorem dX8_look_21 : decode cX8_look 21 = .ok (.ireturn, 1) := by decide +kernel
set_option maxRecDepth 20000 in
theorem ggX8_writes_X0_has : GoodIn wsX8_writes wsX0_has := goodIn_r _ [8, 9, 83, 84, 85, 86, 87, 88] (by decide +kernel) (by decide +kernel)
set_option maxRecDepth 20000 in
theorem gX8_writes_X0_has : GoodIn wsX8_writes (wsV RX8 93 RX0 yX0_has wsX0_has) := goodIn_app (goodIn_of _ (by decide +kernel)) ggX8_writes_X0_has
set_option maxRecDepth 20000 in
theorem ggX8_writes_X8_refuse : GoodIn wsX8_writes wsX8_refuse := goodIn_r _ [14, 15, 65, 66, 67, 68, 69, 70, 71, 72, 73] (by decide +kernel) (by decide +kernel)
set_option maxRecDepth 20000 in
theorem gX8_writes_X8_refuse : GoodIn wsX8_writes (wsV RX8 56 RX8 yX8_refuse wsX8_refuse) := goodIn_app (goodIn_of _ (by decide +kernel)) ggX8_writes_X8_refuse
set_option maxRecDepth 20000 in
theorem ggX8_writes_X5_pairsAtRest : GoodIn wsX8_writes wsX5_pairsAtRest := goodIn_r _ [20, 21, 22, 23, 19, 24, 25, 26, 27, 28, 29, 30, 31, 32, 33, 34, 35, 36, 37, 38, 39, 40, 41, 42, 43, 44, 45, 46, 47, 48, 49, 7, 50, 51, 52, 53, 54, 55, 56, 57, 58, 59, 60, 61, 62, 63, 64, 74, 75, 76, 77, 78, 79, 80, 81, 82, 83, 84, 85, 86, 87, 88] (by decide +kernel) (by decide +kernel)
set_option maxRecDepth 20000 in
theorem gX8_writes_X5_pairsAtRest : GoodIn wsX8_writes (wsV RX8 203 RX5 yX5_pairsAtRest wsX5_pairsAtRest) := goodIn_app (goodIn_of _ (by decide +kernel)) ggX8_writes_X5_pairsAtRest
theorem dX8_writes_0 : decode cX8_writes 0 = .ok (.aload_n 0, 1) := by decide +kernel
theorem dX8_writes_1 : decode cX8_writes 1 = .ok (.getfield 10, 3) := by decide +kernel
theorem dX8_writes_4 : decode cX8_writes 4 = .ok (.getfield 60, 3) := by decide +kernel
theorem dX8_writes_7 : decode cX8_writes 7 = .ok (.iload_n 1, 1) := by decide +kernel
theorem dX8_writes_8 : decode cX8_writes 8 = .ok (.invokevirtual 93, 3) := by decide +kernel
theorem dX8_writes_11 : decode cX8_writes 11 = .ok (.ifCond .ne 10, 3) := by decide +kernel
theorem dX8_writes_14 : decode cX8_writes 14 = .ok (.aload_n 0, 1) := by decide +kernel
theorem dX8_writes_15 : decode cX8_writes 15 = .ok (.bipush (-2), 2) := by decide +kernel
theorem dX8_writes_17 : decode cX8_writes 17 = .ok (.invokevirtual 56, 3) := by decide +kernel
theorem dX8_writes_20 : decode cX8_writes 20 = .ok (.ireturn, 1) := by decide +kernel
theorem dX8_writes_21 : decode cX8_writes 21 = .ok (.aload_n 0, 1) := by decide +kernel
theorem dX8_writes_22 : decode cX8_writes 22 = .ok (.getfield 30, 3) := by decide +kernel
theorem dX8_writes_25 : decode cX8_writes 25 = .ok (.aload_n 0, 1) := by decide +kernel
theorem dX8_writes_26 : decode cX8_writes 26 = .ok (.getfield 10, 3) := by decide +kernel
theorem dX8_writes_29 : decode cX8_writes 29 = .ok (.iload_n 1, 1) := by decide +kernel
theorem dX8_writes_30 : decode cX8_writes 30 = .ok (.invokevirtual 203, 3) := by decide +kernel
theorem dX8_writes_33 : decode cX8_writes 33 = .ok (.ireturn, 1) := by decide +kernel
set_option maxRecDepth 20000 in
theorem ggX8_heard_X8_within : GoodIn wsX8_heard wsX8_within := goodIn_r _ [6] (by decide +kernel) (by decide +kernel)
set_option maxRecDepth 20000 in
theorem gX8_heard_X8_within : GoodIn wsX8_heard (va_wsS RX8 74 yX8_within wsX8_within) := goodIn_app (goodIn_of _ (by decide +kernel)) ggX8_heard_X8_within
set_option maxRecDepth 20000 in
theorem ggX8_heard_X8_refuse : GoodIn wsX8_heard wsX8_refuse := goodIn_r _ [10, 11, 55, 56, 57, 58, 59, 60, 61, 62, 63] (by decide +kernel) (by decide +kernel)
set_option maxRecDepth 20000 in
theorem gX8_heard_X8_refuse : GoodIn wsX8_heard (wsV RX8 56 RX8 yX8_refuse wsX8_refuse) := goodIn_app (goodIn_of _ (by decide +kernel)) ggX8_heard_X8_refuse
set_option maxRecDepth 20000 in
theorem ggX8_heard_X5_costUnheard : GoodIn wsX8_heard wsX5_costUnheard := goodIn_r _ [16, 17, 18, 19, 20, 21, 22, 23, 24, 25, 26, 27, 28, 29, 30, 31, 32, 33, 34, 35, 36, 37, 38, 39, 40, 41, 42, 43, 44, 45, 46, 47, 48, 64, 65, 66, 67, 68, 69, 70, 71, 72, 73, 74, 75, 76, 77, 78] (by decide +kernel) (by decide +kernel)
set_option maxRecDepth 20000 in
theorem gX8_heard_X5_costUnheard : GoodIn wsX8_heard (wsV RX8 206 RX5 yX5_costUnheard wsX5_costUnheard) := goodIn_app (goodIn_of _ (by decide +kernel)) ggX8_heard_X5_costUnheard
set_option maxRecDepth 20000 in
theorem ggX8_heard_X8_setFraction : GoodIn wsX8_heard wsX8_setFraction := goodIn_r _ [52, 53, 54, 55, 56, 57, 58, 59, 60, 61, 62, 63] (by decide +kernel) (by decide +kernel)
set_option maxRecDepth 20000 in
theorem gX8_heard_X8_setFraction : GoodIn wsX8_heard (wsV RX8 209 RX8 yX8_setFraction wsX8_setFraction) := goodIn_app (goodIn_of _ (by decide +kernel)) ggX8_heard_X8_setFraction
theorem dX8_heard_0 : decode cX8_heard 0 = .ok (.iload_n 1, 1) := by decide +kernel
theorem dX8_heard_1 : decode cX8_heard 1 = .ok (.iconst 0, 1) := by decide +kernel
theorem dX8_heard_2 : decode cX8_heard 2 = .ok (.bipush 10, 2) := by decide +kernel
theorem dX8_heard_4 : decode cX8_heard 4 = .ok (.invokestatic 74, 3) := by decide +kernel
theorem dX8_heard_7 : decode cX8_heard 7 = .ok (.ifCond .ne 10, 3) := by decide +kernel
theorem dX8_heard_10 : decode cX8_heard 10 = .ok (.aload_n 0, 1) := by decide +kernel

