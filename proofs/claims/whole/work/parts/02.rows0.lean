theorem dX0_init_0 : decode cX0_init 0 = .ok (.aload_n 0, 1) := by decide +kernel
theorem dX0_init_1 : decode cX0_init 1 = .ok (.invokespecial 3, 3) := by decide +kernel
theorem dX0_init_4 : decode cX0_init 4 = .ok (.aload_n 0, 1) := by decide +kernel
theorem dX0_init_5 : decode cX0_init 5 = .ok (.bipush 8, 2) := by decide +kernel
theorem dX0_init_7 : decode cX0_init 7 = .ok (.newarray .int, 2) := by decide +kernel
theorem dX0_init_9 : decode cX0_init 9 = .ok (.putfield 9, 3) := by decide +kernel
theorem dX0_init_12 : decode cX0_init 12 = .ok (.aload_n 0, 1) := by decide +kernel
theorem dX0_init_13 : decode cX0_init 13 = .ok (.bipush 8, 2) := by decide +kernel
theorem dX0_init_15 : decode cX0_init 15 = .ok (.newarray .int, 2) := by decide +kernel
theorem dX0_init_17 : decode cX0_init 17 = .ok (.putfield 15, 3) := by decide +kernel
theorem dX0_init_20 : decode cX0_init 20 = .ok (.aload_n 0, 1) := by decide +kernel
theorem dX0_init_21 : decode cX0_init 21 = .ok (.bipush 8, 2) := by decide +kernel
theorem dX0_init_23 : decode cX0_init 23 = .ok (.newarray .int, 2) := by decide +kernel
theorem dX0_init_25 : decode cX0_init 25 = .ok (.putfield 18, 3) := by decide +kernel
theorem dX0_init_28 : decode cX0_init 28 = .ok (.aload_n 0, 1) := by decide +kernel
theorem dX0_init_29 : decode cX0_init 29 = .ok (.bipush 8, 2) := by decide +kernel
theorem dX0_init_31 : decode cX0_init 31 = .ok (.newarray .int, 2) := by decide +kernel
theorem dX0_init_33 : decode cX0_init 33 = .ok (.putfield 21, 3) := by decide +kernel
theorem dX0_init_36 : decode cX0_init 36 = .ok (.aload_n 0, 1) := by decide +kernel
theorem dX0_init_37 : decode cX0_init 37 = .ok (.bipush 8, 2) := by decide +kernel
theorem dX0_init_39 : decode cX0_init 39 = .ok (.newarray .int, 2) := by decide +kernel
theorem dX0_init_41 : decode cX0_init 41 = .ok (.putfield 24, 3) := by decide +kernel
theorem dX0_init_44 : decode cX0_init 44 = .ok (.aload_n 0, 1) := by decide +kernel
theorem dX0_init_45 : decode cX0_init 45 = .ok (.iconst 0, 1) := by decide +kernel
theorem dX0_init_46 : decode cX0_init 46 = .ok (.putfield 27, 3) := by decide +kernel
theorem dX0_init_49 : decode cX0_init 49 = .ok (.return_, 1) := by decide +kernel
theorem dX0_isFull_0 : decode cX0_isFull 0 = .ok (.aload_n 0, 1) := by decide +kernel
theorem dX0_isFull_1 : decode cX0_isFull 1 = .ok (.getfield 27, 3) := by decide +kernel
theorem dX0_isFull_4 : decode cX0_isFull 4 = .ok (.bipush 8, 2) := by decide +kernel
theorem dX0_isFull_6 : decode cX0_isFull 6 = .ok (.if_icmp .lt 7, 3) := by decide +kernel
theorem dX0_isFull_9 : decode cX0_isFull 9 = .ok (.iconst 1, 1) := by decide +kernel
theorem dX0_isFull_10 : decode cX0_isFull 10 = .ok (.goto 4, 3) := by decide +kernel
theorem dX0_isFull_13 : decode cX0_isFull 13 = .ok (.iconst 0, 1) := by decide +kernel
theorem dX0_isFull_14 : decode cX0_isFull 14 = .ok (.ireturn, 1) := by decide +kernel
theorem dX0_has_0 : decode cX0_has 0 = .ok (.iload_n 1, 1) := by decide +kernel
theorem dX0_has_1 : decode cX0_has 1 = .ok (.ifCond .lt 15, 3) := by decide +kernel
theorem dX0_has_4 : decode cX0_has 4 = .ok (.iload_n 1, 1) := by decide +kernel
theorem dX0_has_5 : decode cX0_has 5 = .ok (.aload_n 0, 1) := by decide +kernel
theorem dX0_has_6 : decode cX0_has 6 = .ok (.getfield 27, 3) := by decide +kernel
theorem dX0_has_9 : decode cX0_has 9 = .ok (.if_icmp .ge 7, 3) := by decide +kernel
theorem dX0_has_12 : decode cX0_has 12 = .ok (.iconst 1, 1) := by decide +kernel
theorem dX0_has_13 : decode cX0_has 13 = .ok (.goto 4, 3) := by decide +kernel
theorem dX0_has_16 : decode cX0_has 16 = .ok (.iconst 0, 1) := by decide +kernel
theorem dX0_has_17 : decode cX0_has 17 = .ok (.ireturn, 1) := by decide +kernel
set_option maxRecDepth 20000 in
theorem ggX0_add_X0_isFull : GoodIn wsX0_add wsX0_isFull := goodIn_r _ [11, 2, 12, 13, 14, 15, 16, 17] (by decide +kernel) (by decide +kernel)
set_option maxRecDepth 20000 in
theorem gX0_add_X0_isFull : GoodIn wsX0_add (wsV RX0 31 RX0 yX0_isFull wsX0_isFull) := goodIn_app (goodIn_of _ (by decide +kernel)) ggX0_add_X0_isFull
theorem dX0_add_0 : decode cX0_add 0 = .ok (.aload_n 0, 1) := by decide +kernel
theorem dX0_add_1 : decode cX0_add 1 = .ok (.invokevirtual 31, 3) := by decide +kernel
theorem dX0_add_4 : decode cX0_add 4 = .ok (.ifCond .eq 6, 3) := by decide +kernel
theorem dX0_add_7 : decode cX0_add 7 = .ok (.bipush (-4), 2) := by decide +kernel
theorem dX0_add_9 : decode cX0_add 9 = .ok (.ireturn, 1) := by decide +kernel
theorem dX0_add_10 : decode cX0_add 10 = .ok (.aload_n 0, 1) := by decide +kernel
theorem dX0_add_11 : decode cX0_add 11 = .ok (.getfield 9, 3) := by decide +kernel
theorem dX0_add_14 : decode cX0_add 14 = .ok (.aload_n 0, 1) := by decide +kernel
theorem dX0_add_15 : decode cX0_add 15 = .ok (.getfield 27, 3) := by decide +kernel
theorem dX0_add_18 : decode cX0_add 18 = .ok (.iload_n 1, 1) := by decide +kernel
theorem dX0_add_19 : decode cX0_add 19 = .ok (.iastore, 1) := by decide +kernel
theorem dX0_add_20 : decode cX0_add 20 = .ok (.aload_n 0, 1) := by decide +kernel
theorem dX0_add_21 : decode cX0_add 21 = .ok (.getfield 15, 3) := by decide +kernel
theorem dX0_add_24 : decode cX0_add 24 = .ok (.aload_n 0, 1) := by decide +kernel
theorem dX0_add_25 : decode cX0_add 25 = .ok (.getfield 27, 3) := by decide +kernel
theorem dX0_add_28 : decode cX0_add 28 = .ok (.iload_n 2, 1) := by decide +kernel
theorem dX0_add_29 : decode cX0_add 29 = .ok (.iastore, 1) := by decide +kernel
theorem dX0_add_30 : decode cX0_add 30 = .ok (.aload_n 0, 1) := by decide +kernel
theorem dX0_add_31 : decode cX0_add 31 = .ok (.getfield 18, 3) := by decide +kernel
theorem dX0_add_34 : decode cX0_add 34 = .ok (.aload_n 0, 1) := by decide +kernel
theorem dX0_add_35 : decode cX0_add 35 = .ok (.getfield 27, 3) := by decide +kernel
theorem dX0_add_38 : decode cX0_add 38 = .ok (.iload_n 3, 1) := by decide +kernel
theorem dX0_add_39 : decode cX0_add 39 = .ok (.iastore, 1) := by decide +kernel
theorem dX0_add_40 : decode cX0_add 40 = .ok (.aload_n 0, 1) := by decide +kernel
theorem dX0_add_41 : decode cX0_add 41 = .ok (.getfield 21, 3) := by decide +kernel
theorem dX0_add_44 : decode cX0_add 44 = .ok (.aload_n 0, 1) := by decide +kernel
theorem dX0_add_45 : decode cX0_add 45 = .ok (.getfield 27, 3) := by decide +kernel
theorem dX0_add_48 : decode cX0_add 48 = .ok (.iload 4, 2) := by decide +kernel
theorem dX0_add_50 : decode cX0_add 50 = .ok (.iastore, 1) := by decide +kernel
theorem dX0_add_51 : decode cX0_add 51 = .ok (.aload_n 0, 1) := by decide +kernel
theorem dX0_add_52 : decode cX0_add 52 = .ok (.getfield 24, 3) := by decide +kernel
theorem dX0_add_55 : decode cX0_add 55 = .ok (.aload_n 0, 1) := by decide +kernel
theorem dX0_add_56 : decode cX0_add 56 = .ok (.getfield 27, 3) := by decide +kernel
theorem dX0_add_59 : decode cX0_add 59 = .ok (.iconst 0, 1) := by decide +kernel
theorem dX0_add_60 : decode cX0_add 60 = .ok (.iastore, 1) := by decide +kernel
theorem dX0_add_61 : decode cX0_add 61 = .ok (.aload_n 0, 1) := by decide +kernel
theorem dX0_add_62 : decode cX0_add 62 = .ok (.dup, 1) := by decide +kernel
theorem dX0_add_63 : decode cX0_add 63 = .ok (.getfield 27, 3) := by decide +kernel
theorem dX0_add_66 : decode cX0_add 66 = .ok (.iconst 1, 1) := by decide +kernel
theorem dX0_add_67 : decode cX0_add 67 = .ok (.iadd, 1) := by decide +kernel
theorem dX0_add_68 : decode cX0_add 68 = .ok (.putfield 27, 3) := by decide +kernel
theorem dX0_add_71 : decode cX0_add 71 = .ok (.aload_n 0, 1) := by decide +kernel
theorem dX0_add_72 : decode cX0_add 72 = .ok (.getfield 27, 3) := by decide +kernel
theorem dX0_add_75 : decode cX0_add 75 = .ok (.iconst 1, 1) := by decide +kernel
theorem dX0_add_76 : decode cX0_add 76 = .ok (.isub, 1) := by decide +kernel
theorem dX0_add_77 : decode cX0_add 77 = .ok (.ireturn, 1) := by decide +kernel
theorem dX0_holds_0 : decode cX0_holds 0 = .ok (.aload_n 0, 1) := by decide +kernel
theorem dX0_holds_1 : decode cX0_holds 1 = .ok (.getfield 15, 3) := by decide +kernel
theorem dX0_holds_4 : decode cX0_holds 4 = .ok (.iload_n 1, 1) := by decide +kernel
theorem dX0_holds_5 : decode cX0_holds 5 = .ok (.iaload, 1) := by decide +kernel
theorem dX0_holds_6 : decode cX0_holds 6 = .ok (.iconst 1, 1) := by decide +kernel
theorem dX0_holds_7 : decode cX0_holds 7 = .ok (.if_icmp .le 19, 3) := by decide +kernel
theorem dX0_holds_10 : decode cX0_holds 10 = .ok (.aload_n 0, 1) := by decide +kernel
theorem dX0_holds_11 : decode cX0_holds 11 = .ok (.getfield 15, 3) := by decide +kernel
theorem dX0_holds_14 : decode cX0_holds 14 = .ok (.iload_n 1, 1) := by decide +kernel
theorem dX0_holds_15 : decode cX0_holds 15 = .ok (.iaload, 1) := by decide +kernel
theorem dX0_holds_16 : decode cX0_holds 16 = .ok (.aload_n 0, 1) := by decide +kernel
theorem dX0_holds_17 : decode cX0_holds 17 = .ok (.getfield 24, 3) := by decide +kernel
theorem dX0_holds_20 : decode cX0_holds 20 = .ok (.iload_n 1, 1) := by decide +kernel
theorem dX0_holds_21 : decode cX0_holds 21 = .ok (.iaload, 1) := by decide +kernel
theorem dX0_holds_22 : decode cX0_holds 22 = .ok (.isub, 1) := by decide +kernel
theorem dX0_holds_23 : decode cX0_holds 23 = .ok (.goto 4, 3) := by decide +kernel
theorem dX0_holds_26 : decode cX0_holds 26 = .ok (.iconst 1, 1) := by decide +kernel
theorem dX0_holds_27 : decode cX0_holds 27 = .ok (.ireturn, 1) := by decide +kernel
set_option maxRecDepth 20000 in
theorem ggX0_tell_X0_holds : GoodIn wsX0_tell wsX0_holds := goodIn_r _ [10, 2, 5, 11, 12, 13, 14, 15, 16] (by decide +kernel) (by decide +kernel)
set_option maxRecDepth 20000 in
theorem gX0_tell_X0_holds : GoodIn wsX0_tell (wsV RX0 35 RX0 yX0_holds wsX0_holds) := goodIn_app (goodIn_of _ (by decide +kernel)) ggX0_tell_X0_holds
theorem dX0_tell_0 : decode cX0_tell 0 = .ok (.iload_n 2, 1) := by decide +kernel
theorem dX0_tell_1 : decode cX0_tell 1 = .ok (.tableswitch 70 0 4 #[35, 42, 49, 56, 63], 35) := by decide +kernel
theorem dX0_tell_36 : decode cX0_tell 36 = .ok (.aload_n 0, 1) := by decide +kernel
theorem dX0_tell_37 : decode cX0_tell 37 = .ok (.getfield 9, 3) := by decide +kernel
theorem dX0_tell_40 : decode cX0_tell 40 = .ok (.iload_n 1, 1) := by decide +kernel
theorem dX0_tell_41 : decode cX0_tell 41 = .ok (.iaload, 1) := by decide +kernel
theorem dX0_tell_42 : decode cX0_tell 42 = .ok (.ireturn, 1) := by decide +kernel
theorem dX0_tell_43 : decode cX0_tell 43 = .ok (.aload_n 0, 1) := by decide +kernel
theorem dX0_tell_44 : decode cX0_tell 44 = .ok (.getfield 15, 3) := by decide +kernel
theorem dX0_tell_47 : decode cX0_tell 47 = .ok (.iload_n 1, 1) := by decide +kernel
theorem dX0_tell_48 : decode cX0_tell 48 = .ok (.iaload, 1) := by decide +kernel
theorem dX0_tell_49 : decode cX0_tell 49 = .ok (.ireturn, 1) := by decide +kernel
theorem dX0_tell_50 : decode cX0_tell 50 = .ok (.aload_n 0, 1) := by decide +kernel
theorem dX0_tell_51 : decode cX0_tell 51 = .ok (.getfield 18, 3) := by decide +kernel
theorem dX0_tell_54 : decode cX0_tell 54 = .ok (.iload_n 1, 1) := by decide +kernel
theorem dX0_tell_55 : decode cX0_tell 55 = .ok (.iaload, 1) := by decide +kernel
theorem dX0_tell_56 : decode cX0_tell 56 = .ok (.ireturn, 1) := by decide +kernel
theorem dX0_tell_57 : decode cX0_tell 57 = .ok (.aload_n 0, 1) := by decide +kernel
theorem dX0_tell_58 : decode cX0_tell 58 = .ok (.getfield 21, 3) := by decide +kernel
theorem dX0_tell_61 : decode cX0_tell 61 = .ok (.iload_n 1, 1) := by decide +kernel
theorem dX0_tell_62 : decode cX0_tell 62 = .ok (.iaload, 1) := by decide +kernel
theorem dX0_tell_63 : decode cX0_tell 63 = .ok (.ireturn, 1) := by decide +kernel
theorem dX0_tell_64 : decode cX0_tell 64 = .ok (.aload_n 0, 1) := by decide +kernel
theorem dX0_tell_65 : decode cX0_tell 65 = .ok (.getfield 24, 3) := by decide +kernel
theorem dX0_tell_68 : decode cX0_tell 68 = .ok (.iload_n 1, 1) := by decide +kernel
theorem dX0_tell_69 : decode cX0_tell 69 = .ok (.iaload, 1) := by decide +kernel
theorem dX0_tell_70 : decode cX0_tell 70 = .ok (.ireturn, 1) := by decide +kernel
theorem dX0_tell_71 : decode cX0_tell 71 = .ok (.aload_n 0, 1) := by decide +kernel
theorem dX0_tell_72 : decode cX0_tell 72 = .ok (.iload_n 1, 1) := by decide +kernel
theorem dX0_tell_73 : decode cX0_tell 73 = .ok (.invokevirtual 35, 3) := by decide +kernel
theorem dX0_tell_76 : decode cX0_tell 76 = .ok (.ireturn, 1) := by decide +kernel
theorem dX0_noted_0 : decode cX0_noted 0 = .ok (.iconst 0, 1) := by decide +kernel
theorem dX0_noted_1 : decode cX0_noted 1 = .ok (.istore_n 1, 1) := by decide +kernel
theorem dX0_noted_2 : decode cX0_noted 2 = .ok (.iconst 0, 1) := by decide +kernel
theorem dX0_noted_3 : decode cX0_noted 3 = .ok (.istore_n 2, 1) := by decide +kernel
theorem dX0_noted_4 : decode cX0_noted 4 = .ok (.iload_n 2, 1) := by decide +kernel
theorem dX0_noted_5 : decode cX0_noted 5 = .ok (.aload_n 0, 1) := by decide +kernel
theorem dX0_noted_6 : decode cX0_noted 6 = .ok (.getfield 27, 3) := by decide +kernel
theorem dX0_noted_9 : decode cX0_noted 9 = .ok (.if_icmp .ge 21, 3) := by decide +kernel
theorem dX0_noted_12 : decode cX0_noted 12 = .ok (.aload_n 0, 1) := by decide +kernel
theorem dX0_noted_13 : decode cX0_noted 13 = .ok (.getfield 18, 3) := by decide +kernel
theorem dX0_noted_16 : decode cX0_noted 16 = .ok (.iload_n 2, 1) := by decide +kernel
theorem dX0_noted_17 : decode cX0_noted 17 = .ok (.iaload, 1) := by decide +kernel
theorem dX0_noted_18 : decode cX0_noted 18 = .ok (.ifCond .eq 6, 3) := by decide +kernel
theorem dX0_noted_21 : decode cX0_noted 21 = .ok (.iinc 1 1, 3) := by decide +kernel
theorem dX0_noted_24 : decode cX0_noted 24 = .ok (.iinc 2 1, 3) := by decide +kernel
theorem dX0_noted_27 : decode cX0_noted 27 = .ok (.goto (-23), 3) := by decide +kernel
theorem dX0_noted_30 : decode cX0_noted 30 = .ok (.iload_n 1, 1) := by decide +kernel
theorem dX0_noted_31 : decode cX0_noted 31 = .ok (.ireturn, 1) := by decide +kernel
theorem dX0_withMud_0 : decode cX0_withMud 0 = .ok (.iconst 0, 1) := by decide +kernel
theorem dX0_withMud_1 : decode cX0_withMud 1 = .ok (.istore_n 1, 1) := by decide +kernel
theorem dX0_withMud_2 : decode cX0_withMud 2 = .ok (.iconst 0, 1) := by decide +kernel
theorem dX0_withMud_3 : decode cX0_withMud 3 = .ok (.istore_n 2, 1) := by decide +kernel
theorem dX0_withMud_4 : decode cX0_withMud 4 = .ok (.iload_n 2, 1) := by decide +kernel
theorem dX0_withMud_5 : decode cX0_withMud 5 = .ok (.aload_n 0, 1) := by decide +kernel
theorem dX0_withMud_6 : decode cX0_withMud 6 = .ok (.getfield 27, 3) := by decide +kernel
theorem dX0_withMud_9 : decode cX0_withMud 9 = .ok (.if_icmp .ge 18, 3) := by decide +kernel
theorem dX0_withMud_12 : decode cX0_withMud 12 = .ok (.iload_n 1, 1) := by decide +kernel
theorem dX0_withMud_13 : decode cX0_withMud 13 = .ok (.aload_n 0, 1) := by decide +kernel
theorem dX0_withMud_14 : decode cX0_withMud 14 = .ok (.getfield 24, 3) := by decide +kernel
theorem dX0_withMud_17 : decode cX0_withMud 17 = .ok (.iload_n 2, 1) := by decide +kernel
theorem dX0_withMud_18 : decode cX0_withMud 18 = .ok (.iaload, 1) := by decide +kernel
theorem dX0_withMud_19 : decode cX0_withMud 19 = .ok (.iadd, 1) := by decide +kernel
theorem dX0_withMud_20 : decode cX0_withMud 20 = .ok (.istore_n 1, 1) := by decide +kernel
theorem dX0_withMud_21 : decode cX0_withMud 21 = .ok (.iinc 2 1, 3) := by decide +kernel
theorem dX0_withMud_24 : decode cX0_withMud 24 = .ok (.goto (-20), 3) := by decide +kernel
theorem dX0_withMud_27 : decode cX0_withMud 27 = .ok (.iload_n 1, 1) := by decide +kernel
theorem dX0_withMud_28 : decode cX0_withMud 28 = .ok (.ireturn, 1) := by decide +kernel
theorem dX0_take_0 : decode cX0_take 0 = .ok (.aload_n 1, 1) := by decide +kernel
theorem dX0_take_1 : decode cX0_take 1 = .ok (.getfield 9, 3) := by decide +kernel
theorem dX0_take_4 : decode cX0_take 4 = .ok (.iconst 0, 1) := by decide +kernel
theorem dX0_take_5 : decode cX0_take 5 = .ok (.aload_n 0, 1) := by decide +kernel
theorem dX0_take_6 : decode cX0_take 6 = .ok (.getfield 9, 3) := by decide +kernel
theorem dX0_take_9 : decode cX0_take 9 = .ok (.iconst 0, 1) := by decide +kernel
theorem dX0_take_10 : decode cX0_take 10 = .ok (.bipush 8, 2) := by decide +kernel
theorem dX0_take_12 : decode cX0_take 12 = .ok (.invokestatic 39, 3) := by decide +kernel
theorem dX0_take_15 : decode cX0_take 15 = .ok (.aload_n 1, 1) := by decide +kernel
theorem dX0_take_16 : decode cX0_take 16 = .ok (.getfield 15, 3) := by decide +kernel
theorem dX0_take_19 : decode cX0_take 19 = .ok (.iconst 0, 1) := by decide +kernel
theorem dX0_take_20 : decode cX0_take 20 = .ok (.aload_n 0, 1) := by decide +kernel
theorem dX0_take_21 : decode cX0_take 21 = .ok (.getfield 15, 3) := by decide +kernel
theorem dX0_take_24 : decode cX0_take 24 = .ok (.iconst 0, 1) := by decide +kernel
theorem dX0_take_25 : decode cX0_take 25 = .ok (.bipush 8, 2) := by decide +kernel
theorem dX0_take_27 : decode cX0_take 27 = .ok (.invokestatic 39, 3) := by decide +kernel
theorem dX0_take_30 : decode cX0_take 30 = .ok (.aload_n 1, 1) := by decide +kernel
theorem dX0_take_31 : decode cX0_take 31 = .ok (.getfield 18, 3) := by decide +kernel
theorem dX0_take_34 : decode cX0_take 34 = .ok (.iconst 0, 1) := by decide +kernel
theorem dX0_take_35 : decode cX0_take 35 = .ok (.aload_n 0, 1) := by decide +kernel
theorem dX0_take_36 : decode cX0_take 36 = .ok (.getfield 18, 3) := by decide +kernel
theorem dX0_take_39 : decode cX0_take 39 = .ok (.iconst 0, 1) := by decide +kernel
theorem dX0_take_40 : decode cX0_take 40 = .ok (.bipush 8, 2) := by decide +kernel
theorem dX0_take_42 : decode cX0_take 42 = .ok (.invokestatic 39, 3) := by decide +kernel
theorem dX0_take_45 : decode cX0_take 45 = .ok (.aload_n 1, 1) := by decide +kernel
theorem dX0_take_46 : decode cX0_take 46 = .ok (.getfield 21, 3) := by decide +kernel
theorem dX0_take_49 : decode cX0_take 49 = .ok (.iconst 0, 1) := by decide +kernel
theorem dX0_take_50 : decode cX0_take 50 = .ok (.aload_n 0, 1) := by decide +kernel
theorem dX0_take_51 : decode cX0_take 51 = .ok (.getfield 21, 3) := by decide +kernel
theorem dX0_take_54 : decode cX0_take 54 = .ok (.iconst 0, 1) := by decide +kernel
theorem dX0_take_55 : decode cX0_take 55 = .ok (.bipush 8, 2) := by decide +kernel
theorem dX0_take_57 : decode cX0_take 57 = .ok (.invokestatic 39, 3) := by decide +kernel
theorem dX0_take_60 : decode cX0_take 60 = .ok (.aload_n 1, 1) := by decide +kernel
theorem dX0_take_61 : decode cX0_take 61 = .ok (.getfield 24, 3) := by decide +kernel
theorem dX0_take_64 : decode cX0_take 64 = .ok (.iconst 0, 1) := by decide +kernel
theorem dX0_take_65 : decode cX0_take 65 = .ok (.aload_n 0, 1) := by decide +kernel
theorem dX0_take_66 : decode cX0_take 66 = .ok (.getfield 24, 3) := by decide +kernel
theorem dX0_take_69 : decode cX0_take 69 = .ok (.iconst 0, 1) := by decide +kernel
theorem dX0_take_70 : decode cX0_take 70 = .ok (.bipush 8, 2) := by decide +kernel
theorem dX0_take_72 : decode cX0_take 72 = .ok (.invokestatic 39, 3) := by decide +kernel
theorem dX0_take_75 : decode cX0_take 75 = .ok (.aload_n 0, 1) := by decide +kernel
theorem dX0_take_76 : decode cX0_take 76 = .ok (.aload_n 1, 1) := by decide +kernel
theorem dX0_take_77 : decode cX0_take 77 = .ok (.getfield 27, 3) := by decide +kernel
theorem dX0_take_80 : decode cX0_take 80 = .ok (.putfield 27, 3) := by decide +kernel
theorem dX0_take_83 : decode cX0_take 83 = .ok (.return_, 1) := by decide +kernel
set_option maxRecDepth 20000 in
theorem ggX0_digestOn_X0_tell : GoodIn wsX0_digestOn wsX0_tell := goodIn_r _ [7, 8, 9, 10, 11, 12, 13, 14, 15, 6, 16, 17, 18, 19, 20, 21, 22] (by decide +kernel) (by decide +kernel)
set_option maxRecDepth 20000 in
theorem gX0_digestOn_X0_tell : GoodIn wsX0_digestOn (wsV RX0 47 RX0 yX0_tell wsX0_tell) := goodIn_app (goodIn_of _ (by decide +kernel)) ggX0_digestOn_X0_tell
theorem dX0_digestOn_0 : decode cX0_digestOn 0 = .ok (.lload_n 1, 1) := by decide +kernel
theorem dX0_digestOn_1 : decode cX0_digestOn 1 = .ok (.lstore_n 3, 1) := by decide +kernel
theorem dX0_digestOn_2 : decode cX0_digestOn 2 = .ok (.iconst 0, 1) := by decide +kernel
theorem dX0_digestOn_3 : decode cX0_digestOn 3 = .ok (.istore 5, 2) := by decide +kernel
theorem dX0_digestOn_5 : decode cX0_digestOn 5 = .ok (.iload 5, 2) := by decide +kernel
theorem dX0_digestOn_7 : decode cX0_digestOn 7 = .ok (.aload_n 0, 1) := by decide +kernel
theorem dX0_digestOn_8 : decode cX0_digestOn 8 = .ok (.getfield 27, 3) := by decide +kernel
theorem dX0_digestOn_11 : decode cX0_digestOn 11 = .ok (.if_icmp .ge 40, 3) := by decide +kernel
theorem dX0_digestOn_14 : decode cX0_digestOn 14 = .ok (.iconst 0, 1) := by decide +kernel
theorem dX0_digestOn_15 : decode cX0_digestOn 15 = .ok (.istore 6, 2) := by decide +kernel
theorem dX0_digestOn_17 : decode cX0_digestOn 17 = .ok (.iload 6, 2) := by decide +kernel
theorem dX0_digestOn_19 : decode cX0_digestOn 19 = .ok (.iconst 4, 1) := by decide +kernel
theorem dX0_digestOn_20 : decode cX0_digestOn 20 = .ok (.if_icmp .gt 25, 3) := by decide +kernel
theorem dX0_digestOn_23 : decode cX0_digestOn 23 = .ok (.ldc2_w 45, 3) := by decide +kernel
theorem dX0_digestOn_26 : decode cX0_digestOn 26 = .ok (.lload_n 3, 1) := by decide +kernel
theorem dX0_digestOn_27 : decode cX0_digestOn 27 = .ok (.lmul, 1) := by decide +kernel
theorem dX0_digestOn_28 : decode cX0_digestOn 28 = .ok (.aload_n 0, 1) := by decide +kernel
theorem dX0_digestOn_29 : decode cX0_digestOn 29 = .ok (.iload 5, 2) := by decide +kernel
theorem dX0_digestOn_31 : decode cX0_digestOn 31 = .ok (.iload 6, 2) := by decide +kernel
theorem dX0_digestOn_33 : decode cX0_digestOn 33 = .ok (.invokevirtual 47, 3) := by decide +kernel
theorem dX0_digestOn_36 : decode cX0_digestOn 36 = .ok (.i2l, 1) := by decide +kernel
theorem dX0_digestOn_37 : decode cX0_digestOn 37 = .ok (.ladd, 1) := by decide +kernel
theorem dX0_digestOn_38 : decode cX0_digestOn 38 = .ok (.lstore_n 3, 1) := by decide +kernel
theorem dX0_digestOn_39 : decode cX0_digestOn 39 = .ok (.iinc 6 1, 3) := by decide +kernel
theorem dX0_digestOn_42 : decode cX0_digestOn 42 = .ok (.goto (-25), 3) := by decide +kernel
theorem dX0_digestOn_45 : decode cX0_digestOn 45 = .ok (.iinc 5 1, 3) := by decide +kernel
theorem dX0_digestOn_48 : decode cX0_digestOn 48 = .ok (.goto (-43), 3) := by decide +kernel
theorem dX0_digestOn_51 : decode cX0_digestOn 51 = .ok (.lload_n 3, 1) := by decide +kernel
theorem dX0_digestOn_52 : decode cX0_digestOn 52 = .ok (.lreturn, 1) := by decide +kernel
theorem dX1_init_0 : decode cX1_init 0 = .ok (.aload_n 0, 1) := by decide +kernel
theorem dX1_init_1 : decode cX1_init 1 = .ok (.invokespecial 3, 3) := by decide +kernel
theorem dX1_init_4 : decode cX1_init 4 = .ok (.aload_n 0, 1) := by decide +kernel
theorem dX1_init_5 : decode cX1_init 5 = .ok (.iconst 3, 1) := by decide +kernel
theorem dX1_init_6 : decode cX1_init 6 = .ok (.newarray .int, 2) := by decide +kernel
theorem dX1_init_8 : decode cX1_init 8 = .ok (.putfield 9, 3) := by decide +kernel
theorem dX1_init_11 : decode cX1_init 11 = .ok (.aload_n 0, 1) := by decide +kernel
theorem dX1_init_12 : decode cX1_init 12 = .ok (.iconst 0, 1) := by decide +kernel
theorem dX1_init_13 : decode cX1_init 13 = .ok (.putfield 15, 3) := by decide +kernel
theorem dX1_init_16 : decode cX1_init 16 = .ok (.return_, 1) := by decide +kernel
theorem dX1_isFull_0 : decode cX1_isFull 0 = .ok (.aload_n 0, 1) := by decide +kernel
theorem dX1_isFull_1 : decode cX1_isFull 1 = .ok (.getfield 15, 3) := by decide +kernel
theorem dX1_isFull_4 : decode cX1_isFull 4 = .ok (.iconst 3, 1) := by decide +kernel
theorem dX1_isFull_5 : decode cX1_isFull 5 = .ok (.if_icmp .lt 7, 3) := by decide +kernel
theorem dX1_isFull_8 : decode cX1_isFull 8 = .ok (.iconst 1, 1) := by decide +kernel
theorem dX1_isFull_9 : decode cX1_isFull 9 = .ok (.goto 4, 3) := by decide +kernel
theorem dX1_isFull_12 : decode cX1_isFull 12 = .ok (.iconst 0, 1) := by decide +kernel
theorem dX1_isFull_13 : decode cX1_isFull 13 = .ok (.ireturn, 1) := by decide +kernel
set_option maxRecDepth 20000 in
theorem ggX1_add_X1_isFull : GoodIn wsX1_add wsX1_isFull := goodIn_r _ [7, 2, 8, 9] (by decide +kernel) (by decide +kernel)
set_option maxRecDepth 20000 in
theorem gX1_add_X1_isFull : GoodIn wsX1_add (wsV RX1 19 RX1 yX1_isFull wsX1_isFull) := goodIn_app (goodIn_of _ (by decide +kernel)) ggX1_add_X1_isFull
theorem dX1_add_0 : decode cX1_add 0 = .ok (.aload_n 0, 1) := by decide +kernel
theorem dX1_add_1 : decode cX1_add 1 = .ok (.invokevirtual 19, 3) := by decide +kernel
theorem dX1_add_4 : decode cX1_add 4 = .ok (.ifCond .eq 6, 3) := by decide +kernel
theorem dX1_add_7 : decode cX1_add 7 = .ok (.bipush (-4), 2) := by decide +kernel
theorem dX1_add_9 : decode cX1_add 9 = .ok (.ireturn, 1) := by decide +kernel
theorem dX1_add_10 : decode cX1_add 10 = .ok (.aload_n 0, 1) := by decide +kernel
theorem dX1_add_11 : decode cX1_add 11 = .ok (.getfield 9, 3) := by decide +kernel
theorem dX1_add_14 : decode cX1_add 14 = .ok (.aload_n 0, 1) := by decide +kernel
theorem dX1_add_15 : decode cX1_add 15 = .ok (.getfield 15, 3) := by decide +kernel
theorem dX1_add_18 : decode cX1_add 18 = .ok (.iload_n 1, 1) := by decide +kernel
theorem dX1_add_19 : decode cX1_add 19 = .ok (.iastore, 1) := by decide +kernel
theorem dX1_add_20 : decode cX1_add 20 = .ok (.aload_n 0, 1) := by decide +kernel
theorem dX1_add_21 : decode cX1_add 21 = .ok (.dup, 1) := by decide +kernel
theorem dX1_add_22 : decode cX1_add 22 = .ok (.getfield 15, 3) := by decide +kernel
theorem dX1_add_25 : decode cX1_add 25 = .ok (.iconst 1, 1) := by decide +kernel
theorem dX1_add_26 : decode cX1_add 26 = .ok (.iadd, 1) := by decide +kernel
theorem dX1_add_27 : decode cX1_add 27 = .ok (.putfield 15, 3) := by decide +kernel
theorem dX1_add_30 : decode cX1_add 30 = .ok (.aload_n 0, 1) := by decide +kernel
theorem dX1_add_31 : decode cX1_add 31 = .ok (.getfield 15, 3) := by decide +kernel
theorem dX1_add_34 : decode cX1_add 34 = .ok (.ireturn, 1) := by decide +kernel
set_option maxRecDepth 20000 in
theorem ggX1_places_X1_mayEndAt : GoodIn wsX1_places wsX1_mayEndAt := goodIn_r _ [6, 7, 8, 9, 10, 11, 12, 13, 14, 15, 22, 23, 16, 17, 18, 19, 20, 21] (by decide +kernel) (by decide +kernel)
set_option maxRecDepth 20000 in
theorem gX1_places_X1_mayEndAt : GoodIn wsX1_places (wsV RX1 26 RX1 yX1_mayEndAt wsX1_mayEndAt) := goodIn_app (goodIn_of _ (by decide +kernel)) ggX1_places_X1_mayEndAt
theorem dX1_places_0 : decode cX1_places 0 = .ok (.iconst 0, 1) := by decide +kernel
theorem dX1_places_1 : decode cX1_places 1 = .ok (.istore_n 2, 1) := by decide +kernel
theorem dX1_places_2 : decode cX1_places 2 = .ok (.iconst 0, 1) := by decide +kernel
theorem dX1_places_3 : decode cX1_places 3 = .ok (.istore_n 3, 1) := by decide +kernel
theorem dX1_places_4 : decode cX1_places 4 = .ok (.iload_n 3, 1) := by decide +kernel
theorem dX1_places_5 : decode cX1_places 5 = .ok (.aload_n 1, 1) := by decide +kernel
theorem dX1_places_6 : decode cX1_places 6 = .ok (.getfield 23, 3) := by decide +kernel
theorem dX1_places_9 : decode cX1_places 9 = .ok (.if_icmp .ge 24, 3) := by decide +kernel
theorem dX1_places_12 : decode cX1_places 12 = .ok (.aload_n 0, 1) := by decide +kernel
theorem dX1_places_13 : decode cX1_places 13 = .ok (.aload_n 1, 1) := by decide +kernel
theorem dX1_places_14 : decode cX1_places 14 = .ok (.iload_n 3, 1) := by decide +kernel
theorem dX1_places_15 : decode cX1_places 15 = .ok (.invokevirtual 26, 3) := by decide +kernel
theorem dX1_places_18 : decode cX1_places 18 = .ok (.ifCond .eq 9, 3) := by decide +kernel
theorem dX1_places_21 : decode cX1_places 21 = .ok (.iload_n 2, 1) := by decide +kernel
theorem dX1_places_22 : decode cX1_places 22 = .ok (.iconst 1, 1) := by decide +kernel
theorem dX1_places_23 : decode cX1_places 23 = .ok (.iload_n 3, 1) := by decide +kernel
theorem dX1_places_24 : decode cX1_places 24 = .ok (.ishl, 1) := by decide +kernel
theorem dX1_places_25 : decode cX1_places 25 = .ok (.ior, 1) := by decide +kernel
theorem dX1_places_26 : decode cX1_places 26 = .ok (.istore_n 2, 1) := by decide +kernel
theorem dX1_places_27 : decode cX1_places 27 = .ok (.iinc 3 1, 3) := by decide +kernel
theorem dX1_places_30 : decode cX1_places 30 = .ok (.goto (-26), 3) := by decide +kernel
theorem dX1_places_33 : decode cX1_places 33 = .ok (.iload_n 2, 1) := by decide +kernel
theorem dX1_places_34 : decode cX1_places 34 = .ok (.ireturn, 1) := by decide +kernel
set_option maxRecDepth 20000 in
theorem ggX1_mayEndAt_X0_holds : GoodIn wsX1_mayEndAt wsX0_holds := goodIn_r _ [7, 8, 9, 12, 13, 14, 15, 16, 17] (by decide +kernel) (by decide +kernel)
set_option maxRecDepth 20000 in
theorem gX1_mayEndAt_X0_holds : GoodIn wsX1_mayEndAt (wsV RX1 30 RX0 yX0_holds wsX0_holds) := goodIn_app (goodIn_of _ (by decide +kernel)) ggX1_mayEndAt_X0_holds
theorem dX1_mayEndAt_0 : decode cX1_mayEndAt 0 = .ok (.iload_n 2, 1) := by decide +kernel
theorem dX1_mayEndAt_1 : decode cX1_mayEndAt 1 = .ok (.iconst 1, 1) := by decide +kernel
theorem dX1_mayEndAt_2 : decode cX1_mayEndAt 2 = .ok (.iadd, 1) := by decide +kernel
theorem dX1_mayEndAt_3 : decode cX1_mayEndAt 3 = .ok (.aload_n 0, 1) := by decide +kernel
theorem dX1_mayEndAt_4 : decode cX1_mayEndAt 4 = .ok (.getfield 15, 3) := by decide +kernel
theorem dX1_mayEndAt_7 : decode cX1_mayEndAt 7 = .ok (.isub, 1) := by decide +kernel
theorem dX1_mayEndAt_8 : decode cX1_mayEndAt 8 = .ok (.istore_n 3, 1) := by decide +kernel
theorem dX1_mayEndAt_9 : decode cX1_mayEndAt 9 = .ok (.aload_n 0, 1) := by decide +kernel
theorem dX1_mayEndAt_10 : decode cX1_mayEndAt 10 = .ok (.getfield 15, 3) := by decide +kernel
theorem dX1_mayEndAt_13 : decode cX1_mayEndAt 13 = .ok (.ifCond .le 9, 3) := by decide +kernel
theorem dX1_mayEndAt_16 : decode cX1_mayEndAt 16 = .ok (.iload_n 3, 1) := by decide +kernel
theorem dX1_mayEndAt_17 : decode cX1_mayEndAt 17 = .ok (.ifCond .ge 5, 3) := by decide +kernel
theorem dX1_mayEndAt_20 : decode cX1_mayEndAt 20 = .ok (.iconst 0, 1) := by decide +kernel
theorem dX1_mayEndAt_21 : decode cX1_mayEndAt 21 = .ok (.ireturn, 1) := by decide +kernel
theorem dX1_mayEndAt_22 : decode cX1_mayEndAt 22 = .ok (.iconst 0, 1) := by decide +kernel
theorem dX1_mayEndAt_23 : decode cX1_mayEndAt 23 = .ok (.istore 4, 2) := by decide +kernel
theorem dX1_mayEndAt_25 : decode cX1_mayEndAt 25 = .ok (.iload 4, 2) := by decide +kernel
theorem dX1_mayEndAt_27 : decode cX1_mayEndAt 27 = .ok (.aload_n 0, 1) := by decide +kernel
theorem dX1_mayEndAt_28 : decode cX1_mayEndAt 28 = .ok (.getfield 15, 3) := by decide +kernel
theorem dX1_mayEndAt_31 : decode cX1_mayEndAt 31 = .ok (.if_icmp .ge 29, 3) := by decide +kernel
theorem dX1_mayEndAt_34 : decode cX1_mayEndAt 34 = .ok (.aload_n 1, 1) := by decide +kernel
theorem dX1_mayEndAt_35 : decode cX1_mayEndAt 35 = .ok (.iload_n 3, 1) := by decide +kernel
theorem dX1_mayEndAt_36 : decode cX1_mayEndAt 36 = .ok (.iload 4, 2) := by decide +kernel
theorem dX1_mayEndAt_38 : decode cX1_mayEndAt 38 = .ok (.iadd, 1) := by decide +kernel
theorem dX1_mayEndAt_39 : decode cX1_mayEndAt 39 = .ok (.invokevirtual 30, 3) := by decide +kernel
theorem dX1_mayEndAt_42 : decode cX1_mayEndAt 42 = .ok (.aload_n 0, 1) := by decide +kernel
theorem dX1_mayEndAt_43 : decode cX1_mayEndAt 43 = .ok (.getfield 9, 3) := by decide +kernel
theorem dX1_mayEndAt_46 : decode cX1_mayEndAt 46 = .ok (.iload 4, 2) := by decide +kernel
theorem dX1_mayEndAt_48 : decode cX1_mayEndAt 48 = .ok (.iaload, 1) := by decide +kernel
theorem dX1_mayEndAt_49 : decode cX1_mayEndAt 49 = .ok (.if_icmp .eq 5, 3) := by decide +kernel
theorem dX1_mayEndAt_52 : decode cX1_mayEndAt 52 = .ok (.iconst 0, 1) := by decide +kernel
theorem dX1_mayEndAt_53 : decode cX1_mayEndAt 53 = .ok (.ireturn, 1) := by decide +kernel
theorem dX1_mayEndAt_54 : decode cX1_mayEndAt 54 = .ok (.iinc 4 1, 3) := by decide +kernel
theorem dX1_mayEndAt_57 : decode cX1_mayEndAt 57 = .ok (.goto (-32), 3) := by decide +kernel
theorem dX1_mayEndAt_60 : decode cX1_mayEndAt 60 = .ok (.iconst 1, 1) := by decide +kernel
theorem dX1_mayEndAt_61 : decode cX1_mayEndAt 61 = .ok (.ireturn, 1) := by decide +kernel
set_option maxRecDepth 20000 in
theorem ggX1_waysOn_X1_mayEndAt : GoodIn wsX1_waysOn wsX1_mayEndAt := goodIn_r _ [6, 7, 8, 9, 10, 11, 12, 13, 14, 15, 29, 30, 23, 24, 25, 26, 27, 28] (by decide +kernel) (by decide +kernel)
set_option maxRecDepth 20000 in
theorem gX1_waysOn_X1_mayEndAt : GoodIn wsX1_waysOn (wsV RX1 26 RX1 yX1_mayEndAt wsX1_mayEndAt) := goodIn_app (goodIn_of _ (by decide +kernel)) ggX1_waysOn_X1_mayEndAt
set_option maxRecDepth 20000 in
theorem ggX1_waysOn_X0_holds : GoodIn wsX1_waysOn wsX0_holds := goodIn_r _ [13, 14, 15, 23, 24, 25, 26, 27, 28] (by decide +kernel) (by decide +kernel)
set_option maxRecDepth 20000 in
theorem gX1_waysOn_X0_holds : GoodIn wsX1_waysOn (wsV RX1 30 RX0 yX0_holds wsX0_holds) := goodIn_app (goodIn_of _ (by decide +kernel)) ggX1_waysOn_X0_holds
set_option maxRecDepth 20000 in
theorem ggX1_waysOn_J6_bitCount_0f7a4 : GoodIn wsX1_waysOn wsJ6_bitCount_0f7a4 := goodIn_r _ [19, 20, 21, 22] (by decide +kernel) (by decide +kernel)
set_option maxRecDepth 20000 in
theorem gX1_waysOn_J6_bitCount_0f7a4 : GoodIn wsX1_waysOn (va_wsS RX1 33 yJ6_bitCount_0f7a4 wsJ6_bitCount_0f7a4) := goodIn_app (goodIn_of _ (by decide +kernel)) ggX1_waysOn_J6_bitCount_0f7a4
theorem dX1_waysOn_0 : decode cX1_waysOn 0 = .ok (.iconst 0, 1) := by decide +kernel
theorem dX1_waysOn_1 : decode cX1_waysOn 1 = .ok (.istore_n 2, 1) := by decide +kernel
theorem dX1_waysOn_2 : decode cX1_waysOn 2 = .ok (.iconst 0, 1) := by decide +kernel
theorem dX1_waysOn_3 : decode cX1_waysOn 3 = .ok (.istore_n 3, 1) := by decide +kernel
theorem dX1_waysOn_4 : decode cX1_waysOn 4 = .ok (.iload_n 3, 1) := by decide +kernel
theorem dX1_waysOn_5 : decode cX1_waysOn 5 = .ok (.iconst 1, 1) := by decide +kernel
theorem dX1_waysOn_6 : decode cX1_waysOn 6 = .ok (.iadd, 1) := by decide +kernel
theorem dX1_waysOn_7 : decode cX1_waysOn 7 = .ok (.aload_n 1, 1) := by decide +kernel
theorem dX1_waysOn_8 : decode cX1_waysOn 8 = .ok (.getfield 23, 3) := by decide +kernel
theorem dX1_waysOn_11 : decode cX1_waysOn 11 = .ok (.if_icmp .ge 30, 3) := by decide +kernel
theorem dX1_waysOn_14 : decode cX1_waysOn 14 = .ok (.aload_n 0, 1) := by decide +kernel
theorem dX1_waysOn_15 : decode cX1_waysOn 15 = .ok (.aload_n 1, 1) := by decide +kernel
theorem dX1_waysOn_16 : decode cX1_waysOn 16 = .ok (.iload_n 3, 1) := by decide +kernel
theorem dX1_waysOn_17 : decode cX1_waysOn 17 = .ok (.invokevirtual 26, 3) := by decide +kernel
theorem dX1_waysOn_20 : decode cX1_waysOn 20 = .ok (.ifCond .eq 15, 3) := by decide +kernel
theorem dX1_waysOn_23 : decode cX1_waysOn 23 = .ok (.iload_n 2, 1) := by decide +kernel
theorem dX1_waysOn_24 : decode cX1_waysOn 24 = .ok (.iconst 1, 1) := by decide +kernel
theorem dX1_waysOn_25 : decode cX1_waysOn 25 = .ok (.aload_n 1, 1) := by decide +kernel
theorem dX1_waysOn_26 : decode cX1_waysOn 26 = .ok (.iload_n 3, 1) := by decide +kernel
theorem dX1_waysOn_27 : decode cX1_waysOn 27 = .ok (.iconst 1, 1) := by decide +kernel
theorem dX1_waysOn_28 : decode cX1_waysOn 28 = .ok (.iadd, 1) := by decide +kernel
theorem dX1_waysOn_29 : decode cX1_waysOn 29 = .ok (.invokevirtual 30, 3) := by decide +kernel
theorem dX1_waysOn_32 : decode cX1_waysOn 32 = .ok (.ishl, 1) := by decide +kernel
theorem dX1_waysOn_33 : decode cX1_waysOn 33 = .ok (.ior, 1) := by decide +kernel
theorem dX1_waysOn_34 : decode cX1_waysOn 34 = .ok (.istore_n 2, 1) := by decide +kernel
theorem dX1_waysOn_35 : decode cX1_waysOn 35 = .ok (.iinc 3 1, 3) := by decide +kernel
theorem dX1_waysOn_38 : decode cX1_waysOn 38 = .ok (.goto (-34), 3) := by decide +kernel
theorem dX1_waysOn_41 : decode cX1_waysOn 41 = .ok (.iload_n 2, 1) := by decide +kernel
theorem dX1_waysOn_42 : decode cX1_waysOn 42 = .ok (.invokestatic 33, 3) := by decide +kernel
theorem dX1_waysOn_45 : decode cX1_waysOn 45 = .ok (.ireturn, 1) := by decide +kernel
theorem dX1_take_0 : decode cX1_take 0 = .ok (.aload_n 1, 1) := by decide +kernel
theorem dX1_take_1 : decode cX1_take 1 = .ok (.getfield 9, 3) := by decide +kernel
theorem dX1_take_4 : decode cX1_take 4 = .ok (.iconst 0, 1) := by decide +kernel
theorem dX1_take_5 : decode cX1_take 5 = .ok (.aload_n 0, 1) := by decide +kernel
theorem dX1_take_6 : decode cX1_take 6 = .ok (.getfield 9, 3) := by decide +kernel
theorem dX1_take_9 : decode cX1_take 9 = .ok (.iconst 0, 1) := by decide +kernel
theorem dX1_take_10 : decode cX1_take 10 = .ok (.iconst 3, 1) := by decide +kernel
theorem dX1_take_11 : decode cX1_take 11 = .ok (.invokestatic 38, 3) := by decide +kernel
theorem dX1_take_14 : decode cX1_take 14 = .ok (.aload_n 0, 1) := by decide +kernel
theorem dX1_take_15 : decode cX1_take 15 = .ok (.aload_n 1, 1) := by decide +kernel
theorem dX1_take_16 : decode cX1_take 16 = .ok (.getfield 15, 3) := by decide +kernel
theorem dX1_take_19 : decode cX1_take 19 = .ok (.putfield 15, 3) := by decide +kernel
theorem dX1_take_22 : decode cX1_take 22 = .ok (.return_, 1) := by decide +kernel
theorem dX1_digestOn_0 : decode cX1_digestOn 0 = .ok (.lload_n 1, 1) := by decide +kernel
theorem dX1_digestOn_1 : decode cX1_digestOn 1 = .ok (.lstore_n 3, 1) := by decide +kernel
theorem dX1_digestOn_2 : decode cX1_digestOn 2 = .ok (.iconst 0, 1) := by decide +kernel
theorem dX1_digestOn_3 : decode cX1_digestOn 3 = .ok (.istore 5, 2) := by decide +kernel
theorem dX1_digestOn_5 : decode cX1_digestOn 5 = .ok (.iload 5, 2) := by decide +kernel
theorem dX1_digestOn_7 : decode cX1_digestOn 7 = .ok (.aload_n 0, 1) := by decide +kernel
theorem dX1_digestOn_8 : decode cX1_digestOn 8 = .ok (.getfield 15, 3) := by decide +kernel
theorem dX1_digestOn_11 : decode cX1_digestOn 11 = .ok (.if_icmp .ge 24, 3) := by decide +kernel
theorem dX1_digestOn_14 : decode cX1_digestOn 14 = .ok (.ldc2_w 44, 3) := by decide +kernel
theorem dX1_digestOn_17 : decode cX1_digestOn 17 = .ok (.lload_n 3, 1) := by decide +kernel
theorem dX1_digestOn_18 : decode cX1_digestOn 18 = .ok (.lmul, 1) := by decide +kernel
theorem dX1_digestOn_19 : decode cX1_digestOn 19 = .ok (.aload_n 0, 1) := by decide +kernel
theorem dX1_digestOn_20 : decode cX1_digestOn 20 = .ok (.getfield 9, 3) := by decide +kernel
theorem dX1_digestOn_23 : decode cX1_digestOn 23 = .ok (.iload 5, 2) := by decide +kernel
theorem dX1_digestOn_25 : decode cX1_digestOn 25 = .ok (.iaload, 1) := by decide +kernel
theorem dX1_digestOn_26 : decode cX1_digestOn 26 = .ok (.i2l, 1) := by decide +kernel
theorem dX1_digestOn_27 : decode cX1_digestOn 27 = .ok (.ladd, 1) := by decide +kernel
theorem dX1_digestOn_28 : decode cX1_digestOn 28 = .ok (.lstore_n 3, 1) := by decide +kernel
theorem dX1_digestOn_29 : decode cX1_digestOn 29 = .ok (.iinc 5 1, 3) := by decide +kernel
theorem dX1_digestOn_32 : decode cX1_digestOn 32 = .ok (.goto (-27), 3) := by decide +kernel
theorem dX1_digestOn_35 : decode cX1_digestOn 35 = .ok (.lload_n 3, 1) := by decide +kernel
theorem dX1_digestOn_36 : decode cX1_digestOn 36 = .ok (.lreturn, 1) := by decide +kernel
theorem dX2_paceOf_0 : decode cX2_paceOf 0 = .ok (.iload_n 1, 1) := by decide +kernel
theorem dX2_paceOf_1 : decode cX2_paceOf 1 = .ok (.ifCond .ne 7, 3) := by decide +kernel
theorem dX2_paceOf_4 : decode cX2_paceOf 4 = .ok (.iconst 2, 1) := by decide +kernel
theorem dX2_paceOf_5 : decode cX2_paceOf 5 = .ok (.goto 4, 3) := by decide +kernel
theorem dX2_paceOf_8 : decode cX2_paceOf 8 = .ok (.iload_n 1, 1) := by decide +kernel
theorem dX2_paceOf_9 : decode cX2_paceOf 9 = .ok (.istore 5, 2) := by decide +kernel
theorem dX2_paceOf_11 : decode cX2_paceOf 11 = .ok (.iload 5, 2) := by decide +kernel
theorem dX2_paceOf_13 : decode cX2_paceOf 13 = .ok (.bipush 7, 2) := by decide +kernel
theorem dX2_paceOf_15 : decode cX2_paceOf 15 = .ok (.if_icmp .ge 10, 3) := by decide +kernel
theorem dX2_paceOf_18 : decode cX2_paceOf 18 = .ok (.iload 5, 2) := by decide +kernel
theorem dX2_paceOf_20 : decode cX2_paceOf 20 = .ok (.iconst 1, 1) := by decide +kernel
theorem dX2_paceOf_21 : decode cX2_paceOf 21 = .ok (.iadd, 1) := by decide +kernel
theorem dX2_paceOf_22 : decode cX2_paceOf 22 = .ok (.goto 5, 3) := by decide +kernel
theorem dX2_paceOf_25 : decode cX2_paceOf 25 = .ok (.bipush 7, 2) := by decide +kernel
theorem dX2_paceOf_27 : decode cX2_paceOf 27 = .ok (.istore 6, 2) := by decide +kernel
theorem dX2_paceOf_29 : decode cX2_paceOf 29 = .ok (.iload 5, 2) := by decide +kernel
theorem dX2_paceOf_31 : decode cX2_paceOf 31 = .ok (.iconst 1, 1) := by decide +kernel
theorem dX2_paceOf_32 : decode cX2_paceOf 32 = .ok (.if_icmp .le 10, 3) := by decide +kernel
theorem dX2_paceOf_35 : decode cX2_paceOf 35 = .ok (.iload 5, 2) := by decide +kernel
theorem dX2_paceOf_37 : decode cX2_paceOf 37 = .ok (.iconst 1, 1) := by decide +kernel
theorem dX2_paceOf_38 : decode cX2_paceOf 38 = .ok (.isub, 1) := by decide +kernel
theorem dX2_paceOf_39 : decode cX2_paceOf 39 = .ok (.goto 4, 3) := by decide +kernel
theorem dX2_paceOf_42 : decode cX2_paceOf 42 = .ok (.iconst 1, 1) := by decide +kernel
theorem dX2_paceOf_43 : decode cX2_paceOf 43 = .ok (.istore 7, 2) := by decide +kernel
theorem dX2_paceOf_45 : decode cX2_paceOf 45 = .ok (.iload 6, 2) := by decide +kernel
theorem dX2_paceOf_47 : decode cX2_paceOf 47 = .ok (.iconst 3, 1) := by decide +kernel
theorem dX2_paceOf_48 : decode cX2_paceOf 48 = .ok (.if_icmp .le 10, 3) := by decide +kernel
theorem dX2_paceOf_51 : decode cX2_paceOf 51 = .ok (.iload 6, 2) := by decide +kernel
theorem dX2_paceOf_53 : decode cX2_paceOf 53 = .ok (.iconst 2, 1) := by decide +kernel
theorem dX2_paceOf_54 : decode cX2_paceOf 54 = .ok (.isub, 1) := by decide +kernel
theorem dX2_paceOf_55 : decode cX2_paceOf 55 = .ok (.goto 4, 3) := by decide +kernel
theorem dX2_paceOf_58 : decode cX2_paceOf 58 = .ok (.iconst 1, 1) := by decide +kernel
theorem dX2_paceOf_59 : decode cX2_paceOf 59 = .ok (.istore 8, 2) := by decide +kernel
theorem dX2_paceOf_61 : decode cX2_paceOf 61 = .ok (.iload_n 0, 1) := by decide +kernel
theorem dX2_paceOf_62 : decode cX2_paceOf 62 = .ok (.tableswitch 82 1 5 #[34, 46, 49, 52, 68], 34) := by decide +kernel
theorem dX2_paceOf_96 : decode cX2_paceOf 96 = .ok (.iload_n 3, 1) := by decide +kernel
theorem dX2_paceOf_97 : decode cX2_paceOf 97 = .ok (.iconst 3, 1) := by decide +kernel
theorem dX2_paceOf_98 : decode cX2_paceOf 98 = .ok (.if_icmp .gt 7, 3) := by decide +kernel
theorem dX2_paceOf_101 : decode cX2_paceOf 101 = .ok (.iload_n 2, 1) := by decide +kernel
theorem dX2_paceOf_102 : decode cX2_paceOf 102 = .ok (.goto 5, 3) := by decide +kernel
theorem dX2_paceOf_105 : decode cX2_paceOf 105 = .ok (.iload 5, 2) := by decide +kernel
theorem dX2_paceOf_107 : decode cX2_paceOf 107 = .ok (.ireturn, 1) := by decide +kernel
theorem dX2_paceOf_108 : decode cX2_paceOf 108 = .ok (.iload 6, 2) := by decide +kernel
theorem dX2_paceOf_110 : decode cX2_paceOf 110 = .ok (.ireturn, 1) := by decide +kernel
theorem dX2_paceOf_111 : decode cX2_paceOf 111 = .ok (.iload 7, 2) := by decide +kernel
theorem dX2_paceOf_113 : decode cX2_paceOf 113 = .ok (.ireturn, 1) := by decide +kernel
theorem dX2_paceOf_114 : decode cX2_paceOf 114 = .ok (.iload_n 3, 1) := by decide +kernel
theorem dX2_paceOf_115 : decode cX2_paceOf 115 = .ok (.bipush 7, 2) := by decide +kernel
theorem dX2_paceOf_117 : decode cX2_paceOf 117 = .ok (.if_icmp .ge 10, 3) := by decide +kernel
theorem dX2_paceOf_120 : decode cX2_paceOf 120 = .ok (.iload 7, 2) := by decide +kernel
theorem dX2_paceOf_122 : decode cX2_paceOf 122 = .ok (.iconst 1, 1) := by decide +kernel
theorem dX2_paceOf_123 : decode cX2_paceOf 123 = .ok (.iadd, 1) := by decide +kernel
theorem dX2_paceOf_124 : decode cX2_paceOf 124 = .ok (.goto 5, 3) := by decide +kernel
theorem dX2_paceOf_127 : decode cX2_paceOf 127 = .ok (.iload 7, 2) := by decide +kernel
theorem dX2_paceOf_129 : decode cX2_paceOf 129 = .ok (.ireturn, 1) := by decide +kernel
theorem dX2_paceOf_130 : decode cX2_paceOf 130 = .ok (.iload 4, 2) := by decide +kernel
theorem dX2_paceOf_132 : decode cX2_paceOf 132 = .ok (.iconst 1, 1) := by decide +kernel
theorem dX2_paceOf_133 : decode cX2_paceOf 133 = .ok (.if_icmp .ne 8, 3) := by decide +kernel
theorem dX2_paceOf_136 : decode cX2_paceOf 136 = .ok (.iload 8, 2) := by decide +kernel
theorem dX2_paceOf_138 : decode cX2_paceOf 138 = .ok (.goto 5, 3) := by decide +kernel
theorem dX2_paceOf_141 : decode cX2_paceOf 141 = .ok (.iload 6, 2) := by decide +kernel
theorem dX2_paceOf_143 : decode cX2_paceOf 143 = .ok (.ireturn, 1) := by decide +kernel
theorem dX2_paceOf_144 : decode cX2_paceOf 144 = .ok (.iload 5, 2) := by decide +kernel
theorem dX2_paceOf_146 : decode cX2_paceOf 146 = .ok (.ireturn, 1) := by decide +kernel
theorem dX2_costOf_0 : decode cX2_costOf 0 = .ok (.iload_n 0, 1) := by decide +kernel
theorem dX2_costOf_1 : decode cX2_costOf 1 = .ok (.iload_n 1, 1) := by decide +kernel
theorem dX2_costOf_2 : decode cX2_costOf 2 = .ok (.if_icmp .gt 9, 3) := by decide +kernel
theorem dX2_costOf_5 : decode cX2_costOf 5 = .ok (.iconst 3, 1) := by decide +kernel
theorem dX2_costOf_6 : decode cX2_costOf 6 = .ok (.iload_n 1, 1) := by decide +kernel
theorem dX2_costOf_7 : decode cX2_costOf 7 = .ok (.iload_n 0, 1) := by decide +kernel
theorem dX2_costOf_8 : decode cX2_costOf 8 = .ok (.isub, 1) := by decide +kernel
theorem dX2_costOf_9 : decode cX2_costOf 9 = .ok (.imul, 1) := by decide +kernel
theorem dX2_costOf_10 : decode cX2_costOf 10 = .ok (.ireturn, 1) := by decide +kernel
theorem dX2_costOf_11 : decode cX2_costOf 11 = .ok (.iload_n 0, 1) := by decide +kernel
theorem dX2_costOf_12 : decode cX2_costOf 12 = .ok (.iload_n 1, 1) := by decide +kernel
theorem dX2_costOf_13 : decode cX2_costOf 13 = .ok (.iconst 1, 1) := by decide +kernel
theorem dX2_costOf_14 : decode cX2_costOf 14 = .ok (.iadd, 1) := by decide +kernel
theorem dX2_costOf_15 : decode cX2_costOf 15 = .ok (.if_icmp .ne 8, 3) := by decide +kernel
theorem dX2_costOf_18 : decode cX2_costOf 18 = .ok (.bipush 7, 2) := by decide +kernel
theorem dX2_costOf_20 : decode cX2_costOf 20 = .ok (.goto 5, 3) := by decide +kernel
theorem dX2_costOf_23 : decode cX2_costOf 23 = .ok (.bipush 60, 2) := by decide +kernel
theorem dX2_costOf_25 : decode cX2_costOf 25 = .ok (.ireturn, 1) := by decide +kernel
theorem dX3_init_0 : decode cX3_init 0 = .ok (.aload_n 0, 1) := by decide +kernel
theorem dX3_init_1 : decode cX3_init 1 = .ok (.invokespecial 3, 3) := by decide +kernel
theorem dX3_init_4 : decode cX3_init 4 = .ok (.aload_n 0, 1) := by decide +kernel
theorem dX3_init_5 : decode cX3_init 5 = .ok (.bipush 30, 2) := by decide +kernel
theorem dX3_init_7 : decode cX3_init 7 = .ok (.newarray .int, 2) := by decide +kernel
theorem dX3_init_9 : decode cX3_init 9 = .ok (.putfield 11, 3) := by decide +kernel
theorem dX3_init_12 : decode cX3_init 12 = .ok (.aload_n 0, 1) := by decide +kernel
theorem dX3_init_13 : decode cX3_init 13 = .ok (.iconst 0, 1) := by decide +kernel
theorem dX3_init_14 : decode cX3_init 14 = .ok (.putfield 15, 3) := by decide +kernel
theorem dX3_init_17 : decode cX3_init 17 = .ok (.return_, 1) := by decide +kernel
theorem dX3_isFull_0 : decode cX3_isFull 0 = .ok (.aload_n 0, 1) := by decide +kernel
theorem dX3_isFull_1 : decode cX3_isFull 1 = .ok (.getfield 15, 3) := by decide +kernel
theorem dX3_isFull_4 : decode cX3_isFull 4 = .ok (.bipush 6, 2) := by decide +kernel
theorem dX3_isFull_6 : decode cX3_isFull 6 = .ok (.if_icmp .lt 7, 3) := by decide +kernel
theorem dX3_isFull_9 : decode cX3_isFull 9 = .ok (.iconst 1, 1) := by decide +kernel
theorem dX3_isFull_10 : decode cX3_isFull 10 = .ok (.goto 4, 3) := by decide +kernel
theorem dX3_isFull_13 : decode cX3_isFull 13 = .ok (.iconst 0, 1) := by decide +kernel
theorem dX3_isFull_14 : decode cX3_isFull 14 = .ok (.ireturn, 1) := by decide +kernel
set_option maxRecDepth 20000 in
theorem ggX3_add_X3_isFull : GoodIn wsX3_add wsX3_isFull := goodIn_r _ [7, 1, 8, 9] (by decide +kernel) (by decide +kernel)
set_option maxRecDepth 20000 in
theorem gX3_add_X3_isFull : GoodIn wsX3_add (wsV RX3 19 RX3 yX3_isFull wsX3_isFull) := goodIn_app (goodIn_of _ (by decide +kernel)) ggX3_add_X3_isFull
theorem dX3_add_0 : decode cX3_add 0 = .ok (.aload_n 0, 1) := by decide +kernel
theorem dX3_add_1 : decode cX3_add 1 = .ok (.invokevirtual 19, 3) := by decide +kernel
theorem dX3_add_4 : decode cX3_add 4 = .ok (.ifCond .eq 6, 3) := by decide +kernel
theorem dX3_add_7 : decode cX3_add 7 = .ok (.bipush (-4), 2) := by decide +kernel
theorem dX3_add_9 : decode cX3_add 9 = .ok (.ireturn, 1) := by decide +kernel
theorem dX3_add_10 : decode cX3_add 10 = .ok (.aload_n 0, 1) := by decide +kernel
theorem dX3_add_11 : decode cX3_add 11 = .ok (.getfield 15, 3) := by decide +kernel
theorem dX3_add_14 : decode cX3_add 14 = .ok (.iconst 5, 1) := by decide +kernel
theorem dX3_add_15 : decode cX3_add 15 = .ok (.imul, 1) := by decide +kernel
theorem dX3_add_16 : decode cX3_add 16 = .ok (.istore 6, 2) := by decide +kernel
theorem dX3_add_18 : decode cX3_add 18 = .ok (.aload_n 0, 1) := by decide +kernel
theorem dX3_add_19 : decode cX3_add 19 = .ok (.getfield 11, 3) := by decide +kernel
theorem dX3_add_22 : decode cX3_add 22 = .ok (.iload 6, 2) := by decide +kernel
theorem dX3_add_24 : decode cX3_add 24 = .ok (.iload_n 1, 1) := by decide +kernel
theorem dX3_add_25 : decode cX3_add 25 = .ok (.iastore, 1) := by decide +kernel
theorem dX3_add_26 : decode cX3_add 26 = .ok (.aload_n 0, 1) := by decide +kernel
theorem dX3_add_27 : decode cX3_add 27 = .ok (.getfield 11, 3) := by decide +kernel
theorem dX3_add_30 : decode cX3_add 30 = .ok (.iload 6, 2) := by decide +kernel
theorem dX3_add_32 : decode cX3_add 32 = .ok (.iconst 1, 1) := by decide +kernel
theorem dX3_add_33 : decode cX3_add 33 = .ok (.iadd, 1) := by decide +kernel
theorem dX3_add_34 : decode cX3_add 34 = .ok (.iload_n 2, 1) := by decide +kernel
theorem dX3_add_35 : decode cX3_add 35 = .ok (.iastore, 1) := by decide +kernel
theorem dX3_add_36 : decode cX3_add 36 = .ok (.aload_n 0, 1) := by decide +kernel
theorem dX3_add_37 : decode cX3_add 37 = .ok (.getfield 11, 3) := by decide +kernel
theorem dX3_add_40 : decode cX3_add 40 = .ok (.iload 6, 2) := by decide +kernel
theorem dX3_add_42 : decode cX3_add 42 = .ok (.iconst 2, 1) := by decide +kernel
theorem dX3_add_43 : decode cX3_add 43 = .ok (.iadd, 1) := by decide +kernel
theorem dX3_add_44 : decode cX3_add 44 = .ok (.iload_n 3, 1) := by decide +kernel
theorem dX3_add_45 : decode cX3_add 45 = .ok (.iastore, 1) := by decide +kernel
theorem dX3_add_46 : decode cX3_add 46 = .ok (.aload_n 0, 1) := by decide +kernel
theorem dX3_add_47 : decode cX3_add 47 = .ok (.getfield 11, 3) := by decide +kernel
theorem dX3_add_50 : decode cX3_add 50 = .ok (.iload 6, 2) := by decide +kernel
theorem dX3_add_52 : decode cX3_add 52 = .ok (.iconst 3, 1) := by decide +kernel
theorem dX3_add_53 : decode cX3_add 53 = .ok (.iadd, 1) := by decide +kernel
theorem dX3_add_54 : decode cX3_add 54 = .ok (.iload 4, 2) := by decide +kernel
theorem dX3_add_56 : decode cX3_add 56 = .ok (.iastore, 1) := by decide +kernel
theorem dX3_add_57 : decode cX3_add 57 = .ok (.aload_n 0, 1) := by decide +kernel
theorem dX3_add_58 : decode cX3_add 58 = .ok (.getfield 11, 3) := by decide +kernel
theorem dX3_add_61 : decode cX3_add 61 = .ok (.iload 6, 2) := by decide +kernel
theorem dX3_add_63 : decode cX3_add 63 = .ok (.iconst 4, 1) := by decide +kernel
theorem dX3_add_64 : decode cX3_add 64 = .ok (.iadd, 1) := by decide +kernel
theorem dX3_add_65 : decode cX3_add 65 = .ok (.iload 5, 2) := by decide +kernel
theorem dX3_add_67 : decode cX3_add 67 = .ok (.iastore, 1) := by decide +kernel
theorem dX3_add_68 : decode cX3_add 68 = .ok (.aload_n 0, 1) := by decide +kernel
theorem dX3_add_69 : decode cX3_add 69 = .ok (.dup, 1) := by decide +kernel
theorem dX3_add_70 : decode cX3_add 70 = .ok (.getfield 15, 3) := by decide +kernel
theorem dX3_add_73 : decode cX3_add 73 = .ok (.iconst 1, 1) := by decide +kernel
theorem dX3_add_74 : decode cX3_add 74 = .ok (.iadd, 1) := by decide +kernel
theorem dX3_add_75 : decode cX3_add 75 = .ok (.putfield 15, 3) := by decide +kernel
theorem dX3_add_78 : decode cX3_add 78 = .ok (.aload_n 0, 1) := by decide +kernel
theorem dX3_add_79 : decode cX3_add 79 = .ok (.getfield 15, 3) := by decide +kernel
theorem dX3_add_82 : decode cX3_add 82 = .ok (.ireturn, 1) := by decide +kernel
set_option maxRecDepth 20000 in
theorem ggX3_kinds_X3_fits : GoodIn wsX3_kinds wsX3_fits := goodIn_r _ [5, 6, 7, 8, 9, 10, 11, 12, 13] (by decide +kernel) (by decide +kernel)
set_option maxRecDepth 20000 in
theorem gX3_kinds_X3_fits : GoodIn wsX3_kinds (wsV RX3 25 RX3 yX3_fits wsX3_fits) := goodIn_app (goodIn_of _ (by decide +kernel)) ggX3_kinds_X3_fits
theorem dX3_kinds_0 : decode cX3_kinds 0 = .ok (.iconst 0, 1) := by decide +kernel
theorem dX3_kinds_1 : decode cX3_kinds 1 = .ok (.istore_n 1, 1) := by decide +kernel
theorem dX3_kinds_2 : decode cX3_kinds 2 = .ok (.iconst 0, 1) := by decide +kernel
theorem dX3_kinds_3 : decode cX3_kinds 3 = .ok (.istore_n 2, 1) := by decide +kernel
theorem dX3_kinds_4 : decode cX3_kinds 4 = .ok (.iload_n 2, 1) := by decide +kernel
theorem dX3_kinds_5 : decode cX3_kinds 5 = .ok (.iconst 5, 1) := by decide +kernel
theorem dX3_kinds_6 : decode cX3_kinds 6 = .ok (.if_icmp .gt 23, 3) := by decide +kernel
theorem dX3_kinds_9 : decode cX3_kinds 9 = .ok (.aload_n 0, 1) := by decide +kernel
theorem dX3_kinds_10 : decode cX3_kinds 10 = .ok (.iload_n 2, 1) := by decide +kernel
theorem dX3_kinds_11 : decode cX3_kinds 11 = .ok (.invokevirtual 25, 3) := by decide +kernel
theorem dX3_kinds_14 : decode cX3_kinds 14 = .ok (.ifCond .eq 9, 3) := by decide +kernel
theorem dX3_kinds_17 : decode cX3_kinds 17 = .ok (.iload_n 1, 1) := by decide +kernel
theorem dX3_kinds_18 : decode cX3_kinds 18 = .ok (.iconst 1, 1) := by decide +kernel
theorem dX3_kinds_19 : decode cX3_kinds 19 = .ok (.iload_n 2, 1) := by decide +kernel
theorem dX3_kinds_20 : decode cX3_kinds 20 = .ok (.ishl, 1) := by decide +kernel
theorem dX3_kinds_21 : decode cX3_kinds 21 = .ok (.ior, 1) := by decide +kernel
theorem dX3_kinds_22 : decode cX3_kinds 22 = .ok (.istore_n 1, 1) := by decide +kernel
theorem dX3_kinds_23 : decode cX3_kinds 23 = .ok (.iinc 2 1, 3) := by decide +kernel
theorem dX3_kinds_26 : decode cX3_kinds 26 = .ok (.goto (-22), 3) := by decide +kernel
theorem dX3_kinds_29 : decode cX3_kinds 29 = .ok (.iload_n 1, 1) := by decide +kernel
theorem dX3_kinds_30 : decode cX3_kinds 30 = .ok (.ireturn, 1) := by decide +kernel
set_option maxRecDepth 20000 in
theorem ggX3_fits_X2_paceOf : GoodIn wsX3_fits wsX2_paceOf := goodIn_r _ [6] (by decide +kernel) (by decide +kernel)
set_option maxRecDepth 20000 in
theorem gX3_fits_X2_paceOf : GoodIn wsX3_fits (va_wsS RX3 29 yX2_paceOf wsX2_paceOf) := goodIn_app (goodIn_of _ (by decide +kernel)) ggX3_fits_X2_paceOf
theorem dX3_fits_0 : decode cX3_fits 0 = .ok (.iconst 0, 1) := by decide +kernel
theorem dX3_fits_1 : decode cX3_fits 1 = .ok (.istore_n 2, 1) := by decide +kernel
theorem dX3_fits_2 : decode cX3_fits 2 = .ok (.iload_n 2, 1) := by decide +kernel
theorem dX3_fits_3 : decode cX3_fits 3 = .ok (.aload_n 0, 1) := by decide +kernel
theorem dX3_fits_4 : decode cX3_fits 4 = .ok (.getfield 15, 3) := by decide +kernel
theorem dX3_fits_7 : decode cX3_fits 7 = .ok (.if_icmp .ge 64, 3) := by decide +kernel
theorem dX3_fits_10 : decode cX3_fits 10 = .ok (.iload_n 2, 1) := by decide +kernel
theorem dX3_fits_11 : decode cX3_fits 11 = .ok (.iconst 5, 1) := by decide +kernel
theorem dX3_fits_12 : decode cX3_fits 12 = .ok (.imul, 1) := by decide +kernel
theorem dX3_fits_13 : decode cX3_fits 13 = .ok (.istore_n 3, 1) := by decide +kernel
theorem dX3_fits_14 : decode cX3_fits 14 = .ok (.iload_n 1, 1) := by decide +kernel
theorem dX3_fits_15 : decode cX3_fits 15 = .ok (.aload_n 0, 1) := by decide +kernel
theorem dX3_fits_16 : decode cX3_fits 16 = .ok (.getfield 11, 3) := by decide +kernel
theorem dX3_fits_19 : decode cX3_fits 19 = .ok (.iload_n 3, 1) := by decide +kernel
theorem dX3_fits_20 : decode cX3_fits 20 = .ok (.iaload, 1) := by decide +kernel
theorem dX3_fits_21 : decode cX3_fits 21 = .ok (.aload_n 0, 1) := by decide +kernel
theorem dX3_fits_22 : decode cX3_fits 22 = .ok (.getfield 11, 3) := by decide +kernel
theorem dX3_fits_25 : decode cX3_fits 25 = .ok (.iload_n 3, 1) := by decide +kernel
theorem dX3_fits_26 : decode cX3_fits 26 = .ok (.iconst 1, 1) := by decide +kernel
theorem dX3_fits_27 : decode cX3_fits 27 = .ok (.iadd, 1) := by decide +kernel
theorem dX3_fits_28 : decode cX3_fits 28 = .ok (.iaload, 1) := by decide +kernel
theorem dX3_fits_29 : decode cX3_fits 29 = .ok (.aload_n 0, 1) := by decide +kernel
theorem dX3_fits_30 : decode cX3_fits 30 = .ok (.getfield 11, 3) := by decide +kernel
theorem dX3_fits_33 : decode cX3_fits 33 = .ok (.iload_n 3, 1) := by decide +kernel
theorem dX3_fits_34 : decode cX3_fits 34 = .ok (.iconst 2, 1) := by decide +kernel
theorem dX3_fits_35 : decode cX3_fits 35 = .ok (.iadd, 1) := by decide +kernel
theorem dX3_fits_36 : decode cX3_fits 36 = .ok (.iaload, 1) := by decide +kernel
theorem dX3_fits_37 : decode cX3_fits 37 = .ok (.aload_n 0, 1) := by decide +kernel
theorem dX3_fits_38 : decode cX3_fits 38 = .ok (.getfield 11, 3) := by decide +kernel
theorem dX3_fits_41 : decode cX3_fits 41 = .ok (.iload_n 3, 1) := by decide +kernel
theorem dX3_fits_42 : decode cX3_fits 42 = .ok (.iconst 3, 1) := by decide +kernel
theorem dX3_fits_43 : decode cX3_fits 43 = .ok (.iadd, 1) := by decide +kernel
theorem dX3_fits_44 : decode cX3_fits 44 = .ok (.iaload, 1) := by decide +kernel
theorem dX3_fits_45 : decode cX3_fits 45 = .ok (.invokestatic 29, 3) := by decide +kernel
theorem dX3_fits_48 : decode cX3_fits 48 = .ok (.istore 4, 2) := by decide +kernel
theorem dX3_fits_50 : decode cX3_fits 50 = .ok (.iload 4, 2) := by decide +kernel
theorem dX3_fits_52 : decode cX3_fits 52 = .ok (.aload_n 0, 1) := by decide +kernel
theorem dX3_fits_53 : decode cX3_fits 53 = .ok (.getfield 11, 3) := by decide +kernel
theorem dX3_fits_56 : decode cX3_fits 56 = .ok (.iload_n 3, 1) := by decide +kernel
theorem dX3_fits_57 : decode cX3_fits 57 = .ok (.iconst 4, 1) := by decide +kernel
theorem dX3_fits_58 : decode cX3_fits 58 = .ok (.iadd, 1) := by decide +kernel
theorem dX3_fits_59 : decode cX3_fits 59 = .ok (.iaload, 1) := by decide +kernel
theorem dX3_fits_60 : decode cX3_fits 60 = .ok (.if_icmp .eq 5, 3) := by decide +kernel
theorem dX3_fits_63 : decode cX3_fits 63 = .ok (.iconst 0, 1) := by decide +kernel
theorem dX3_fits_64 : decode cX3_fits 64 = .ok (.ireturn, 1) := by decide +kernel
theorem dX3_fits_65 : decode cX3_fits 65 = .ok (.iinc 2 1, 3) := by decide +kernel
theorem dX3_fits_68 : decode cX3_fits 68 = .ok (.goto (-66), 3) := by decide +kernel
theorem dX3_fits_71 : decode cX3_fits 71 = .ok (.iconst 1, 1) := by decide +kernel
theorem dX3_fits_72 : decode cX3_fits 72 = .ok (.ireturn, 1) := by decide +kernel
theorem dX3_take_0 : decode cX3_take 0 = .ok (.aload_n 1, 1) := by decide +kernel
theorem dX3_take_1 : decode cX3_take 1 = .ok (.getfield 11, 3) := by decide +kernel
theorem dX3_take_4 : decode cX3_take 4 = .ok (.iconst 0, 1) := by decide +kernel
theorem dX3_take_5 : decode cX3_take 5 = .ok (.aload_n 0, 1) := by decide +kernel
theorem dX3_take_6 : decode cX3_take 6 = .ok (.getfield 11, 3) := by decide +kernel
theorem dX3_take_9 : decode cX3_take 9 = .ok (.iconst 0, 1) := by decide +kernel
theorem dX3_take_10 : decode cX3_take 10 = .ok (.bipush 30, 2) := by decide +kernel
theorem dX3_take_12 : decode cX3_take 12 = .ok (.invokestatic 33, 3) := by decide +kernel
theorem dX3_take_15 : decode cX3_take 15 = .ok (.aload_n 0, 1) := by decide +kernel
theorem dX3_take_16 : decode cX3_take 16 = .ok (.aload_n 1, 1) := by decide +kernel
theorem dX3_take_17 : decode cX3_take 17 = .ok (.getfield 15, 3) := by decide +kernel
theorem dX3_take_20 : decode cX3_take 20 = .ok (.putfield 15, 3) := by decide +kernel
theorem dX3_take_23 : decode cX3_take 23 = .ok (.return_, 1) := by decide +kernel
theorem dX3_digestOn_0 : decode cX3_digestOn 0 = .ok (.lload_n 1, 1) := by decide +kernel
theorem dX3_digestOn_1 : decode cX3_digestOn 1 = .ok (.lstore_n 3, 1) := by decide +kernel
theorem dX3_digestOn_2 : decode cX3_digestOn 2 = .ok (.iconst 0, 1) := by decide +kernel
theorem dX3_digestOn_3 : decode cX3_digestOn 3 = .ok (.istore 5, 2) := by decide +kernel
theorem dX3_digestOn_5 : decode cX3_digestOn 5 = .ok (.iload 5, 2) := by decide +kernel
theorem dX3_digestOn_7 : decode cX3_digestOn 7 = .ok (.aload_n 0, 1) := by decide +kernel
theorem dX3_digestOn_8 : decode cX3_digestOn 8 = .ok (.getfield 15, 3) := by decide +kernel
theorem dX3_digestOn_11 : decode cX3_digestOn 11 = .ok (.iconst 5, 1) := by decide +kernel
theorem dX3_digestOn_12 : decode cX3_digestOn 12 = .ok (.imul, 1) := by decide +kernel
theorem dX3_digestOn_13 : decode cX3_digestOn 13 = .ok (.if_icmp .ge 24, 3) := by decide +kernel
theorem dX3_digestOn_16 : decode cX3_digestOn 16 = .ok (.ldc2_w 39, 3) := by decide +kernel
theorem dX3_digestOn_19 : decode cX3_digestOn 19 = .ok (.lload_n 3, 1) := by decide +kernel
theorem dX3_digestOn_20 : decode cX3_digestOn 20 = .ok (.lmul, 1) := by decide +kernel
theorem dX3_digestOn_21 : decode cX3_digestOn 21 = .ok (.aload_n 0, 1) := by decide +kernel
theorem dX3_digestOn_22 : decode cX3_digestOn 22 = .ok (.getfield 11, 3) := by decide +kernel
theorem dX3_digestOn_25 : decode cX3_digestOn 25 = .ok (.iload 5, 2) := by decide +kernel
theorem dX3_digestOn_27 : decode cX3_digestOn 27 = .ok (.iaload, 1) := by decide +kernel
theorem dX3_digestOn_28 : decode cX3_digestOn 28 = .ok (.i2l, 1) := by decide +kernel
theorem dX3_digestOn_29 : decode cX3_digestOn 29 = .ok (.ladd, 1) := by decide +kernel
theorem dX3_digestOn_30 : decode cX3_digestOn 30 = .ok (.lstore_n 3, 1) := by decide +kernel
theorem dX3_digestOn_31 : decode cX3_digestOn 31 = .ok (.iinc 5 1, 3) := by decide +kernel
theorem dX3_digestOn_34 : decode cX3_digestOn 34 = .ok (.goto (-29), 3) := by decide +kernel
theorem dX3_digestOn_37 : decode cX3_digestOn 37 = .ok (.lload_n 3, 1) := by decide +kernel
theorem dX3_digestOn_38 : decode cX3_digestOn 38 = .ok (.lreturn, 1) := by decide +kernel
theorem dX4_init_0 : decode cX4_init 0 = .ok (.aload_n 0, 1) := by decide +kernel
theorem dX4_init_1 : decode cX4_init 1 = .ok (.invokespecial 3, 3) := by decide +kernel
theorem dX4_init_4 : decode cX4_init 4 = .ok (.aload_n 0, 1) := by decide +kernel
theorem dX4_init_5 : decode cX4_init 5 = .ok (.bipush 88, 2) := by decide +kernel
theorem dX4_init_7 : decode cX4_init 7 = .ok (.newarray .int, 2) := by decide +kernel
theorem dX4_init_9 : decode cX4_init 9 = .ok (.putfield 11, 3) := by decide +kernel
theorem dX4_init_12 : decode cX4_init 12 = .ok (.aload_n 0, 1) := by decide +kernel
theorem dX4_init_13 : decode cX4_init 13 = .ok (.iconst 0, 1) := by decide +kernel
theorem dX4_init_14 : decode cX4_init 14 = .ok (.putfield 15, 3) := by decide +kernel
theorem dX4_init_17 : decode cX4_init 17 = .ok (.return_, 1) := by decide +kernel
theorem dX4_keep_0 : decode cX4_keep 0 = .ok (.aload_n 0, 1) := by decide +kernel
theorem dX4_keep_1 : decode cX4_keep 1 = .ok (.getfield 15, 3) := by decide +kernel
theorem dX4_keep_4 : decode cX4_keep 4 = .ok (.bipush 8, 2) := by decide +kernel
theorem dX4_keep_6 : decode cX4_keep 6 = .ok (.if_icmp .lt 25, 3) := by decide +kernel
theorem dX4_keep_9 : decode cX4_keep 9 = .ok (.aload_n 0, 1) := by decide +kernel
theorem dX4_keep_10 : decode cX4_keep 10 = .ok (.getfield 11, 3) := by decide +kernel
theorem dX4_keep_13 : decode cX4_keep 13 = .ok (.bipush 11, 2) := by decide +kernel
theorem dX4_keep_15 : decode cX4_keep 15 = .ok (.aload_n 0, 1) := by decide +kernel
theorem dX4_keep_16 : decode cX4_keep 16 = .ok (.getfield 11, 3) := by decide +kernel
theorem dX4_keep_19 : decode cX4_keep 19 = .ok (.iconst 0, 1) := by decide +kernel
theorem dX4_keep_20 : decode cX4_keep 20 = .ok (.bipush 77, 2) := by decide +kernel
theorem dX4_keep_22 : decode cX4_keep 22 = .ok (.invokestatic 19, 3) := by decide +kernel
theorem dX4_keep_25 : decode cX4_keep 25 = .ok (.aload_n 0, 1) := by decide +kernel
theorem dX4_keep_26 : decode cX4_keep 26 = .ok (.bipush 7, 2) := by decide +kernel
theorem dX4_keep_28 : decode cX4_keep 28 = .ok (.putfield 15, 3) := by decide +kernel
theorem dX4_keep_31 : decode cX4_keep 31 = .ok (.aload_n 0, 1) := by decide +kernel
theorem dX4_keep_32 : decode cX4_keep 32 = .ok (.getfield 15, 3) := by decide +kernel
theorem dX4_keep_35 : decode cX4_keep 35 = .ok (.bipush 11, 2) := by decide +kernel
theorem dX4_keep_37 : decode cX4_keep 37 = .ok (.imul, 1) := by decide +kernel
theorem dX4_keep_38 : decode cX4_keep 38 = .ok (.istore_n 2, 1) := by decide +kernel
theorem dX4_keep_39 : decode cX4_keep 39 = .ok (.aload_n 0, 1) := by decide +kernel
theorem dX4_keep_40 : decode cX4_keep 40 = .ok (.getfield 11, 3) := by decide +kernel
theorem dX4_keep_43 : decode cX4_keep 43 = .ok (.iload_n 2, 1) := by decide +kernel
theorem dX4_keep_44 : decode cX4_keep 44 = .ok (.aload_n 1, 1) := by decide +kernel
theorem dX4_keep_45 : decode cX4_keep 45 = .ok (.getfield 25, 3) := by decide +kernel
theorem dX4_keep_48 : decode cX4_keep 48 = .ok (.iastore, 1) := by decide +kernel
theorem dX4_keep_49 : decode cX4_keep 49 = .ok (.aload_n 0, 1) := by decide +kernel
theorem dX4_keep_50 : decode cX4_keep 50 = .ok (.getfield 11, 3) := by decide +kernel
theorem dX4_keep_53 : decode cX4_keep 53 = .ok (.iload_n 2, 1) := by decide +kernel
theorem dX4_keep_54 : decode cX4_keep 54 = .ok (.iconst 1, 1) := by decide +kernel
theorem dX4_keep_55 : decode cX4_keep 55 = .ok (.iadd, 1) := by decide +kernel
theorem dX4_keep_56 : decode cX4_keep 56 = .ok (.aload_n 1, 1) := by decide +kernel
theorem dX4_keep_57 : decode cX4_keep 57 = .ok (.getfield 30, 3) := by decide +kernel
theorem dX4_keep_60 : decode cX4_keep 60 = .ok (.iastore, 1) := by decide +kernel
theorem dX4_keep_61 : decode cX4_keep 61 = .ok (.aload_n 0, 1) := by decide +kernel
theorem dX4_keep_62 : decode cX4_keep 62 = .ok (.getfield 11, 3) := by decide +kernel
theorem dX4_keep_65 : decode cX4_keep 65 = .ok (.iload_n 2, 1) := by decide +kernel
theorem dX4_keep_66 : decode cX4_keep 66 = .ok (.iconst 2, 1) := by decide +kernel
theorem dX4_keep_67 : decode cX4_keep 67 = .ok (.iadd, 1) := by decide +kernel
theorem dX4_keep_68 : decode cX4_keep 68 = .ok (.aload_n 1, 1) := by decide +kernel
theorem dX4_keep_69 : decode cX4_keep 69 = .ok (.getfield 33, 3) := by decide +kernel
theorem dX4_keep_72 : decode cX4_keep 72 = .ok (.iastore, 1) := by decide +kernel
theorem dX4_keep_73 : decode cX4_keep 73 = .ok (.aload_n 1, 1) := by decide +kernel
theorem dX4_keep_74 : decode cX4_keep 74 = .ok (.getfield 36, 3) := by decide +kernel
theorem dX4_keep_77 : decode cX4_keep 77 = .ok (.getfield 40, 3) := by decide +kernel
theorem dX4_keep_80 : decode cX4_keep 80 = .ok (.iconst 0, 1) := by decide +kernel
theorem dX4_keep_81 : decode cX4_keep 81 = .ok (.aload_n 0, 1) := by decide +kernel
theorem dX4_keep_82 : decode cX4_keep 82 = .ok (.getfield 11, 3) := by decide +kernel
theorem dX4_keep_85 : decode cX4_keep 85 = .ok (.iload_n 2, 1) := by decide +kernel
theorem dX4_keep_86 : decode cX4_keep 86 = .ok (.iconst 3, 1) := by decide +kernel
theorem dX4_keep_87 : decode cX4_keep 87 = .ok (.iadd, 1) := by decide +kernel
theorem dX4_keep_88 : decode cX4_keep 88 = .ok (.bipush 8, 2) := by decide +kernel
theorem dX4_keep_90 : decode cX4_keep 90 = .ok (.invokestatic 19, 3) := by decide +kernel
theorem dX4_keep_93 : decode cX4_keep 93 = .ok (.aload_n 0, 1) := by decide +kernel
theorem dX4_keep_94 : decode cX4_keep 94 = .ok (.dup, 1) := by decide +kernel
theorem dX4_keep_95 : decode cX4_keep 95 = .ok (.getfield 15, 3) := by decide +kernel
theorem dX4_keep_98 : decode cX4_keep 98 = .ok (.iconst 1, 1) := by decide +kernel
theorem dX4_keep_99 : decode cX4_keep 99 = .ok (.iadd, 1) := by decide +kernel
theorem dX4_keep_100 : decode cX4_keep 100 = .ok (.putfield 15, 3) := by decide +kernel
theorem dX4_keep_103 : decode cX4_keep 103 = .ok (.return_, 1) := by decide +kernel
theorem dX4_giveBack_0 : decode cX4_giveBack 0 = .ok (.aload_n 0, 1) := by decide +kernel
theorem dX4_giveBack_1 : decode cX4_giveBack 1 = .ok (.getfield 15, 3) := by decide +kernel
theorem dX4_giveBack_4 : decode cX4_giveBack 4 = .ok (.iconst 1, 1) := by decide +kernel
theorem dX4_giveBack_5 : decode cX4_giveBack 5 = .ok (.if_icmp .ge 4, 3) := by decide +kernel
theorem dX4_giveBack_8 : decode cX4_giveBack 8 = .ok (.return_, 1) := by decide +kernel
theorem dX4_giveBack_9 : decode cX4_giveBack 9 = .ok (.aload_n 0, 1) := by decide +kernel
theorem dX4_giveBack_10 : decode cX4_giveBack 10 = .ok (.dup, 1) := by decide +kernel
theorem dX4_giveBack_11 : decode cX4_giveBack 11 = .ok (.getfield 15, 3) := by decide +kernel
theorem dX4_giveBack_14 : decode cX4_giveBack 14 = .ok (.iconst 1, 1) := by decide +kernel
theorem dX4_giveBack_15 : decode cX4_giveBack 15 = .ok (.isub, 1) := by decide +kernel
theorem dX4_giveBack_16 : decode cX4_giveBack 16 = .ok (.putfield 15, 3) := by decide +kernel
theorem dX4_giveBack_19 : decode cX4_giveBack 19 = .ok (.aload_n 0, 1) := by decide +kernel
theorem dX4_giveBack_20 : decode cX4_giveBack 20 = .ok (.getfield 15, 3) := by decide +kernel
theorem dX4_giveBack_23 : decode cX4_giveBack 23 = .ok (.bipush 11, 2) := by decide +kernel
theorem dX4_giveBack_25 : decode cX4_giveBack 25 = .ok (.imul, 1) := by decide +kernel
theorem dX4_giveBack_26 : decode cX4_giveBack 26 = .ok (.istore_n 2, 1) := by decide +kernel
theorem dX4_giveBack_27 : decode cX4_giveBack 27 = .ok (.aload_n 1, 1) := by decide +kernel
theorem dX4_giveBack_28 : decode cX4_giveBack 28 = .ok (.aload_n 0, 1) := by decide +kernel
theorem dX4_giveBack_29 : decode cX4_giveBack 29 = .ok (.getfield 11, 3) := by decide +kernel
theorem dX4_giveBack_32 : decode cX4_giveBack 32 = .ok (.iload_n 2, 1) := by decide +kernel
theorem dX4_giveBack_33 : decode cX4_giveBack 33 = .ok (.iaload, 1) := by decide +kernel
theorem dX4_giveBack_34 : decode cX4_giveBack 34 = .ok (.putfield 25, 3) := by decide +kernel
theorem dX4_giveBack_37 : decode cX4_giveBack 37 = .ok (.aload_n 1, 1) := by decide +kernel
theorem dX4_giveBack_38 : decode cX4_giveBack 38 = .ok (.aload_n 0, 1) := by decide +kernel
theorem dX4_giveBack_39 : decode cX4_giveBack 39 = .ok (.getfield 11, 3) := by decide +kernel
theorem dX4_giveBack_42 : decode cX4_giveBack 42 = .ok (.iload_n 2, 1) := by decide +kernel
theorem dX4_giveBack_43 : decode cX4_giveBack 43 = .ok (.iconst 1, 1) := by decide +kernel
theorem dX4_giveBack_44 : decode cX4_giveBack 44 = .ok (.iadd, 1) := by decide +kernel
theorem dX4_giveBack_45 : decode cX4_giveBack 45 = .ok (.iaload, 1) := by decide +kernel
theorem dX4_giveBack_46 : decode cX4_giveBack 46 = .ok (.putfield 30, 3) := by decide +kernel
theorem dX4_giveBack_49 : decode cX4_giveBack 49 = .ok (.aload_n 1, 1) := by decide +kernel
theorem dX4_giveBack_50 : decode cX4_giveBack 50 = .ok (.aload_n 0, 1) := by decide +kernel
theorem dX4_giveBack_51 : decode cX4_giveBack 51 = .ok (.getfield 11, 3) := by decide +kernel
theorem dX4_giveBack_54 : decode cX4_giveBack 54 = .ok (.iload_n 2, 1) := by decide +kernel
theorem dX4_giveBack_55 : decode cX4_giveBack 55 = .ok (.iconst 2, 1) := by decide +kernel
theorem dX4_giveBack_56 : decode cX4_giveBack 56 = .ok (.iadd, 1) := by decide +kernel
theorem dX4_giveBack_57 : decode cX4_giveBack 57 = .ok (.iaload, 1) := by decide +kernel
theorem dX4_giveBack_58 : decode cX4_giveBack 58 = .ok (.putfield 33, 3) := by decide +kernel
theorem dX4_giveBack_61 : decode cX4_giveBack 61 = .ok (.aload_n 0, 1) := by decide +kernel
theorem dX4_giveBack_62 : decode cX4_giveBack 62 = .ok (.getfield 11, 3) := by decide +kernel
theorem dX4_giveBack_65 : decode cX4_giveBack 65 = .ok (.iload_n 2, 1) := by decide +kernel
theorem dX4_giveBack_66 : decode cX4_giveBack 66 = .ok (.iconst 3, 1) := by decide +kernel
theorem dX4_giveBack_67 : decode cX4_giveBack 67 = .ok (.iadd, 1) := by decide +kernel
theorem dX4_giveBack_68 : decode cX4_giveBack 68 = .ok (.aload_n 1, 1) := by decide +kernel
theorem dX4_giveBack_69 : decode cX4_giveBack 69 = .ok (.getfield 36, 3) := by decide +kernel
theorem dX4_giveBack_72 : decode cX4_giveBack 72 = .ok (.getfield 40, 3) := by decide +kernel
theorem dX4_giveBack_75 : decode cX4_giveBack 75 = .ok (.iconst 0, 1) := by decide +kernel
theorem dX4_giveBack_76 : decode cX4_giveBack 76 = .ok (.bipush 8, 2) := by decide +kernel
theorem dX4_giveBack_78 : decode cX4_giveBack 78 = .ok (.invokestatic 19, 3) := by decide +kernel
theorem dX4_giveBack_81 : decode cX4_giveBack 81 = .ok (.return_, 1) := by decide +kernel
theorem dX4_take_0 : decode cX4_take 0 = .ok (.aload_n 1, 1) := by decide +kernel
theorem dX4_take_1 : decode cX4_take 1 = .ok (.getfield 11, 3) := by decide +kernel
theorem dX4_take_4 : decode cX4_take 4 = .ok (.iconst 0, 1) := by decide +kernel
theorem dX4_take_5 : decode cX4_take 5 = .ok (.aload_n 0, 1) := by decide +kernel
theorem dX4_take_6 : decode cX4_take 6 = .ok (.getfield 11, 3) := by decide +kernel
theorem dX4_take_9 : decode cX4_take 9 = .ok (.iconst 0, 1) := by decide +kernel
theorem dX4_take_10 : decode cX4_take 10 = .ok (.bipush 88, 2) := by decide +kernel
theorem dX4_take_12 : decode cX4_take 12 = .ok (.invokestatic 19, 3) := by decide +kernel
theorem dX4_take_15 : decode cX4_take 15 = .ok (.aload_n 0, 1) := by decide +kernel
theorem dX4_take_16 : decode cX4_take 16 = .ok (.aload_n 1, 1) := by decide +kernel
theorem dX4_take_17 : decode cX4_take 17 = .ok (.getfield 15, 3) := by decide +kernel
theorem dX4_take_20 : decode cX4_take 20 = .ok (.putfield 15, 3) := by decide +kernel
theorem dX4_take_23 : decode cX4_take 23 = .ok (.return_, 1) := by decide +kernel
theorem dX5_init_0 : decode cX5_init 0 = .ok (.aload_n 0, 1) := by decide +kernel
theorem dX5_init_1 : decode cX5_init 1 = .ok (.invokespecial 3, 3) := by decide +kernel
theorem dX5_init_4 : decode cX5_init 4 = .ok (.aload_n 0, 1) := by decide +kernel
theorem dX5_init_5 : decode cX5_init 5 = .ok (.bipush 8, 2) := by decide +kernel
theorem dX5_init_7 : decode cX5_init 7 = .ok (.newarray .int, 2) := by decide +kernel
theorem dX5_init_9 : decode cX5_init 9 = .ok (.putfield 9, 3) := by decide +kernel
theorem dX5_init_12 : decode cX5_init 12 = .ok (.aload_n 0, 1) := by decide +kernel
theorem dX5_init_13 : decode cX5_init 13 = .ok (.bipush 8, 2) := by decide +kernel
theorem dX5_init_15 : decode cX5_init 15 = .ok (.newarray .int, 2) := by decide +kernel
theorem dX5_init_17 : decode cX5_init 17 = .ok (.putfield 15, 3) := by decide +kernel
theorem dX5_init_20 : decode cX5_init 20 = .ok (.return_, 1) := by decide +kernel
set_option maxRecDepth 20000 in
theorem ggX5_bestMended_X5_savedAt : GoodIn wsX5_bestMended wsX5_savedAt := goodIn_r _ [9, 10, 11, 12, 13, 14, 15, 16, 17, 18, 19, 20, 21, 22, 23, 24, 25, 26, 27, 28, 29, 30, 31, 32, 33, 34, 35, 36, 37, 38, 42, 43, 44, 45, 46, 47, 48, 49, 50, 51, 52, 53, 54, 55, 56] (by decide +kernel) (by decide +kernel)
set_option maxRecDepth 20000 in
theorem gX5_bestMended_X5_savedAt : GoodIn wsX5_bestMended (wsV RX5 33 RX5 yX5_savedAt wsX5_savedAt) := goodIn_app (goodIn_of _ (by decide +kernel)) ggX5_bestMended_X5_savedAt
set_option maxRecDepth 20000 in
theorem ggX5_bestMended_X8_hasBit : GoodIn wsX5_bestMended wsX8_hasBit := goodIn_r _ [41] (by decide +kernel) (by decide +kernel)
set_option maxRecDepth 20000 in
theorem gX5_bestMended_X8_hasBit_n37 : GoodIn wsX5_bestMended (wsX8_hasBit) := ggX5_bestMended_X8_hasBit
theorem dX5_bestMended_0 : decode cX5_bestMended 0 = .ok (.aload_n 1, 1) := by decide +kernel
theorem dX5_bestMended_1 : decode cX5_bestMended 1 = .ok (.getfield 18, 3) := by decide +kernel
theorem dX5_bestMended_4 : decode cX5_bestMended 4 = .ok (.getfield 24, 3) := by decide +kernel
theorem dX5_bestMended_7 : decode cX5_bestMended 7 = .ok (.istore_n 3, 1) := by decide +kernel
theorem dX5_bestMended_8 : decode cX5_bestMended 8 = .ok (.aload_n 1, 1) := by decide +kernel
theorem dX5_bestMended_9 : decode cX5_bestMended 9 = .ok (.getfield 30, 3) := by decide +kernel
theorem dX5_bestMended_12 : decode cX5_bestMended 12 = .ok (.istore 4, 2) := by decide +kernel
theorem dX5_bestMended_14 : decode cX5_bestMended 14 = .ok (.iload 4, 2) := by decide +kernel
theorem dX5_bestMended_16 : decode cX5_bestMended 16 = .ok (.iload_n 3, 1) := by decide +kernel
theorem dX5_bestMended_17 : decode cX5_bestMended 17 = .ok (.if_icmp .ge 23, 3) := by decide +kernel
theorem dX5_bestMended_20 : decode cX5_bestMended 20 = .ok (.aload_n 0, 1) := by decide +kernel
theorem dX5_bestMended_21 : decode cX5_bestMended 21 = .ok (.getfield 9, 3) := by decide +kernel
theorem dX5_bestMended_24 : decode cX5_bestMended 24 = .ok (.iload 4, 2) := by decide +kernel
theorem dX5_bestMended_26 : decode cX5_bestMended 26 = .ok (.aload_n 0, 1) := by decide +kernel
theorem dX5_bestMended_27 : decode cX5_bestMended 27 = .ok (.aload_n 1, 1) := by decide +kernel
theorem dX5_bestMended_28 : decode cX5_bestMended 28 = .ok (.iload 4, 2) := by decide +kernel
theorem dX5_bestMended_30 : decode cX5_bestMended 30 = .ok (.invokevirtual 33, 3) := by decide +kernel
theorem dX5_bestMended_33 : decode cX5_bestMended 33 = .ok (.iastore, 1) := by decide +kernel
theorem dX5_bestMended_34 : decode cX5_bestMended 34 = .ok (.iinc 4 1, 3) := by decide +kernel
theorem dX5_bestMended_37 : decode cX5_bestMended 37 = .ok (.goto (-23), 3) := by decide +kernel
theorem dX5_bestMended_40 : decode cX5_bestMended 40 = .ok (.iconst 0, 1) := by decide +kernel
theorem dX5_bestMended_41 : decode cX5_bestMended 41 = .ok (.istore 4, 2) := by decide +kernel
theorem dX5_bestMended_43 : decode cX5_bestMended 43 = .ok (.iconst 0, 1) := by decide +kernel
theorem dX5_bestMended_44 : decode cX5_bestMended 44 = .ok (.istore 5, 2) := by decide +kernel
theorem dX5_bestMended_46 : decode cX5_bestMended 46 = .ok (.iload 5, 2) := by decide +kernel
theorem dX5_bestMended_48 : decode cX5_bestMended 48 = .ok (.iload_n 2, 1) := by decide +kernel
theorem dX5_bestMended_49 : decode cX5_bestMended 49 = .ok (.if_icmp .ge 86, 3) := by decide +kernel
theorem dX5_bestMended_52 : decode cX5_bestMended 52 = .ok (.iconst (-1), 1) := by decide +kernel
theorem dX5_bestMended_53 : decode cX5_bestMended 53 = .ok (.istore 6, 2) := by decide +kernel
theorem dX5_bestMended_55 : decode cX5_bestMended 55 = .ok (.iconst 0, 1) := by decide +kernel
theorem dX5_bestMended_56 : decode cX5_bestMended 56 = .ok (.istore 7, 2) := by decide +kernel
theorem dX5_bestMended_58 : decode cX5_bestMended 58 = .ok (.aload_n 1, 1) := by decide +kernel
theorem dX5_bestMended_59 : decode cX5_bestMended 59 = .ok (.getfield 30, 3) := by decide +kernel
theorem dX5_bestMended_62 : decode cX5_bestMended 62 = .ok (.istore 8, 2) := by decide +kernel
theorem dX5_bestMended_64 : decode cX5_bestMended 64 = .ok (.iload 8, 2) := by decide +kernel
theorem dX5_bestMended_66 : decode cX5_bestMended 66 = .ok (.iload_n 3, 1) := by decide +kernel
theorem dX5_bestMended_67 : decode cX5_bestMended 67 = .ok (.if_icmp .ge 44, 3) := by decide +kernel
theorem dX5_bestMended_70 : decode cX5_bestMended 70 = .ok (.iload 4, 2) := by decide +kernel
theorem dX5_bestMended_72 : decode cX5_bestMended 72 = .ok (.iload 8, 2) := by decide +kernel
theorem dX5_bestMended_74 : decode cX5_bestMended 74 = .ok (.invokestatic 37, 3) := by decide +kernel
theorem dX5_bestMended_77 : decode cX5_bestMended 77 = .ok (.ifCond .ne 28, 3) := by decide +kernel
theorem dX5_bestMended_80 : decode cX5_bestMended 80 = .ok (.aload_n 0, 1) := by decide +kernel
theorem dX5_bestMended_81 : decode cX5_bestMended 81 = .ok (.getfield 9, 3) := by decide +kernel
theorem dX5_bestMended_84 : decode cX5_bestMended 84 = .ok (.iload 8, 2) := by decide +kernel
theorem dX5_bestMended_86 : decode cX5_bestMended 86 = .ok (.iaload, 1) := by decide +kernel
theorem dX5_bestMended_87 : decode cX5_bestMended 87 = .ok (.iload 7, 2) := by decide +kernel
theorem dX5_bestMended_89 : decode cX5_bestMended 89 = .ok (.if_icmp .le 16, 3) := by decide +kernel
theorem dX5_bestMended_92 : decode cX5_bestMended 92 = .ok (.iload 8, 2) := by decide +kernel
theorem dX5_bestMended_94 : decode cX5_bestMended 94 = .ok (.istore 6, 2) := by decide +kernel
theorem dX5_bestMended_96 : decode cX5_bestMended 96 = .ok (.aload_n 0, 1) := by decide +kernel
theorem dX5_bestMended_97 : decode cX5_bestMended 97 = .ok (.getfield 9, 3) := by decide +kernel
theorem dX5_bestMended_100 : decode cX5_bestMended 100 = .ok (.iload 8, 2) := by decide +kernel
theorem dX5_bestMended_102 : decode cX5_bestMended 102 = .ok (.iaload, 1) := by decide +kernel
theorem dX5_bestMended_103 : decode cX5_bestMended 103 = .ok (.istore 7, 2) := by decide +kernel
theorem dX5_bestMended_105 : decode cX5_bestMended 105 = .ok (.iinc 8 1, 3) := by decide +kernel
theorem dX5_bestMended_108 : decode cX5_bestMended 108 = .ok (.goto (-44), 3) := by decide +kernel
theorem dX5_bestMended_111 : decode cX5_bestMended 111 = .ok (.iload 6, 2) := by decide +kernel
theorem dX5_bestMended_113 : decode cX5_bestMended 113 = .ok (.iconst (-1), 1) := by decide +kernel
theorem dX5_bestMended_114 : decode cX5_bestMended 114 = .ok (.if_icmp .ne 6, 3) := by decide +kernel
theorem dX5_bestMended_117 : decode cX5_bestMended 117 = .ok (.goto 18, 3) := by decide +kernel
theorem dX5_bestMended_120 : decode cX5_bestMended 120 = .ok (.iload 4, 2) := by decide +kernel
theorem dX5_bestMended_122 : decode cX5_bestMended 122 = .ok (.iconst 1, 1) := by decide +kernel
theorem dX5_bestMended_123 : decode cX5_bestMended 123 = .ok (.iload 6, 2) := by decide +kernel
theorem dX5_bestMended_125 : decode cX5_bestMended 125 = .ok (.ishl, 1) := by decide +kernel
theorem dX5_bestMended_126 : decode cX5_bestMended 126 = .ok (.ior, 1) := by decide +kernel
theorem dX5_bestMended_127 : decode cX5_bestMended 127 = .ok (.istore 4, 2) := by decide +kernel
theorem dX5_bestMended_129 : decode cX5_bestMended 129 = .ok (.iinc 5 1, 3) := by decide +kernel
theorem dX5_bestMended_132 : decode cX5_bestMended 132 = .ok (.goto (-86), 3) := by decide +kernel
theorem dX5_bestMended_135 : decode cX5_bestMended 135 = .ok (.iload 4, 2) := by decide +kernel
theorem dX5_bestMended_137 : decode cX5_bestMended 137 = .ok (.ireturn, 1) := by decide +kernel
set_option maxRecDepth 20000 in
theorem ggX5_savedBy_X8_hasBit : GoodIn wsX5_savedBy wsX8_hasBit := goodIn_r _ [6] (by decide +kernel) (by decide +kernel)
set_option maxRecDepth 20000 in
theorem gX5_savedBy_X8_hasBit_n37 : GoodIn wsX5_savedBy (wsX8_hasBit) := ggX5_savedBy_X8_hasBit
set_option maxRecDepth 20000 in
theorem ggX5_savedBy_X5_savedAt : GoodIn wsX5_savedBy wsX5_savedAt := goodIn_r _ [11, 12, 13, 14, 15, 16, 17, 18, 19, 20, 21, 22, 23, 24, 25, 26, 27, 28, 29, 30, 31, 32, 33, 34, 35, 36, 37, 38, 39, 40, 41, 42, 43, 44, 45, 46, 47, 48, 49, 50, 51, 52, 53, 54, 55] (by decide +kernel) (by decide +kernel)
set_option maxRecDepth 20000 in
theorem gX5_savedBy_X5_savedAt : GoodIn wsX5_savedBy (wsV RX5 33 RX5 yX5_savedAt wsX5_savedAt) := goodIn_app (goodIn_of _ (by decide +kernel)) ggX5_savedBy_X5_savedAt
theorem dX5_savedBy_0 : decode cX5_savedBy 0 = .ok (.iconst 0, 1) := by decide +kernel
theorem dX5_savedBy_1 : decode cX5_savedBy 1 = .ok (.istore_n 3, 1) := by decide +kernel
theorem dX5_savedBy_2 : decode cX5_savedBy 2 = .ok (.aload_n 1, 1) := by decide +kernel
theorem dX5_savedBy_3 : decode cX5_savedBy 3 = .ok (.getfield 30, 3) := by decide +kernel
theorem dX5_savedBy_6 : decode cX5_savedBy 6 = .ok (.istore 4, 2) := by decide +kernel
theorem dX5_savedBy_8 : decode cX5_savedBy 8 = .ok (.iload 4, 2) := by decide +kernel
theorem dX5_savedBy_10 : decode cX5_savedBy 10 = .ok (.aload_n 1, 1) := by decide +kernel
theorem dX5_savedBy_11 : decode cX5_savedBy 11 = .ok (.getfield 18, 3) := by decide +kernel
theorem dX5_savedBy_14 : decode cX5_savedBy 14 = .ok (.getfield 24, 3) := by decide +kernel
theorem dX5_savedBy_17 : decode cX5_savedBy 17 = .ok (.if_icmp .ge 28, 3) := by decide +kernel
theorem dX5_savedBy_20 : decode cX5_savedBy 20 = .ok (.iload_n 2, 1) := by decide +kernel
theorem dX5_savedBy_21 : decode cX5_savedBy 21 = .ok (.iload 4, 2) := by decide +kernel
theorem dX5_savedBy_23 : decode cX5_savedBy 23 = .ok (.invokestatic 37, 3) := by decide +kernel
theorem dX5_savedBy_26 : decode cX5_savedBy 26 = .ok (.ifCond .eq 13, 3) := by decide +kernel
theorem dX5_savedBy_29 : decode cX5_savedBy 29 = .ok (.iload_n 3, 1) := by decide +kernel
theorem dX5_savedBy_30 : decode cX5_savedBy 30 = .ok (.aload_n 0, 1) := by decide +kernel
theorem dX5_savedBy_31 : decode cX5_savedBy 31 = .ok (.aload_n 1, 1) := by decide +kernel
theorem dX5_savedBy_32 : decode cX5_savedBy 32 = .ok (.iload 4, 2) := by decide +kernel
theorem dX5_savedBy_34 : decode cX5_savedBy 34 = .ok (.invokevirtual 33, 3) := by decide +kernel
theorem dX5_savedBy_37 : decode cX5_savedBy 37 = .ok (.iadd, 1) := by decide +kernel
theorem dX5_savedBy_38 : decode cX5_savedBy 38 = .ok (.istore_n 3, 1) := by decide +kernel
theorem dX5_savedBy_39 : decode cX5_savedBy 39 = .ok (.iinc 4 1, 3) := by decide +kernel
theorem dX5_savedBy_42 : decode cX5_savedBy 42 = .ok (.goto (-34), 3) := by decide +kernel
theorem dX5_savedBy_45 : decode cX5_savedBy 45 = .ok (.iload_n 3, 1) := by decide +kernel
theorem dX5_savedBy_46 : decode cX5_savedBy 46 = .ok (.ireturn, 1) := by decide +kernel
set_option maxRecDepth 20000 in
theorem ggX5_savedAt_X6_costAt : GoodIn wsX5_savedAt wsX6_costAt := goodIn_r _ [5, 6, 7, 8, 9, 10, 11, 12, 13, 14, 15, 16, 17, 18, 19, 20, 21, 22, 23, 30, 31, 32, 33, 34, 35, 36, 37, 38, 39, 40, 41, 42, 43, 44] (by decide +kernel) (by decide +kernel)
set_option maxRecDepth 20000 in
theorem gX5_savedAt_X6_costAt : GoodIn wsX5_savedAt (wsV RX5 43 RX6 yX6_costAt wsX6_costAt) := goodIn_app (goodIn_of _ (by decide +kernel)) ggX5_savedAt_X6_costAt
set_option maxRecDepth 20000 in
theorem ggX5_savedAt_X6_costNoted : GoodIn wsX5_savedAt wsX6_costNoted := goodIn_r _ [27, 6, 28, 29, 2, 3, 4, 5, 7, 8, 9, 10, 11, 12, 13, 14, 15, 16, 17, 18, 19, 20, 21, 22, 23, 30, 31, 32, 33, 34, 35, 36, 37, 38, 39, 40, 41, 42, 43, 44] (by decide +kernel) (by decide +kernel)
set_option maxRecDepth 20000 in
theorem gX5_savedAt_X6_costNoted : GoodIn wsX5_savedAt (wsV RX5 47 RX6 yX6_costNoted wsX6_costNoted) := goodIn_app (goodIn_of _ (by decide +kernel)) ggX5_savedAt_X6_costNoted
theorem dX5_savedAt_0 : decode cX5_savedAt 0 = .ok (.bipush 60, 2) := by decide +kernel
theorem dX5_savedAt_2 : decode cX5_savedAt 2 = .ok (.istore_n 3, 1) := by decide +kernel
theorem dX5_savedAt_3 : decode cX5_savedAt 3 = .ok (.iconst 0, 1) := by decide +kernel
theorem dX5_savedAt_4 : decode cX5_savedAt 4 = .ok (.istore 4, 2) := by decide +kernel
theorem dX5_savedAt_6 : decode cX5_savedAt 6 = .ok (.iload 4, 2) := by decide +kernel
theorem dX5_savedAt_8 : decode cX5_savedAt 8 = .ok (.bipush 6, 2) := by decide +kernel
theorem dX5_savedAt_10 : decode cX5_savedAt 10 = .ok (.if_icmp .gt 27, 3) := by decide +kernel
theorem dX5_savedAt_13 : decode cX5_savedAt 13 = .ok (.aload_n 1, 1) := by decide +kernel
theorem dX5_savedAt_14 : decode cX5_savedAt 14 = .ok (.iload_n 2, 1) := by decide +kernel
theorem dX5_savedAt_15 : decode cX5_savedAt 15 = .ok (.iload 4, 2) := by decide +kernel
theorem dX5_savedAt_17 : decode cX5_savedAt 17 = .ok (.invokevirtual 43, 3) := by decide +kernel
theorem dX5_savedAt_20 : decode cX5_savedAt 20 = .ok (.istore 5, 2) := by decide +kernel
theorem dX5_savedAt_22 : decode cX5_savedAt 22 = .ok (.iload 5, 2) := by decide +kernel
theorem dX5_savedAt_24 : decode cX5_savedAt 24 = .ok (.iload_n 3, 1) := by decide +kernel
theorem dX5_savedAt_25 : decode cX5_savedAt 25 = .ok (.if_icmp .ge 6, 3) := by decide +kernel
theorem dX5_savedAt_28 : decode cX5_savedAt 28 = .ok (.iload 5, 2) := by decide +kernel
theorem dX5_savedAt_30 : decode cX5_savedAt 30 = .ok (.istore_n 3, 1) := by decide +kernel
theorem dX5_savedAt_31 : decode cX5_savedAt 31 = .ok (.iinc 4 1, 3) := by decide +kernel
theorem dX5_savedAt_34 : decode cX5_savedAt 34 = .ok (.goto (-28), 3) := by decide +kernel
theorem dX5_savedAt_37 : decode cX5_savedAt 37 = .ok (.aload_n 1, 1) := by decide +kernel
theorem dX5_savedAt_38 : decode cX5_savedAt 38 = .ok (.iload_n 2, 1) := by decide +kernel
theorem dX5_savedAt_39 : decode cX5_savedAt 39 = .ok (.invokevirtual 47, 3) := by decide +kernel
theorem dX5_savedAt_42 : decode cX5_savedAt 42 = .ok (.iload_n 3, 1) := by decide +kernel
theorem dX5_savedAt_43 : decode cX5_savedAt 43 = .ok (.isub, 1) := by decide +kernel
theorem dX5_savedAt_44 : decode cX5_savedAt 44 = .ok (.ireturn, 1) := by decide +kernel
set_option maxRecDepth 20000 in
theorem ggX5_bestSaid_X6_costAt : GoodIn wsX5_bestSaid wsX6_costAt := goodIn_r _ [10, 11, 12, 13, 14, 15, 16, 17, 18, 19, 20, 21, 22, 23, 24, 25, 26, 27, 28, 49, 50, 51, 52, 53, 54, 55, 56, 57, 58, 59, 60, 61, 62, 63] (by decide +kernel) (by decide +kernel)
set_option maxRecDepth 20000 in
theorem gX5_bestSaid_X6_costAt : GoodIn wsX5_bestSaid (wsV RX5 43 RX6 yX6_costAt wsX6_costAt) := goodIn_app (goodIn_of _ (by decide +kernel)) ggX5_bestSaid_X6_costAt
set_option maxRecDepth 20000 in
theorem ggX5_bestSaid_X6_costNoted : GoodIn wsX5_bestSaid wsX6_costNoted := goodIn_r _ [32, 11, 33, 34, 7, 8, 9, 10, 12, 13, 14, 15, 16, 17, 18, 19, 20, 21, 22, 23, 24, 25, 26, 27, 28, 49, 50, 51, 52, 53, 54, 55, 56, 57, 58, 59, 60, 61, 62, 63] (by decide +kernel) (by decide +kernel)
set_option maxRecDepth 20000 in
theorem gX5_bestSaid_X6_costNoted : GoodIn wsX5_bestSaid (wsV RX5 47 RX6 yX6_costNoted wsX6_costNoted) := goodIn_app (goodIn_of _ (by decide +kernel)) ggX5_bestSaid_X6_costNoted
set_option maxRecDepth 20000 in
theorem ggX5_bestSaid_X5_gainSaying : GoodIn wsX5_bestSaid wsX5_gainSaying := goodIn_r _ [39, 1, 2, 3, 4, 40, 41, 42, 49, 50, 51, 52, 53, 54, 55, 56, 57, 58, 59, 60, 61, 62, 63, 64, 65] (by decide +kernel) (by decide +kernel)
set_option maxRecDepth 20000 in
theorem gX5_bestSaid_X5_gainSaying : GoodIn wsX5_bestSaid (wsV RX5 54 RX5 yX5_gainSaying wsX5_gainSaying) := goodIn_app (goodIn_of _ (by decide +kernel)) ggX5_bestSaid_X5_gainSaying
set_option maxRecDepth 20000 in
theorem ggX5_bestSaid_X5_hasBreath : GoodIn wsX5_bestSaid wsX5_hasBreath := goodIn_r _ [46, 1, 2, 3, 47, 48, 40, 41, 42, 49, 50, 51, 52, 53, 54, 55, 56, 57, 58, 59, 60, 61, 62, 63] (by decide +kernel) (by decide +kernel)
set_option maxRecDepth 20000 in
theorem gX5_bestSaid_X5_hasBreath : GoodIn wsX5_bestSaid (wsV RX5 57 RX5 yX5_hasBreath wsX5_hasBreath) := goodIn_app (goodIn_of _ (by decide +kernel)) ggX5_bestSaid_X5_hasBreath
theorem dX5_bestSaid_0 : decode cX5_bestSaid 0 = .ok (.iconst 0, 1) := by decide +kernel
theorem dX5_bestSaid_1 : decode cX5_bestSaid 1 = .ok (.istore_n 3, 1) := by decide +kernel
theorem dX5_bestSaid_2 : decode cX5_bestSaid 2 = .ok (.aload_n 1, 1) := by decide +kernel
theorem dX5_bestSaid_3 : decode cX5_bestSaid 3 = .ok (.getfield 30, 3) := by decide +kernel
theorem dX5_bestSaid_6 : decode cX5_bestSaid 6 = .ok (.istore 4, 2) := by decide +kernel
theorem dX5_bestSaid_8 : decode cX5_bestSaid 8 = .ok (.iload 4, 2) := by decide +kernel
theorem dX5_bestSaid_10 : decode cX5_bestSaid 10 = .ok (.aload_n 1, 1) := by decide +kernel
theorem dX5_bestSaid_11 : decode cX5_bestSaid 11 = .ok (.getfield 18, 3) := by decide +kernel
theorem dX5_bestSaid_14 : decode cX5_bestSaid 14 = .ok (.getfield 24, 3) := by decide +kernel
theorem dX5_bestSaid_17 : decode cX5_bestSaid 17 = .ok (.if_icmp .ge 50, 3) := by decide +kernel
theorem dX5_bestSaid_20 : decode cX5_bestSaid 20 = .ok (.aload_n 0, 1) := by decide +kernel
theorem dX5_bestSaid_21 : decode cX5_bestSaid 21 = .ok (.getfield 9, 3) := by decide +kernel
theorem dX5_bestSaid_24 : decode cX5_bestSaid 24 = .ok (.iload 4, 2) := by decide +kernel
theorem dX5_bestSaid_26 : decode cX5_bestSaid 26 = .ok (.aload_n 1, 1) := by decide +kernel
theorem dX5_bestSaid_27 : decode cX5_bestSaid 27 = .ok (.iload 4, 2) := by decide +kernel
theorem dX5_bestSaid_29 : decode cX5_bestSaid 29 = .ok (.iconst 0, 1) := by decide +kernel
theorem dX5_bestSaid_30 : decode cX5_bestSaid 30 = .ok (.invokevirtual 43, 3) := by decide +kernel
theorem dX5_bestSaid_33 : decode cX5_bestSaid 33 = .ok (.aload_n 1, 1) := by decide +kernel
theorem dX5_bestSaid_34 : decode cX5_bestSaid 34 = .ok (.iload 4, 2) := by decide +kernel
theorem dX5_bestSaid_36 : decode cX5_bestSaid 36 = .ok (.invokevirtual 47, 3) := by decide +kernel
theorem dX5_bestSaid_39 : decode cX5_bestSaid 39 = .ok (.isub, 1) := by decide +kernel
theorem dX5_bestSaid_40 : decode cX5_bestSaid 40 = .ok (.iastore, 1) := by decide +kernel
theorem dX5_bestSaid_41 : decode cX5_bestSaid 41 = .ok (.aload_n 1, 1) := by decide +kernel
theorem dX5_bestSaid_42 : decode cX5_bestSaid 42 = .ok (.getfield 18, 3) := by decide +kernel
theorem dX5_bestSaid_45 : decode cX5_bestSaid 45 = .ok (.getfield 51, 3) := by decide +kernel
theorem dX5_bestSaid_48 : decode cX5_bestSaid 48 = .ok (.iload 4, 2) := by decide +kernel
theorem dX5_bestSaid_50 : decode cX5_bestSaid 50 = .ok (.iaload, 1) := by decide +kernel
theorem dX5_bestSaid_51 : decode cX5_bestSaid 51 = .ok (.ifCond .eq 10, 3) := by decide +kernel
theorem dX5_bestSaid_54 : decode cX5_bestSaid 54 = .ok (.iload_n 3, 1) := by decide +kernel
theorem dX5_bestSaid_55 : decode cX5_bestSaid 55 = .ok (.iconst 1, 1) := by decide +kernel
theorem dX5_bestSaid_56 : decode cX5_bestSaid 56 = .ok (.iload 4, 2) := by decide +kernel
theorem dX5_bestSaid_58 : decode cX5_bestSaid 58 = .ok (.ishl, 1) := by decide +kernel
theorem dX5_bestSaid_59 : decode cX5_bestSaid 59 = .ok (.ior, 1) := by decide +kernel
theorem dX5_bestSaid_60 : decode cX5_bestSaid 60 = .ok (.istore_n 3, 1) := by decide +kernel
theorem dX5_bestSaid_61 : decode cX5_bestSaid 61 = .ok (.iinc 4 1, 3) := by decide +kernel
theorem dX5_bestSaid_64 : decode cX5_bestSaid 64 = .ok (.goto (-56), 3) := by decide +kernel
theorem dX5_bestSaid_67 : decode cX5_bestSaid 67 = .ok (.iconst 0, 1) := by decide +kernel
theorem dX5_bestSaid_68 : decode cX5_bestSaid 68 = .ok (.istore 4, 2) := by decide +kernel
theorem dX5_bestSaid_70 : decode cX5_bestSaid 70 = .ok (.iconst 0, 1) := by decide +kernel
theorem dX5_bestSaid_71 : decode cX5_bestSaid 71 = .ok (.istore 5, 2) := by decide +kernel
theorem dX5_bestSaid_73 : decode cX5_bestSaid 73 = .ok (.iconst 1, 1) := by decide +kernel
theorem dX5_bestSaid_74 : decode cX5_bestSaid 74 = .ok (.istore 6, 2) := by decide +kernel
theorem dX5_bestSaid_76 : decode cX5_bestSaid 76 = .ok (.iload 6, 2) := by decide +kernel
theorem dX5_bestSaid_78 : decode cX5_bestSaid 78 = .ok (.iload_n 3, 1) := by decide +kernel
theorem dX5_bestSaid_79 : decode cX5_bestSaid 79 = .ok (.if_icmp .gt 56, 3) := by decide +kernel
theorem dX5_bestSaid_82 : decode cX5_bestSaid 82 = .ok (.iload 6, 2) := by decide +kernel
theorem dX5_bestSaid_84 : decode cX5_bestSaid 84 = .ok (.iload_n 3, 1) := by decide +kernel
theorem dX5_bestSaid_85 : decode cX5_bestSaid 85 = .ok (.iconst (-1), 1) := by decide +kernel
theorem dX5_bestSaid_86 : decode cX5_bestSaid 86 = .ok (.ixor, 1) := by decide +kernel
theorem dX5_bestSaid_87 : decode cX5_bestSaid 87 = .ok (.iand, 1) := by decide +kernel
theorem dX5_bestSaid_88 : decode cX5_bestSaid 88 = .ok (.ifCond .eq 6, 3) := by decide +kernel
theorem dX5_bestSaid_91 : decode cX5_bestSaid 91 = .ok (.goto 38, 3) := by decide +kernel
theorem dX5_bestSaid_94 : decode cX5_bestSaid 94 = .ok (.aload_n 0, 1) := by decide +kernel
theorem dX5_bestSaid_95 : decode cX5_bestSaid 95 = .ok (.aload_n 1, 1) := by decide +kernel
theorem dX5_bestSaid_96 : decode cX5_bestSaid 96 = .ok (.iload 6, 2) := by decide +kernel
theorem dX5_bestSaid_98 : decode cX5_bestSaid 98 = .ok (.invokevirtual 54, 3) := by decide +kernel
theorem dX5_bestSaid_101 : decode cX5_bestSaid 101 = .ok (.istore 7, 2) := by decide +kernel
theorem dX5_bestSaid_103 : decode cX5_bestSaid 103 = .ok (.iload 7, 2) := by decide +kernel
theorem dX5_bestSaid_105 : decode cX5_bestSaid 105 = .ok (.iload 5, 2) := by decide +kernel
theorem dX5_bestSaid_107 : decode cX5_bestSaid 107 = .ok (.if_icmp .le 22, 3) := by decide +kernel
theorem dX5_bestSaid_110 : decode cX5_bestSaid 110 = .ok (.aload_n 0, 1) := by decide +kernel
theorem dX5_bestSaid_111 : decode cX5_bestSaid 111 = .ok (.aload_n 1, 1) := by decide +kernel
theorem dX5_bestSaid_112 : decode cX5_bestSaid 112 = .ok (.iload 6, 2) := by decide +kernel
theorem dX5_bestSaid_114 : decode cX5_bestSaid 114 = .ok (.iload_n 2, 1) := by decide +kernel
theorem dX5_bestSaid_115 : decode cX5_bestSaid 115 = .ok (.invokevirtual 57, 3) := by decide +kernel
theorem dX5_bestSaid_118 : decode cX5_bestSaid 118 = .ok (.ifCond .eq 11, 3) := by decide +kernel
theorem dX5_bestSaid_121 : decode cX5_bestSaid 121 = .ok (.iload 6, 2) := by decide +kernel
theorem dX5_bestSaid_123 : decode cX5_bestSaid 123 = .ok (.istore 4, 2) := by decide +kernel
theorem dX5_bestSaid_125 : decode cX5_bestSaid 125 = .ok (.iload 7, 2) := by decide +kernel
theorem dX5_bestSaid_127 : decode cX5_bestSaid 127 = .ok (.istore 5, 2) := by decide +kernel
theorem dX5_bestSaid_129 : decode cX5_bestSaid 129 = .ok (.iinc 6 1, 3) := by decide +kernel
theorem dX5_bestSaid_132 : decode cX5_bestSaid 132 = .ok (.goto (-56), 3) := by decide +kernel
theorem dX5_bestSaid_135 : decode cX5_bestSaid 135 = .ok (.iload 4, 2) := by decide +kernel
theorem dX5_bestSaid_137 : decode cX5_bestSaid 137 = .ok (.ireturn, 1) := by decide +kernel
set_option maxRecDepth 20000 in
theorem ggX5_gainSaying_X8_hasBit : GoodIn wsX5_gainSaying wsX8_hasBit := goodIn_r _ [7] (by decide +kernel) (by decide +kernel)
set_option maxRecDepth 20000 in
theorem gX5_gainSaying_X8_hasBit_n37 : GoodIn wsX5_gainSaying (wsX8_hasBit) := ggX5_gainSaying_X8_hasBit
theorem dX5_gainSaying_0 : decode cX5_gainSaying 0 = .ok (.iconst 0, 1) := by decide +kernel
theorem dX5_gainSaying_1 : decode cX5_gainSaying 1 = .ok (.istore_n 3, 1) := by decide +kernel
theorem dX5_gainSaying_2 : decode cX5_gainSaying 2 = .ok (.aload_n 1, 1) := by decide +kernel
theorem dX5_gainSaying_3 : decode cX5_gainSaying 3 = .ok (.getfield 30, 3) := by decide +kernel
theorem dX5_gainSaying_6 : decode cX5_gainSaying 6 = .ok (.istore 4, 2) := by decide +kernel
theorem dX5_gainSaying_8 : decode cX5_gainSaying 8 = .ok (.iload 4, 2) := by decide +kernel
theorem dX5_gainSaying_10 : decode cX5_gainSaying 10 = .ok (.aload_n 1, 1) := by decide +kernel
theorem dX5_gainSaying_11 : decode cX5_gainSaying 11 = .ok (.getfield 18, 3) := by decide +kernel
theorem dX5_gainSaying_14 : decode cX5_gainSaying 14 = .ok (.getfield 24, 3) := by decide +kernel
theorem dX5_gainSaying_17 : decode cX5_gainSaying 17 = .ok (.if_icmp .ge 28, 3) := by decide +kernel
theorem dX5_gainSaying_20 : decode cX5_gainSaying 20 = .ok (.iload_n 2, 1) := by decide +kernel
theorem dX5_gainSaying_21 : decode cX5_gainSaying 21 = .ok (.iload 4, 2) := by decide +kernel
theorem dX5_gainSaying_23 : decode cX5_gainSaying 23 = .ok (.invokestatic 37, 3) := by decide +kernel
theorem dX5_gainSaying_26 : decode cX5_gainSaying 26 = .ok (.ifCond .eq 13, 3) := by decide +kernel
theorem dX5_gainSaying_29 : decode cX5_gainSaying 29 = .ok (.iload_n 3, 1) := by decide +kernel
theorem dX5_gainSaying_30 : decode cX5_gainSaying 30 = .ok (.aload_n 0, 1) := by decide +kernel
theorem dX5_gainSaying_31 : decode cX5_gainSaying 31 = .ok (.getfield 9, 3) := by decide +kernel
theorem dX5_gainSaying_34 : decode cX5_gainSaying 34 = .ok (.iload 4, 2) := by decide +kernel
theorem dX5_gainSaying_36 : decode cX5_gainSaying 36 = .ok (.iaload, 1) := by decide +kernel
theorem dX5_gainSaying_37 : decode cX5_gainSaying 37 = .ok (.iadd, 1) := by decide +kernel
theorem dX5_gainSaying_38 : decode cX5_gainSaying 38 = .ok (.istore_n 3, 1) := by decide +kernel
theorem dX5_gainSaying_39 : decode cX5_gainSaying 39 = .ok (.iinc 4 1, 3) := by decide +kernel
theorem dX5_gainSaying_42 : decode cX5_gainSaying 42 = .ok (.goto (-34), 3) := by decide +kernel
theorem dX5_gainSaying_45 : decode cX5_gainSaying 45 = .ok (.iload_n 3, 1) := by decide +kernel
theorem dX5_gainSaying_46 : decode cX5_gainSaying 46 = .ok (.ireturn, 1) := by decide +kernel
set_option maxRecDepth 20000 in
theorem ggX5_hasBreath_X8_hasBit : GoodIn wsX5_hasBreath wsX8_hasBit := goodIn_r _ [8] (by decide +kernel) (by decide +kernel)
set_option maxRecDepth 20000 in
theorem gX5_hasBreath_X8_hasBit_n37 : GoodIn wsX5_hasBreath (wsX8_hasBit) := ggX5_hasBreath_X8_hasBit
theorem dX5_hasBreath_0 : decode cX5_hasBreath 0 = .ok (.iconst 0, 1) := by decide +kernel
theorem dX5_hasBreath_1 : decode cX5_hasBreath 1 = .ok (.istore 4, 2) := by decide +kernel
theorem dX5_hasBreath_3 : decode cX5_hasBreath 3 = .ok (.iconst 0, 1) := by decide +kernel
theorem dX5_hasBreath_4 : decode cX5_hasBreath 4 = .ok (.istore 5, 2) := by decide +kernel
theorem dX5_hasBreath_6 : decode cX5_hasBreath 6 = .ok (.aload_n 1, 1) := by decide +kernel
theorem dX5_hasBreath_7 : decode cX5_hasBreath 7 = .ok (.getfield 30, 3) := by decide +kernel
theorem dX5_hasBreath_10 : decode cX5_hasBreath 10 = .ok (.istore 6, 2) := by decide +kernel
theorem dX5_hasBreath_12 : decode cX5_hasBreath 12 = .ok (.iload 6, 2) := by decide +kernel
theorem dX5_hasBreath_14 : decode cX5_hasBreath 14 = .ok (.aload_n 1, 1) := by decide +kernel
theorem dX5_hasBreath_15 : decode cX5_hasBreath 15 = .ok (.getfield 18, 3) := by decide +kernel
theorem dX5_hasBreath_18 : decode cX5_hasBreath 18 = .ok (.getfield 24, 3) := by decide +kernel
theorem dX5_hasBreath_21 : decode cX5_hasBreath 21 = .ok (.if_icmp .ge 62, 3) := by decide +kernel
theorem dX5_hasBreath_24 : decode cX5_hasBreath 24 = .ok (.iload 4, 2) := by decide +kernel
theorem dX5_hasBreath_26 : decode cX5_hasBreath 26 = .ok (.aload_n 1, 1) := by decide +kernel
theorem dX5_hasBreath_27 : decode cX5_hasBreath 27 = .ok (.getfield 18, 3) := by decide +kernel
theorem dX5_hasBreath_30 : decode cX5_hasBreath 30 = .ok (.getfield 61, 3) := by decide +kernel
theorem dX5_hasBreath_33 : decode cX5_hasBreath 33 = .ok (.iload 6, 2) := by decide +kernel
theorem dX5_hasBreath_35 : decode cX5_hasBreath 35 = .ok (.iaload, 1) := by decide +kernel
theorem dX5_hasBreath_36 : decode cX5_hasBreath 36 = .ok (.iadd, 1) := by decide +kernel
theorem dX5_hasBreath_37 : decode cX5_hasBreath 37 = .ok (.istore 4, 2) := by decide +kernel
theorem dX5_hasBreath_39 : decode cX5_hasBreath 39 = .ok (.iload_n 2, 1) := by decide +kernel
theorem dX5_hasBreath_40 : decode cX5_hasBreath 40 = .ok (.iload 6, 2) := by decide +kernel
theorem dX5_hasBreath_42 : decode cX5_hasBreath 42 = .ok (.invokestatic 37, 3) := by decide +kernel
theorem dX5_hasBreath_45 : decode cX5_hasBreath 45 = .ok (.ifCond .ne 6, 3) := by decide +kernel
theorem dX5_hasBreath_48 : decode cX5_hasBreath 48 = .ok (.goto 29, 3) := by decide +kernel
theorem dX5_hasBreath_51 : decode cX5_hasBreath 51 = .ok (.iload 5, 2) := by decide +kernel
theorem dX5_hasBreath_53 : decode cX5_hasBreath 53 = .ok (.aload_n 1, 1) := by decide +kernel
theorem dX5_hasBreath_54 : decode cX5_hasBreath 54 = .ok (.getfield 18, 3) := by decide +kernel
theorem dX5_hasBreath_57 : decode cX5_hasBreath 57 = .ok (.getfield 64, 3) := by decide +kernel
theorem dX5_hasBreath_60 : decode cX5_hasBreath 60 = .ok (.iload 6, 2) := by decide +kernel
theorem dX5_hasBreath_62 : decode cX5_hasBreath 62 = .ok (.iaload, 1) := by decide +kernel
theorem dX5_hasBreath_63 : decode cX5_hasBreath 63 = .ok (.iadd, 1) := by decide +kernel
theorem dX5_hasBreath_64 : decode cX5_hasBreath 64 = .ok (.istore 5, 2) := by decide +kernel
theorem dX5_hasBreath_66 : decode cX5_hasBreath 66 = .ok (.iload 5, 2) := by decide +kernel
theorem dX5_hasBreath_68 : decode cX5_hasBreath 68 = .ok (.iload_n 3, 1) := by decide +kernel
theorem dX5_hasBreath_69 : decode cX5_hasBreath 69 = .ok (.iload 4, 2) := by decide +kernel
theorem dX5_hasBreath_71 : decode cX5_hasBreath 71 = .ok (.imul, 1) := by decide +kernel
theorem dX5_hasBreath_72 : decode cX5_hasBreath 72 = .ok (.if_icmp .le 5, 3) := by decide +kernel
theorem dX5_hasBreath_75 : decode cX5_hasBreath 75 = .ok (.iconst 0, 1) := by decide +kernel
theorem dX5_hasBreath_76 : decode cX5_hasBreath 76 = .ok (.ireturn, 1) := by decide +kernel
theorem dX5_hasBreath_77 : decode cX5_hasBreath 77 = .ok (.iinc 6 1, 3) := by decide +kernel
theorem dX5_hasBreath_80 : decode cX5_hasBreath 80 = .ok (.goto (-68), 3) := by decide +kernel
theorem dX5_hasBreath_83 : decode cX5_hasBreath 83 = .ok (.iconst 1, 1) := by decide +kernel
theorem dX5_hasBreath_84 : decode cX5_hasBreath 84 = .ok (.ireturn, 1) := by decide +kernel
set_option maxRecDepth 20000 in
theorem ggX5_costSaying_X8_hasBit : GoodIn wsX5_costSaying wsX8_hasBit := goodIn_r _ [6] (by decide +kernel) (by decide +kernel)
set_option maxRecDepth 20000 in
theorem gX5_costSaying_X8_hasBit_n37 : GoodIn wsX5_costSaying (wsX8_hasBit) := ggX5_costSaying_X8_hasBit
set_option maxRecDepth 20000 in
theorem ggX5_costSaying_X6_costNoted : GoodIn wsX5_costSaying wsX6_costNoted := goodIn_r _ [11, 12, 13, 14, 15, 16, 10, 17, 18, 19, 20, 21, 22, 23, 24, 25, 26, 27, 28, 29, 30, 31, 32, 33, 34, 36, 37, 38, 39, 40, 41, 42, 43, 44, 45, 46, 47, 48, 49, 50] (by decide +kernel) (by decide +kernel)
set_option maxRecDepth 20000 in
theorem gX5_costSaying_X6_costNoted : GoodIn wsX5_costSaying (wsV RX5 47 RX6 yX6_costNoted wsX6_costNoted) := goodIn_app (goodIn_of _ (by decide +kernel)) ggX5_costSaying_X6_costNoted
set_option maxRecDepth 20000 in
theorem ggX5_costSaying_X6_costAt : GoodIn wsX5_costSaying wsX6_costAt := goodIn_r _ [17, 12, 18, 19, 20, 21, 22, 23, 24, 25, 26, 27, 28, 29, 30, 31, 32, 33, 34, 36, 37, 38, 39, 40, 41, 42, 43, 44, 45, 46, 47, 48, 49, 50] (by decide +kernel) (by decide +kernel)
set_option maxRecDepth 20000 in
theorem gX5_costSaying_X6_costAt : GoodIn wsX5_costSaying (wsV RX5 43 RX6 yX6_costAt wsX6_costAt) := goodIn_app (goodIn_of _ (by decide +kernel)) ggX5_costSaying_X6_costAt
theorem dX5_costSaying_0 : decode cX5_costSaying 0 = .ok (.iconst 0, 1) := by decide +kernel
theorem dX5_costSaying_1 : decode cX5_costSaying 1 = .ok (.istore_n 3, 1) := by decide +kernel
theorem dX5_costSaying_2 : decode cX5_costSaying 2 = .ok (.aload_n 1, 1) := by decide +kernel
theorem dX5_costSaying_3 : decode cX5_costSaying 3 = .ok (.getfield 30, 3) := by decide +kernel
theorem dX5_costSaying_6 : decode cX5_costSaying 6 = .ok (.istore 4, 2) := by decide +kernel
theorem dX5_costSaying_8 : decode cX5_costSaying 8 = .ok (.iload 4, 2) := by decide +kernel
theorem dX5_costSaying_10 : decode cX5_costSaying 10 = .ok (.aload_n 1, 1) := by decide +kernel
theorem dX5_costSaying_11 : decode cX5_costSaying 11 = .ok (.getfield 18, 3) := by decide +kernel
theorem dX5_costSaying_14 : decode cX5_costSaying 14 = .ok (.getfield 24, 3) := by decide +kernel
theorem dX5_costSaying_17 : decode cX5_costSaying 17 = .ok (.if_icmp .ge 37, 3) := by decide +kernel
theorem dX5_costSaying_20 : decode cX5_costSaying 20 = .ok (.iload_n 3, 1) := by decide +kernel
theorem dX5_costSaying_21 : decode cX5_costSaying 21 = .ok (.iload_n 2, 1) := by decide +kernel
theorem dX5_costSaying_22 : decode cX5_costSaying 22 = .ok (.iload 4, 2) := by decide +kernel
theorem dX5_costSaying_24 : decode cX5_costSaying 24 = .ok (.invokestatic 37, 3) := by decide +kernel
theorem dX5_costSaying_27 : decode cX5_costSaying 27 = .ok (.ifCond .eq 12, 3) := by decide +kernel
theorem dX5_costSaying_30 : decode cX5_costSaying 30 = .ok (.aload_n 1, 1) := by decide +kernel
theorem dX5_costSaying_31 : decode cX5_costSaying 31 = .ok (.iload 4, 2) := by decide +kernel
theorem dX5_costSaying_33 : decode cX5_costSaying 33 = .ok (.invokevirtual 47, 3) := by decide +kernel
theorem dX5_costSaying_36 : decode cX5_costSaying 36 = .ok (.goto 10, 3) := by decide +kernel
theorem dX5_costSaying_39 : decode cX5_costSaying 39 = .ok (.aload_n 1, 1) := by decide +kernel
theorem dX5_costSaying_40 : decode cX5_costSaying 40 = .ok (.iload 4, 2) := by decide +kernel
theorem dX5_costSaying_42 : decode cX5_costSaying 42 = .ok (.iconst 0, 1) := by decide +kernel
theorem dX5_costSaying_43 : decode cX5_costSaying 43 = .ok (.invokevirtual 43, 3) := by decide +kernel
theorem dX5_costSaying_46 : decode cX5_costSaying 46 = .ok (.iadd, 1) := by decide +kernel
theorem dX5_costSaying_47 : decode cX5_costSaying 47 = .ok (.istore_n 3, 1) := by decide +kernel
theorem dX5_costSaying_48 : decode cX5_costSaying 48 = .ok (.iinc 4 1, 3) := by decide +kernel
theorem dX5_costSaying_51 : decode cX5_costSaying 51 = .ok (.goto (-43), 3) := by decide +kernel
theorem dX5_costSaying_54 : decode cX5_costSaying 54 = .ok (.iload_n 3, 1) := by decide +kernel
theorem dX5_costSaying_55 : decode cX5_costSaying 55 = .ok (.ireturn, 1) := by decide +kernel
set_option maxRecDepth 20000 in
theorem ggX5_likeliestTurned_X6_costNoted : GoodIn wsX5_likeliestTurned wsX6_costNoted := goodIn_r _ [8, 9, 10, 11, 12, 13, 7, 14, 15, 16, 17, 18, 19, 20, 21, 22, 23, 24, 25, 26, 27, 28, 29, 30, 31, 33, 34, 35, 36, 37, 38, 39, 40, 41, 42, 43, 44, 45, 46, 47] (by decide +kernel) (by decide +kernel)
set_option maxRecDepth 20000 in
theorem gX5_likeliestTurned_X6_costNoted : GoodIn wsX5_likeliestTurned (wsV RX5 47 RX6 yX6_costNoted wsX6_costNoted) := goodIn_app (goodIn_of _ (by decide +kernel)) ggX5_likeliestTurned_X6_costNoted
set_option maxRecDepth 20000 in
theorem ggX5_likeliestTurned_X6_costAt : GoodIn wsX5_likeliestTurned wsX6_costAt := goodIn_r _ [14, 9, 15, 16, 17, 18, 19, 20, 21, 22, 23, 24, 25, 26, 27, 28, 29, 30, 31, 33, 34, 35, 36, 37, 38, 39, 40, 41, 42, 43, 44, 45, 46, 47] (by decide +kernel) (by decide +kernel)
set_option maxRecDepth 20000 in
theorem gX5_likeliestTurned_X6_costAt : GoodIn wsX5_likeliestTurned (wsV RX5 43 RX6 yX6_costAt wsX6_costAt) := goodIn_app (goodIn_of _ (by decide +kernel)) ggX5_likeliestTurned_X6_costAt
theorem dX5_likeliestTurned_0 : decode cX5_likeliestTurned 0 = .ok (.aload_n 1, 1) := by decide +kernel
theorem dX5_likeliestTurned_1 : decode cX5_likeliestTurned 1 = .ok (.getfield 18, 3) := by decide +kernel
theorem dX5_likeliestTurned_4 : decode cX5_likeliestTurned 4 = .ok (.getfield 51, 3) := by decide +kernel
theorem dX5_likeliestTurned_7 : decode cX5_likeliestTurned 7 = .ok (.astore_n 2, 1) := by decide +kernel
theorem dX5_likeliestTurned_8 : decode cX5_likeliestTurned 8 = .ok (.iconst (-1), 1) := by decide +kernel
theorem dX5_likeliestTurned_9 : decode cX5_likeliestTurned 9 = .ok (.istore_n 3, 1) := by decide +kernel
theorem dX5_likeliestTurned_10 : decode cX5_likeliestTurned 10 = .ok (.iconst 0, 1) := by decide +kernel
theorem dX5_likeliestTurned_11 : decode cX5_likeliestTurned 11 = .ok (.istore 4, 2) := by decide +kernel
theorem dX5_likeliestTurned_13 : decode cX5_likeliestTurned 13 = .ok (.iconst 0, 1) := by decide +kernel
theorem dX5_likeliestTurned_14 : decode cX5_likeliestTurned 14 = .ok (.istore 5, 2) := by decide +kernel
theorem dX5_likeliestTurned_16 : decode cX5_likeliestTurned 16 = .ok (.iload 5, 2) := by decide +kernel
theorem dX5_likeliestTurned_18 : decode cX5_likeliestTurned 18 = .ok (.iconst 1, 1) := by decide +kernel
theorem dX5_likeliestTurned_19 : decode cX5_likeliestTurned 19 = .ok (.iadd, 1) := by decide +kernel
theorem dX5_likeliestTurned_20 : decode cX5_likeliestTurned 20 = .ok (.aload_n 1, 1) := by decide +kernel
theorem dX5_likeliestTurned_21 : decode cX5_likeliestTurned 21 = .ok (.getfield 18, 3) := by decide +kernel
theorem dX5_likeliestTurned_24 : decode cX5_likeliestTurned 24 = .ok (.getfield 24, 3) := by decide +kernel
theorem dX5_likeliestTurned_27 : decode cX5_likeliestTurned 27 = .ok (.if_icmp .ge 73, 3) := by decide +kernel
theorem dX5_likeliestTurned_30 : decode cX5_likeliestTurned 30 = .ok (.aload_n 1, 1) := by decide +kernel
theorem dX5_likeliestTurned_31 : decode cX5_likeliestTurned 31 = .ok (.iload 5, 2) := by decide +kernel
theorem dX5_likeliestTurned_33 : decode cX5_likeliestTurned 33 = .ok (.invokevirtual 47, 3) := by decide +kernel
theorem dX5_likeliestTurned_36 : decode cX5_likeliestTurned 36 = .ok (.aload_n 1, 1) := by decide +kernel
theorem dX5_likeliestTurned_37 : decode cX5_likeliestTurned 37 = .ok (.iload 5, 2) := by decide +kernel
theorem dX5_likeliestTurned_39 : decode cX5_likeliestTurned 39 = .ok (.iconst 1, 1) := by decide +kernel
theorem dX5_likeliestTurned_40 : decode cX5_likeliestTurned 40 = .ok (.iadd, 1) := by decide +kernel
theorem dX5_likeliestTurned_41 : decode cX5_likeliestTurned 41 = .ok (.invokevirtual 47, 3) := by decide +kernel
theorem dX5_likeliestTurned_44 : decode cX5_likeliestTurned 44 = .ok (.iadd, 1) := by decide +kernel
theorem dX5_likeliestTurned_45 : decode cX5_likeliestTurned 45 = .ok (.istore 6, 2) := by decide +kernel
theorem dX5_likeliestTurned_47 : decode cX5_likeliestTurned 47 = .ok (.aload_n 1, 1) := by decide +kernel
theorem dX5_likeliestTurned_48 : decode cX5_likeliestTurned 48 = .ok (.iload 5, 2) := by decide +kernel
theorem dX5_likeliestTurned_50 : decode cX5_likeliestTurned 50 = .ok (.aload_n 2, 1) := by decide +kernel
theorem dX5_likeliestTurned_51 : decode cX5_likeliestTurned 51 = .ok (.iload 5, 2) := by decide +kernel
theorem dX5_likeliestTurned_53 : decode cX5_likeliestTurned 53 = .ok (.iconst 1, 1) := by decide +kernel
theorem dX5_likeliestTurned_54 : decode cX5_likeliestTurned 54 = .ok (.iadd, 1) := by decide +kernel
theorem dX5_likeliestTurned_55 : decode cX5_likeliestTurned 55 = .ok (.iaload, 1) := by decide +kernel
theorem dX5_likeliestTurned_56 : decode cX5_likeliestTurned 56 = .ok (.invokevirtual 43, 3) := by decide +kernel
theorem dX5_likeliestTurned_59 : decode cX5_likeliestTurned 59 = .ok (.aload_n 1, 1) := by decide +kernel
theorem dX5_likeliestTurned_60 : decode cX5_likeliestTurned 60 = .ok (.iload 5, 2) := by decide +kernel
theorem dX5_likeliestTurned_62 : decode cX5_likeliestTurned 62 = .ok (.iconst 1, 1) := by decide +kernel
theorem dX5_likeliestTurned_63 : decode cX5_likeliestTurned 63 = .ok (.iadd, 1) := by decide +kernel
theorem dX5_likeliestTurned_64 : decode cX5_likeliestTurned 64 = .ok (.aload_n 2, 1) := by decide +kernel
theorem dX5_likeliestTurned_65 : decode cX5_likeliestTurned 65 = .ok (.iload 5, 2) := by decide +kernel
theorem dX5_likeliestTurned_67 : decode cX5_likeliestTurned 67 = .ok (.iaload, 1) := by decide +kernel
theorem dX5_likeliestTurned_68 : decode cX5_likeliestTurned 68 = .ok (.invokevirtual 43, 3) := by decide +kernel
theorem dX5_likeliestTurned_71 : decode cX5_likeliestTurned 71 = .ok (.iadd, 1) := by decide +kernel
theorem dX5_likeliestTurned_72 : decode cX5_likeliestTurned 72 = .ok (.istore 7, 2) := by decide +kernel
theorem dX5_likeliestTurned_74 : decode cX5_likeliestTurned 74 = .ok (.iload 6, 2) := by decide +kernel
theorem dX5_likeliestTurned_76 : decode cX5_likeliestTurned 76 = .ok (.iload 7, 2) := by decide +kernel
theorem dX5_likeliestTurned_78 : decode cX5_likeliestTurned 78 = .ok (.isub, 1) := by decide +kernel
theorem dX5_likeliestTurned_79 : decode cX5_likeliestTurned 79 = .ok (.iload 4, 2) := by decide +kernel
theorem dX5_likeliestTurned_81 : decode cX5_likeliestTurned 81 = .ok (.if_icmp .le 13, 3) := by decide +kernel
theorem dX5_likeliestTurned_84 : decode cX5_likeliestTurned 84 = .ok (.iload 5, 2) := by decide +kernel
theorem dX5_likeliestTurned_86 : decode cX5_likeliestTurned 86 = .ok (.istore_n 3, 1) := by decide +kernel
theorem dX5_likeliestTurned_87 : decode cX5_likeliestTurned 87 = .ok (.iload 6, 2) := by decide +kernel
theorem dX5_likeliestTurned_89 : decode cX5_likeliestTurned 89 = .ok (.iload 7, 2) := by decide +kernel
theorem dX5_likeliestTurned_91 : decode cX5_likeliestTurned 91 = .ok (.isub, 1) := by decide +kernel
theorem dX5_likeliestTurned_92 : decode cX5_likeliestTurned 92 = .ok (.istore 4, 2) := by decide +kernel
theorem dX5_likeliestTurned_94 : decode cX5_likeliestTurned 94 = .ok (.iinc 5 1, 3) := by decide +kernel
theorem dX5_likeliestTurned_97 : decode cX5_likeliestTurned 97 = .ok (.goto (-81), 3) := by decide +kernel
theorem dX5_likeliestTurned_100 : decode cX5_likeliestTurned 100 = .ok (.iload_n 3, 1) := by decide +kernel
theorem dX5_likeliestTurned_101 : decode cX5_likeliestTurned 101 = .ok (.ireturn, 1) := by decide +kernel
set_option maxRecDepth 20000 in
theorem ggX5_bestLook_X5_mostAlike : GoodIn wsX5_bestLook wsX5_mostAlike := goodIn_r _ [7, 8, 9, 10, 11, 12, 13, 14, 15, 16, 17, 18, 19, 20, 21, 22, 23, 24, 25, 26, 42, 43, 36, 37, 38, 39, 40, 41] (by decide +kernel) (by decide +kernel)
set_option maxRecDepth 20000 in
theorem gX5_bestLook_X5_mostAlike : GoodIn wsX5_bestLook (wsV RX5 67 RX5 yX5_mostAlike wsX5_mostAlike) := goodIn_app (goodIn_of _ (by decide +kernel)) ggX5_bestLook_X5_mostAlike
theorem dX5_bestLook_0 : decode cX5_bestLook 0 = .ok (.iload_n 2, 1) := by decide +kernel
theorem dX5_bestLook_1 : decode cX5_bestLook 1 = .ok (.ifCond .ne 5, 3) := by decide +kernel
theorem dX5_bestLook_4 : decode cX5_bestLook 4 = .ok (.iconst (-1), 1) := by decide +kernel
theorem dX5_bestLook_5 : decode cX5_bestLook 5 = .ok (.ireturn, 1) := by decide +kernel
theorem dX5_bestLook_6 : decode cX5_bestLook 6 = .ok (.iconst (-1), 1) := by decide +kernel
theorem dX5_bestLook_7 : decode cX5_bestLook 7 = .ok (.istore_n 3, 1) := by decide +kernel
theorem dX5_bestLook_8 : decode cX5_bestLook 8 = .ok (.bipush 7, 2) := by decide +kernel
theorem dX5_bestLook_10 : decode cX5_bestLook 10 = .ok (.istore 4, 2) := by decide +kernel
theorem dX5_bestLook_12 : decode cX5_bestLook 12 = .ok (.iconst 0, 1) := by decide +kernel
theorem dX5_bestLook_13 : decode cX5_bestLook 13 = .ok (.istore 5, 2) := by decide +kernel
theorem dX5_bestLook_15 : decode cX5_bestLook 15 = .ok (.iload 5, 2) := by decide +kernel
theorem dX5_bestLook_17 : decode cX5_bestLook 17 = .ok (.bipush 9, 2) := by decide +kernel
theorem dX5_bestLook_19 : decode cX5_bestLook 19 = .ok (.if_icmp .gt 65, 3) := by decide +kernel
theorem dX5_bestLook_22 : decode cX5_bestLook 22 = .ok (.iconst 0, 1) := by decide +kernel
theorem dX5_bestLook_23 : decode cX5_bestLook 23 = .ok (.istore 6, 2) := by decide +kernel
theorem dX5_bestLook_25 : decode cX5_bestLook 25 = .ok (.iload 6, 2) := by decide +kernel
theorem dX5_bestLook_27 : decode cX5_bestLook 27 = .ok (.aload_n 1, 1) := by decide +kernel
theorem dX5_bestLook_28 : decode cX5_bestLook 28 = .ok (.getfield 18, 3) := by decide +kernel
theorem dX5_bestLook_31 : decode cX5_bestLook 31 = .ok (.getfield 24, 3) := by decide +kernel
theorem dX5_bestLook_34 : decode cX5_bestLook 34 = .ok (.if_icmp .ge 44, 3) := by decide +kernel
theorem dX5_bestLook_37 : decode cX5_bestLook 37 = .ok (.aload_n 0, 1) := by decide +kernel
theorem dX5_bestLook_38 : decode cX5_bestLook 38 = .ok (.aload_n 1, 1) := by decide +kernel
theorem dX5_bestLook_39 : decode cX5_bestLook 39 = .ok (.getfield 18, 3) := by decide +kernel
theorem dX5_bestLook_42 : decode cX5_bestLook 42 = .ok (.iload 6, 2) := by decide +kernel
theorem dX5_bestLook_44 : decode cX5_bestLook 44 = .ok (.iload 5, 2) := by decide +kernel
theorem dX5_bestLook_46 : decode cX5_bestLook 46 = .ok (.iload_n 2, 1) := by decide +kernel
theorem dX5_bestLook_47 : decode cX5_bestLook 47 = .ok (.invokevirtual 67, 3) := by decide +kernel
theorem dX5_bestLook_50 : decode cX5_bestLook 50 = .ok (.istore 7, 2) := by decide +kernel
theorem dX5_bestLook_52 : decode cX5_bestLook 52 = .ok (.iload 7, 2) := by decide +kernel
theorem dX5_bestLook_54 : decode cX5_bestLook 54 = .ok (.iload 4, 2) := by decide +kernel
theorem dX5_bestLook_56 : decode cX5_bestLook 56 = .ok (.if_icmp .ge 16, 3) := by decide +kernel
theorem dX5_bestLook_59 : decode cX5_bestLook 59 = .ok (.bipush 10, 2) := by decide +kernel
theorem dX5_bestLook_61 : decode cX5_bestLook 61 = .ok (.iload 5, 2) := by decide +kernel
theorem dX5_bestLook_63 : decode cX5_bestLook 63 = .ok (.imul, 1) := by decide +kernel
theorem dX5_bestLook_64 : decode cX5_bestLook 64 = .ok (.iload 6, 2) := by decide +kernel
theorem dX5_bestLook_66 : decode cX5_bestLook 66 = .ok (.iadd, 1) := by decide +kernel
theorem dX5_bestLook_67 : decode cX5_bestLook 67 = .ok (.istore_n 3, 1) := by decide +kernel
theorem dX5_bestLook_68 : decode cX5_bestLook 68 = .ok (.iload 7, 2) := by decide +kernel
theorem dX5_bestLook_70 : decode cX5_bestLook 70 = .ok (.istore 4, 2) := by decide +kernel
theorem dX5_bestLook_72 : decode cX5_bestLook 72 = .ok (.iinc 6 1, 3) := by decide +kernel
theorem dX5_bestLook_75 : decode cX5_bestLook 75 = .ok (.goto (-50), 3) := by decide +kernel
theorem dX5_bestLook_78 : decode cX5_bestLook 78 = .ok (.iinc 5 1, 3) := by decide +kernel
theorem dX5_bestLook_81 : decode cX5_bestLook 81 = .ok (.goto (-66), 3) := by decide +kernel
theorem dX5_bestLook_84 : decode cX5_bestLook 84 = .ok (.iload_n 3, 1) := by decide +kernel
theorem dX5_bestLook_85 : decode cX5_bestLook 85 = .ok (.ireturn, 1) := by decide +kernel
set_option maxRecDepth 20000 in
theorem ggX5_mostAlike_X8_hasBit : GoodIn wsX5_mostAlike wsX8_hasBit := goodIn_r _ [6] (by decide +kernel) (by decide +kernel)
set_option maxRecDepth 20000 in
theorem gX5_mostAlike_X8_hasBit_n37 : GoodIn wsX5_mostAlike (wsX8_hasBit) := ggX5_mostAlike_X8_hasBit
set_option maxRecDepth 20000 in
theorem ggX5_mostAlike_X0_holds : GoodIn wsX5_mostAlike wsX0_holds := goodIn_r _ [11, 12, 13, 22, 23, 24, 25, 26, 27] (by decide +kernel) (by decide +kernel)
set_option maxRecDepth 20000 in
theorem gX5_mostAlike_X0_holds : GoodIn wsX5_mostAlike (wsV RX5 71 RX0 yX0_holds wsX0_holds) := goodIn_app (goodIn_of _ (by decide +kernel)) ggX5_mostAlike_X0_holds
set_option maxRecDepth 20000 in
theorem ggX5_mostAlike_X2_paceOf : GoodIn wsX5_mostAlike wsX2_paceOf := goodIn_r _ [17] (by decide +kernel) (by decide +kernel)
set_option maxRecDepth 20000 in
theorem gX5_mostAlike_X2_paceOf : GoodIn wsX5_mostAlike (va_wsS RX5 77 yX2_paceOf wsX2_paceOf) := goodIn_app (goodIn_of _ (by decide +kernel)) ggX5_mostAlike_X2_paceOf
set_option maxRecDepth 20000 in
theorem ggX5_mostAlike_X8_within : GoodIn wsX5_mostAlike wsX8_within := goodIn_r _ [19] (by decide +kernel) (by decide +kernel)
set_option maxRecDepth 20000 in
theorem gX5_mostAlike_X8_within_n81 : GoodIn wsX5_mostAlike (wsX8_within) := ggX5_mostAlike_X8_within
theorem dX5_mostAlike_0 : decode cX5_mostAlike 0 = .ok (.iconst 0, 1) := by decide +kernel
theorem dX5_mostAlike_1 : decode cX5_mostAlike 1 = .ok (.istore 5, 2) := by decide +kernel
theorem dX5_mostAlike_3 : decode cX5_mostAlike 3 = .ok (.iload 5, 2) := by decide +kernel
theorem dX5_mostAlike_5 : decode cX5_mostAlike 5 = .ok (.bipush 7, 2) := by decide +kernel
theorem dX5_mostAlike_7 : decode cX5_mostAlike 7 = .ok (.if_icmp .gt 17, 3) := by decide +kernel
theorem dX5_mostAlike_10 : decode cX5_mostAlike 10 = .ok (.aload_n 0, 1) := by decide +kernel
theorem dX5_mostAlike_11 : decode cX5_mostAlike 11 = .ok (.getfield 15, 3) := by decide +kernel
theorem dX5_mostAlike_14 : decode cX5_mostAlike 14 = .ok (.iload 5, 2) := by decide +kernel
theorem dX5_mostAlike_16 : decode cX5_mostAlike 16 = .ok (.iconst 0, 1) := by decide +kernel
theorem dX5_mostAlike_17 : decode cX5_mostAlike 17 = .ok (.iastore, 1) := by decide +kernel
theorem dX5_mostAlike_18 : decode cX5_mostAlike 18 = .ok (.iinc 5 1, 3) := by decide +kernel
theorem dX5_mostAlike_21 : decode cX5_mostAlike 21 = .ok (.goto (-18), 3) := by decide +kernel
theorem dX5_mostAlike_24 : decode cX5_mostAlike 24 = .ok (.iconst 0, 1) := by decide +kernel
theorem dX5_mostAlike_25 : decode cX5_mostAlike 25 = .ok (.istore 5, 2) := by decide +kernel
theorem dX5_mostAlike_27 : decode cX5_mostAlike 27 = .ok (.iconst 0, 1) := by decide +kernel
theorem dX5_mostAlike_28 : decode cX5_mostAlike 28 = .ok (.istore 6, 2) := by decide +kernel
theorem dX5_mostAlike_30 : decode cX5_mostAlike 30 = .ok (.iload 6, 2) := by decide +kernel
theorem dX5_mostAlike_32 : decode cX5_mostAlike 32 = .ok (.iconst 5, 1) := by decide +kernel
theorem dX5_mostAlike_33 : decode cX5_mostAlike 33 = .ok (.if_icmp .gt 93, 3) := by decide +kernel
theorem dX5_mostAlike_36 : decode cX5_mostAlike 36 = .ok (.iload 4, 2) := by decide +kernel
theorem dX5_mostAlike_38 : decode cX5_mostAlike 38 = .ok (.iload 6, 2) := by decide +kernel
theorem dX5_mostAlike_40 : decode cX5_mostAlike 40 = .ok (.invokestatic 37, 3) := by decide +kernel
theorem dX5_mostAlike_43 : decode cX5_mostAlike 43 = .ok (.ifCond .ne 6, 3) := by decide +kernel
theorem dX5_mostAlike_46 : decode cX5_mostAlike 46 = .ok (.goto 74, 3) := by decide +kernel
theorem dX5_mostAlike_49 : decode cX5_mostAlike 49 = .ok (.iload 6, 2) := by decide +kernel
theorem dX5_mostAlike_51 : decode cX5_mostAlike 51 = .ok (.aload_n 1, 1) := by decide +kernel
theorem dX5_mostAlike_52 : decode cX5_mostAlike 52 = .ok (.getfield 51, 3) := by decide +kernel
theorem dX5_mostAlike_55 : decode cX5_mostAlike 55 = .ok (.iload_n 2, 1) := by decide +kernel
theorem dX5_mostAlike_56 : decode cX5_mostAlike 56 = .ok (.iaload, 1) := by decide +kernel
theorem dX5_mostAlike_57 : decode cX5_mostAlike 57 = .ok (.aload_n 1, 1) := by decide +kernel
theorem dX5_mostAlike_58 : decode cX5_mostAlike 58 = .ok (.iload_n 2, 1) := by decide +kernel
theorem dX5_mostAlike_59 : decode cX5_mostAlike 59 = .ok (.invokevirtual 71, 3) := by decide +kernel
theorem dX5_mostAlike_62 : decode cX5_mostAlike 62 = .ok (.iload_n 3, 1) := by decide +kernel
theorem dX5_mostAlike_63 : decode cX5_mostAlike 63 = .ok (.aload_n 1, 1) := by decide +kernel
theorem dX5_mostAlike_64 : decode cX5_mostAlike 64 = .ok (.getfield 74, 3) := by decide +kernel
theorem dX5_mostAlike_67 : decode cX5_mostAlike 67 = .ok (.iload_n 2, 1) := by decide +kernel
theorem dX5_mostAlike_68 : decode cX5_mostAlike 68 = .ok (.iaload, 1) := by decide +kernel
theorem dX5_mostAlike_69 : decode cX5_mostAlike 69 = .ok (.invokestatic 77, 3) := by decide +kernel
theorem dX5_mostAlike_72 : decode cX5_mostAlike 72 = .ok (.istore 7, 2) := by decide +kernel
theorem dX5_mostAlike_74 : decode cX5_mostAlike 74 = .ok (.iload 7, 2) := by decide +kernel
theorem dX5_mostAlike_76 : decode cX5_mostAlike 76 = .ok (.iconst 1, 1) := by decide +kernel
theorem dX5_mostAlike_77 : decode cX5_mostAlike 77 = .ok (.bipush 7, 2) := by decide +kernel
theorem dX5_mostAlike_79 : decode cX5_mostAlike 79 = .ok (.invokestatic 81, 3) := by decide +kernel
theorem dX5_mostAlike_82 : decode cX5_mostAlike 82 = .ok (.ifCond .ne 6, 3) := by decide +kernel
theorem dX5_mostAlike_85 : decode cX5_mostAlike 85 = .ok (.goto 35, 3) := by decide +kernel
theorem dX5_mostAlike_88 : decode cX5_mostAlike 88 = .ok (.aload_n 0, 1) := by decide +kernel
theorem dX5_mostAlike_89 : decode cX5_mostAlike 89 = .ok (.getfield 15, 3) := by decide +kernel
theorem dX5_mostAlike_92 : decode cX5_mostAlike 92 = .ok (.iload 7, 2) := by decide +kernel
theorem dX5_mostAlike_94 : decode cX5_mostAlike 94 = .ok (.dup2, 1) := by decide +kernel
theorem dX5_mostAlike_95 : decode cX5_mostAlike 95 = .ok (.iaload, 1) := by decide +kernel
theorem dX5_mostAlike_96 : decode cX5_mostAlike 96 = .ok (.iconst 1, 1) := by decide +kernel
theorem dX5_mostAlike_97 : decode cX5_mostAlike 97 = .ok (.iadd, 1) := by decide +kernel
theorem dX5_mostAlike_98 : decode cX5_mostAlike 98 = .ok (.iastore, 1) := by decide +kernel
theorem dX5_mostAlike_99 : decode cX5_mostAlike 99 = .ok (.aload_n 0, 1) := by decide +kernel
theorem dX5_mostAlike_100 : decode cX5_mostAlike 100 = .ok (.getfield 15, 3) := by decide +kernel
theorem dX5_mostAlike_103 : decode cX5_mostAlike 103 = .ok (.iload 7, 2) := by decide +kernel
theorem dX5_mostAlike_105 : decode cX5_mostAlike 105 = .ok (.iaload, 1) := by decide +kernel
theorem dX5_mostAlike_106 : decode cX5_mostAlike 106 = .ok (.iload 5, 2) := by decide +kernel
theorem dX5_mostAlike_108 : decode cX5_mostAlike 108 = .ok (.if_icmp .le 12, 3) := by decide +kernel
theorem dX5_mostAlike_111 : decode cX5_mostAlike 111 = .ok (.aload_n 0, 1) := by decide +kernel
theorem dX5_mostAlike_112 : decode cX5_mostAlike 112 = .ok (.getfield 15, 3) := by decide +kernel
theorem dX5_mostAlike_115 : decode cX5_mostAlike 115 = .ok (.iload 7, 2) := by decide +kernel
theorem dX5_mostAlike_117 : decode cX5_mostAlike 117 = .ok (.iaload, 1) := by decide +kernel
theorem dX5_mostAlike_118 : decode cX5_mostAlike 118 = .ok (.istore 5, 2) := by decide +kernel
theorem dX5_mostAlike_120 : decode cX5_mostAlike 120 = .ok (.iinc 6 1, 3) := by decide +kernel
theorem dX5_mostAlike_123 : decode cX5_mostAlike 123 = .ok (.goto (-93), 3) := by decide +kernel
theorem dX5_mostAlike_126 : decode cX5_mostAlike 126 = .ok (.iload 5, 2) := by decide +kernel
theorem dX5_mostAlike_128 : decode cX5_mostAlike 128 = .ok (.ireturn, 1) := by decide +kernel
set_option maxRecDepth 20000 in
theorem ggX5_pairsAtRest_X5_toHer : GoodIn wsX5_pairsAtRest wsX5_toHer := goodIn_r _ [5, 6, 7, 8, 4, 9, 10, 11, 12, 13, 14, 15, 16, 17, 18, 19, 20, 21, 22, 23, 24, 25, 26, 27, 28, 29, 30, 31, 32, 33, 34, 35, 36, 37, 38, 39, 40, 41, 42, 47, 48, 49, 50, 51, 52, 53, 54, 55, 56, 57, 58, 59, 60, 61] (by decide +kernel) (by decide +kernel)
set_option maxRecDepth 20000 in
theorem gX5_pairsAtRest_X5_toHer : GoodIn wsX5_pairsAtRest (wsV RX5 85 RX5 yX5_toHer wsX5_toHer) := goodIn_app (goodIn_of _ (by decide +kernel)) ggX5_pairsAtRest_X5_toHer
set_option maxRecDepth 20000 in
theorem ggX5_pairsAtRest_X5_toHim : GoodIn wsX5_pairsAtRest wsX5_toHim := goodIn_r _ [46, 6, 7, 8, 4, 9, 10, 11, 12, 13, 14, 15, 16, 17, 18, 19, 20, 21, 22, 23, 24, 25, 26, 27, 28, 29, 30, 31, 32, 33, 34, 35, 36, 37, 38, 39, 40, 41, 42, 47, 48, 49, 50, 51, 52, 53, 54, 55, 56, 57, 58, 59, 60, 61] (by decide +kernel) (by decide +kernel)
set_option maxRecDepth 20000 in
theorem gX5_pairsAtRest_X5_toHim : GoodIn wsX5_pairsAtRest (wsV RX5 89 RX5 yX5_toHim wsX5_toHim) := goodIn_app (goodIn_of _ (by decide +kernel)) ggX5_pairsAtRest_X5_toHim
theorem dX5_pairsAtRest_0 : decode cX5_pairsAtRest 0 = .ok (.iconst 0, 1) := by decide +kernel
theorem dX5_pairsAtRest_1 : decode cX5_pairsAtRest 1 = .ok (.istore_n 3, 1) := by decide +kernel
theorem dX5_pairsAtRest_2 : decode cX5_pairsAtRest 2 = .ok (.iconst 0, 1) := by decide +kernel
theorem dX5_pairsAtRest_3 : decode cX5_pairsAtRest 3 = .ok (.istore 4, 2) := by decide +kernel
theorem dX5_pairsAtRest_5 : decode cX5_pairsAtRest 5 = .ok (.iload 4, 2) := by decide +kernel
theorem dX5_pairsAtRest_7 : decode cX5_pairsAtRest 7 = .ok (.iconst 4, 1) := by decide +kernel
theorem dX5_pairsAtRest_8 : decode cX5_pairsAtRest 8 = .ok (.if_icmp .ge 102, 3) := by decide +kernel
theorem dX5_pairsAtRest_11 : decode cX5_pairsAtRest 11 = .ok (.iload 4, 2) := by decide +kernel
theorem dX5_pairsAtRest_13 : decode cX5_pairsAtRest 13 = .ok (.iconst 1, 1) := by decide +kernel
theorem dX5_pairsAtRest_14 : decode cX5_pairsAtRest 14 = .ok (.iand, 1) := by decide +kernel
theorem dX5_pairsAtRest_15 : decode cX5_pairsAtRest 15 = .ok (.istore 5, 2) := by decide +kernel
theorem dX5_pairsAtRest_17 : decode cX5_pairsAtRest 17 = .ok (.iload 4, 2) := by decide +kernel
theorem dX5_pairsAtRest_19 : decode cX5_pairsAtRest 19 = .ok (.iconst 1, 1) := by decide +kernel
theorem dX5_pairsAtRest_20 : decode cX5_pairsAtRest 20 = .ok (.ishr, 1) := by decide +kernel
theorem dX5_pairsAtRest_21 : decode cX5_pairsAtRest 21 = .ok (.istore 6, 2) := by decide +kernel
theorem dX5_pairsAtRest_23 : decode cX5_pairsAtRest 23 = .ok (.aload_n 0, 1) := by decide +kernel
theorem dX5_pairsAtRest_24 : decode cX5_pairsAtRest 24 = .ok (.aload_n 1, 1) := by decide +kernel
theorem dX5_pairsAtRest_25 : decode cX5_pairsAtRest 25 = .ok (.iload_n 2, 1) := by decide +kernel
theorem dX5_pairsAtRest_26 : decode cX5_pairsAtRest 26 = .ok (.iload 5, 2) := by decide +kernel
theorem dX5_pairsAtRest_28 : decode cX5_pairsAtRest 28 = .ok (.iload 6, 2) := by decide +kernel
theorem dX5_pairsAtRest_30 : decode cX5_pairsAtRest 30 = .ok (.invokevirtual 85, 3) := by decide +kernel
theorem dX5_pairsAtRest_33 : decode cX5_pairsAtRest 33 = .ok (.aload_n 0, 1) := by decide +kernel
theorem dX5_pairsAtRest_34 : decode cX5_pairsAtRest 34 = .ok (.aload_n 1, 1) := by decide +kernel
theorem dX5_pairsAtRest_35 : decode cX5_pairsAtRest 35 = .ok (.iload_n 2, 1) := by decide +kernel
theorem dX5_pairsAtRest_36 : decode cX5_pairsAtRest 36 = .ok (.iconst 1, 1) := by decide +kernel
theorem dX5_pairsAtRest_37 : decode cX5_pairsAtRest 37 = .ok (.iload 5, 2) := by decide +kernel
theorem dX5_pairsAtRest_39 : decode cX5_pairsAtRest 39 = .ok (.isub, 1) := by decide +kernel
theorem dX5_pairsAtRest_40 : decode cX5_pairsAtRest 40 = .ok (.iload 6, 2) := by decide +kernel
theorem dX5_pairsAtRest_42 : decode cX5_pairsAtRest 42 = .ok (.invokevirtual 85, 3) := by decide +kernel
theorem dX5_pairsAtRest_45 : decode cX5_pairsAtRest 45 = .ok (.if_icmp .lt 7, 3) := by decide +kernel
theorem dX5_pairsAtRest_48 : decode cX5_pairsAtRest 48 = .ok (.iconst 1, 1) := by decide +kernel
theorem dX5_pairsAtRest_49 : decode cX5_pairsAtRest 49 = .ok (.goto 4, 3) := by decide +kernel
theorem dX5_pairsAtRest_52 : decode cX5_pairsAtRest 52 = .ok (.iconst 0, 1) := by decide +kernel
theorem dX5_pairsAtRest_53 : decode cX5_pairsAtRest 53 = .ok (.istore 7, 2) := by decide +kernel
theorem dX5_pairsAtRest_55 : decode cX5_pairsAtRest 55 = .ok (.aload_n 0, 1) := by decide +kernel
theorem dX5_pairsAtRest_56 : decode cX5_pairsAtRest 56 = .ok (.aload_n 1, 1) := by decide +kernel
theorem dX5_pairsAtRest_57 : decode cX5_pairsAtRest 57 = .ok (.iload_n 2, 1) := by decide +kernel
theorem dX5_pairsAtRest_58 : decode cX5_pairsAtRest 58 = .ok (.iload 5, 2) := by decide +kernel
theorem dX5_pairsAtRest_60 : decode cX5_pairsAtRest 60 = .ok (.iload 6, 2) := by decide +kernel
theorem dX5_pairsAtRest_62 : decode cX5_pairsAtRest 62 = .ok (.invokevirtual 89, 3) := by decide +kernel
theorem dX5_pairsAtRest_65 : decode cX5_pairsAtRest 65 = .ok (.aload_n 0, 1) := by decide +kernel
theorem dX5_pairsAtRest_66 : decode cX5_pairsAtRest 66 = .ok (.aload_n 1, 1) := by decide +kernel
theorem dX5_pairsAtRest_67 : decode cX5_pairsAtRest 67 = .ok (.iload_n 2, 1) := by decide +kernel
theorem dX5_pairsAtRest_68 : decode cX5_pairsAtRest 68 = .ok (.iload 5, 2) := by decide +kernel
theorem dX5_pairsAtRest_70 : decode cX5_pairsAtRest 70 = .ok (.iconst 1, 1) := by decide +kernel
theorem dX5_pairsAtRest_71 : decode cX5_pairsAtRest 71 = .ok (.iload 6, 2) := by decide +kernel
theorem dX5_pairsAtRest_73 : decode cX5_pairsAtRest 73 = .ok (.isub, 1) := by decide +kernel
theorem dX5_pairsAtRest_74 : decode cX5_pairsAtRest 74 = .ok (.invokevirtual 89, 3) := by decide +kernel
theorem dX5_pairsAtRest_77 : decode cX5_pairsAtRest 77 = .ok (.if_icmp .lt 7, 3) := by decide +kernel
theorem dX5_pairsAtRest_80 : decode cX5_pairsAtRest 80 = .ok (.iconst 1, 1) := by decide +kernel
theorem dX5_pairsAtRest_81 : decode cX5_pairsAtRest 81 = .ok (.goto 4, 3) := by decide +kernel
theorem dX5_pairsAtRest_84 : decode cX5_pairsAtRest 84 = .ok (.iconst 0, 1) := by decide +kernel
theorem dX5_pairsAtRest_85 : decode cX5_pairsAtRest 85 = .ok (.istore 8, 2) := by decide +kernel
theorem dX5_pairsAtRest_87 : decode cX5_pairsAtRest 87 = .ok (.iload 7, 2) := by decide +kernel
theorem dX5_pairsAtRest_89 : decode cX5_pairsAtRest 89 = .ok (.ifCond .eq 15, 3) := by decide +kernel
theorem dX5_pairsAtRest_92 : decode cX5_pairsAtRest 92 = .ok (.iload 8, 2) := by decide +kernel
theorem dX5_pairsAtRest_94 : decode cX5_pairsAtRest 94 = .ok (.ifCond .eq 10, 3) := by decide +kernel
theorem dX5_pairsAtRest_97 : decode cX5_pairsAtRest 97 = .ok (.iload_n 3, 1) := by decide +kernel
theorem dX5_pairsAtRest_98 : decode cX5_pairsAtRest 98 = .ok (.iconst 1, 1) := by decide +kernel
theorem dX5_pairsAtRest_99 : decode cX5_pairsAtRest 99 = .ok (.iload 4, 2) := by decide +kernel
theorem dX5_pairsAtRest_101 : decode cX5_pairsAtRest 101 = .ok (.ishl, 1) := by decide +kernel
theorem dX5_pairsAtRest_102 : decode cX5_pairsAtRest 102 = .ok (.ior, 1) := by decide +kernel
theorem dX5_pairsAtRest_103 : decode cX5_pairsAtRest 103 = .ok (.istore_n 3, 1) := by decide +kernel
theorem dX5_pairsAtRest_104 : decode cX5_pairsAtRest 104 = .ok (.iinc 4 1, 3) := by decide +kernel
theorem dX5_pairsAtRest_107 : decode cX5_pairsAtRest 107 = .ok (.goto (-102), 3) := by decide +kernel
theorem dX5_pairsAtRest_110 : decode cX5_pairsAtRest 110 = .ok (.iload_n 3, 1) := by decide +kernel
theorem dX5_pairsAtRest_111 : decode cX5_pairsAtRest 111 = .ok (.ireturn, 1) := by decide +kernel
set_option maxRecDepth 20000 in
theorem ggX5_toHer_X5_costOfPair : GoodIn wsX5_toHer wsX5_costOfPair := goodIn_r _ [5, 6, 7, 8, 9, 10, 11, 12, 13, 14, 15, 16, 17, 18, 19, 20, 21, 22, 23, 24, 25, 26, 27, 28, 29, 30, 31, 32, 33, 34, 35, 36, 37, 38, 39, 40, 41, 42, 43, 44, 45, 46, 47, 48, 49, 50, 51, 52, 53] (by decide +kernel) (by decide +kernel)
set_option maxRecDepth 20000 in
theorem gX5_toHer_X5_costOfPair : GoodIn wsX5_toHer (wsV RX5 92 RX5 yX5_costOfPair wsX5_costOfPair) := goodIn_app (goodIn_of _ (by decide +kernel)) ggX5_toHer_X5_costOfPair
theorem dX5_toHer_0 : decode cX5_toHer 0 = .ok (.aload_n 0, 1) := by decide +kernel
theorem dX5_toHer_1 : decode cX5_toHer 1 = .ok (.aload_n 1, 1) := by decide +kernel
theorem dX5_toHer_2 : decode cX5_toHer 2 = .ok (.iload_n 2, 1) := by decide +kernel
theorem dX5_toHer_3 : decode cX5_toHer 3 = .ok (.iload_n 3, 1) := by decide +kernel
theorem dX5_toHer_4 : decode cX5_toHer 4 = .ok (.iload 4, 2) := by decide +kernel
theorem dX5_toHer_6 : decode cX5_toHer 6 = .ok (.invokevirtual 92, 3) := by decide +kernel
theorem dX5_toHer_9 : decode cX5_toHer 9 = .ok (.ineg, 1) := by decide +kernel
theorem dX5_toHer_10 : decode cX5_toHer 10 = .ok (.iload_n 3, 1) := by decide +kernel
theorem dX5_toHer_11 : decode cX5_toHer 11 = .ok (.isub, 1) := by decide +kernel
theorem dX5_toHer_12 : decode cX5_toHer 12 = .ok (.ireturn, 1) := by decide +kernel
set_option maxRecDepth 20000 in
theorem ggX5_toHim_X5_costOfPair : GoodIn wsX5_toHim wsX5_costOfPair := goodIn_r _ [5, 6, 7, 8, 9, 10, 11, 12, 13, 14, 15, 16, 17, 18, 19, 20, 21, 22, 23, 24, 25, 26, 27, 28, 29, 30, 31, 32, 33, 34, 35, 36, 37, 38, 39, 40, 41, 42, 43, 44, 45, 46, 47, 48, 49, 50, 51, 52, 53] (by decide +kernel) (by decide +kernel)
set_option maxRecDepth 20000 in
theorem gX5_toHim_X5_costOfPair : GoodIn wsX5_toHim (wsV RX5 92 RX5 yX5_costOfPair wsX5_costOfPair) := goodIn_app (goodIn_of _ (by decide +kernel)) ggX5_toHim_X5_costOfPair
theorem dX5_toHim_0 : decode cX5_toHim 0 = .ok (.aload_n 0, 1) := by decide +kernel
theorem dX5_toHim_1 : decode cX5_toHim 1 = .ok (.aload_n 1, 1) := by decide +kernel
theorem dX5_toHim_2 : decode cX5_toHim 2 = .ok (.iload_n 2, 1) := by decide +kernel
theorem dX5_toHim_3 : decode cX5_toHim 3 = .ok (.iload_n 3, 1) := by decide +kernel
theorem dX5_toHim_4 : decode cX5_toHim 4 = .ok (.iload 4, 2) := by decide +kernel
theorem dX5_toHim_6 : decode cX5_toHim 6 = .ok (.invokevirtual 92, 3) := by decide +kernel
theorem dX5_toHim_9 : decode cX5_toHim 9 = .ok (.ineg, 1) := by decide +kernel
theorem dX5_toHim_10 : decode cX5_toHim 10 = .ok (.iconst 2, 1) := by decide +kernel
theorem dX5_toHim_11 : decode cX5_toHim 11 = .ok (.iload 4, 2) := by decide +kernel
theorem dX5_toHim_13 : decode cX5_toHim 13 = .ok (.imul, 1) := by decide +kernel
theorem dX5_toHim_14 : decode cX5_toHim 14 = .ok (.iadd, 1) := by decide +kernel
theorem dX5_toHim_15 : decode cX5_toHim 15 = .ok (.ireturn, 1) := by decide +kernel
set_option maxRecDepth 20000 in
theorem ggX5_costOfPair_X6_paceAt : GoodIn wsX5_costOfPair wsX6_paceAt := goodIn_r _ [14, 15, 16, 17, 18, 19, 20, 21, 22, 23, 24, 25, 26, 27, 28, 29, 34, 35, 36, 37, 38, 39, 40, 41, 42, 43, 44, 45, 46, 47, 48] (by decide +kernel) (by decide +kernel)
set_option maxRecDepth 20000 in
theorem gX5_costOfPair_X6_paceAt : GoodIn wsX5_costOfPair (wsV RX5 100 RX6 yX6_paceAt wsX6_paceAt) := goodIn_app (goodIn_of _ (by decide +kernel)) ggX5_costOfPair_X6_paceAt
set_option maxRecDepth 20000 in
theorem ggX5_costOfPair_X0_holds : GoodIn wsX5_costOfPair wsX0_holds := goodIn_r _ [23, 24, 25, 43, 44, 45, 46, 47, 48] (by decide +kernel) (by decide +kernel)
set_option maxRecDepth 20000 in
theorem gX5_costOfPair_X0_holds : GoodIn wsX5_costOfPair (wsV RX5 71 RX0 yX0_holds wsX0_holds) := goodIn_app (goodIn_of _ (by decide +kernel)) ggX5_costOfPair_X0_holds
set_option maxRecDepth 20000 in
theorem ggX5_costOfPair_X2_costOf : GoodIn wsX5_costOfPair wsX2_costOf := goodIn_r _ [33] (by decide +kernel) (by decide +kernel)
set_option maxRecDepth 20000 in
theorem gX5_costOfPair_X2_costOf : GoodIn wsX5_costOfPair (va_wsS RX5 106 yX2_costOf wsX2_costOf) := goodIn_app (goodIn_of _ (by decide +kernel)) ggX5_costOfPair_X2_costOf
theorem dX5_costOfPair_0 : decode cX5_costOfPair 0 = .ok (.iconst 0, 1) := by decide +kernel
theorem dX5_costOfPair_1 : decode cX5_costOfPair 1 = .ok (.aload_n 1, 1) := by decide +kernel
theorem dX5_costOfPair_2 : decode cX5_costOfPair 2 = .ok (.getfield 18, 3) := by decide +kernel
theorem dX5_costOfPair_5 : decode cX5_costOfPair 5 = .ok (.getfield 51, 3) := by decide +kernel
theorem dX5_costOfPair_8 : decode cX5_costOfPair 8 = .ok (.iload_n 2, 1) := by decide +kernel
theorem dX5_costOfPair_9 : decode cX5_costOfPair 9 = .ok (.iaload, 1) := by decide +kernel
theorem dX5_costOfPair_10 : decode cX5_costOfPair 10 = .ok (.iload_n 3, 1) := by decide +kernel
theorem dX5_costOfPair_11 : decode cX5_costOfPair 11 = .ok (.isub, 1) := by decide +kernel
theorem dX5_costOfPair_12 : decode cX5_costOfPair 12 = .ok (.invokestatic 95, 3) := by decide +kernel
theorem dX5_costOfPair_15 : decode cX5_costOfPair 15 = .ok (.istore 5, 2) := by decide +kernel
theorem dX5_costOfPair_17 : decode cX5_costOfPair 17 = .ok (.bipush 7, 2) := by decide +kernel
theorem dX5_costOfPair_19 : decode cX5_costOfPair 19 = .ok (.aload_n 1, 1) := by decide +kernel
theorem dX5_costOfPair_20 : decode cX5_costOfPair 20 = .ok (.iload_n 2, 1) := by decide +kernel
theorem dX5_costOfPair_21 : decode cX5_costOfPair 21 = .ok (.iload 5, 2) := by decide +kernel
theorem dX5_costOfPair_23 : decode cX5_costOfPair 23 = .ok (.invokevirtual 100, 3) := by decide +kernel
theorem dX5_costOfPair_26 : decode cX5_costOfPair 26 = .ok (.iload 4, 2) := by decide +kernel
theorem dX5_costOfPair_28 : decode cX5_costOfPair 28 = .ok (.iadd, 1) := by decide +kernel
theorem dX5_costOfPair_29 : decode cX5_costOfPair 29 = .ok (.invokestatic 103, 3) := by decide +kernel
theorem dX5_costOfPair_32 : decode cX5_costOfPair 32 = .ok (.istore 6, 2) := by decide +kernel
theorem dX5_costOfPair_34 : decode cX5_costOfPair 34 = .ok (.iload 6, 2) := by decide +kernel
theorem dX5_costOfPair_36 : decode cX5_costOfPair 36 = .ok (.aload_n 1, 1) := by decide +kernel
theorem dX5_costOfPair_37 : decode cX5_costOfPair 37 = .ok (.getfield 18, 3) := by decide +kernel
theorem dX5_costOfPair_40 : decode cX5_costOfPair 40 = .ok (.iload_n 2, 1) := by decide +kernel
theorem dX5_costOfPair_41 : decode cX5_costOfPair 41 = .ok (.invokevirtual 71, 3) := by decide +kernel
theorem dX5_costOfPair_44 : decode cX5_costOfPair 44 = .ok (.invokestatic 106, 3) := by decide +kernel
theorem dX5_costOfPair_47 : decode cX5_costOfPair 47 = .ok (.ireturn, 1) := by decide +kernel
set_option maxRecDepth 20000 in
theorem ggX5_costUnheard_X6_costNoted : GoodIn wsX5_costUnheard wsX6_costNoted := goodIn_r _ [8, 9, 10, 11, 12, 13, 7, 14, 15, 16, 17, 18, 19, 20, 21, 22, 23, 24, 25, 26, 27, 28, 29, 30, 31, 33, 34, 35, 36, 37, 38, 39, 40, 41, 42, 43, 44, 45, 46, 47] (by decide +kernel) (by decide +kernel)
set_option maxRecDepth 20000 in
theorem gX5_costUnheard_X6_costNoted : GoodIn wsX5_costUnheard (wsV RX5 47 RX6 yX6_costNoted wsX6_costNoted) := goodIn_app (goodIn_of _ (by decide +kernel)) ggX5_costUnheard_X6_costNoted
set_option maxRecDepth 20000 in
theorem ggX5_costUnheard_X6_costAt : GoodIn wsX5_costUnheard wsX6_costAt := goodIn_r _ [14, 9, 15, 16, 17, 18, 19, 20, 21, 22, 23, 24, 25, 26, 27, 28, 29, 30, 31, 33, 34, 35, 36, 37, 38, 39, 40, 41, 42, 43, 44, 45, 46, 47] (by decide +kernel) (by decide +kernel)
set_option maxRecDepth 20000 in
theorem gX5_costUnheard_X6_costAt : GoodIn wsX5_costUnheard (wsV RX5 43 RX6 yX6_costAt wsX6_costAt) := goodIn_app (goodIn_of _ (by decide +kernel)) ggX5_costUnheard_X6_costAt
theorem dX5_costUnheard_0 : decode cX5_costUnheard 0 = .ok (.iconst 0, 1) := by decide +kernel
theorem dX5_costUnheard_1 : decode cX5_costUnheard 1 = .ok (.istore_n 3, 1) := by decide +kernel
theorem dX5_costUnheard_2 : decode cX5_costUnheard 2 = .ok (.aload_n 1, 1) := by decide +kernel
theorem dX5_costUnheard_3 : decode cX5_costUnheard 3 = .ok (.getfield 30, 3) := by decide +kernel
theorem dX5_costUnheard_6 : decode cX5_costUnheard 6 = .ok (.istore 4, 2) := by decide +kernel
theorem dX5_costUnheard_8 : decode cX5_costUnheard 8 = .ok (.iload 4, 2) := by decide +kernel
theorem dX5_costUnheard_10 : decode cX5_costUnheard 10 = .ok (.aload_n 1, 1) := by decide +kernel
theorem dX5_costUnheard_11 : decode cX5_costUnheard 11 = .ok (.getfield 18, 3) := by decide +kernel
theorem dX5_costUnheard_14 : decode cX5_costUnheard 14 = .ok (.getfield 24, 3) := by decide +kernel
theorem dX5_costUnheard_17 : decode cX5_costUnheard 17 = .ok (.if_icmp .ge 33, 3) := by decide +kernel
theorem dX5_costUnheard_20 : decode cX5_costUnheard 20 = .ok (.iload_n 3, 1) := by decide +kernel
theorem dX5_costUnheard_21 : decode cX5_costUnheard 21 = .ok (.bipush 10, 2) := by decide +kernel
theorem dX5_costUnheard_23 : decode cX5_costUnheard 23 = .ok (.iload_n 2, 1) := by decide +kernel
theorem dX5_costUnheard_24 : decode cX5_costUnheard 24 = .ok (.isub, 1) := by decide +kernel
theorem dX5_costUnheard_25 : decode cX5_costUnheard 25 = .ok (.aload_n 1, 1) := by decide +kernel
theorem dX5_costUnheard_26 : decode cX5_costUnheard 26 = .ok (.iload 4, 2) := by decide +kernel
theorem dX5_costUnheard_28 : decode cX5_costUnheard 28 = .ok (.invokevirtual 47, 3) := by decide +kernel
theorem dX5_costUnheard_31 : decode cX5_costUnheard 31 = .ok (.imul, 1) := by decide +kernel
theorem dX5_costUnheard_32 : decode cX5_costUnheard 32 = .ok (.iload_n 2, 1) := by decide +kernel
theorem dX5_costUnheard_33 : decode cX5_costUnheard 33 = .ok (.aload_n 1, 1) := by decide +kernel
theorem dX5_costUnheard_34 : decode cX5_costUnheard 34 = .ok (.iload 4, 2) := by decide +kernel
theorem dX5_costUnheard_36 : decode cX5_costUnheard 36 = .ok (.iconst 0, 1) := by decide +kernel
theorem dX5_costUnheard_37 : decode cX5_costUnheard 37 = .ok (.invokevirtual 43, 3) := by decide +kernel
theorem dX5_costUnheard_40 : decode cX5_costUnheard 40 = .ok (.imul, 1) := by decide +kernel
theorem dX5_costUnheard_41 : decode cX5_costUnheard 41 = .ok (.iadd, 1) := by decide +kernel
theorem dX5_costUnheard_42 : decode cX5_costUnheard 42 = .ok (.iadd, 1) := by decide +kernel
theorem dX5_costUnheard_43 : decode cX5_costUnheard 43 = .ok (.istore_n 3, 1) := by decide +kernel
theorem dX5_costUnheard_44 : decode cX5_costUnheard 44 = .ok (.iinc 4 1, 3) := by decide +kernel
theorem dX5_costUnheard_47 : decode cX5_costUnheard 47 = .ok (.goto (-39), 3) := by decide +kernel
theorem dX5_costUnheard_50 : decode cX5_costUnheard 50 = .ok (.iload_n 3, 1) := by decide +kernel
theorem dX5_costUnheard_51 : decode cX5_costUnheard 51 = .ok (.ireturn, 1) := by decide +kernel
set_option maxRecDepth 20000 in
theorem ggX5_secondsOfRallies_X5_secondsOfAll : GoodIn wsX5_secondsOfRallies wsX5_secondsOfAll := goodIn_r _ [12, 13, 14, 15, 16, 17, 18, 19, 20, 21, 22, 23, 24, 25, 26, 27, 28, 29, 30, 31, 32, 33, 34, 35, 36] (by decide +kernel) (by decide +kernel)
set_option maxRecDepth 20000 in
theorem gX5_secondsOfRallies_X5_secondsOfAll : GoodIn wsX5_secondsOfRallies (wsV RX5 123 RX5 yX5_secondsOfAll wsX5_secondsOfAll) := goodIn_app (goodIn_of _ (by decide +kernel)) ggX5_secondsOfRallies_X5_secondsOfAll
theorem dX5_secondsOfRallies_0 : decode cX5_secondsOfRallies 0 = .ok (.iload_n 2, 1) := by decide +kernel
theorem dX5_secondsOfRallies_1 : decode cX5_secondsOfRallies 1 = .ok (.i2l, 1) := by decide +kernel
theorem dX5_secondsOfRallies_2 : decode cX5_secondsOfRallies 2 = .ok (.lstore 4, 2) := by decide +kernel
theorem dX5_secondsOfRallies_4 : decode cX5_secondsOfRallies 4 = .ok (.iconst 0, 1) := by decide +kernel
theorem dX5_secondsOfRallies_5 : decode cX5_secondsOfRallies 5 = .ok (.istore 6, 2) := by decide +kernel
theorem dX5_secondsOfRallies_7 : decode cX5_secondsOfRallies 7 = .ok (.iconst 0, 1) := by decide +kernel
theorem dX5_secondsOfRallies_8 : decode cX5_secondsOfRallies 8 = .ok (.istore 7, 2) := by decide +kernel
theorem dX5_secondsOfRallies_10 : decode cX5_secondsOfRallies 10 = .ok (.iload 7, 2) := by decide +kernel
theorem dX5_secondsOfRallies_12 : decode cX5_secondsOfRallies 12 = .ok (.iload_n 3, 1) := by decide +kernel
theorem dX5_secondsOfRallies_13 : decode cX5_secondsOfRallies 13 = .ok (.if_icmp .ge 57, 3) := by decide +kernel
theorem dX5_secondsOfRallies_16 : decode cX5_secondsOfRallies 16 = .ok (.lload 4, 2) := by decide +kernel
theorem dX5_secondsOfRallies_18 : decode cX5_secondsOfRallies 18 = .ok (.ldc2_w 109, 3) := by decide +kernel
theorem dX5_secondsOfRallies_21 : decode cX5_secondsOfRallies 21 = .ok (.lmul, 1) := by decide +kernel
theorem dX5_secondsOfRallies_22 : decode cX5_secondsOfRallies 22 = .ok (.ldc2_w 111, 3) := by decide +kernel
theorem dX5_secondsOfRallies_25 : decode cX5_secondsOfRallies 25 = .ok (.ladd, 1) := by decide +kernel
theorem dX5_secondsOfRallies_26 : decode cX5_secondsOfRallies 26 = .ok (.ldc2_w 113, 3) := by decide +kernel
theorem dX5_secondsOfRallies_29 : decode cX5_secondsOfRallies 29 = .ok (.lrem, 1) := by decide +kernel
theorem dX5_secondsOfRallies_30 : decode cX5_secondsOfRallies 30 = .ok (.lstore 4, 2) := by decide +kernel
theorem dX5_secondsOfRallies_32 : decode cX5_secondsOfRallies 32 = .ok (.iload 6, 2) := by decide +kernel
theorem dX5_secondsOfRallies_34 : decode cX5_secondsOfRallies 34 = .ok (.aload_n 0, 1) := by decide +kernel
theorem dX5_secondsOfRallies_35 : decode cX5_secondsOfRallies 35 = .ok (.aload_n 1, 1) := by decide +kernel
theorem dX5_secondsOfRallies_36 : decode cX5_secondsOfRallies 36 = .ok (.lload 4, 2) := by decide +kernel
theorem dX5_secondsOfRallies_38 : decode cX5_secondsOfRallies 38 = .ok (.ldc2_w 115, 3) := by decide +kernel
theorem dX5_secondsOfRallies_41 : decode cX5_secondsOfRallies 41 = .ok (.ldiv, 1) := by decide +kernel
theorem dX5_secondsOfRallies_42 : decode cX5_secondsOfRallies 42 = .ok (.ldc2_w 117, 3) := by decide +kernel
theorem dX5_secondsOfRallies_45 : decode cX5_secondsOfRallies 45 = .ok (.lrem, 1) := by decide +kernel
theorem dX5_secondsOfRallies_46 : decode cX5_secondsOfRallies 46 = .ok (.l2i, 1) := by decide +kernel
theorem dX5_secondsOfRallies_47 : decode cX5_secondsOfRallies 47 = .ok (.lload 4, 2) := by decide +kernel
theorem dX5_secondsOfRallies_49 : decode cX5_secondsOfRallies 49 = .ok (.ldc2_w 119, 3) := by decide +kernel
theorem dX5_secondsOfRallies_52 : decode cX5_secondsOfRallies 52 = .ok (.ldiv, 1) := by decide +kernel
theorem dX5_secondsOfRallies_53 : decode cX5_secondsOfRallies 53 = .ok (.ldc2_w 121, 3) := by decide +kernel
theorem dX5_secondsOfRallies_56 : decode cX5_secondsOfRallies 56 = .ok (.lrem, 1) := by decide +kernel
theorem dX5_secondsOfRallies_57 : decode cX5_secondsOfRallies 57 = .ok (.l2i, 1) := by decide +kernel
theorem dX5_secondsOfRallies_58 : decode cX5_secondsOfRallies 58 = .ok (.invokevirtual 123, 3) := by decide +kernel
theorem dX5_secondsOfRallies_61 : decode cX5_secondsOfRallies 61 = .ok (.iadd, 1) := by decide +kernel
theorem dX5_secondsOfRallies_62 : decode cX5_secondsOfRallies 62 = .ok (.istore 6, 2) := by decide +kernel
theorem dX5_secondsOfRallies_64 : decode cX5_secondsOfRallies 64 = .ok (.iinc 7 1, 3) := by decide +kernel
theorem dX5_secondsOfRallies_67 : decode cX5_secondsOfRallies 67 = .ok (.goto (-57), 3) := by decide +kernel
theorem dX5_secondsOfRallies_70 : decode cX5_secondsOfRallies 70 = .ok (.iload 6, 2) := by decide +kernel
theorem dX5_secondsOfRallies_72 : decode cX5_secondsOfRallies 72 = .ok (.ireturn, 1) := by decide +kernel
set_option maxRecDepth 20000 in
theorem ggX5_secondsOfAll_X0_holds : GoodIn wsX5_secondsOfAll wsX0_holds := goodIn_r _ [9, 10, 11, 19, 20, 21, 22, 23, 24] (by decide +kernel) (by decide +kernel)
set_option maxRecDepth 20000 in
theorem gX5_secondsOfAll_X0_holds : GoodIn wsX5_secondsOfAll (wsV RX5 71 RX0 yX0_holds wsX0_holds) := goodIn_app (goodIn_of _ (by decide +kernel)) ggX5_secondsOfAll_X0_holds
set_option maxRecDepth 20000 in
theorem ggX5_secondsOfAll_X2_paceOf : GoodIn wsX5_secondsOfAll wsX2_paceOf := goodIn_r _ [15] (by decide +kernel) (by decide +kernel)
set_option maxRecDepth 20000 in
theorem gX5_secondsOfAll_X2_paceOf : GoodIn wsX5_secondsOfAll (va_wsS RX5 77 yX2_paceOf wsX2_paceOf) := goodIn_app (goodIn_of _ (by decide +kernel)) ggX5_secondsOfAll_X2_paceOf
set_option maxRecDepth 20000 in
theorem ggX5_secondsOfAll_X2_costOf : GoodIn wsX5_secondsOfAll wsX2_costOf := goodIn_r _ [18] (by decide +kernel) (by decide +kernel)
set_option maxRecDepth 20000 in
theorem gX5_secondsOfAll_X2_costOf : GoodIn wsX5_secondsOfAll (va_wsS RX5 106 yX2_costOf wsX2_costOf) := goodIn_app (goodIn_of _ (by decide +kernel)) ggX5_secondsOfAll_X2_costOf
theorem dX5_secondsOfAll_0 : decode cX5_secondsOfAll 0 = .ok (.iconst 0, 1) := by decide +kernel
theorem dX5_secondsOfAll_1 : decode cX5_secondsOfAll 1 = .ok (.istore 4, 2) := by decide +kernel
theorem dX5_secondsOfAll_3 : decode cX5_secondsOfAll 3 = .ok (.iconst 0, 1) := by decide +kernel
theorem dX5_secondsOfAll_4 : decode cX5_secondsOfAll 4 = .ok (.istore 5, 2) := by decide +kernel
theorem dX5_secondsOfAll_6 : decode cX5_secondsOfAll 6 = .ok (.iload 5, 2) := by decide +kernel
theorem dX5_secondsOfAll_8 : decode cX5_secondsOfAll 8 = .ok (.aload_n 1, 1) := by decide +kernel
theorem dX5_secondsOfAll_9 : decode cX5_secondsOfAll 9 = .ok (.getfield 24, 3) := by decide +kernel
theorem dX5_secondsOfAll_12 : decode cX5_secondsOfAll 12 = .ok (.if_icmp .ge 60, 3) := by decide +kernel
theorem dX5_secondsOfAll_15 : decode cX5_secondsOfAll 15 = .ok (.aload_n 1, 1) := by decide +kernel
theorem dX5_secondsOfAll_16 : decode cX5_secondsOfAll 16 = .ok (.iload 5, 2) := by decide +kernel
theorem dX5_secondsOfAll_18 : decode cX5_secondsOfAll 18 = .ok (.invokevirtual 71, 3) := by decide +kernel
theorem dX5_secondsOfAll_21 : decode cX5_secondsOfAll 21 = .ok (.istore 6, 2) := by decide +kernel
theorem dX5_secondsOfAll_23 : decode cX5_secondsOfAll 23 = .ok (.iload_n 2, 1) := by decide +kernel
theorem dX5_secondsOfAll_24 : decode cX5_secondsOfAll 24 = .ok (.aload_n 1, 1) := by decide +kernel
theorem dX5_secondsOfAll_25 : decode cX5_secondsOfAll 25 = .ok (.getfield 51, 3) := by decide +kernel
theorem dX5_secondsOfAll_28 : decode cX5_secondsOfAll 28 = .ok (.iload 5, 2) := by decide +kernel
theorem dX5_secondsOfAll_30 : decode cX5_secondsOfAll 30 = .ok (.iaload, 1) := by decide +kernel
theorem dX5_secondsOfAll_31 : decode cX5_secondsOfAll 31 = .ok (.iload 6, 2) := by decide +kernel
theorem dX5_secondsOfAll_33 : decode cX5_secondsOfAll 33 = .ok (.iload_n 3, 1) := by decide +kernel
theorem dX5_secondsOfAll_34 : decode cX5_secondsOfAll 34 = .ok (.aload_n 1, 1) := by decide +kernel
theorem dX5_secondsOfAll_35 : decode cX5_secondsOfAll 35 = .ok (.getfield 74, 3) := by decide +kernel
theorem dX5_secondsOfAll_38 : decode cX5_secondsOfAll 38 = .ok (.iload 5, 2) := by decide +kernel
theorem dX5_secondsOfAll_40 : decode cX5_secondsOfAll 40 = .ok (.iaload, 1) := by decide +kernel
theorem dX5_secondsOfAll_41 : decode cX5_secondsOfAll 41 = .ok (.invokestatic 77, 3) := by decide +kernel
theorem dX5_secondsOfAll_44 : decode cX5_secondsOfAll 44 = .ok (.istore 7, 2) := by decide +kernel
theorem dX5_secondsOfAll_46 : decode cX5_secondsOfAll 46 = .ok (.iload 4, 2) := by decide +kernel
theorem dX5_secondsOfAll_48 : decode cX5_secondsOfAll 48 = .ok (.aload_n 1, 1) := by decide +kernel
theorem dX5_secondsOfAll_49 : decode cX5_secondsOfAll 49 = .ok (.getfield 61, 3) := by decide +kernel
theorem dX5_secondsOfAll_52 : decode cX5_secondsOfAll 52 = .ok (.iload 5, 2) := by decide +kernel
theorem dX5_secondsOfAll_54 : decode cX5_secondsOfAll 54 = .ok (.iaload, 1) := by decide +kernel
theorem dX5_secondsOfAll_55 : decode cX5_secondsOfAll 55 = .ok (.iload 7, 2) := by decide +kernel
theorem dX5_secondsOfAll_57 : decode cX5_secondsOfAll 57 = .ok (.iload 6, 2) := by decide +kernel
theorem dX5_secondsOfAll_59 : decode cX5_secondsOfAll 59 = .ok (.invokestatic 106, 3) := by decide +kernel
theorem dX5_secondsOfAll_62 : decode cX5_secondsOfAll 62 = .ok (.iadd, 1) := by decide +kernel
theorem dX5_secondsOfAll_63 : decode cX5_secondsOfAll 63 = .ok (.iadd, 1) := by decide +kernel
theorem dX5_secondsOfAll_64 : decode cX5_secondsOfAll 64 = .ok (.istore 4, 2) := by decide +kernel
theorem dX5_secondsOfAll_66 : decode cX5_secondsOfAll 66 = .ok (.iinc 5 1, 3) := by decide +kernel
theorem dX5_secondsOfAll_69 : decode cX5_secondsOfAll 69 = .ok (.goto (-63), 3) := by decide +kernel
theorem dX5_secondsOfAll_72 : decode cX5_secondsOfAll 72 = .ok (.iload 4, 2) := by decide +kernel
theorem dX5_secondsOfAll_74 : decode cX5_secondsOfAll 74 = .ok (.ireturn, 1) := by decide +kernel
set_option maxRecDepth 20000 in
theorem ggX6_init_X0_init : GoodIn wsX6_init wsX0_init := goodIn_r _ [26, 27, 2, 3, 28, 29, 30, 31, 32, 33, 34, 50, 51, 52, 53, 54, 55] (by decide +kernel) (by decide +kernel)
set_option maxRecDepth 20000 in
theorem gX6_init_X0_init_n9 : GoodIn wsX6_init (wsX0_init) := ggX6_init_X0_init
set_option maxRecDepth 20000 in
theorem ggX6_init_X1_init : GoodIn wsX6_init wsX1_init := goodIn_r _ [36, 37, 2, 3, 28, 38, 39, 65, 66] (by decide +kernel) (by decide +kernel)
set_option maxRecDepth 20000 in
theorem gX6_init_X1_init_n18 : GoodIn wsX6_init (wsX1_init) := ggX6_init_X1_init
set_option maxRecDepth 20000 in
theorem ggX6_init_X3_init : GoodIn wsX6_init wsX3_init := goodIn_r _ [41, 42, 2, 3, 28, 43, 44, 67, 68] (by decide +kernel) (by decide +kernel)
set_option maxRecDepth 20000 in
theorem gX6_init_X3_init_n25 : GoodIn wsX6_init (wsX3_init) := ggX6_init_X3_init
set_option maxRecDepth 20000 in
theorem ggX6_init_X4_init : GoodIn wsX6_init wsX4_init := goodIn_r _ [46, 47, 2, 3, 28, 48, 49, 69, 70] (by decide +kernel) (by decide +kernel)
set_option maxRecDepth 20000 in
theorem gX6_init_X4_init_n32 : GoodIn wsX6_init (wsX4_init) := ggX6_init_X4_init
theorem dX6_init_0 : decode cX6_init 0 = .ok (.aload_n 0, 1) := by decide +kernel
theorem dX6_init_1 : decode cX6_init 1 = .ok (.invokespecial 1, 3) := by decide +kernel
theorem dX6_init_4 : decode cX6_init 4 = .ok (.aload_n 0, 1) := by decide +kernel
theorem dX6_init_5 : decode cX6_init 5 = .ok (.new 7, 3) := by decide +kernel
theorem dX6_init_8 : decode cX6_init 8 = .ok (.dup, 1) := by decide +kernel
theorem dX6_init_9 : decode cX6_init 9 = .ok (.invokespecial 9, 3) := by decide +kernel
theorem dX6_init_12 : decode cX6_init 12 = .ok (.putfield 10, 3) := by decide +kernel
theorem dX6_init_15 : decode cX6_init 15 = .ok (.aload_n 0, 1) := by decide +kernel
theorem dX6_init_16 : decode cX6_init 16 = .ok (.new 16, 3) := by decide +kernel
theorem dX6_init_19 : decode cX6_init 19 = .ok (.dup, 1) := by decide +kernel
theorem dX6_init_20 : decode cX6_init 20 = .ok (.invokespecial 18, 3) := by decide +kernel
theorem dX6_init_23 : decode cX6_init 23 = .ok (.putfield 19, 3) := by decide +kernel
theorem dX6_init_26 : decode cX6_init 26 = .ok (.aload_n 0, 1) := by decide +kernel
theorem dX6_init_27 : decode cX6_init 27 = .ok (.new 23, 3) := by decide +kernel
theorem dX6_init_30 : decode cX6_init 30 = .ok (.dup, 1) := by decide +kernel
theorem dX6_init_31 : decode cX6_init 31 = .ok (.invokespecial 25, 3) := by decide +kernel
theorem dX6_init_34 : decode cX6_init 34 = .ok (.putfield 26, 3) := by decide +kernel
theorem dX6_init_37 : decode cX6_init 37 = .ok (.aload_n 0, 1) := by decide +kernel
theorem dX6_init_38 : decode cX6_init 38 = .ok (.new 30, 3) := by decide +kernel
theorem dX6_init_41 : decode cX6_init 41 = .ok (.dup, 1) := by decide +kernel
theorem dX6_init_42 : decode cX6_init 42 = .ok (.invokespecial 32, 3) := by decide +kernel
theorem dX6_init_45 : decode cX6_init 45 = .ok (.putfield 33, 3) := by decide +kernel
theorem dX6_init_48 : decode cX6_init 48 = .ok (.aload_n 0, 1) := by decide +kernel
theorem dX6_init_49 : decode cX6_init 49 = .ok (.iconst 0, 1) := by decide +kernel
theorem dX6_init_50 : decode cX6_init 50 = .ok (.putfield 37, 3) := by decide +kernel
theorem dX6_init_53 : decode cX6_init 53 = .ok (.aload_n 0, 1) := by decide +kernel
theorem dX6_init_54 : decode cX6_init 54 = .ok (.iconst 0, 1) := by decide +kernel
theorem dX6_init_55 : decode cX6_init 55 = .ok (.putfield 41, 3) := by decide +kernel
theorem dX6_init_58 : decode cX6_init 58 = .ok (.aload_n 0, 1) := by decide +kernel
theorem dX6_init_59 : decode cX6_init 59 = .ok (.iconst 0, 1) := by decide +kernel
theorem dX6_init_60 : decode cX6_init 60 = .ok (.putfield 44, 3) := by decide +kernel
theorem dX6_init_63 : decode cX6_init 63 = .ok (.aload_n 0, 1) := by decide +kernel
theorem dX6_init_64 : decode cX6_init 64 = .ok (.iconst 0, 1) := by decide +kernel
theorem dX6_init_65 : decode cX6_init 65 = .ok (.putfield 47, 3) := by decide +kernel
theorem dX6_init_68 : decode cX6_init 68 = .ok (.aload_n 0, 1) := by decide +kernel
theorem dX6_init_69 : decode cX6_init 69 = .ok (.iconst 0, 1) := by decide +kernel
theorem dX6_init_70 : decode cX6_init 70 = .ok (.putfield 50, 3) := by decide +kernel
theorem dX6_init_73 : decode cX6_init 73 = .ok (.return_, 1) := by decide +kernel
theorem dX6_reset_0 : decode cX6_reset 0 = .ok (.aload_n 0, 1) := by decide +kernel
theorem dX6_reset_1 : decode cX6_reset 1 = .ok (.getfield 10, 3) := by decide +kernel
theorem dX6_reset_4 : decode cX6_reset 4 = .ok (.iconst 0, 1) := by decide +kernel
theorem dX6_reset_5 : decode cX6_reset 5 = .ok (.putfield 53, 3) := by decide +kernel
theorem dX6_reset_8 : decode cX6_reset 8 = .ok (.aload_n 0, 1) := by decide +kernel
theorem dX6_reset_9 : decode cX6_reset 9 = .ok (.getfield 19, 3) := by decide +kernel
theorem dX6_reset_12 : decode cX6_reset 12 = .ok (.iconst 0, 1) := by decide +kernel
theorem dX6_reset_13 : decode cX6_reset 13 = .ok (.putfield 56, 3) := by decide +kernel
theorem dX6_reset_16 : decode cX6_reset 16 = .ok (.aload_n 0, 1) := by decide +kernel
theorem dX6_reset_17 : decode cX6_reset 17 = .ok (.getfield 26, 3) := by decide +kernel
theorem dX6_reset_20 : decode cX6_reset 20 = .ok (.iconst 0, 1) := by decide +kernel
theorem dX6_reset_21 : decode cX6_reset 21 = .ok (.putfield 57, 3) := by decide +kernel
theorem dX6_reset_24 : decode cX6_reset 24 = .ok (.aload_n 0, 1) := by decide +kernel
theorem dX6_reset_25 : decode cX6_reset 25 = .ok (.getfield 33, 3) := by decide +kernel
theorem dX6_reset_28 : decode cX6_reset 28 = .ok (.iconst 0, 1) := by decide +kernel
theorem dX6_reset_29 : decode cX6_reset 29 = .ok (.putfield 58, 3) := by decide +kernel
theorem dX6_reset_32 : decode cX6_reset 32 = .ok (.aload_n 0, 1) := by decide +kernel
theorem dX6_reset_33 : decode cX6_reset 33 = .ok (.iload_n 1, 1) := by decide +kernel
theorem dX6_reset_34 : decode cX6_reset 34 = .ok (.putfield 37, 3) := by decide +kernel
theorem dX6_reset_37 : decode cX6_reset 37 = .ok (.aload_n 0, 1) := by decide +kernel
theorem dX6_reset_38 : decode cX6_reset 38 = .ok (.iload_n 2, 1) := by decide +kernel
theorem dX6_reset_39 : decode cX6_reset 39 = .ok (.putfield 41, 3) := by decide +kernel
theorem dX6_reset_42 : decode cX6_reset 42 = .ok (.aload_n 0, 1) := by decide +kernel
theorem dX6_reset_43 : decode cX6_reset 43 = .ok (.iconst 0, 1) := by decide +kernel
theorem dX6_reset_44 : decode cX6_reset 44 = .ok (.putfield 44, 3) := by decide +kernel
theorem dX6_reset_47 : decode cX6_reset 47 = .ok (.aload_n 0, 1) := by decide +kernel
theorem dX6_reset_48 : decode cX6_reset 48 = .ok (.iconst 0, 1) := by decide +kernel
theorem dX6_reset_49 : decode cX6_reset 49 = .ok (.putfield 47, 3) := by decide +kernel
theorem dX6_reset_52 : decode cX6_reset 52 = .ok (.aload_n 0, 1) := by decide +kernel
theorem dX6_reset_53 : decode cX6_reset 53 = .ok (.iconst 0, 1) := by decide +kernel
theorem dX6_reset_54 : decode cX6_reset 54 = .ok (.putfield 50, 3) := by decide +kernel
theorem dX6_reset_57 : decode cX6_reset 57 = .ok (.return_, 1) := by decide +kernel
set_option maxRecDepth 20000 in
theorem ggX6_take_X0_take : GoodIn wsX6_take wsX0_take := goodIn_r _ [14, 15, 16, 17, 18, 19, 20, 21, 22, 23, 24, 58, 59, 60, 61, 62, 63] (by decide +kernel) (by decide +kernel)
set_option maxRecDepth 20000 in
theorem gX6_take_X0_take : GoodIn wsX6_take (wsV RX6 59 RX0 yX0_take wsX0_take) := goodIn_app (goodIn_of _ (by decide +kernel)) ggX6_take_X0_take
set_option maxRecDepth 20000 in
theorem ggX6_take_X1_take : GoodIn wsX6_take wsX1_take := goodIn_r _ [29, 30, 31, 17, 18, 19, 32, 64, 65] (by decide +kernel) (by decide +kernel)
set_option maxRecDepth 20000 in
theorem gX6_take_X1_take : GoodIn wsX6_take (wsV RX6 63 RX1 yX1_take wsX1_take) := goodIn_app (goodIn_of _ (by decide +kernel)) ggX6_take_X1_take
set_option maxRecDepth 20000 in
theorem ggX6_take_X3_take : GoodIn wsX6_take wsX3_take := goodIn_r _ [37, 38, 39, 17, 18, 19, 40, 66, 67] (by decide +kernel) (by decide +kernel)
set_option maxRecDepth 20000 in
theorem gX6_take_X3_take : GoodIn wsX6_take (wsV RX6 66 RX3 yX3_take wsX3_take) := goodIn_app (goodIn_of _ (by decide +kernel)) ggX6_take_X3_take
set_option maxRecDepth 20000 in
theorem ggX6_take_X4_take : GoodIn wsX6_take wsX4_take := goodIn_r _ [45, 46, 47, 17, 18, 19, 48, 68, 69] (by decide +kernel) (by decide +kernel)
set_option maxRecDepth 20000 in
theorem gX6_take_X4_take : GoodIn wsX6_take (wsV RX6 69 RX4 yX4_take wsX4_take) := goodIn_app (goodIn_of _ (by decide +kernel)) ggX6_take_X4_take
theorem dX6_take_0 : decode cX6_take 0 = .ok (.aload_n 0, 1) := by decide +kernel
theorem dX6_take_1 : decode cX6_take 1 = .ok (.getfield 10, 3) := by decide +kernel
theorem dX6_take_4 : decode cX6_take 4 = .ok (.aload_n 1, 1) := by decide +kernel
theorem dX6_take_5 : decode cX6_take 5 = .ok (.getfield 10, 3) := by decide +kernel

