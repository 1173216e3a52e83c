theorem dX8_heard_11 : decode cX8_heard 11 = .ok (.bipush (-2), 2) := by decide +kernel
theorem dX8_heard_13 : decode cX8_heard 13 = .ok (.invokevirtual 56, 3) := by decide +kernel
theorem dX8_heard_16 : decode cX8_heard 16 = .ok (.ireturn, 1) := by decide +kernel
theorem dX8_heard_17 : decode cX8_heard 17 = .ok (.aload_n 0, 1) := by decide +kernel
theorem dX8_heard_18 : decode cX8_heard 18 = .ok (.aload_n 0, 1) := by decide +kernel
theorem dX8_heard_19 : decode cX8_heard 19 = .ok (.getfield 30, 3) := by decide +kernel
theorem dX8_heard_22 : decode cX8_heard 22 = .ok (.aload_n 0, 1) := by decide +kernel
theorem dX8_heard_23 : decode cX8_heard 23 = .ok (.getfield 10, 3) := by decide +kernel
theorem dX8_heard_26 : decode cX8_heard 26 = .ok (.iload_n 1, 1) := by decide +kernel
theorem dX8_heard_27 : decode cX8_heard 27 = .ok (.invokevirtual 206, 3) := by decide +kernel
theorem dX8_heard_30 : decode cX8_heard 30 = .ok (.invokevirtual 209, 3) := by decide +kernel
theorem dX8_heard_33 : decode cX8_heard 33 = .ok (.iconst 1, 1) := by decide +kernel
theorem dX8_heard_34 : decode cX8_heard 34 = .ok (.ireturn, 1) := by decide +kernel
set_option maxRecDepth 20000 in
theorem ggX8_rallies_X8_within : GoodIn wsX8_rallies wsX8_within := goodIn_r _ [8] (by decide +kernel) (by decide +kernel)
set_option maxRecDepth 20000 in
theorem gX8_rallies_X8_within : GoodIn wsX8_rallies (va_wsS RX8 74 yX8_within wsX8_within) := goodIn_app (goodIn_of _ (by decide +kernel)) ggX8_rallies_X8_within
set_option maxRecDepth 20000 in
theorem ggX8_rallies_X8_refuse : GoodIn wsX8_rallies wsX8_refuse := goodIn_r _ [12, 13, 48, 49, 50, 51, 52, 53, 54, 55, 56] (by decide +kernel) (by decide +kernel)
set_option maxRecDepth 20000 in
theorem gX8_rallies_X8_refuse : GoodIn wsX8_rallies (wsV RX8 56 RX8 yX8_refuse wsX8_refuse) := goodIn_app (goodIn_of _ (by decide +kernel)) ggX8_rallies_X8_refuse
set_option maxRecDepth 20000 in
theorem ggX8_rallies_X5_secondsOfRallies : GoodIn wsX8_rallies wsX5_secondsOfRallies := goodIn_r _ [18, 19, 20, 21, 22, 23, 24, 25, 26, 27, 28, 17, 29, 30, 31, 32, 33, 34, 35, 36, 37, 38, 39, 40, 41, 42, 43, 44, 45, 46, 47, 66, 67, 68, 69, 70, 71] (by decide +kernel) (by decide +kernel)
set_option maxRecDepth 20000 in
theorem gX8_rallies_X5_secondsOfRallies : GoodIn wsX8_rallies (wsV RX8 214 RX5 yX5_secondsOfRallies wsX5_secondsOfRallies) := goodIn_app (goodIn_of _ (by decide +kernel)) ggX8_rallies_X5_secondsOfRallies
theorem dX8_rallies_0 : decode cX8_rallies 0 = .ok (.iload_n 1, 1) := by decide +kernel
theorem dX8_rallies_1 : decode cX8_rallies 1 = .ok (.iconst 0, 1) := by decide +kernel
theorem dX8_rallies_2 : decode cX8_rallies 2 = .ok (.ldc 213, 2) := by decide +kernel
theorem dX8_rallies_4 : decode cX8_rallies 4 = .ok (.invokestatic 74, 3) := by decide +kernel
theorem dX8_rallies_7 : decode cX8_rallies 7 = .ok (.ifCond .eq 13, 3) := by decide +kernel
theorem dX8_rallies_10 : decode cX8_rallies 10 = .ok (.iload_n 2, 1) := by decide +kernel
theorem dX8_rallies_11 : decode cX8_rallies 11 = .ok (.iconst 0, 1) := by decide +kernel
theorem dX8_rallies_12 : decode cX8_rallies 12 = .ok (.bipush 60, 2) := by decide +kernel
theorem dX8_rallies_14 : decode cX8_rallies 14 = .ok (.invokestatic 74, 3) := by decide +kernel
theorem dX8_rallies_17 : decode cX8_rallies 17 = .ok (.ifCond .ne 10, 3) := by decide +kernel
theorem dX8_rallies_20 : decode cX8_rallies 20 = .ok (.aload_n 0, 1) := by decide +kernel
theorem dX8_rallies_21 : decode cX8_rallies 21 = .ok (.bipush (-2), 2) := by decide +kernel
theorem dX8_rallies_23 : decode cX8_rallies 23 = .ok (.invokevirtual 56, 3) := by decide +kernel
theorem dX8_rallies_26 : decode cX8_rallies 26 = .ok (.ireturn, 1) := by decide +kernel
theorem dX8_rallies_27 : decode cX8_rallies 27 = .ok (.aload_n 0, 1) := by decide +kernel
theorem dX8_rallies_28 : decode cX8_rallies 28 = .ok (.getfield 30, 3) := by decide +kernel
theorem dX8_rallies_31 : decode cX8_rallies 31 = .ok (.aload_n 0, 1) := by decide +kernel
theorem dX8_rallies_32 : decode cX8_rallies 32 = .ok (.getfield 10, 3) := by decide +kernel
theorem dX8_rallies_35 : decode cX8_rallies 35 = .ok (.getfield 60, 3) := by decide +kernel
theorem dX8_rallies_38 : decode cX8_rallies 38 = .ok (.iload_n 1, 1) := by decide +kernel
theorem dX8_rallies_39 : decode cX8_rallies 39 = .ok (.iload_n 2, 1) := by decide +kernel
theorem dX8_rallies_40 : decode cX8_rallies 40 = .ok (.invokevirtual 214, 3) := by decide +kernel
theorem dX8_rallies_43 : decode cX8_rallies 43 = .ok (.ireturn, 1) := by decide +kernel
set_option maxRecDepth 20000 in
theorem ggX8_part_X8_within : GoodIn wsX8_part wsX8_within := goodIn_r _ [6] (by decide +kernel) (by decide +kernel)
set_option maxRecDepth 20000 in
theorem gX8_part_X8_within : GoodIn wsX8_part (va_wsS RX8 74 yX8_within wsX8_within) := goodIn_app (goodIn_of _ (by decide +kernel)) ggX8_part_X8_within
set_option maxRecDepth 20000 in
theorem ggX8_part_X8_refuse : GoodIn wsX8_part wsX8_refuse := goodIn_r _ [10, 11, 12, 13, 14, 15, 16, 17, 18, 19, 20] (by decide +kernel) (by decide +kernel)
set_option maxRecDepth 20000 in
theorem gX8_part_X8_refuse : GoodIn wsX8_part (wsV RX8 56 RX8 yX8_refuse wsX8_refuse) := goodIn_app (goodIn_of _ (by decide +kernel)) ggX8_part_X8_refuse
theorem dX8_part_0 : decode cX8_part 0 = .ok (.iload_n 1, 1) := by decide +kernel
theorem dX8_part_1 : decode cX8_part 1 = .ok (.iconst 0, 1) := by decide +kernel
theorem dX8_part_2 : decode cX8_part 2 = .ok (.iconst 1, 1) := by decide +kernel
theorem dX8_part_3 : decode cX8_part 3 = .ok (.invokestatic 74, 3) := by decide +kernel
theorem dX8_part_6 : decode cX8_part 6 = .ok (.ifCond .ne 11, 3) := by decide +kernel
theorem dX8_part_9 : decode cX8_part 9 = .ok (.aload_n 0, 1) := by decide +kernel
theorem dX8_part_10 : decode cX8_part 10 = .ok (.bipush (-2), 2) := by decide +kernel
theorem dX8_part_12 : decode cX8_part 12 = .ok (.invokevirtual 56, 3) := by decide +kernel
theorem dX8_part_15 : decode cX8_part 15 = .ok (.i2l, 1) := by decide +kernel
theorem dX8_part_16 : decode cX8_part 16 = .ok (.lreturn, 1) := by decide +kernel
theorem dX8_part_17 : decode cX8_part 17 = .ok (.iload_n 1, 1) := by decide +kernel
theorem dX8_part_18 : decode cX8_part 18 = .ok (.ifCond .ne 10, 3) := by decide +kernel
theorem dX8_part_21 : decode cX8_part 21 = .ok (.aload_n 0, 1) := by decide +kernel
theorem dX8_part_22 : decode cX8_part 22 = .ok (.getfield 45, 3) := by decide +kernel
theorem dX8_part_25 : decode cX8_part 25 = .ok (.goto 7, 3) := by decide +kernel
theorem dX8_part_28 : decode cX8_part 28 = .ok (.aload_n 0, 1) := by decide +kernel
theorem dX8_part_29 : decode cX8_part 29 = .ok (.getfield 49, 3) := by decide +kernel
theorem dX8_part_32 : decode cX8_part 32 = .ok (.lreturn, 1) := by decide +kernel
set_option maxRecDepth 20000 in
theorem ggX8_image_X8_within : GoodIn wsX8_image wsX8_within := goodIn_r _ [7] (by decide +kernel) (by decide +kernel)
set_option maxRecDepth 20000 in
theorem gX8_image_X8_within : GoodIn wsX8_image (va_wsS RX8 74 yX8_within wsX8_within) := goodIn_app (goodIn_of _ (by decide +kernel)) ggX8_image_X8_within
set_option maxRecDepth 20000 in
theorem ggX8_image_X8_refuse : GoodIn wsX8_image wsX8_refuse := goodIn_r _ [11, 12, 66, 67, 68, 69, 70, 71, 72, 73, 74] (by decide +kernel) (by decide +kernel)
set_option maxRecDepth 20000 in
theorem gX8_image_X8_refuse : GoodIn wsX8_image (wsV RX8 56 RX8 yX8_refuse wsX8_refuse) := goodIn_app (goodIn_of _ (by decide +kernel)) ggX8_image_X8_refuse
set_option maxRecDepth 20000 in
theorem ggX8_image_X6_take : GoodIn wsX8_image wsX6_take := goodIn_r _ [17, 18, 19, 20, 21, 22, 23, 24, 25, 26, 27, 28, 29, 30, 31, 32, 33, 34, 35, 36, 37, 38, 39, 40, 41, 42, 43, 44, 45, 46, 47, 48, 49, 50, 51, 52, 53, 54, 55, 56, 57, 58, 59, 60, 61, 62, 63, 64, 65, 75, 76, 77, 78, 79, 80, 81, 82, 83, 84, 85, 86, 87, 88, 89, 90, 91, 92, 93, 94, 95] (by decide +kernel) (by decide +kernel)
set_option maxRecDepth 20000 in
theorem gX8_image_X6_take : GoodIn wsX8_image (wsV RX8 114 RX6 yX6_take wsX6_take) := goodIn_app (goodIn_of _ (by decide +kernel)) ggX8_image_X6_take
theorem dX8_image_0 : decode cX8_image 0 = .ok (.iload_n 1, 1) := by decide +kernel
theorem dX8_image_1 : decode cX8_image 1 = .ok (.iconst 0, 1) := by decide +kernel
theorem dX8_image_2 : decode cX8_image 2 = .ok (.iconst 1, 1) := by decide +kernel
theorem dX8_image_3 : decode cX8_image 3 = .ok (.invokestatic 74, 3) := by decide +kernel
theorem dX8_image_6 : decode cX8_image 6 = .ok (.ifCond .ne 10, 3) := by decide +kernel
theorem dX8_image_9 : decode cX8_image 9 = .ok (.aload_n 0, 1) := by decide +kernel
theorem dX8_image_10 : decode cX8_image 10 = .ok (.bipush (-2), 2) := by decide +kernel
theorem dX8_image_12 : decode cX8_image 12 = .ok (.invokevirtual 56, 3) := by decide +kernel
theorem dX8_image_15 : decode cX8_image 15 = .ok (.ireturn, 1) := by decide +kernel
theorem dX8_image_16 : decode cX8_image 16 = .ok (.aload_n 0, 1) := by decide +kernel
theorem dX8_image_17 : decode cX8_image 17 = .ok (.getfield 19, 3) := by decide +kernel
theorem dX8_image_20 : decode cX8_image 20 = .ok (.iload_n 1, 1) := by decide +kernel
theorem dX8_image_21 : decode cX8_image 21 = .ok (.aaload, 1) := by decide +kernel
theorem dX8_image_22 : decode cX8_image 22 = .ok (.aload_n 0, 1) := by decide +kernel
theorem dX8_image_23 : decode cX8_image 23 = .ok (.getfield 10, 3) := by decide +kernel
theorem dX8_image_26 : decode cX8_image 26 = .ok (.invokevirtual 114, 3) := by decide +kernel
theorem dX8_image_29 : decode cX8_image 29 = .ok (.aload_n 0, 1) := by decide +kernel
theorem dX8_image_30 : decode cX8_image 30 = .ok (.getfield 23, 3) := by decide +kernel
theorem dX8_image_33 : decode cX8_image 33 = .ok (.iload_n 1, 1) := by decide +kernel
theorem dX8_image_34 : decode cX8_image 34 = .ok (.iconst 1, 1) := by decide +kernel
theorem dX8_image_35 : decode cX8_image 35 = .ok (.bastore, 1) := by decide +kernel
theorem dX8_image_36 : decode cX8_image 36 = .ok (.iconst 1, 1) := by decide +kernel
theorem dX8_image_37 : decode cX8_image 37 = .ok (.ireturn, 1) := by decide +kernel
set_option maxRecDepth 20000 in
theorem ggX8_from_X8_within : GoodIn wsX8_from wsX8_within := goodIn_r _ [7] (by decide +kernel) (by decide +kernel)
set_option maxRecDepth 20000 in
theorem gX8_from_X8_within : GoodIn wsX8_from (va_wsS RX8 74 yX8_within wsX8_within) := goodIn_app (goodIn_of _ (by decide +kernel)) ggX8_from_X8_within
set_option maxRecDepth 20000 in
theorem ggX8_from_X8_refuse : GoodIn wsX8_from wsX8_refuse := goodIn_r _ [11, 12, 66, 67, 68, 69, 70, 71, 72, 73, 74] (by decide +kernel) (by decide +kernel)
set_option maxRecDepth 20000 in
theorem gX8_from_X8_refuse : GoodIn wsX8_from (wsV RX8 56 RX8 yX8_refuse wsX8_refuse) := goodIn_app (goodIn_of _ (by decide +kernel)) ggX8_from_X8_refuse
set_option maxRecDepth 20000 in
theorem ggX8_from_X6_take : GoodIn wsX8_from wsX6_take := goodIn_r _ [17, 18, 19, 20, 21, 22, 23, 24, 25, 26, 27, 28, 29, 30, 31, 32, 33, 34, 35, 36, 37, 38, 39, 40, 41, 42, 43, 44, 45, 46, 47, 48, 49, 50, 51, 52, 53, 54, 55, 56, 57, 58, 59, 60, 61, 62, 63, 64, 65, 75, 76, 77, 78, 79, 80, 81, 82, 83, 84, 85, 86, 87, 88, 89, 90, 91, 92, 93, 94, 95] (by decide +kernel) (by decide +kernel)
set_option maxRecDepth 20000 in
theorem gX8_from_X6_take : GoodIn wsX8_from (wsV RX8 114 RX6 yX6_take wsX6_take) := goodIn_app (goodIn_of _ (by decide +kernel)) ggX8_from_X6_take
theorem dX8_from_0 : decode cX8_from 0 = .ok (.iload_n 1, 1) := by decide +kernel
theorem dX8_from_1 : decode cX8_from 1 = .ok (.iconst 0, 1) := by decide +kernel
theorem dX8_from_2 : decode cX8_from 2 = .ok (.iconst 1, 1) := by decide +kernel
theorem dX8_from_3 : decode cX8_from 3 = .ok (.invokestatic 74, 3) := by decide +kernel
theorem dX8_from_6 : decode cX8_from 6 = .ok (.ifCond .ne 10, 3) := by decide +kernel
theorem dX8_from_9 : decode cX8_from 9 = .ok (.aload_n 0, 1) := by decide +kernel
theorem dX8_from_10 : decode cX8_from 10 = .ok (.bipush (-2), 2) := by decide +kernel
theorem dX8_from_12 : decode cX8_from 12 = .ok (.invokevirtual 56, 3) := by decide +kernel
theorem dX8_from_15 : decode cX8_from 15 = .ok (.ireturn, 1) := by decide +kernel
theorem dX8_from_16 : decode cX8_from 16 = .ok (.aload_n 0, 1) := by decide +kernel
theorem dX8_from_17 : decode cX8_from 17 = .ok (.getfield 23, 3) := by decide +kernel
theorem dX8_from_20 : decode cX8_from 20 = .ok (.iload_n 1, 1) := by decide +kernel
theorem dX8_from_21 : decode cX8_from 21 = .ok (.baload, 1) := by decide +kernel
theorem dX8_from_22 : decode cX8_from 22 = .ok (.ifCond .ne 10, 3) := by decide +kernel
theorem dX8_from_25 : decode cX8_from 25 = .ok (.aload_n 0, 1) := by decide +kernel
theorem dX8_from_26 : decode cX8_from 26 = .ok (.bipush (-3), 2) := by decide +kernel
theorem dX8_from_28 : decode cX8_from 28 = .ok (.invokevirtual 56, 3) := by decide +kernel
theorem dX8_from_31 : decode cX8_from 31 = .ok (.ireturn, 1) := by decide +kernel
theorem dX8_from_32 : decode cX8_from 32 = .ok (.aload_n 0, 1) := by decide +kernel
theorem dX8_from_33 : decode cX8_from 33 = .ok (.getfield 10, 3) := by decide +kernel
theorem dX8_from_36 : decode cX8_from 36 = .ok (.aload_n 0, 1) := by decide +kernel
theorem dX8_from_37 : decode cX8_from 37 = .ok (.getfield 19, 3) := by decide +kernel
theorem dX8_from_40 : decode cX8_from 40 = .ok (.iload_n 1, 1) := by decide +kernel
theorem dX8_from_41 : decode cX8_from 41 = .ok (.aaload, 1) := by decide +kernel
theorem dX8_from_42 : decode cX8_from 42 = .ok (.invokevirtual 114, 3) := by decide +kernel
theorem dX8_from_45 : decode cX8_from 45 = .ok (.iconst 1, 1) := by decide +kernel
theorem dX8_from_46 : decode cX8_from 46 = .ok (.ireturn, 1) := by decide +kernel
set_option maxRecDepth 20000 in
theorem ggX8_status_X8_within : GoodIn wsX8_status wsX8_within := goodIn_r _ [5] (by decide +kernel) (by decide +kernel)
set_option maxRecDepth 20000 in
theorem gX8_status_X8_within : GoodIn wsX8_status (va_wsS RX8 74 yX8_within wsX8_within) := goodIn_app (goodIn_of _ (by decide +kernel)) ggX8_status_X8_within
set_option maxRecDepth 20000 in
theorem ggX8_status_X8_refuse : GoodIn wsX8_status wsX8_refuse := goodIn_r _ [9, 1, 10, 11, 12, 13, 14, 15, 16, 17, 18] (by decide +kernel) (by decide +kernel)
set_option maxRecDepth 20000 in
theorem gX8_status_X8_refuse : GoodIn wsX8_status (wsV RX8 56 RX8 yX8_refuse wsX8_refuse) := goodIn_app (goodIn_of _ (by decide +kernel)) ggX8_status_X8_refuse
theorem dX8_status_0 : decode cX8_status 0 = .ok (.iload_n 1, 1) := by decide +kernel
theorem dX8_status_1 : decode cX8_status 1 = .ok (.iconst 0, 1) := by decide +kernel
theorem dX8_status_2 : decode cX8_status 2 = .ok (.iconst 2, 1) := by decide +kernel
theorem dX8_status_3 : decode cX8_status 3 = .ok (.invokestatic 74, 3) := by decide +kernel
theorem dX8_status_6 : decode cX8_status 6 = .ok (.ifCond .ne 12, 3) := by decide +kernel
theorem dX8_status_9 : decode cX8_status 9 = .ok (.aload_n 0, 1) := by decide +kernel
theorem dX8_status_10 : decode cX8_status 10 = .ok (.bipush (-2), 2) := by decide +kernel
theorem dX8_status_12 : decode cX8_status 12 = .ok (.invokevirtual 56, 3) := by decide +kernel
theorem dX8_status_15 : decode cX8_status 15 = .ok (.pop, 1) := by decide +kernel
theorem dX8_status_16 : decode cX8_status 16 = .ok (.iconst (-1), 1) := by decide +kernel
theorem dX8_status_17 : decode cX8_status 17 = .ok (.ireturn, 1) := by decide +kernel
theorem dX8_status_18 : decode cX8_status 18 = .ok (.aload_n 0, 1) := by decide +kernel
theorem dX8_status_19 : decode cX8_status 19 = .ok (.getfield 41, 3) := by decide +kernel
theorem dX8_status_22 : decode cX8_status 22 = .ok (.iload_n 1, 1) := by decide +kernel
theorem dX8_status_23 : decode cX8_status 23 = .ok (.iaload, 1) := by decide +kernel
theorem dX8_status_24 : decode cX8_status 24 = .ok (.ireturn, 1) := by decide +kernel
set_option maxRecDepth 20000 in
theorem ggX8_count_X8_within : GoodIn wsX8_count wsX8_within := goodIn_r _ [4] (by decide +kernel) (by decide +kernel)
set_option maxRecDepth 20000 in
theorem gX8_count_X8_within : GoodIn wsX8_count (va_wsS RX8 74 yX8_within wsX8_within) := goodIn_app (goodIn_of _ (by decide +kernel)) ggX8_count_X8_within
set_option maxRecDepth 20000 in
theorem ggX8_count_X8_refuse : GoodIn wsX8_count wsX8_refuse := goodIn_r _ [8, 9, 37, 38, 39, 40, 41, 42, 43, 44, 45] (by decide +kernel) (by decide +kernel)
set_option maxRecDepth 20000 in
theorem gX8_count_X8_refuse : GoodIn wsX8_count (wsV RX8 56 RX8 yX8_refuse wsX8_refuse) := goodIn_app (goodIn_of _ (by decide +kernel)) ggX8_count_X8_refuse
set_option maxRecDepth 20000 in
theorem ggX8_count_X8_howMany : GoodIn wsX8_count wsX8_howMany := goodIn_r _ [13, 14, 15, 16, 17, 18, 19, 20, 21, 22, 23, 24, 25, 26, 27, 28, 29, 30, 31, 32, 33, 34, 35, 36, 37, 38, 39, 40, 41, 42, 43, 44, 45, 46, 47, 48, 49, 50, 51, 52, 53, 54, 55, 56, 57, 58, 59, 60, 61, 62, 63, 64, 65, 66, 67, 68, 69, 70, 71] (by decide +kernel) (by decide +kernel)
set_option maxRecDepth 20000 in
theorem gX8_count_X8_howMany : GoodIn wsX8_count (wsV RX8 218 RX8 yX8_howMany wsX8_howMany) := goodIn_app (goodIn_of _ (by decide +kernel)) ggX8_count_X8_howMany
theorem dX8_count_0 : decode cX8_count 0 = .ok (.iload_n 1, 1) := by decide +kernel
theorem dX8_count_1 : decode cX8_count 1 = .ok (.iconst 0, 1) := by decide +kernel
theorem dX8_count_2 : decode cX8_count 2 = .ok (.bipush 6, 2) := by decide +kernel
theorem dX8_count_4 : decode cX8_count 4 = .ok (.invokestatic 74, 3) := by decide +kernel
theorem dX8_count_7 : decode cX8_count 7 = .ok (.ifCond .ne 10, 3) := by decide +kernel
theorem dX8_count_10 : decode cX8_count 10 = .ok (.aload_n 0, 1) := by decide +kernel
theorem dX8_count_11 : decode cX8_count 11 = .ok (.bipush (-2), 2) := by decide +kernel
theorem dX8_count_13 : decode cX8_count 13 = .ok (.invokevirtual 56, 3) := by decide +kernel
theorem dX8_count_16 : decode cX8_count 16 = .ok (.ireturn, 1) := by decide +kernel
theorem dX8_count_17 : decode cX8_count 17 = .ok (.aload_n 0, 1) := by decide +kernel
theorem dX8_count_18 : decode cX8_count 18 = .ok (.iload_n 1, 1) := by decide +kernel
theorem dX8_count_19 : decode cX8_count 19 = .ok (.invokevirtual 218, 3) := by decide +kernel
theorem dX8_count_22 : decode cX8_count 22 = .ok (.ireturn, 1) := by decide +kernel
set_option maxRecDepth 20000 in
theorem ggX8_digest_X8_howMany : GoodIn wsX8_digest wsX8_howMany := goodIn_r _ [13, 3, 4, 14, 5, 15, 6, 16, 17, 18, 19, 20, 21, 22, 23, 24, 25, 26, 27, 28, 29, 30, 31, 32, 75, 76, 77, 78, 79, 80, 81, 82, 83, 84, 85, 86, 87, 88, 89, 90, 91, 92, 93, 94, 95, 96, 97, 98, 99, 100, 101, 102, 103, 104, 105, 106, 107, 108, 109] (by decide +kernel) (by decide +kernel)
set_option maxRecDepth 20000 in
theorem gX8_digest_X8_howMany : GoodIn wsX8_digest (wsV RX8 218 RX8 yX8_howMany wsX8_howMany) := goodIn_app (goodIn_of _ (by decide +kernel)) ggX8_digest_X8_howMany
set_option maxRecDepth 20000 in
theorem ggX8_digest_X6_tell : GoodIn wsX8_digest wsX6_tell := goodIn_r _ [37, 38, 39, 40, 41, 42, 84, 85, 86, 87, 88, 89, 90, 91, 92] (by decide +kernel) (by decide +kernel)
set_option maxRecDepth 20000 in
theorem gX8_digest_X6_tell : GoodIn wsX8_digest (wsV RX8 140 RX6 yX6_tell wsX6_tell) := goodIn_app (goodIn_of _ (by decide +kernel)) ggX8_digest_X6_tell
set_option maxRecDepth 20000 in
theorem ggX8_digest_X0_digestOn : GoodIn wsX8_digest wsX0_digestOn := goodIn_r _ [46, 26, 47, 48, 49, 50, 24, 51, 52, 53, 27, 54, 32, 55, 56, 57, 58, 93, 94, 95, 96, 97, 98] (by decide +kernel) (by decide +kernel)
set_option maxRecDepth 20000 in
theorem gX8_digest_X0_digestOn : GoodIn wsX8_digest (wsV RX8 225 RX0 yX0_digestOn wsX0_digestOn) := goodIn_app (goodIn_of _ (by decide +kernel)) ggX8_digest_X0_digestOn
set_option maxRecDepth 20000 in
theorem ggX8_digest_X1_digestOn : GoodIn wsX8_digest wsX1_digestOn := goodIn_r _ [63, 64, 65, 66, 99, 100] (by decide +kernel) (by decide +kernel)
set_option maxRecDepth 20000 in
theorem gX8_digest_X1_digestOn : GoodIn wsX8_digest (wsV RX8 229 RX1 yX1_digestOn wsX1_digestOn) := goodIn_app (goodIn_of _ (by decide +kernel)) ggX8_digest_X1_digestOn
set_option maxRecDepth 20000 in
theorem ggX8_digest_X3_digestOn : GoodIn wsX8_digest wsX3_digestOn := goodIn_r _ [71, 72, 73, 74, 101, 102] (by decide +kernel) (by decide +kernel)
set_option maxRecDepth 20000 in
theorem gX8_digest_X3_digestOn : GoodIn wsX8_digest (wsV RX8 230 RX3 yX3_digestOn wsX3_digestOn) := goodIn_app (goodIn_of _ (by decide +kernel)) ggX8_digest_X3_digestOn
theorem dX8_digest_0 : decode cX8_digest 0 = .ok (.ldc2_w 221, 3) := by decide +kernel
theorem dX8_digest_3 : decode cX8_digest 3 = .ok (.lstore_n 1, 1) := by decide +kernel
theorem dX8_digest_4 : decode cX8_digest 4 = .ok (.iconst 0, 1) := by decide +kernel
theorem dX8_digest_5 : decode cX8_digest 5 = .ok (.istore_n 3, 1) := by decide +kernel
theorem dX8_digest_6 : decode cX8_digest 6 = .ok (.iload_n 3, 1) := by decide +kernel
theorem dX8_digest_7 : decode cX8_digest 7 = .ok (.bipush 6, 2) := by decide +kernel
theorem dX8_digest_9 : decode cX8_digest 9 = .ok (.if_icmp .gt 22, 3) := by decide +kernel
theorem dX8_digest_12 : decode cX8_digest 12 = .ok (.ldc2_w 223, 3) := by decide +kernel
theorem dX8_digest_15 : decode cX8_digest 15 = .ok (.lload_n 1, 1) := by decide +kernel
theorem dX8_digest_16 : decode cX8_digest 16 = .ok (.lmul, 1) := by decide +kernel
theorem dX8_digest_17 : decode cX8_digest 17 = .ok (.aload_n 0, 1) := by decide +kernel
theorem dX8_digest_18 : decode cX8_digest 18 = .ok (.iload_n 3, 1) := by decide +kernel
theorem dX8_digest_19 : decode cX8_digest 19 = .ok (.invokevirtual 218, 3) := by decide +kernel
theorem dX8_digest_22 : decode cX8_digest 22 = .ok (.i2l, 1) := by decide +kernel
theorem dX8_digest_23 : decode cX8_digest 23 = .ok (.ladd, 1) := by decide +kernel
theorem dX8_digest_24 : decode cX8_digest 24 = .ok (.lstore_n 1, 1) := by decide +kernel
theorem dX8_digest_25 : decode cX8_digest 25 = .ok (.iinc 3 1, 3) := by decide +kernel
theorem dX8_digest_28 : decode cX8_digest 28 = .ok (.goto (-22), 3) := by decide +kernel
theorem dX8_digest_31 : decode cX8_digest 31 = .ok (.iconst 0, 1) := by decide +kernel
theorem dX8_digest_32 : decode cX8_digest 32 = .ok (.istore_n 3, 1) := by decide +kernel
theorem dX8_digest_33 : decode cX8_digest 33 = .ok (.iload_n 3, 1) := by decide +kernel
theorem dX8_digest_34 : decode cX8_digest 34 = .ok (.iconst 4, 1) := by decide +kernel
theorem dX8_digest_35 : decode cX8_digest 35 = .ok (.if_icmp .gt 25, 3) := by decide +kernel
theorem dX8_digest_38 : decode cX8_digest 38 = .ok (.ldc2_w 223, 3) := by decide +kernel
theorem dX8_digest_41 : decode cX8_digest 41 = .ok (.lload_n 1, 1) := by decide +kernel
theorem dX8_digest_42 : decode cX8_digest 42 = .ok (.lmul, 1) := by decide +kernel
theorem dX8_digest_43 : decode cX8_digest 43 = .ok (.aload_n 0, 1) := by decide +kernel
theorem dX8_digest_44 : decode cX8_digest 44 = .ok (.getfield 10, 3) := by decide +kernel
theorem dX8_digest_47 : decode cX8_digest 47 = .ok (.iload_n 3, 1) := by decide +kernel
theorem dX8_digest_48 : decode cX8_digest 48 = .ok (.invokevirtual 140, 3) := by decide +kernel
theorem dX8_digest_51 : decode cX8_digest 51 = .ok (.i2l, 1) := by decide +kernel
theorem dX8_digest_52 : decode cX8_digest 52 = .ok (.ladd, 1) := by decide +kernel
theorem dX8_digest_53 : decode cX8_digest 53 = .ok (.lstore_n 1, 1) := by decide +kernel
theorem dX8_digest_54 : decode cX8_digest 54 = .ok (.iinc 3 1, 3) := by decide +kernel
theorem dX8_digest_57 : decode cX8_digest 57 = .ok (.goto (-24), 3) := by decide +kernel
theorem dX8_digest_60 : decode cX8_digest 60 = .ok (.aload_n 0, 1) := by decide +kernel
theorem dX8_digest_61 : decode cX8_digest 61 = .ok (.getfield 10, 3) := by decide +kernel
theorem dX8_digest_64 : decode cX8_digest 64 = .ok (.getfield 60, 3) := by decide +kernel
theorem dX8_digest_67 : decode cX8_digest 67 = .ok (.lload_n 1, 1) := by decide +kernel
theorem dX8_digest_68 : decode cX8_digest 68 = .ok (.invokevirtual 225, 3) := by decide +kernel
theorem dX8_digest_71 : decode cX8_digest 71 = .ok (.lstore_n 1, 1) := by decide +kernel
theorem dX8_digest_72 : decode cX8_digest 72 = .ok (.aload_n 0, 1) := by decide +kernel
theorem dX8_digest_73 : decode cX8_digest 73 = .ok (.getfield 10, 3) := by decide +kernel
theorem dX8_digest_76 : decode cX8_digest 76 = .ok (.getfield 170, 3) := by decide +kernel
theorem dX8_digest_79 : decode cX8_digest 79 = .ok (.lload_n 1, 1) := by decide +kernel
theorem dX8_digest_80 : decode cX8_digest 80 = .ok (.invokevirtual 229, 3) := by decide +kernel
theorem dX8_digest_83 : decode cX8_digest 83 = .ok (.lstore_n 1, 1) := by decide +kernel
theorem dX8_digest_84 : decode cX8_digest 84 = .ok (.aload_n 0, 1) := by decide +kernel
theorem dX8_digest_85 : decode cX8_digest 85 = .ok (.getfield 10, 3) := by decide +kernel
theorem dX8_digest_88 : decode cX8_digest 88 = .ok (.getfield 185, 3) := by decide +kernel
theorem dX8_digest_91 : decode cX8_digest 91 = .ok (.lload_n 1, 1) := by decide +kernel
theorem dX8_digest_92 : decode cX8_digest 92 = .ok (.invokevirtual 230, 3) := by decide +kernel
theorem dX8_digest_95 : decode cX8_digest 95 = .ok (.lstore_n 1, 1) := by decide +kernel
theorem dX8_digest_96 : decode cX8_digest 96 = .ok (.ldc2_w 223, 3) := by decide +kernel
theorem dX8_digest_99 : decode cX8_digest 99 = .ok (.lload_n 1, 1) := by decide +kernel
theorem dX8_digest_100 : decode cX8_digest 100 = .ok (.lmul, 1) := by decide +kernel
theorem dX8_digest_101 : decode cX8_digest 101 = .ok (.aload_n 0, 1) := by decide +kernel
theorem dX8_digest_102 : decode cX8_digest 102 = .ok (.getfield 45, 3) := by decide +kernel
theorem dX8_digest_105 : decode cX8_digest 105 = .ok (.ladd, 1) := by decide +kernel
theorem dX8_digest_106 : decode cX8_digest 106 = .ok (.lstore_n 1, 1) := by decide +kernel
theorem dX8_digest_107 : decode cX8_digest 107 = .ok (.ldc2_w 223, 3) := by decide +kernel
theorem dX8_digest_110 : decode cX8_digest 110 = .ok (.lload_n 1, 1) := by decide +kernel
theorem dX8_digest_111 : decode cX8_digest 111 = .ok (.lmul, 1) := by decide +kernel
theorem dX8_digest_112 : decode cX8_digest 112 = .ok (.aload_n 0, 1) := by decide +kernel
theorem dX8_digest_113 : decode cX8_digest 113 = .ok (.getfield 49, 3) := by decide +kernel
theorem dX8_digest_116 : decode cX8_digest 116 = .ok (.ladd, 1) := by decide +kernel
theorem dX8_digest_117 : decode cX8_digest 117 = .ok (.lreturn, 1) := by decide +kernel
set_option maxRecDepth 20000 in
theorem ggX8_howMany_X0_noted : GoodIn wsX8_howMany wsX0_noted := goodIn_r _ [16, 17, 18, 42, 43, 44, 45, 46, 47] (by decide +kernel) (by decide +kernel)
set_option maxRecDepth 20000 in
theorem gX8_howMany_X0_noted : GoodIn wsX8_howMany (wsV RX8 231 RX0 yX0_noted wsX0_noted) := goodIn_app (goodIn_of _ (by decide +kernel)) ggX8_howMany_X0_noted
set_option maxRecDepth 20000 in
theorem ggX8_howMany_X0_withMud : GoodIn wsX8_howMany wsX0_withMud := goodIn_r _ [22, 17, 23, 42, 43, 44, 45, 46, 47] (by decide +kernel) (by decide +kernel)
set_option maxRecDepth 20000 in
theorem gX8_howMany_X0_withMud : GoodIn wsX8_howMany (wsV RX8 234 RX0 yX0_withMud wsX0_withMud) := goodIn_app (goodIn_of _ (by decide +kernel)) ggX8_howMany_X0_withMud
theorem dX8_howMany_0 : decode cX8_howMany 0 = .ok (.iload_n 1, 1) := by decide +kernel
theorem dX8_howMany_1 : decode cX8_howMany 1 = .ok (.tableswitch 105 0 5 #[39, 50, 61, 72, 83, 94], 39) := by decide +kernel
theorem dX8_howMany_40 : decode cX8_howMany 40 = .ok (.aload_n 0, 1) := by decide +kernel
theorem dX8_howMany_41 : decode cX8_howMany 41 = .ok (.getfield 10, 3) := by decide +kernel
theorem dX8_howMany_44 : decode cX8_howMany 44 = .ok (.getfield 60, 3) := by decide +kernel
theorem dX8_howMany_47 : decode cX8_howMany 47 = .ok (.getfield 64, 3) := by decide +kernel
theorem dX8_howMany_50 : decode cX8_howMany 50 = .ok (.ireturn, 1) := by decide +kernel
theorem dX8_howMany_51 : decode cX8_howMany 51 = .ok (.aload_n 0, 1) := by decide +kernel
theorem dX8_howMany_52 : decode cX8_howMany 52 = .ok (.getfield 10, 3) := by decide +kernel
theorem dX8_howMany_55 : decode cX8_howMany 55 = .ok (.getfield 60, 3) := by decide +kernel
theorem dX8_howMany_58 : decode cX8_howMany 58 = .ok (.invokevirtual 231, 3) := by decide +kernel
theorem dX8_howMany_61 : decode cX8_howMany 61 = .ok (.ireturn, 1) := by decide +kernel
theorem dX8_howMany_62 : decode cX8_howMany 62 = .ok (.aload_n 0, 1) := by decide +kernel
theorem dX8_howMany_63 : decode cX8_howMany 63 = .ok (.getfield 10, 3) := by decide +kernel
theorem dX8_howMany_66 : decode cX8_howMany 66 = .ok (.getfield 60, 3) := by decide +kernel
theorem dX8_howMany_69 : decode cX8_howMany 69 = .ok (.invokevirtual 234, 3) := by decide +kernel
theorem dX8_howMany_72 : decode cX8_howMany 72 = .ok (.ireturn, 1) := by decide +kernel
theorem dX8_howMany_73 : decode cX8_howMany 73 = .ok (.aload_n 0, 1) := by decide +kernel
theorem dX8_howMany_74 : decode cX8_howMany 74 = .ok (.getfield 10, 3) := by decide +kernel
theorem dX8_howMany_77 : decode cX8_howMany 77 = .ok (.getfield 170, 3) := by decide +kernel
theorem dX8_howMany_80 : decode cX8_howMany 80 = .ok (.getfield 195, 3) := by decide +kernel
theorem dX8_howMany_83 : decode cX8_howMany 83 = .ok (.ireturn, 1) := by decide +kernel
theorem dX8_howMany_84 : decode cX8_howMany 84 = .ok (.aload_n 0, 1) := by decide +kernel
theorem dX8_howMany_85 : decode cX8_howMany 85 = .ok (.getfield 10, 3) := by decide +kernel
theorem dX8_howMany_88 : decode cX8_howMany 88 = .ok (.getfield 185, 3) := by decide +kernel
theorem dX8_howMany_91 : decode cX8_howMany 91 = .ok (.getfield 196, 3) := by decide +kernel
theorem dX8_howMany_94 : decode cX8_howMany 94 = .ok (.ireturn, 1) := by decide +kernel
theorem dX8_howMany_95 : decode cX8_howMany 95 = .ok (.aload_n 0, 1) := by decide +kernel
theorem dX8_howMany_96 : decode cX8_howMany 96 = .ok (.getfield 10, 3) := by decide +kernel
theorem dX8_howMany_99 : decode cX8_howMany 99 = .ok (.getfield 82, 3) := by decide +kernel
theorem dX8_howMany_102 : decode cX8_howMany 102 = .ok (.getfield 86, 3) := by decide +kernel
theorem dX8_howMany_105 : decode cX8_howMany 105 = .ok (.ireturn, 1) := by decide +kernel
theorem dX8_howMany_106 : decode cX8_howMany 106 = .ok (.aload_n 0, 1) := by decide +kernel
theorem dX8_howMany_107 : decode cX8_howMany 107 = .ok (.getfield 37, 3) := by decide +kernel
theorem dX8_howMany_110 : decode cX8_howMany 110 = .ok (.getfield 109, 3) := by decide +kernel
theorem dX8_howMany_113 : decode cX8_howMany 113 = .ok (.ireturn, 1) := by decide +kernel
theorem dX8_refuse_0 : decode cX8_refuse 0 = .ok (.iload_n 1, 1) := by decide +kernel
theorem dX8_refuse_1 : decode cX8_refuse 1 = .ok (.bipush (-2), 2) := by decide +kernel
theorem dX8_refuse_3 : decode cX8_refuse 3 = .ok (.if_icmp .ne 16, 3) := by decide +kernel
theorem dX8_refuse_6 : decode cX8_refuse 6 = .ok (.aload_n 0, 1) := by decide +kernel
theorem dX8_refuse_7 : decode cX8_refuse 7 = .ok (.getfield 41, 3) := by decide +kernel
theorem dX8_refuse_10 : decode cX8_refuse 10 = .ok (.iconst 0, 1) := by decide +kernel
theorem dX8_refuse_11 : decode cX8_refuse 11 = .ok (.dup2, 1) := by decide +kernel
theorem dX8_refuse_12 : decode cX8_refuse 12 = .ok (.iaload, 1) := by decide +kernel
theorem dX8_refuse_13 : decode cX8_refuse 13 = .ok (.iconst 1, 1) := by decide +kernel
theorem dX8_refuse_14 : decode cX8_refuse 14 = .ok (.iadd, 1) := by decide +kernel
theorem dX8_refuse_15 : decode cX8_refuse 15 = .ok (.iastore, 1) := by decide +kernel
theorem dX8_refuse_16 : decode cX8_refuse 16 = .ok (.goto 32, 3) := by decide +kernel
theorem dX8_refuse_19 : decode cX8_refuse 19 = .ok (.iload_n 1, 1) := by decide +kernel
theorem dX8_refuse_20 : decode cX8_refuse 20 = .ok (.bipush (-3), 2) := by decide +kernel
theorem dX8_refuse_22 : decode cX8_refuse 22 = .ok (.if_icmp .ne 16, 3) := by decide +kernel
theorem dX8_refuse_25 : decode cX8_refuse 25 = .ok (.aload_n 0, 1) := by decide +kernel
theorem dX8_refuse_26 : decode cX8_refuse 26 = .ok (.getfield 41, 3) := by decide +kernel
theorem dX8_refuse_29 : decode cX8_refuse 29 = .ok (.iconst 1, 1) := by decide +kernel
theorem dX8_refuse_30 : decode cX8_refuse 30 = .ok (.dup2, 1) := by decide +kernel
theorem dX8_refuse_31 : decode cX8_refuse 31 = .ok (.iaload, 1) := by decide +kernel
theorem dX8_refuse_32 : decode cX8_refuse 32 = .ok (.iconst 1, 1) := by decide +kernel
theorem dX8_refuse_33 : decode cX8_refuse 33 = .ok (.iadd, 1) := by decide +kernel
theorem dX8_refuse_34 : decode cX8_refuse 34 = .ok (.iastore, 1) := by decide +kernel
theorem dX8_refuse_35 : decode cX8_refuse 35 = .ok (.goto 13, 3) := by decide +kernel
theorem dX8_refuse_38 : decode cX8_refuse 38 = .ok (.aload_n 0, 1) := by decide +kernel
theorem dX8_refuse_39 : decode cX8_refuse 39 = .ok (.getfield 41, 3) := by decide +kernel
theorem dX8_refuse_42 : decode cX8_refuse 42 = .ok (.iconst 2, 1) := by decide +kernel
theorem dX8_refuse_43 : decode cX8_refuse 43 = .ok (.dup2, 1) := by decide +kernel
theorem dX8_refuse_44 : decode cX8_refuse 44 = .ok (.iaload, 1) := by decide +kernel
theorem dX8_refuse_45 : decode cX8_refuse 45 = .ok (.iconst 1, 1) := by decide +kernel
theorem dX8_refuse_46 : decode cX8_refuse 46 = .ok (.iadd, 1) := by decide +kernel
theorem dX8_refuse_47 : decode cX8_refuse 47 = .ok (.iastore, 1) := by decide +kernel
theorem dX8_refuse_48 : decode cX8_refuse 48 = .ok (.iload_n 1, 1) := by decide +kernel
theorem dX8_refuse_49 : decode cX8_refuse 49 = .ok (.ireturn, 1) := by decide +kernel
theorem dX8_setFraction_0 : decode cX8_setFraction 0 = .ok (.bipush 10, 2) := by decide +kernel
theorem dX8_setFraction_2 : decode cX8_setFraction 2 = .ok (.istore_n 2, 1) := by decide +kernel
theorem dX8_setFraction_3 : decode cX8_setFraction 3 = .ok (.iload_n 2, 1) := by decide +kernel
theorem dX8_setFraction_4 : decode cX8_setFraction 4 = .ok (.iconst 1, 1) := by decide +kernel
theorem dX8_setFraction_5 : decode cX8_setFraction 5 = .ok (.if_icmp .lt 40, 3) := by decide +kernel
theorem dX8_setFraction_8 : decode cX8_setFraction 8 = .ok (.bipush 10, 2) := by decide +kernel
theorem dX8_setFraction_10 : decode cX8_setFraction 10 = .ok (.iload_n 2, 1) := by decide +kernel
theorem dX8_setFraction_11 : decode cX8_setFraction 11 = .ok (.irem, 1) := by decide +kernel
theorem dX8_setFraction_12 : decode cX8_setFraction 12 = .ok (.ifCond .ne 27, 3) := by decide +kernel
theorem dX8_setFraction_15 : decode cX8_setFraction 15 = .ok (.iload_n 1, 1) := by decide +kernel
theorem dX8_setFraction_16 : decode cX8_setFraction 16 = .ok (.iload_n 2, 1) := by decide +kernel
theorem dX8_setFraction_17 : decode cX8_setFraction 17 = .ok (.irem, 1) := by decide +kernel
theorem dX8_setFraction_18 : decode cX8_setFraction 18 = .ok (.ifCond .ne 21, 3) := by decide +kernel
theorem dX8_setFraction_21 : decode cX8_setFraction 21 = .ok (.aload_n 0, 1) := by decide +kernel
theorem dX8_setFraction_22 : decode cX8_setFraction 22 = .ok (.iload_n 1, 1) := by decide +kernel
theorem dX8_setFraction_23 : decode cX8_setFraction 23 = .ok (.iload_n 2, 1) := by decide +kernel
theorem dX8_setFraction_24 : decode cX8_setFraction 24 = .ok (.idiv, 1) := by decide +kernel
theorem dX8_setFraction_25 : decode cX8_setFraction 25 = .ok (.i2l, 1) := by decide +kernel
theorem dX8_setFraction_26 : decode cX8_setFraction 26 = .ok (.putfield 45, 3) := by decide +kernel
theorem dX8_setFraction_29 : decode cX8_setFraction 29 = .ok (.aload_n 0, 1) := by decide +kernel
theorem dX8_setFraction_30 : decode cX8_setFraction 30 = .ok (.bipush 10, 2) := by decide +kernel
theorem dX8_setFraction_32 : decode cX8_setFraction 32 = .ok (.iload_n 2, 1) := by decide +kernel
theorem dX8_setFraction_33 : decode cX8_setFraction 33 = .ok (.idiv, 1) := by decide +kernel
theorem dX8_setFraction_34 : decode cX8_setFraction 34 = .ok (.i2l, 1) := by decide +kernel
theorem dX8_setFraction_35 : decode cX8_setFraction 35 = .ok (.putfield 49, 3) := by decide +kernel
theorem dX8_setFraction_38 : decode cX8_setFraction 38 = .ok (.return_, 1) := by decide +kernel
theorem dX8_setFraction_39 : decode cX8_setFraction 39 = .ok (.iinc 2 (-1), 3) := by decide +kernel
theorem dX8_setFraction_42 : decode cX8_setFraction 42 = .ok (.goto (-39), 3) := by decide +kernel
theorem dX8_setFraction_45 : decode cX8_setFraction 45 = .ok (.return_, 1) := by decide +kernel
theorem dX8_within_0 : decode cX8_within 0 = .ok (.iload_n 0, 1) := by decide +kernel
theorem dX8_within_1 : decode cX8_within 1 = .ok (.iload_n 1, 1) := by decide +kernel
theorem dX8_within_2 : decode cX8_within 2 = .ok (.if_icmp .lt 12, 3) := by decide +kernel
theorem dX8_within_5 : decode cX8_within 5 = .ok (.iload_n 0, 1) := by decide +kernel
theorem dX8_within_6 : decode cX8_within 6 = .ok (.iload_n 2, 1) := by decide +kernel
theorem dX8_within_7 : decode cX8_within 7 = .ok (.if_icmp .gt 7, 3) := by decide +kernel
theorem dX8_within_10 : decode cX8_within 10 = .ok (.iconst 1, 1) := by decide +kernel
theorem dX8_within_11 : decode cX8_within 11 = .ok (.goto 4, 3) := by decide +kernel
theorem dX8_within_14 : decode cX8_within 14 = .ok (.iconst 0, 1) := by decide +kernel
theorem dX8_within_15 : decode cX8_within 15 = .ok (.ireturn, 1) := by decide +kernel
set_option maxRecDepth 20000 in
theorem ggX8_isDriver_X8_within : GoodIn wsX8_isDriver wsX8_within := goodIn_r _ [4] (by decide +kernel) (by decide +kernel)
set_option maxRecDepth 20000 in
theorem gX8_isDriver_X8_within : GoodIn wsX8_isDriver (va_wsS RX8 74 yX8_within wsX8_within) := goodIn_app (goodIn_of _ (by decide +kernel)) ggX8_isDriver_X8_within
theorem dX8_isDriver_0 : decode cX8_isDriver 0 = .ok (.iload_n 0, 1) := by decide +kernel
theorem dX8_isDriver_1 : decode cX8_isDriver 1 = .ok (.iconst 0, 1) := by decide +kernel
theorem dX8_isDriver_2 : decode cX8_isDriver 2 = .ok (.iconst 5, 1) := by decide +kernel
theorem dX8_isDriver_3 : decode cX8_isDriver 3 = .ok (.invokestatic 74, 3) := by decide +kernel
theorem dX8_isDriver_6 : decode cX8_isDriver 6 = .ok (.ifCond .eq 17, 3) := by decide +kernel
theorem dX8_isDriver_9 : decode cX8_isDriver 9 = .ok (.iload_n 1, 1) := by decide +kernel
theorem dX8_isDriver_10 : decode cX8_isDriver 10 = .ok (.iconst 0, 1) := by decide +kernel
theorem dX8_isDriver_11 : decode cX8_isDriver 11 = .ok (.bipush 9, 2) := by decide +kernel
theorem dX8_isDriver_13 : decode cX8_isDriver 13 = .ok (.invokestatic 74, 3) := by decide +kernel
theorem dX8_isDriver_16 : decode cX8_isDriver 16 = .ok (.ifCond .eq 7, 3) := by decide +kernel
theorem dX8_isDriver_19 : decode cX8_isDriver 19 = .ok (.iconst 1, 1) := by decide +kernel
theorem dX8_isDriver_20 : decode cX8_isDriver 20 = .ok (.goto 4, 3) := by decide +kernel
theorem dX8_isDriver_23 : decode cX8_isDriver 23 = .ok (.iconst 0, 1) := by decide +kernel
theorem dX8_isDriver_24 : decode cX8_isDriver 24 = .ok (.ireturn, 1) := by decide +kernel
theorem dX8_hasBit_0 : decode cX8_hasBit 0 = .ok (.iload_n 0, 1) := by decide +kernel
theorem dX8_hasBit_1 : decode cX8_hasBit 1 = .ok (.iload_n 1, 1) := by decide +kernel
theorem dX8_hasBit_2 : decode cX8_hasBit 2 = .ok (.ishr, 1) := by decide +kernel
theorem dX8_hasBit_3 : decode cX8_hasBit 3 = .ok (.iconst 1, 1) := by decide +kernel
theorem dX8_hasBit_4 : decode cX8_hasBit 4 = .ok (.iand, 1) := by decide +kernel
theorem dX8_hasBit_5 : decode cX8_hasBit 5 = .ok (.iconst 1, 1) := by decide +kernel
theorem dX8_hasBit_6 : decode cX8_hasBit 6 = .ok (.if_icmp .ne 7, 3) := by decide +kernel
theorem dX8_hasBit_9 : decode cX8_hasBit 9 = .ok (.iconst 1, 1) := by decide +kernel
theorem dX8_hasBit_10 : decode cX8_hasBit 10 = .ok (.goto 4, 3) := by decide +kernel
theorem dX8_hasBit_13 : decode cX8_hasBit 13 = .ok (.iconst 0, 1) := by decide +kernel
theorem dX8_hasBit_14 : decode cX8_hasBit 14 = .ok (.ireturn, 1) := by decide +kernel
set_option maxRecDepth 20000 in
theorem ggX9_init_X9_begin : GoodIn wsX9_init wsX9_begin := goodIn_r _ [21] (by decide +kernel) (by decide +kernel)
set_option maxRecDepth 20000 in
theorem gX9_init_X9_begin : GoodIn wsX9_init (va_wsS RX9 48 yX9_begin wsX9_begin) := goodIn_app (goodIn_of _ (by decide +kernel)) ggX9_init_X9_begin
theorem dX9_init_0 : decode cX9_init 0 = .ok (.aload_n 0, 1) := by decide +kernel
theorem dX9_init_1 : decode cX9_init 1 = .ok (.invokespecial 1, 3) := by decide +kernel
theorem dX9_init_4 : decode cX9_init 4 = .ok (.aload_n 0, 1) := by decide +kernel
theorem dX9_init_5 : decode cX9_init 5 = .ok (.sipush 163, 3) := by decide +kernel
theorem dX9_init_8 : decode cX9_init 8 = .ok (.newarray .int, 2) := by decide +kernel
theorem dX9_init_10 : decode cX9_init 10 = .ok (.putfield 7, 3) := by decide +kernel
theorem dX9_init_13 : decode cX9_init 13 = .ok (.aload_n 0, 1) := by decide +kernel
theorem dX9_init_14 : decode cX9_init 14 = .ok (.sipush 326, 3) := by decide +kernel
theorem dX9_init_17 : decode cX9_init 17 = .ok (.newarray .int, 2) := by decide +kernel
theorem dX9_init_19 : decode cX9_init 19 = .ok (.putfield 13, 3) := by decide +kernel
theorem dX9_init_22 : decode cX9_init 22 = .ok (.aload_n 0, 1) := by decide +kernel
theorem dX9_init_23 : decode cX9_init 23 = .ok (.iconst 2, 1) := by decide +kernel
theorem dX9_init_24 : decode cX9_init 24 = .ok (.newarray .boolean, 2) := by decide +kernel
theorem dX9_init_26 : decode cX9_init 26 = .ok (.putfield 16, 3) := by decide +kernel
theorem dX9_init_29 : decode cX9_init 29 = .ok (.aload_n 0, 1) := by decide +kernel
theorem dX9_init_30 : decode cX9_init 30 = .ok (.iconst 3, 1) := by decide +kernel
theorem dX9_init_31 : decode cX9_init 31 = .ok (.newarray .int, 2) := by decide +kernel
theorem dX9_init_33 : decode cX9_init 33 = .ok (.putfield 20, 3) := by decide +kernel
theorem dX9_init_36 : decode cX9_init 36 = .ok (.aload_n 0, 1) := by decide +kernel
theorem dX9_init_37 : decode cX9_init 37 = .ok (.lconst 1, 1) := by decide +kernel
theorem dX9_init_38 : decode cX9_init 38 = .ok (.putfield 23, 3) := by decide +kernel
theorem dX9_init_41 : decode cX9_init 41 = .ok (.aload_n 0, 1) := by decide +kernel
theorem dX9_init_42 : decode cX9_init 42 = .ok (.bipush 8, 2) := by decide +kernel
theorem dX9_init_44 : decode cX9_init 44 = .ok (.newarray .int, 2) := by decide +kernel
theorem dX9_init_46 : decode cX9_init 46 = .ok (.putfield 27, 3) := by decide +kernel
theorem dX9_init_49 : decode cX9_init 49 = .ok (.aload_n 0, 1) := by decide +kernel
theorem dX9_init_50 : decode cX9_init 50 = .ok (.iconst 4, 1) := by decide +kernel
theorem dX9_init_51 : decode cX9_init 51 = .ok (.newarray .int, 2) := by decide +kernel
theorem dX9_init_53 : decode cX9_init 53 = .ok (.putfield 30, 3) := by decide +kernel
theorem dX9_init_56 : decode cX9_init 56 = .ok (.aload_n 0, 1) := by decide +kernel
theorem dX9_init_57 : decode cX9_init 57 = .ok (.iconst 4, 1) := by decide +kernel
theorem dX9_init_58 : decode cX9_init 58 = .ok (.newarray .int, 2) := by decide +kernel
theorem dX9_init_60 : decode cX9_init 60 = .ok (.putfield 33, 3) := by decide +kernel
theorem dX9_init_63 : decode cX9_init 63 = .ok (.aload_n 0, 1) := by decide +kernel
theorem dX9_init_64 : decode cX9_init 64 = .ok (.bipush 42, 2) := by decide +kernel
theorem dX9_init_66 : decode cX9_init 66 = .ok (.newarray .int, 2) := by decide +kernel
theorem dX9_init_68 : decode cX9_init 68 = .ok (.putfield 36, 3) := by decide +kernel
theorem dX9_init_71 : decode cX9_init 71 = .ok (.aload_n 0, 1) := by decide +kernel
theorem dX9_init_72 : decode cX9_init 72 = .ok (.sipush 150, 3) := by decide +kernel
theorem dX9_init_75 : decode cX9_init 75 = .ok (.newarray .int, 2) := by decide +kernel
theorem dX9_init_77 : decode cX9_init 77 = .ok (.putfield 39, 3) := by decide +kernel
theorem dX9_init_80 : decode cX9_init 80 = .ok (.aload_n 0, 1) := by decide +kernel
theorem dX9_init_81 : decode cX9_init 81 = .ok (.bipush 75, 2) := by decide +kernel
theorem dX9_init_83 : decode cX9_init 83 = .ok (.newarray .int, 2) := by decide +kernel
theorem dX9_init_85 : decode cX9_init 85 = .ok (.putfield 42, 3) := by decide +kernel
theorem dX9_init_88 : decode cX9_init 88 = .ok (.aload_n 0, 1) := by decide +kernel
theorem dX9_init_89 : decode cX9_init 89 = .ok (.iconst 4, 1) := by decide +kernel
theorem dX9_init_90 : decode cX9_init 90 = .ok (.newarray .int, 2) := by decide +kernel
theorem dX9_init_92 : decode cX9_init 92 = .ok (.putfield 45, 3) := by decide +kernel
theorem dX9_init_95 : decode cX9_init 95 = .ok (.aload_n 0, 1) := by decide +kernel
theorem dX9_init_96 : decode cX9_init 96 = .ok (.getfield 7, 3) := by decide +kernel
theorem dX9_init_99 : decode cX9_init 99 = .ok (.iconst 0, 1) := by decide +kernel
theorem dX9_init_100 : decode cX9_init 100 = .ok (.iconst 0, 1) := by decide +kernel
theorem dX9_init_101 : decode cX9_init 101 = .ok (.invokestatic 48, 3) := by decide +kernel
theorem dX9_init_104 : decode cX9_init 104 = .ok (.return_, 1) := by decide +kernel
theorem dX9_in_0 : decode cX9_in 0 = .ok (.lload_n 0, 1) := by decide +kernel
theorem dX9_in_1 : decode cX9_in 1 = .ok (.lload_n 2, 1) := by decide +kernel
theorem dX9_in_2 : decode cX9_in 2 = .ok (.lcmp, 1) := by decide +kernel
theorem dX9_in_3 : decode cX9_in 3 = .ok (.ifCond .lt 14, 3) := by decide +kernel
theorem dX9_in_6 : decode cX9_in 6 = .ok (.lload_n 0, 1) := by decide +kernel
theorem dX9_in_7 : decode cX9_in 7 = .ok (.lload 4, 2) := by decide +kernel
theorem dX9_in_9 : decode cX9_in 9 = .ok (.lcmp, 1) := by decide +kernel
theorem dX9_in_10 : decode cX9_in 10 = .ok (.ifCond .gt 7, 3) := by decide +kernel
theorem dX9_in_13 : decode cX9_in 13 = .ok (.iconst 1, 1) := by decide +kernel
theorem dX9_in_14 : decode cX9_in 14 = .ok (.goto 4, 3) := by decide +kernel
theorem dX9_in_17 : decode cX9_in 17 = .ok (.iconst 0, 1) := by decide +kernel
theorem dX9_in_18 : decode cX9_in 18 = .ok (.ireturn, 1) := by decide +kernel
theorem dX9_bad_0 : decode cX9_bad 0 = .ok (.aload_n 0, 1) := by decide +kernel
theorem dX9_bad_1 : decode cX9_bad 1 = .ok (.getfield 20, 3) := by decide +kernel
theorem dX9_bad_4 : decode cX9_bad 4 = .ok (.iconst 0, 1) := by decide +kernel
theorem dX9_bad_5 : decode cX9_bad 5 = .ok (.dup2, 1) := by decide +kernel
theorem dX9_bad_6 : decode cX9_bad 6 = .ok (.iaload, 1) := by decide +kernel
theorem dX9_bad_7 : decode cX9_bad 7 = .ok (.iconst 1, 1) := by decide +kernel
theorem dX9_bad_8 : decode cX9_bad 8 = .ok (.iadd, 1) := by decide +kernel
theorem dX9_bad_9 : decode cX9_bad 9 = .ok (.iastore, 1) := by decide +kernel
theorem dX9_bad_10 : decode cX9_bad 10 = .ok (.iload_n 1, 1) := by decide +kernel
theorem dX9_bad_11 : decode cX9_bad 11 = .ok (.ireturn, 1) := by decide +kernel
theorem dX9_no_0 : decode cX9_no 0 = .ok (.aload_n 0, 1) := by decide +kernel
theorem dX9_no_1 : decode cX9_no 1 = .ok (.getfield 20, 3) := by decide +kernel
theorem dX9_no_4 : decode cX9_no 4 = .ok (.iconst 1, 1) := by decide +kernel
theorem dX9_no_5 : decode cX9_no 5 = .ok (.dup2, 1) := by decide +kernel
theorem dX9_no_6 : decode cX9_no 6 = .ok (.iaload, 1) := by decide +kernel
theorem dX9_no_7 : decode cX9_no 7 = .ok (.iconst 1, 1) := by decide +kernel
theorem dX9_no_8 : decode cX9_no 8 = .ok (.iadd, 1) := by decide +kernel
theorem dX9_no_9 : decode cX9_no 9 = .ok (.iastore, 1) := by decide +kernel
theorem dX9_no_10 : decode cX9_no 10 = .ok (.bipush (-3), 2) := by decide +kernel
theorem dX9_no_12 : decode cX9_no 12 = .ok (.ireturn, 1) := by decide +kernel
theorem dX9_full_0 : decode cX9_full 0 = .ok (.aload_n 0, 1) := by decide +kernel
theorem dX9_full_1 : decode cX9_full 1 = .ok (.getfield 20, 3) := by decide +kernel
theorem dX9_full_4 : decode cX9_full 4 = .ok (.iconst 2, 1) := by decide +kernel
theorem dX9_full_5 : decode cX9_full 5 = .ok (.dup2, 1) := by decide +kernel
theorem dX9_full_6 : decode cX9_full 6 = .ok (.iaload, 1) := by decide +kernel
theorem dX9_full_7 : decode cX9_full 7 = .ok (.iconst 1, 1) := by decide +kernel
theorem dX9_full_8 : decode cX9_full 8 = .ok (.iadd, 1) := by decide +kernel
theorem dX9_full_9 : decode cX9_full 9 = .ok (.iastore, 1) := by decide +kernel
theorem dX9_full_10 : decode cX9_full 10 = .ok (.bipush (-4), 2) := by decide +kernel
theorem dX9_full_12 : decode cX9_full 12 = .ok (.ireturn, 1) := by decide +kernel
theorem dX9_bits_0 : decode cX9_bits 0 = .ok (.iconst 0, 1) := by decide +kernel
theorem dX9_bits_1 : decode cX9_bits 1 = .ok (.istore_n 1, 1) := by decide +kernel
theorem dX9_bits_2 : decode cX9_bits 2 = .ok (.iload_n 0, 1) := by decide +kernel
theorem dX9_bits_3 : decode cX9_bits 3 = .ok (.istore_n 2, 1) := by decide +kernel
theorem dX9_bits_4 : decode cX9_bits 4 = .ok (.iload_n 2, 1) := by decide +kernel
theorem dX9_bits_5 : decode cX9_bits 5 = .ok (.ifCond .le 16, 3) := by decide +kernel
theorem dX9_bits_8 : decode cX9_bits 8 = .ok (.iload_n 1, 1) := by decide +kernel
theorem dX9_bits_9 : decode cX9_bits 9 = .ok (.iload_n 2, 1) := by decide +kernel
theorem dX9_bits_10 : decode cX9_bits 10 = .ok (.iconst 1, 1) := by decide +kernel
theorem dX9_bits_11 : decode cX9_bits 11 = .ok (.iand, 1) := by decide +kernel
theorem dX9_bits_12 : decode cX9_bits 12 = .ok (.iadd, 1) := by decide +kernel
theorem dX9_bits_13 : decode cX9_bits 13 = .ok (.istore_n 1, 1) := by decide +kernel
theorem dX9_bits_14 : decode cX9_bits 14 = .ok (.iload_n 2, 1) := by decide +kernel
theorem dX9_bits_15 : decode cX9_bits 15 = .ok (.iconst 1, 1) := by decide +kernel
theorem dX9_bits_16 : decode cX9_bits 16 = .ok (.ishr, 1) := by decide +kernel
theorem dX9_bits_17 : decode cX9_bits 17 = .ok (.istore_n 2, 1) := by decide +kernel
theorem dX9_bits_18 : decode cX9_bits 18 = .ok (.goto (-14), 3) := by decide +kernel
theorem dX9_bits_21 : decode cX9_bits 21 = .ok (.iload_n 1, 1) := by decide +kernel
theorem dX9_bits_22 : decode cX9_bits 22 = .ok (.ireturn, 1) := by decide +kernel
theorem dX9_has_0 : decode cX9_has 0 = .ok (.iload_n 0, 1) := by decide +kernel
theorem dX9_has_1 : decode cX9_has 1 = .ok (.iload_n 1, 1) := by decide +kernel
theorem dX9_has_2 : decode cX9_has 2 = .ok (.ishr, 1) := by decide +kernel
theorem dX9_has_3 : decode cX9_has 3 = .ok (.iconst 1, 1) := by decide +kernel
theorem dX9_has_4 : decode cX9_has 4 = .ok (.iand, 1) := by decide +kernel
theorem dX9_has_5 : decode cX9_has 5 = .ok (.iconst 1, 1) := by decide +kernel
theorem dX9_has_6 : decode cX9_has 6 = .ok (.if_icmp .ne 7, 3) := by decide +kernel
theorem dX9_has_9 : decode cX9_has 9 = .ok (.iconst 1, 1) := by decide +kernel
theorem dX9_has_10 : decode cX9_has 10 = .ok (.goto 4, 3) := by decide +kernel
theorem dX9_has_13 : decode cX9_has 13 = .ok (.iconst 0, 1) := by decide +kernel
theorem dX9_has_14 : decode cX9_has 14 = .ok (.ireturn, 1) := by decide +kernel
theorem dX9_begin_0 : decode cX9_begin 0 = .ok (.iconst 0, 1) := by decide +kernel
theorem dX9_begin_1 : decode cX9_begin 1 = .ok (.istore_n 3, 1) := by decide +kernel
theorem dX9_begin_2 : decode cX9_begin 2 = .ok (.iload_n 3, 1) := by decide +kernel
theorem dX9_begin_3 : decode cX9_begin 3 = .ok (.bipush 75, 2) := by decide +kernel
theorem dX9_begin_5 : decode cX9_begin 5 = .ok (.if_icmp .ge 13, 3) := by decide +kernel
theorem dX9_begin_8 : decode cX9_begin 8 = .ok (.aload_n 0, 1) := by decide +kernel
theorem dX9_begin_9 : decode cX9_begin 9 = .ok (.iload_n 3, 1) := by decide +kernel
theorem dX9_begin_10 : decode cX9_begin 10 = .ok (.iconst 0, 1) := by decide +kernel
theorem dX9_begin_11 : decode cX9_begin 11 = .ok (.iastore, 1) := by decide +kernel
theorem dX9_begin_12 : decode cX9_begin 12 = .ok (.iinc 3 1, 3) := by decide +kernel
theorem dX9_begin_15 : decode cX9_begin 15 = .ok (.goto (-13), 3) := by decide +kernel
theorem dX9_begin_18 : decode cX9_begin 18 = .ok (.aload_n 0, 1) := by decide +kernel
theorem dX9_begin_19 : decode cX9_begin 19 = .ok (.bipush 15, 2) := by decide +kernel
theorem dX9_begin_21 : decode cX9_begin 21 = .ok (.iload_n 1, 1) := by decide +kernel
theorem dX9_begin_22 : decode cX9_begin 22 = .ok (.iastore, 1) := by decide +kernel
theorem dX9_begin_23 : decode cX9_begin 23 = .ok (.aload_n 0, 1) := by decide +kernel
theorem dX9_begin_24 : decode cX9_begin 24 = .ok (.bipush 16, 2) := by decide +kernel
theorem dX9_begin_26 : decode cX9_begin 26 = .ok (.iload_n 2, 1) := by decide +kernel
theorem dX9_begin_27 : decode cX9_begin 27 = .ok (.iastore, 1) := by decide +kernel
theorem dX9_begin_28 : decode cX9_begin 28 = .ok (.return_, 1) := by decide +kernel
theorem dX9_many_0 : decode cX9_many 0 = .ok (.aload_n 0, 1) := by decide +kernel
theorem dX9_many_1 : decode cX9_many 1 = .ok (.getfield 7, 3) := by decide +kernel
theorem dX9_many_4 : decode cX9_many 4 = .ok (.iconst 0, 1) := by decide +kernel
theorem dX9_many_5 : decode cX9_many 5 = .ok (.iaload, 1) := by decide +kernel
theorem dX9_many_6 : decode cX9_many 6 = .ok (.ireturn, 1) := by decide +kernel
set_option maxRecDepth 20000 in
theorem ggX9_isBend_X9_many : GoodIn wsX9_isBend wsX9_many := goodIn_r _ [5, 6, 10, 11, 12, 13, 14, 15, 16, 17, 18, 19, 20, 21, 22, 23, 24, 25, 26, 27] (by decide +kernel) (by decide +kernel)
set_option maxRecDepth 20000 in
theorem gX9_isBend_X9_many : GoodIn wsX9_isBend (wsV RX9 52 RX9 yX9_many wsX9_many) := goodIn_app (goodIn_of _ (by decide +kernel)) ggX9_isBend_X9_many
set_option maxRecDepth 20000 in
theorem ggX9_isBend_X9_in : GoodIn wsX9_isBend wsX9_in := goodIn_r _ [9] (by decide +kernel) (by decide +kernel)
set_option maxRecDepth 20000 in
theorem gX9_isBend_X9_in : GoodIn wsX9_isBend (va_wsS RX9 56 yX9_in wsX9_in) := goodIn_app (goodIn_of _ (by decide +kernel)) ggX9_isBend_X9_in
theorem dX9_isBend_0 : decode cX9_isBend 0 = .ok (.iload_n 1, 1) := by decide +kernel
theorem dX9_isBend_1 : decode cX9_isBend 1 = .ok (.i2l, 1) := by decide +kernel
theorem dX9_isBend_2 : decode cX9_isBend 2 = .ok (.lconst 0, 1) := by decide +kernel
theorem dX9_isBend_3 : decode cX9_isBend 3 = .ok (.aload_n 0, 1) := by decide +kernel
theorem dX9_isBend_4 : decode cX9_isBend 4 = .ok (.invokevirtual 52, 3) := by decide +kernel
theorem dX9_isBend_7 : decode cX9_isBend 7 = .ok (.iconst 1, 1) := by decide +kernel
theorem dX9_isBend_8 : decode cX9_isBend 8 = .ok (.isub, 1) := by decide +kernel
theorem dX9_isBend_9 : decode cX9_isBend 9 = .ok (.i2l, 1) := by decide +kernel
theorem dX9_isBend_10 : decode cX9_isBend 10 = .ok (.invokestatic 56, 3) := by decide +kernel
theorem dX9_isBend_13 : decode cX9_isBend 13 = .ok (.ireturn, 1) := by decide +kernel
set_option maxRecDepth 20000 in
theorem ggX9_isKind_X9_in : GoodIn wsX9_isKind wsX9_in := goodIn_r _ [5] (by decide +kernel) (by decide +kernel)
set_option maxRecDepth 20000 in
theorem gX9_isKind_X9_in : GoodIn wsX9_isKind (va_wsS RX9 56 yX9_in wsX9_in) := goodIn_app (goodIn_of _ (by decide +kernel)) ggX9_isKind_X9_in
theorem dX9_isKind_0 : decode cX9_isKind 0 = .ok (.iload_n 0, 1) := by decide +kernel
theorem dX9_isKind_1 : decode cX9_isKind 1 = .ok (.i2l, 1) := by decide +kernel
theorem dX9_isKind_2 : decode cX9_isKind 2 = .ok (.lconst 0, 1) := by decide +kernel
theorem dX9_isKind_3 : decode cX9_isKind 3 = .ok (.ldc2_w 60, 3) := by decide +kernel
theorem dX9_isKind_6 : decode cX9_isKind 6 = .ok (.invokestatic 56, 3) := by decide +kernel
theorem dX9_isKind_9 : decode cX9_isKind 9 = .ok (.ireturn, 1) := by decide +kernel
set_option maxRecDepth 20000 in
theorem ggX9_isNote_X9_in : GoodIn wsX9_isNote wsX9_in := goodIn_r _ [5] (by decide +kernel) (by decide +kernel)
set_option maxRecDepth 20000 in
theorem gX9_isNote_X9_in : GoodIn wsX9_isNote (va_wsS RX9 56 yX9_in wsX9_in) := goodIn_app (goodIn_of _ (by decide +kernel)) ggX9_isNote_X9_in
theorem dX9_isNote_0 : decode cX9_isNote 0 = .ok (.iload_n 0, 1) := by decide +kernel
theorem dX9_isNote_1 : decode cX9_isNote 1 = .ok (.i2l, 1) := by decide +kernel
theorem dX9_isNote_2 : decode cX9_isNote 2 = .ok (.lconst 0, 1) := by decide +kernel
theorem dX9_isNote_3 : decode cX9_isNote 3 = .ok (.ldc2_w 62, 3) := by decide +kernel
theorem dX9_isNote_6 : decode cX9_isNote 6 = .ok (.invokestatic 56, 3) := by decide +kernel
theorem dX9_isNote_9 : decode cX9_isNote 9 = .ok (.ireturn, 1) := by decide +kernel
set_option maxRecDepth 20000 in
theorem ggX9_isFog_X9_in : GoodIn wsX9_isFog wsX9_in := goodIn_r _ [5] (by decide +kernel) (by decide +kernel)
set_option maxRecDepth 20000 in
theorem gX9_isFog_X9_in : GoodIn wsX9_isFog (va_wsS RX9 56 yX9_in wsX9_in) := goodIn_app (goodIn_of _ (by decide +kernel)) ggX9_isFog_X9_in
theorem dX9_isFog_0 : decode cX9_isFog 0 = .ok (.iload_n 0, 1) := by decide +kernel
theorem dX9_isFog_1 : decode cX9_isFog 1 = .ok (.i2l, 1) := by decide +kernel
theorem dX9_isFog_2 : decode cX9_isFog 2 = .ok (.lconst 0, 1) := by decide +kernel
theorem dX9_isFog_3 : decode cX9_isFog 3 = .ok (.ldc2_w 64, 3) := by decide +kernel
theorem dX9_isFog_6 : decode cX9_isFog 6 = .ok (.invokestatic 56, 3) := by decide +kernel
theorem dX9_isFog_9 : decode cX9_isFog 9 = .ok (.ireturn, 1) := by decide +kernel
set_option maxRecDepth 20000 in
theorem ggX9_road_X9_isKind : GoodIn wsX9_road wsX9_isKind := goodIn_r _ [5, 6, 7, 8, 4, 9] (by decide +kernel) (by decide +kernel)
set_option maxRecDepth 20000 in
theorem gX9_road_X9_isKind : GoodIn wsX9_road (va_wsS RX9 66 yX9_isKind wsX9_isKind) := goodIn_app (goodIn_of _ (by decide +kernel)) ggX9_road_X9_isKind
set_option maxRecDepth 20000 in
theorem ggX9_road_X9_isFog : GoodIn wsX9_road wsX9_isFog := goodIn_r _ [12, 13, 7, 8, 4, 9] (by decide +kernel) (by decide +kernel)
set_option maxRecDepth 20000 in
theorem gX9_road_X9_isFog : GoodIn wsX9_road (va_wsS RX9 70 yX9_isFog wsX9_isFog) := goodIn_app (goodIn_of _ (by decide +kernel)) ggX9_road_X9_isFog
set_option maxRecDepth 20000 in
theorem ggX9_road_X9_bad : GoodIn wsX9_road wsX9_bad := goodIn_r _ [17, 18, 26, 27, 28, 29, 30, 31, 32, 33, 34, 35, 36, 37, 38, 39, 40, 41, 42, 43] (by decide +kernel) (by decide +kernel)
set_option maxRecDepth 20000 in
theorem gX9_road_X9_bad : GoodIn wsX9_road (wsV RX9 73 RX9 yX9_bad wsX9_bad) := goodIn_app (goodIn_of _ (by decide +kernel)) ggX9_road_X9_bad
set_option maxRecDepth 20000 in
theorem ggX9_road_X9_many : GoodIn wsX9_road wsX9_many := goodIn_r _ [22, 1, 26, 27, 28, 29, 30, 31, 32, 33, 34, 35, 36, 37, 38, 39, 40, 41, 42, 43] (by decide +kernel) (by decide +kernel)
set_option maxRecDepth 20000 in
theorem gX9_road_X9_many : GoodIn wsX9_road (wsV RX9 52 RX9 yX9_many wsX9_many) := goodIn_app (goodIn_of _ (by decide +kernel)) ggX9_road_X9_many
set_option maxRecDepth 20000 in
theorem ggX9_road_X9_begin : GoodIn wsX9_road wsX9_begin := goodIn_r _ [25] (by decide +kernel) (by decide +kernel)
set_option maxRecDepth 20000 in
theorem gX9_road_X9_begin : GoodIn wsX9_road (va_wsS RX9 48 yX9_begin wsX9_begin) := goodIn_app (goodIn_of _ (by decide +kernel)) ggX9_road_X9_begin
theorem dX9_road_0 : decode cX9_road 0 = .ok (.iload_n 1, 1) := by decide +kernel
theorem dX9_road_1 : decode cX9_road 1 = .ok (.invokestatic 66, 3) := by decide +kernel
theorem dX9_road_4 : decode cX9_road 4 = .ok (.ifCond .eq 10, 3) := by decide +kernel
theorem dX9_road_7 : decode cX9_road 7 = .ok (.iload_n 2, 1) := by decide +kernel
theorem dX9_road_8 : decode cX9_road 8 = .ok (.invokestatic 70, 3) := by decide +kernel
theorem dX9_road_11 : decode cX9_road 11 = .ok (.ifCond .ne 10, 3) := by decide +kernel
theorem dX9_road_14 : decode cX9_road 14 = .ok (.aload_n 0, 1) := by decide +kernel
theorem dX9_road_15 : decode cX9_road 15 = .ok (.bipush (-2), 2) := by decide +kernel
theorem dX9_road_17 : decode cX9_road 17 = .ok (.invokevirtual 73, 3) := by decide +kernel
theorem dX9_road_20 : decode cX9_road 20 = .ok (.ireturn, 1) := by decide +kernel
theorem dX9_road_21 : decode cX9_road 21 = .ok (.aload_n 0, 1) := by decide +kernel
theorem dX9_road_22 : decode cX9_road 22 = .ok (.invokevirtual 52, 3) := by decide +kernel
theorem dX9_road_25 : decode cX9_road 25 = .ok (.istore_n 3, 1) := by decide +kernel
theorem dX9_road_26 : decode cX9_road 26 = .ok (.aload_n 0, 1) := by decide +kernel
theorem dX9_road_27 : decode cX9_road 27 = .ok (.getfield 7, 3) := by decide +kernel
theorem dX9_road_30 : decode cX9_road 30 = .ok (.iload_n 1, 1) := by decide +kernel
theorem dX9_road_31 : decode cX9_road 31 = .ok (.iload_n 2, 1) := by decide +kernel
theorem dX9_road_32 : decode cX9_road 32 = .ok (.invokestatic 48, 3) := by decide +kernel
theorem dX9_road_35 : decode cX9_road 35 = .ok (.iload_n 3, 1) := by decide +kernel
theorem dX9_road_36 : decode cX9_road 36 = .ok (.ireturn, 1) := by decide +kernel
theorem dX9_layBend_0 : decode cX9_layBend 0 = .ok (.aload_n 0, 1) := by decide +kernel
theorem dX9_layBend_1 : decode cX9_layBend 1 = .ok (.iconst 0, 1) := by decide +kernel
theorem dX9_layBend_2 : decode cX9_layBend 2 = .ok (.iaload, 1) := by decide +kernel
theorem dX9_layBend_3 : decode cX9_layBend 3 = .ok (.istore 5, 2) := by decide +kernel
theorem dX9_layBend_5 : decode cX9_layBend 5 = .ok (.aload_n 0, 1) := by decide +kernel
theorem dX9_layBend_6 : decode cX9_layBend 6 = .ok (.bipush 18, 2) := by decide +kernel
theorem dX9_layBend_8 : decode cX9_layBend 8 = .ok (.iload 5, 2) := by decide +kernel
theorem dX9_layBend_10 : decode cX9_layBend 10 = .ok (.iadd, 1) := by decide +kernel
theorem dX9_layBend_11 : decode cX9_layBend 11 = .ok (.iload_n 1, 1) := by decide +kernel
theorem dX9_layBend_12 : decode cX9_layBend 12 = .ok (.iastore, 1) := by decide +kernel
theorem dX9_layBend_13 : decode cX9_layBend 13 = .ok (.aload_n 0, 1) := by decide +kernel
theorem dX9_layBend_14 : decode cX9_layBend 14 = .ok (.bipush 26, 2) := by decide +kernel
theorem dX9_layBend_16 : decode cX9_layBend 16 = .ok (.iload 5, 2) := by decide +kernel
theorem dX9_layBend_18 : decode cX9_layBend 18 = .ok (.iadd, 1) := by decide +kernel
theorem dX9_layBend_19 : decode cX9_layBend 19 = .ok (.iload_n 2, 1) := by decide +kernel
theorem dX9_layBend_20 : decode cX9_layBend 20 = .ok (.iastore, 1) := by decide +kernel
theorem dX9_layBend_21 : decode cX9_layBend 21 = .ok (.aload_n 0, 1) := by decide +kernel
theorem dX9_layBend_22 : decode cX9_layBend 22 = .ok (.bipush 7, 2) := by decide +kernel
theorem dX9_layBend_24 : decode cX9_layBend 24 = .ok (.iload 5, 2) := by decide +kernel
theorem dX9_layBend_26 : decode cX9_layBend 26 = .ok (.iadd, 1) := by decide +kernel
theorem dX9_layBend_27 : decode cX9_layBend 27 = .ok (.iload_n 3, 1) := by decide +kernel
theorem dX9_layBend_28 : decode cX9_layBend 28 = .ok (.iastore, 1) := by decide +kernel
theorem dX9_layBend_29 : decode cX9_layBend 29 = .ok (.aload_n 0, 1) := by decide +kernel
theorem dX9_layBend_30 : decode cX9_layBend 30 = .ok (.bipush 34, 2) := by decide +kernel
theorem dX9_layBend_32 : decode cX9_layBend 32 = .ok (.iload 5, 2) := by decide +kernel
theorem dX9_layBend_34 : decode cX9_layBend 34 = .ok (.iadd, 1) := by decide +kernel
theorem dX9_layBend_35 : decode cX9_layBend 35 = .ok (.iload 4, 2) := by decide +kernel
theorem dX9_layBend_37 : decode cX9_layBend 37 = .ok (.iastore, 1) := by decide +kernel
theorem dX9_layBend_38 : decode cX9_layBend 38 = .ok (.aload_n 0, 1) := by decide +kernel
theorem dX9_layBend_39 : decode cX9_layBend 39 = .ok (.iconst 0, 1) := by decide +kernel
theorem dX9_layBend_40 : decode cX9_layBend 40 = .ok (.dup2, 1) := by decide +kernel
theorem dX9_layBend_41 : decode cX9_layBend 41 = .ok (.iaload, 1) := by decide +kernel
theorem dX9_layBend_42 : decode cX9_layBend 42 = .ok (.iconst 1, 1) := by decide +kernel
theorem dX9_layBend_43 : decode cX9_layBend 43 = .ok (.iadd, 1) := by decide +kernel
theorem dX9_layBend_44 : decode cX9_layBend 44 = .ok (.iastore, 1) := by decide +kernel
theorem dX9_layBend_45 : decode cX9_layBend 45 = .ok (.return_, 1) := by decide +kernel
set_option maxRecDepth 20000 in
theorem ggX9_bend_X9_in : GoodIn wsX9_bend wsX9_in := goodIn_r _ [7] (by decide +kernel) (by decide +kernel)
set_option maxRecDepth 20000 in
theorem gX9_bend_X9_in : GoodIn wsX9_bend (va_wsS RX9 56 yX9_in wsX9_in) := goodIn_app (goodIn_of _ (by decide +kernel)) ggX9_bend_X9_in
set_option maxRecDepth 20000 in
theorem ggX9_bend_X9_isNote : GoodIn wsX9_bend wsX9_isNote := goodIn_r _ [10, 2, 4, 5, 6, 7] (by decide +kernel) (by decide +kernel)
set_option maxRecDepth 20000 in
theorem gX9_bend_X9_isNote : GoodIn wsX9_bend (va_wsS RX9 77 yX9_isNote wsX9_isNote) := goodIn_app (goodIn_of _ (by decide +kernel)) ggX9_bend_X9_isNote
set_option maxRecDepth 20000 in
theorem ggX9_bend_X9_bad : GoodIn wsX9_bend wsX9_bad := goodIn_r _ [14, 15, 27, 28, 29, 30, 31, 32, 33, 34, 35, 36, 37, 38, 39, 40, 41, 42, 43, 44] (by decide +kernel) (by decide +kernel)
set_option maxRecDepth 20000 in
theorem gX9_bend_X9_bad : GoodIn wsX9_bend (wsV RX9 73 RX9 yX9_bad wsX9_bad) := goodIn_app (goodIn_of _ (by decide +kernel)) ggX9_bend_X9_bad
set_option maxRecDepth 20000 in
theorem ggX9_bend_X9_many : GoodIn wsX9_bend wsX9_many := goodIn_r _ [19, 3, 27, 28, 29, 30, 31, 32, 33, 34, 35, 36, 37, 38, 39, 40, 41, 42, 43, 44] (by decide +kernel) (by decide +kernel)
set_option maxRecDepth 20000 in
theorem gX9_bend_X9_many : GoodIn wsX9_bend (wsV RX9 52 RX9 yX9_many wsX9_many) := goodIn_app (goodIn_of _ (by decide +kernel)) ggX9_bend_X9_many
set_option maxRecDepth 20000 in
theorem ggX9_bend_X9_full : GoodIn wsX9_bend wsX9_full := goodIn_r _ [23, 15, 27, 28, 29, 30, 31, 32, 33, 34, 35, 36, 37, 38, 39, 40, 41, 42, 43, 44] (by decide +kernel) (by decide +kernel)
set_option maxRecDepth 20000 in
theorem gX9_bend_X9_full : GoodIn wsX9_bend (wsV RX9 80 RX9 yX9_full wsX9_full) := goodIn_app (goodIn_of _ (by decide +kernel)) ggX9_bend_X9_full
set_option maxRecDepth 20000 in
theorem ggX9_bend_X9_layBend : GoodIn wsX9_bend wsX9_layBend := goodIn_r _ [26] (by decide +kernel) (by decide +kernel)
set_option maxRecDepth 20000 in
theorem gX9_bend_X9_layBend : GoodIn wsX9_bend (va_wsS RX9 83 yX9_layBend wsX9_layBend) := goodIn_app (goodIn_of _ (by decide +kernel)) ggX9_bend_X9_layBend
theorem dX9_bend_0 : decode cX9_bend 0 = .ok (.iload_n 1, 1) := by decide +kernel
theorem dX9_bend_1 : decode cX9_bend 1 = .ok (.i2l, 1) := by decide +kernel
theorem dX9_bend_2 : decode cX9_bend 2 = .ok (.lconst 1, 1) := by decide +kernel
theorem dX9_bend_3 : decode cX9_bend 3 = .ok (.ldc2_w 64, 3) := by decide +kernel
theorem dX9_bend_6 : decode cX9_bend 6 = .ok (.invokestatic 56, 3) := by decide +kernel
theorem dX9_bend_9 : decode cX9_bend 9 = .ok (.ifCond .eq 35, 3) := by decide +kernel
theorem dX9_bend_12 : decode cX9_bend 12 = .ok (.iload_n 2, 1) := by decide +kernel
theorem dX9_bend_13 : decode cX9_bend 13 = .ok (.i2l, 1) := by decide +kernel
theorem dX9_bend_14 : decode cX9_bend 14 = .ok (.lconst 1, 1) := by decide +kernel
theorem dX9_bend_15 : decode cX9_bend 15 = .ok (.ldc2_w 62, 3) := by decide +kernel
theorem dX9_bend_18 : decode cX9_bend 18 = .ok (.invokestatic 56, 3) := by decide +kernel
theorem dX9_bend_21 : decode cX9_bend 21 = .ok (.ifCond .eq 23, 3) := by decide +kernel
theorem dX9_bend_24 : decode cX9_bend 24 = .ok (.iload_n 3, 1) := by decide +kernel
theorem dX9_bend_25 : decode cX9_bend 25 = .ok (.invokestatic 77, 3) := by decide +kernel
theorem dX9_bend_28 : decode cX9_bend 28 = .ok (.ifCond .eq 16, 3) := by decide +kernel
theorem dX9_bend_31 : decode cX9_bend 31 = .ok (.iload 4, 2) := by decide +kernel
theorem dX9_bend_33 : decode cX9_bend 33 = .ok (.i2l, 1) := by decide +kernel
theorem dX9_bend_34 : decode cX9_bend 34 = .ok (.lconst 1, 1) := by decide +kernel
theorem dX9_bend_35 : decode cX9_bend 35 = .ok (.ldc2_w 64, 3) := by decide +kernel
theorem dX9_bend_38 : decode cX9_bend 38 = .ok (.invokestatic 56, 3) := by decide +kernel
theorem dX9_bend_41 : decode cX9_bend 41 = .ok (.ifCond .ne 10, 3) := by decide +kernel
theorem dX9_bend_44 : decode cX9_bend 44 = .ok (.aload_n 0, 1) := by decide +kernel
theorem dX9_bend_45 : decode cX9_bend 45 = .ok (.bipush (-2), 2) := by decide +kernel
theorem dX9_bend_47 : decode cX9_bend 47 = .ok (.invokevirtual 73, 3) := by decide +kernel
theorem dX9_bend_50 : decode cX9_bend 50 = .ok (.ireturn, 1) := by decide +kernel
theorem dX9_bend_51 : decode cX9_bend 51 = .ok (.aload_n 0, 1) := by decide +kernel
theorem dX9_bend_52 : decode cX9_bend 52 = .ok (.invokevirtual 52, 3) := by decide +kernel
theorem dX9_bend_55 : decode cX9_bend 55 = .ok (.bipush 8, 2) := by decide +kernel
theorem dX9_bend_57 : decode cX9_bend 57 = .ok (.if_icmp .ne 8, 3) := by decide +kernel
theorem dX9_bend_60 : decode cX9_bend 60 = .ok (.aload_n 0, 1) := by decide +kernel
theorem dX9_bend_61 : decode cX9_bend 61 = .ok (.invokevirtual 80, 3) := by decide +kernel
theorem dX9_bend_64 : decode cX9_bend 64 = .ok (.ireturn, 1) := by decide +kernel
theorem dX9_bend_65 : decode cX9_bend 65 = .ok (.aload_n 0, 1) := by decide +kernel
theorem dX9_bend_66 : decode cX9_bend 66 = .ok (.getfield 7, 3) := by decide +kernel
theorem dX9_bend_69 : decode cX9_bend 69 = .ok (.iload_n 1, 1) := by decide +kernel
theorem dX9_bend_70 : decode cX9_bend 70 = .ok (.iload_n 2, 1) := by decide +kernel
theorem dX9_bend_71 : decode cX9_bend 71 = .ok (.iload_n 3, 1) := by decide +kernel
theorem dX9_bend_72 : decode cX9_bend 72 = .ok (.iload 4, 2) := by decide +kernel
theorem dX9_bend_74 : decode cX9_bend 74 = .ok (.invokestatic 83, 3) := by decide +kernel
theorem dX9_bend_77 : decode cX9_bend 77 = .ok (.aload_n 0, 1) := by decide +kernel
theorem dX9_bend_78 : decode cX9_bend 78 = .ok (.getfield 7, 3) := by decide +kernel
theorem dX9_bend_81 : decode cX9_bend 81 = .ok (.iconst 3, 1) := by decide +kernel
theorem dX9_bend_82 : decode cX9_bend 82 = .ok (.iconst 0, 1) := by decide +kernel
theorem dX9_bend_83 : decode cX9_bend 83 = .ok (.iastore, 1) := by decide +kernel
theorem dX9_bend_84 : decode cX9_bend 84 = .ok (.aload_n 0, 1) := by decide +kernel
theorem dX9_bend_85 : decode cX9_bend 85 = .ok (.invokevirtual 52, 3) := by decide +kernel
theorem dX9_bend_88 : decode cX9_bend 88 = .ok (.iconst 1, 1) := by decide +kernel
theorem dX9_bend_89 : decode cX9_bend 89 = .ok (.isub, 1) := by decide +kernel
theorem dX9_bend_90 : decode cX9_bend 90 = .ok (.ireturn, 1) := by decide +kernel
set_option maxRecDepth 20000 in
theorem ggX9_mud_X9_isBend : GoodIn wsX9_mud wsX9_isBend := goodIn_r _ [6, 7, 8, 9, 5, 10, 1, 11, 12, 13, 19, 20, 21, 22, 23, 24, 25, 26, 27, 28, 29, 30, 31, 32, 33, 34, 35, 36] (by decide +kernel) (by decide +kernel)
set_option maxRecDepth 20000 in
theorem gX9_mud_X9_isBend : GoodIn wsX9_mud (wsV RX9 87 RX9 yX9_isBend wsX9_isBend) := goodIn_app (goodIn_of _ (by decide +kernel)) ggX9_mud_X9_isBend
set_option maxRecDepth 20000 in
theorem ggX9_mud_X9_in : GoodIn wsX9_mud wsX9_in := goodIn_r _ [13] (by decide +kernel) (by decide +kernel)
set_option maxRecDepth 20000 in
theorem gX9_mud_X9_in : GoodIn wsX9_mud (va_wsS RX9 56 yX9_in wsX9_in) := goodIn_app (goodIn_of _ (by decide +kernel)) ggX9_mud_X9_in
set_option maxRecDepth 20000 in
theorem ggX9_mud_X9_bad : GoodIn wsX9_mud wsX9_bad := goodIn_r _ [17, 18, 19, 20, 21, 22, 23, 24, 25, 26, 27, 28, 29, 30, 31, 32, 33, 34, 35, 36] (by decide +kernel) (by decide +kernel)
set_option maxRecDepth 20000 in
theorem gX9_mud_X9_bad : GoodIn wsX9_mud (wsV RX9 73 RX9 yX9_bad wsX9_bad) := goodIn_app (goodIn_of _ (by decide +kernel)) ggX9_mud_X9_bad
theorem dX9_mud_0 : decode cX9_mud 0 = .ok (.aload_n 0, 1) := by decide +kernel
theorem dX9_mud_1 : decode cX9_mud 1 = .ok (.iload_n 1, 1) := by decide +kernel
theorem dX9_mud_2 : decode cX9_mud 2 = .ok (.invokevirtual 87, 3) := by decide +kernel
theorem dX9_mud_5 : decode cX9_mud 5 = .ok (.ifCond .eq 13, 3) := by decide +kernel
theorem dX9_mud_8 : decode cX9_mud 8 = .ok (.iload_n 2, 1) := by decide +kernel
theorem dX9_mud_9 : decode cX9_mud 9 = .ok (.i2l, 1) := by decide +kernel
theorem dX9_mud_10 : decode cX9_mud 10 = .ok (.lconst 0, 1) := by decide +kernel
theorem dX9_mud_11 : decode cX9_mud 11 = .ok (.lconst 1, 1) := by decide +kernel
theorem dX9_mud_12 : decode cX9_mud 12 = .ok (.invokestatic 56, 3) := by decide +kernel
theorem dX9_mud_15 : decode cX9_mud 15 = .ok (.ifCond .ne 10, 3) := by decide +kernel
theorem dX9_mud_18 : decode cX9_mud 18 = .ok (.aload_n 0, 1) := by decide +kernel
theorem dX9_mud_19 : decode cX9_mud 19 = .ok (.bipush (-2), 2) := by decide +kernel
theorem dX9_mud_21 : decode cX9_mud 21 = .ok (.invokevirtual 73, 3) := by decide +kernel
theorem dX9_mud_24 : decode cX9_mud 24 = .ok (.ireturn, 1) := by decide +kernel
theorem dX9_mud_25 : decode cX9_mud 25 = .ok (.aload_n 0, 1) := by decide +kernel
theorem dX9_mud_26 : decode cX9_mud 26 = .ok (.getfield 7, 3) := by decide +kernel
theorem dX9_mud_29 : decode cX9_mud 29 = .ok (.bipush 17, 2) := by decide +kernel
theorem dX9_mud_31 : decode cX9_mud 31 = .ok (.iaload, 1) := by decide +kernel
theorem dX9_mud_32 : decode cX9_mud 32 = .ok (.iload_n 1, 1) := by decide +kernel
theorem dX9_mud_33 : decode cX9_mud 33 = .ok (.ishr, 1) := by decide +kernel
theorem dX9_mud_34 : decode cX9_mud 34 = .ok (.iconst 1, 1) := by decide +kernel
theorem dX9_mud_35 : decode cX9_mud 35 = .ok (.iand, 1) := by decide +kernel
theorem dX9_mud_36 : decode cX9_mud 36 = .ok (.istore_n 3, 1) := by decide +kernel
theorem dX9_mud_37 : decode cX9_mud 37 = .ok (.aload_n 0, 1) := by decide +kernel
theorem dX9_mud_38 : decode cX9_mud 38 = .ok (.getfield 7, 3) := by decide +kernel
theorem dX9_mud_41 : decode cX9_mud 41 = .ok (.bipush 17, 2) := by decide +kernel
theorem dX9_mud_43 : decode cX9_mud 43 = .ok (.iload_n 2, 1) := by decide +kernel
theorem dX9_mud_44 : decode cX9_mud 44 = .ok (.iconst 1, 1) := by decide +kernel
theorem dX9_mud_45 : decode cX9_mud 45 = .ok (.if_icmp .ne 17, 3) := by decide +kernel
theorem dX9_mud_48 : decode cX9_mud 48 = .ok (.aload_n 0, 1) := by decide +kernel
theorem dX9_mud_49 : decode cX9_mud 49 = .ok (.getfield 7, 3) := by decide +kernel
theorem dX9_mud_52 : decode cX9_mud 52 = .ok (.bipush 17, 2) := by decide +kernel
theorem dX9_mud_54 : decode cX9_mud 54 = .ok (.iaload, 1) := by decide +kernel
theorem dX9_mud_55 : decode cX9_mud 55 = .ok (.iconst 1, 1) := by decide +kernel
theorem dX9_mud_56 : decode cX9_mud 56 = .ok (.iload_n 1, 1) := by decide +kernel
theorem dX9_mud_57 : decode cX9_mud 57 = .ok (.ishl, 1) := by decide +kernel
theorem dX9_mud_58 : decode cX9_mud 58 = .ok (.ior, 1) := by decide +kernel
theorem dX9_mud_59 : decode cX9_mud 59 = .ok (.goto 16, 3) := by decide +kernel
theorem dX9_mud_62 : decode cX9_mud 62 = .ok (.aload_n 0, 1) := by decide +kernel
theorem dX9_mud_63 : decode cX9_mud 63 = .ok (.getfield 7, 3) := by decide +kernel
theorem dX9_mud_66 : decode cX9_mud 66 = .ok (.bipush 17, 2) := by decide +kernel
theorem dX9_mud_68 : decode cX9_mud 68 = .ok (.iaload, 1) := by decide +kernel
theorem dX9_mud_69 : decode cX9_mud 69 = .ok (.iconst 1, 1) := by decide +kernel
theorem dX9_mud_70 : decode cX9_mud 70 = .ok (.iload_n 1, 1) := by decide +kernel
theorem dX9_mud_71 : decode cX9_mud 71 = .ok (.ishl, 1) := by decide +kernel
theorem dX9_mud_72 : decode cX9_mud 72 = .ok (.iconst (-1), 1) := by decide +kernel
theorem dX9_mud_73 : decode cX9_mud 73 = .ok (.ixor, 1) := by decide +kernel
theorem dX9_mud_74 : decode cX9_mud 74 = .ok (.iand, 1) := by decide +kernel
theorem dX9_mud_75 : decode cX9_mud 75 = .ok (.iastore, 1) := by decide +kernel
theorem dX9_mud_76 : decode cX9_mud 76 = .ok (.aload_n 0, 1) := by decide +kernel
theorem dX9_mud_77 : decode cX9_mud 77 = .ok (.getfield 7, 3) := by decide +kernel
theorem dX9_mud_80 : decode cX9_mud 80 = .ok (.iconst 3, 1) := by decide +kernel
theorem dX9_mud_81 : decode cX9_mud 81 = .ok (.iconst 0, 1) := by decide +kernel
theorem dX9_mud_82 : decode cX9_mud 82 = .ok (.iastore, 1) := by decide +kernel
theorem dX9_mud_83 : decode cX9_mud 83 = .ok (.iload_n 3, 1) := by decide +kernel
theorem dX9_mud_84 : decode cX9_mud 84 = .ok (.ireturn, 1) := by decide +kernel
set_option maxRecDepth 20000 in
theorem ggX9_driver_X9_isKind : GoodIn wsX9_driver wsX9_isKind := goodIn_r _ [5, 6, 7, 8, 4, 9] (by decide +kernel) (by decide +kernel)
set_option maxRecDepth 20000 in
theorem gX9_driver_X9_isKind : GoodIn wsX9_driver (va_wsS RX9 66 yX9_isKind wsX9_isKind) := goodIn_app (goodIn_of _ (by decide +kernel)) ggX9_driver_X9_isKind
set_option maxRecDepth 20000 in
theorem ggX9_driver_X9_isFog : GoodIn wsX9_driver wsX9_isFog := goodIn_r _ [12, 13, 7, 8, 4, 9] (by decide +kernel) (by decide +kernel)
set_option maxRecDepth 20000 in
theorem gX9_driver_X9_isFog : GoodIn wsX9_driver (va_wsS RX9 70 yX9_isFog wsX9_isFog) := goodIn_app (goodIn_of _ (by decide +kernel)) ggX9_driver_X9_isFog
set_option maxRecDepth 20000 in
theorem ggX9_driver_X9_bad : GoodIn wsX9_driver wsX9_bad := goodIn_r _ [17, 18, 19, 20, 21, 22, 23, 24, 25, 26, 27, 28, 29, 30, 31, 32, 33, 34, 35, 36] (by decide +kernel) (by decide +kernel)
set_option maxRecDepth 20000 in
theorem gX9_driver_X9_bad : GoodIn wsX9_driver (wsV RX9 73 RX9 yX9_bad wsX9_bad) := goodIn_app (goodIn_of _ (by decide +kernel)) ggX9_driver_X9_bad
theorem dX9_driver_0 : decode cX9_driver 0 = .ok (.iload_n 1, 1) := by decide +kernel
theorem dX9_driver_1 : decode cX9_driver 1 = .ok (.invokestatic 66, 3) := by decide +kernel
theorem dX9_driver_4 : decode cX9_driver 4 = .ok (.ifCond .eq 10, 3) := by decide +kernel
theorem dX9_driver_7 : decode cX9_driver 7 = .ok (.iload_n 2, 1) := by decide +kernel
theorem dX9_driver_8 : decode cX9_driver 8 = .ok (.invokestatic 70, 3) := by decide +kernel
theorem dX9_driver_11 : decode cX9_driver 11 = .ok (.ifCond .ne 10, 3) := by decide +kernel
theorem dX9_driver_14 : decode cX9_driver 14 = .ok (.aload_n 0, 1) := by decide +kernel
theorem dX9_driver_15 : decode cX9_driver 15 = .ok (.bipush (-2), 2) := by decide +kernel
theorem dX9_driver_17 : decode cX9_driver 17 = .ok (.invokevirtual 73, 3) := by decide +kernel
theorem dX9_driver_20 : decode cX9_driver 20 = .ok (.ireturn, 1) := by decide +kernel
theorem dX9_driver_21 : decode cX9_driver 21 = .ok (.aload_n 0, 1) := by decide +kernel
theorem dX9_driver_22 : decode cX9_driver 22 = .ok (.getfield 7, 3) := by decide +kernel
theorem dX9_driver_25 : decode cX9_driver 25 = .ok (.bipush 15, 2) := by decide +kernel
theorem dX9_driver_27 : decode cX9_driver 27 = .ok (.iload_n 1, 1) := by decide +kernel
theorem dX9_driver_28 : decode cX9_driver 28 = .ok (.iastore, 1) := by decide +kernel
theorem dX9_driver_29 : decode cX9_driver 29 = .ok (.aload_n 0, 1) := by decide +kernel
theorem dX9_driver_30 : decode cX9_driver 30 = .ok (.getfield 7, 3) := by decide +kernel
theorem dX9_driver_33 : decode cX9_driver 33 = .ok (.bipush 16, 2) := by decide +kernel
theorem dX9_driver_35 : decode cX9_driver 35 = .ok (.iload_n 2, 1) := by decide +kernel
theorem dX9_driver_36 : decode cX9_driver 36 = .ok (.iastore, 1) := by decide +kernel
theorem dX9_driver_37 : decode cX9_driver 37 = .ok (.aload_n 0, 1) := by decide +kernel
theorem dX9_driver_38 : decode cX9_driver 38 = .ok (.getfield 7, 3) := by decide +kernel
theorem dX9_driver_41 : decode cX9_driver 41 = .ok (.iconst 3, 1) := by decide +kernel
theorem dX9_driver_42 : decode cX9_driver 42 = .ok (.iconst 0, 1) := by decide +kernel
theorem dX9_driver_43 : decode cX9_driver 43 = .ok (.iastore, 1) := by decide +kernel
theorem dX9_driver_44 : decode cX9_driver 44 = .ok (.iconst 1, 1) := by decide +kernel
theorem dX9_driver_45 : decode cX9_driver 45 = .ok (.ireturn, 1) := by decide +kernel
theorem dX9_paceAs_0 : decode cX9_paceAs 0 = .ok (.iload_n 1, 1) := by decide +kernel
theorem dX9_paceAs_1 : decode cX9_paceAs 1 = .ok (.ifCond .ne 7, 3) := by decide +kernel
theorem dX9_paceAs_4 : decode cX9_paceAs 4 = .ok (.iconst 2, 1) := by decide +kernel
theorem dX9_paceAs_5 : decode cX9_paceAs 5 = .ok (.goto 4, 3) := by decide +kernel
theorem dX9_paceAs_8 : decode cX9_paceAs 8 = .ok (.iload_n 1, 1) := by decide +kernel
theorem dX9_paceAs_9 : decode cX9_paceAs 9 = .ok (.istore 5, 2) := by decide +kernel
theorem dX9_paceAs_11 : decode cX9_paceAs 11 = .ok (.iload 5, 2) := by decide +kernel
theorem dX9_paceAs_13 : decode cX9_paceAs 13 = .ok (.bipush 7, 2) := by decide +kernel
theorem dX9_paceAs_15 : decode cX9_paceAs 15 = .ok (.if_icmp .ge 10, 3) := by decide +kernel
theorem dX9_paceAs_18 : decode cX9_paceAs 18 = .ok (.iload 5, 2) := by decide +kernel
theorem dX9_paceAs_20 : decode cX9_paceAs 20 = .ok (.iconst 1, 1) := by decide +kernel
theorem dX9_paceAs_21 : decode cX9_paceAs 21 = .ok (.iadd, 1) := by decide +kernel
theorem dX9_paceAs_22 : decode cX9_paceAs 22 = .ok (.goto 5, 3) := by decide +kernel
theorem dX9_paceAs_25 : decode cX9_paceAs 25 = .ok (.bipush 7, 2) := by decide +kernel
theorem dX9_paceAs_27 : decode cX9_paceAs 27 = .ok (.istore 6, 2) := by decide +kernel
theorem dX9_paceAs_29 : decode cX9_paceAs 29 = .ok (.iload 5, 2) := by decide +kernel
theorem dX9_paceAs_31 : decode cX9_paceAs 31 = .ok (.iconst 1, 1) := by decide +kernel
theorem dX9_paceAs_32 : decode cX9_paceAs 32 = .ok (.if_icmp .le 10, 3) := by decide +kernel
theorem dX9_paceAs_35 : decode cX9_paceAs 35 = .ok (.iload 5, 2) := by decide +kernel
theorem dX9_paceAs_37 : decode cX9_paceAs 37 = .ok (.iconst 1, 1) := by decide +kernel
theorem dX9_paceAs_38 : decode cX9_paceAs 38 = .ok (.isub, 1) := by decide +kernel
theorem dX9_paceAs_39 : decode cX9_paceAs 39 = .ok (.goto 4, 3) := by decide +kernel
theorem dX9_paceAs_42 : decode cX9_paceAs 42 = .ok (.iconst 1, 1) := by decide +kernel
theorem dX9_paceAs_43 : decode cX9_paceAs 43 = .ok (.istore 7, 2) := by decide +kernel
theorem dX9_paceAs_45 : decode cX9_paceAs 45 = .ok (.iload_n 0, 1) := by decide +kernel
theorem dX9_paceAs_46 : decode cX9_paceAs 46 = .ok (.tableswitch 93 1 5 #[34, 46, 49, 52, 68], 34) := by decide +kernel
theorem dX9_paceAs_80 : decode cX9_paceAs 80 = .ok (.iload_n 3, 1) := by decide +kernel
theorem dX9_paceAs_81 : decode cX9_paceAs 81 = .ok (.iconst 3, 1) := by decide +kernel
theorem dX9_paceAs_82 : decode cX9_paceAs 82 = .ok (.if_icmp .gt 7, 3) := by decide +kernel
theorem dX9_paceAs_85 : decode cX9_paceAs 85 = .ok (.iload_n 2, 1) := by decide +kernel
theorem dX9_paceAs_86 : decode cX9_paceAs 86 = .ok (.goto 5, 3) := by decide +kernel
theorem dX9_paceAs_89 : decode cX9_paceAs 89 = .ok (.iload 5, 2) := by decide +kernel
theorem dX9_paceAs_91 : decode cX9_paceAs 91 = .ok (.ireturn, 1) := by decide +kernel
theorem dX9_paceAs_92 : decode cX9_paceAs 92 = .ok (.iload 6, 2) := by decide +kernel
theorem dX9_paceAs_94 : decode cX9_paceAs 94 = .ok (.ireturn, 1) := by decide +kernel
theorem dX9_paceAs_95 : decode cX9_paceAs 95 = .ok (.iload 7, 2) := by decide +kernel
theorem dX9_paceAs_97 : decode cX9_paceAs 97 = .ok (.ireturn, 1) := by decide +kernel
theorem dX9_paceAs_98 : decode cX9_paceAs 98 = .ok (.iload_n 3, 1) := by decide +kernel
theorem dX9_paceAs_99 : decode cX9_paceAs 99 = .ok (.bipush 7, 2) := by decide +kernel
theorem dX9_paceAs_101 : decode cX9_paceAs 101 = .ok (.if_icmp .ge 10, 3) := by decide +kernel
theorem dX9_paceAs_104 : decode cX9_paceAs 104 = .ok (.iload 7, 2) := by decide +kernel
theorem dX9_paceAs_106 : decode cX9_paceAs 106 = .ok (.iconst 1, 1) := by decide +kernel
theorem dX9_paceAs_107 : decode cX9_paceAs 107 = .ok (.iadd, 1) := by decide +kernel
theorem dX9_paceAs_108 : decode cX9_paceAs 108 = .ok (.goto 5, 3) := by decide +kernel
theorem dX9_paceAs_111 : decode cX9_paceAs 111 = .ok (.iload 7, 2) := by decide +kernel
theorem dX9_paceAs_113 : decode cX9_paceAs 113 = .ok (.ireturn, 1) := by decide +kernel
theorem dX9_paceAs_114 : decode cX9_paceAs 114 = .ok (.iload 4, 2) := by decide +kernel
theorem dX9_paceAs_116 : decode cX9_paceAs 116 = .ok (.ifCond .ne 8, 3) := by decide +kernel
theorem dX9_paceAs_119 : decode cX9_paceAs 119 = .ok (.iload 6, 2) := by decide +kernel
theorem dX9_paceAs_121 : decode cX9_paceAs 121 = .ok (.goto 17, 3) := by decide +kernel
theorem dX9_paceAs_124 : decode cX9_paceAs 124 = .ok (.iload 6, 2) := by decide +kernel
theorem dX9_paceAs_126 : decode cX9_paceAs 126 = .ok (.iconst 3, 1) := by decide +kernel
theorem dX9_paceAs_127 : decode cX9_paceAs 127 = .ok (.if_icmp .le 10, 3) := by decide +kernel
theorem dX9_paceAs_130 : decode cX9_paceAs 130 = .ok (.iload 6, 2) := by decide +kernel
theorem dX9_paceAs_132 : decode cX9_paceAs 132 = .ok (.iconst 2, 1) := by decide +kernel
theorem dX9_paceAs_133 : decode cX9_paceAs 133 = .ok (.isub, 1) := by decide +kernel
theorem dX9_paceAs_134 : decode cX9_paceAs 134 = .ok (.goto 4, 3) := by decide +kernel
theorem dX9_paceAs_137 : decode cX9_paceAs 137 = .ok (.iconst 1, 1) := by decide +kernel
theorem dX9_paceAs_138 : decode cX9_paceAs 138 = .ok (.ireturn, 1) := by decide +kernel
theorem dX9_paceAs_139 : decode cX9_paceAs 139 = .ok (.iload 5, 2) := by decide +kernel
theorem dX9_paceAs_141 : decode cX9_paceAs 141 = .ok (.ireturn, 1) := by decide +kernel
theorem dX9_holdsOf_0 : decode cX9_holdsOf 0 = .ok (.aload_n 0, 1) := by decide +kernel
theorem dX9_holdsOf_1 : decode cX9_holdsOf 1 = .ok (.bipush 26, 2) := by decide +kernel
theorem dX9_holdsOf_3 : decode cX9_holdsOf 3 = .ok (.iload_n 1, 1) := by decide +kernel
theorem dX9_holdsOf_4 : decode cX9_holdsOf 4 = .ok (.iadd, 1) := by decide +kernel
theorem dX9_holdsOf_5 : decode cX9_holdsOf 5 = .ok (.iaload, 1) := by decide +kernel
theorem dX9_holdsOf_6 : decode cX9_holdsOf 6 = .ok (.aload_n 0, 1) := by decide +kernel
theorem dX9_holdsOf_7 : decode cX9_holdsOf 7 = .ok (.bipush 17, 2) := by decide +kernel
theorem dX9_holdsOf_9 : decode cX9_holdsOf 9 = .ok (.iaload, 1) := by decide +kernel
theorem dX9_holdsOf_10 : decode cX9_holdsOf 10 = .ok (.iload_n 1, 1) := by decide +kernel
theorem dX9_holdsOf_11 : decode cX9_holdsOf 11 = .ok (.ishr, 1) := by decide +kernel
theorem dX9_holdsOf_12 : decode cX9_holdsOf 12 = .ok (.iconst 1, 1) := by decide +kernel
theorem dX9_holdsOf_13 : decode cX9_holdsOf 13 = .ok (.iand, 1) := by decide +kernel
theorem dX9_holdsOf_14 : decode cX9_holdsOf 14 = .ok (.isub, 1) := by decide +kernel
theorem dX9_holdsOf_15 : decode cX9_holdsOf 15 = .ok (.istore_n 2, 1) := by decide +kernel
theorem dX9_holdsOf_16 : decode cX9_holdsOf 16 = .ok (.iload_n 2, 1) := by decide +kernel
theorem dX9_holdsOf_17 : decode cX9_holdsOf 17 = .ok (.iconst 1, 1) := by decide +kernel
theorem dX9_holdsOf_18 : decode cX9_holdsOf 18 = .ok (.if_icmp .ge 7, 3) := by decide +kernel
theorem dX9_holdsOf_21 : decode cX9_holdsOf 21 = .ok (.iconst 1, 1) := by decide +kernel
theorem dX9_holdsOf_22 : decode cX9_holdsOf 22 = .ok (.goto 4, 3) := by decide +kernel
theorem dX9_holdsOf_25 : decode cX9_holdsOf 25 = .ok (.iload_n 2, 1) := by decide +kernel
theorem dX9_holdsOf_26 : decode cX9_holdsOf 26 = .ok (.ireturn, 1) := by decide +kernel
theorem dX9_costAt_0 : decode cX9_costAt 0 = .ok (.iload_n 0, 1) := by decide +kernel
theorem dX9_costAt_1 : decode cX9_costAt 1 = .ok (.iload_n 1, 1) := by decide +kernel
theorem dX9_costAt_2 : decode cX9_costAt 2 = .ok (.if_icmp .ge 11, 3) := by decide +kernel
theorem dX9_costAt_5 : decode cX9_costAt 5 = .ok (.iconst 3, 1) := by decide +kernel
theorem dX9_costAt_6 : decode cX9_costAt 6 = .ok (.iload_n 1, 1) := by decide +kernel
theorem dX9_costAt_7 : decode cX9_costAt 7 = .ok (.iload_n 0, 1) := by decide +kernel
theorem dX9_costAt_8 : decode cX9_costAt 8 = .ok (.isub, 1) := by decide +kernel
theorem dX9_costAt_9 : decode cX9_costAt 9 = .ok (.imul, 1) := by decide +kernel
theorem dX9_costAt_10 : decode cX9_costAt 10 = .ok (.goto 26, 3) := by decide +kernel
theorem dX9_costAt_13 : decode cX9_costAt 13 = .ok (.iload_n 0, 1) := by decide +kernel
theorem dX9_costAt_14 : decode cX9_costAt 14 = .ok (.iload_n 1, 1) := by decide +kernel
theorem dX9_costAt_15 : decode cX9_costAt 15 = .ok (.if_icmp .ne 7, 3) := by decide +kernel
theorem dX9_costAt_18 : decode cX9_costAt 18 = .ok (.iconst 0, 1) := by decide +kernel
theorem dX9_costAt_19 : decode cX9_costAt 19 = .ok (.goto 17, 3) := by decide +kernel
theorem dX9_costAt_22 : decode cX9_costAt 22 = .ok (.iload_n 0, 1) := by decide +kernel
theorem dX9_costAt_23 : decode cX9_costAt 23 = .ok (.iload_n 1, 1) := by decide +kernel
theorem dX9_costAt_24 : decode cX9_costAt 24 = .ok (.iconst 1, 1) := by decide +kernel
theorem dX9_costAt_25 : decode cX9_costAt 25 = .ok (.iadd, 1) := by decide +kernel
theorem dX9_costAt_26 : decode cX9_costAt 26 = .ok (.if_icmp .ne 8, 3) := by decide +kernel
theorem dX9_costAt_29 : decode cX9_costAt 29 = .ok (.bipush 7, 2) := by decide +kernel
theorem dX9_costAt_31 : decode cX9_costAt 31 = .ok (.goto 5, 3) := by decide +kernel
theorem dX9_costAt_34 : decode cX9_costAt 34 = .ok (.bipush 60, 2) := by decide +kernel
theorem dX9_costAt_36 : decode cX9_costAt 36 = .ok (.ireturn, 1) := by decide +kernel
set_option maxRecDepth 20000 in
theorem ggX9_paceBy_X9_holdsOf : GoodIn wsX9_paceBy wsX9_holdsOf := goodIn_r _ [4] (by decide +kernel) (by decide +kernel)
set_option maxRecDepth 20000 in
theorem gX9_paceBy_X9_holdsOf : GoodIn wsX9_paceBy (va_wsS RX9 90 yX9_holdsOf wsX9_holdsOf) := goodIn_app (goodIn_of _ (by decide +kernel)) ggX9_paceBy_X9_holdsOf
set_option maxRecDepth 20000 in
theorem ggX9_paceBy_X9_has : GoodIn wsX9_paceBy wsX9_has := goodIn_r _ [7] (by decide +kernel) (by decide +kernel)
set_option maxRecDepth 20000 in
theorem gX9_paceBy_X9_has : GoodIn wsX9_paceBy (va_wsS RX9 94 yX9_has wsX9_has) := goodIn_app (goodIn_of _ (by decide +kernel)) ggX9_paceBy_X9_has
set_option maxRecDepth 20000 in
theorem ggX9_paceBy_X9_paceAs : GoodIn wsX9_paceBy wsX9_paceAs := goodIn_r _ [10] (by decide +kernel) (by decide +kernel)
set_option maxRecDepth 20000 in
theorem gX9_paceBy_X9_paceAs : GoodIn wsX9_paceBy (va_wsS RX9 98 yX9_paceAs wsX9_paceAs) := goodIn_app (goodIn_of _ (by decide +kernel)) ggX9_paceBy_X9_paceAs
theorem dX9_paceBy_0 : decode cX9_paceBy 0 = .ok (.aload_n 0, 1) := by decide +kernel
theorem dX9_paceBy_1 : decode cX9_paceBy 1 = .ok (.bipush 15, 2) := by decide +kernel
theorem dX9_paceBy_3 : decode cX9_paceBy 3 = .ok (.iaload, 1) := by decide +kernel
theorem dX9_paceBy_4 : decode cX9_paceBy 4 = .ok (.iload_n 2, 1) := by decide +kernel
theorem dX9_paceBy_5 : decode cX9_paceBy 5 = .ok (.aload_n 0, 1) := by decide +kernel
theorem dX9_paceBy_6 : decode cX9_paceBy 6 = .ok (.iload_n 1, 1) := by decide +kernel
theorem dX9_paceBy_7 : decode cX9_paceBy 7 = .ok (.invokestatic 90, 3) := by decide +kernel
theorem dX9_paceBy_10 : decode cX9_paceBy 10 = .ok (.aload_n 0, 1) := by decide +kernel
theorem dX9_paceBy_11 : decode cX9_paceBy 11 = .ok (.bipush 16, 2) := by decide +kernel
theorem dX9_paceBy_13 : decode cX9_paceBy 13 = .ok (.iaload, 1) := by decide +kernel
theorem dX9_paceBy_14 : decode cX9_paceBy 14 = .ok (.aload_n 0, 1) := by decide +kernel
theorem dX9_paceBy_15 : decode cX9_paceBy 15 = .ok (.bipush 17, 2) := by decide +kernel
theorem dX9_paceBy_17 : decode cX9_paceBy 17 = .ok (.iaload, 1) := by decide +kernel
theorem dX9_paceBy_18 : decode cX9_paceBy 18 = .ok (.iload_n 1, 1) := by decide +kernel
theorem dX9_paceBy_19 : decode cX9_paceBy 19 = .ok (.invokestatic 94, 3) := by decide +kernel
theorem dX9_paceBy_22 : decode cX9_paceBy 22 = .ok (.invokestatic 98, 3) := by decide +kernel
theorem dX9_paceBy_25 : decode cX9_paceBy 25 = .ok (.ireturn, 1) := by decide +kernel
set_option maxRecDepth 20000 in
theorem ggX9_costBy_X9_paceBy : GoodIn wsX9_costBy wsX9_paceBy := goodIn_r _ [4, 5, 6, 3, 7, 8, 9, 10, 11, 12, 13] (by decide +kernel) (by decide +kernel)
set_option maxRecDepth 20000 in
theorem gX9_costBy_X9_paceBy : GoodIn wsX9_costBy (va_wsS RX9 102 yX9_paceBy wsX9_paceBy) := goodIn_app (goodIn_of _ (by decide +kernel)) ggX9_costBy_X9_paceBy
set_option maxRecDepth 20000 in
theorem ggX9_costBy_X9_holdsOf : GoodIn wsX9_costBy wsX9_holdsOf := goodIn_r _ [7] (by decide +kernel) (by decide +kernel)
set_option maxRecDepth 20000 in
theorem gX9_costBy_X9_holdsOf : GoodIn wsX9_costBy (va_wsS RX9 90 yX9_holdsOf wsX9_holdsOf) := goodIn_app (goodIn_of _ (by decide +kernel)) ggX9_costBy_X9_holdsOf
set_option maxRecDepth 20000 in
theorem ggX9_costBy_X9_costAt : GoodIn wsX9_costBy wsX9_costAt := goodIn_r _ [16] (by decide +kernel) (by decide +kernel)
set_option maxRecDepth 20000 in
theorem gX9_costBy_X9_costAt : GoodIn wsX9_costBy (va_wsS RX9 106 yX9_costAt wsX9_costAt) := goodIn_app (goodIn_of _ (by decide +kernel)) ggX9_costBy_X9_costAt
theorem dX9_costBy_0 : decode cX9_costBy 0 = .ok (.aload_n 0, 1) := by decide +kernel
theorem dX9_costBy_1 : decode cX9_costBy 1 = .ok (.iload_n 1, 1) := by decide +kernel
theorem dX9_costBy_2 : decode cX9_costBy 2 = .ok (.iload_n 2, 1) := by decide +kernel
theorem dX9_costBy_3 : decode cX9_costBy 3 = .ok (.invokestatic 102, 3) := by decide +kernel
theorem dX9_costBy_6 : decode cX9_costBy 6 = .ok (.aload_n 0, 1) := by decide +kernel
theorem dX9_costBy_7 : decode cX9_costBy 7 = .ok (.iload_n 1, 1) := by decide +kernel
theorem dX9_costBy_8 : decode cX9_costBy 8 = .ok (.invokestatic 90, 3) := by decide +kernel
theorem dX9_costBy_11 : decode cX9_costBy 11 = .ok (.invokestatic 106, 3) := by decide +kernel
theorem dX9_costBy_14 : decode cX9_costBy 14 = .ok (.ireturn, 1) := by decide +kernel
theorem dX9_noteOf_0 : decode cX9_noteOf 0 = .ok (.aload_n 0, 1) := by decide +kernel
theorem dX9_noteOf_1 : decode cX9_noteOf 1 = .ok (.getfield 7, 3) := by decide +kernel
theorem dX9_noteOf_4 : decode cX9_noteOf 4 = .ok (.bipush 7, 2) := by decide +kernel
theorem dX9_noteOf_6 : decode cX9_noteOf 6 = .ok (.iload_n 1, 1) := by decide +kernel
theorem dX9_noteOf_7 : decode cX9_noteOf 7 = .ok (.iadd, 1) := by decide +kernel
theorem dX9_noteOf_8 : decode cX9_noteOf 8 = .ok (.iaload, 1) := by decide +kernel
theorem dX9_noteOf_9 : decode cX9_noteOf 9 = .ok (.ireturn, 1) := by decide +kernel
set_option maxRecDepth 20000 in
theorem ggX9_cost_X9_costBy : GoodIn wsX9_cost wsX9_costBy := goodIn_r _ [5, 6, 7, 4, 8, 9, 10, 11, 12, 13, 14, 15, 16, 17, 18, 19, 20] (by decide +kernel) (by decide +kernel)
set_option maxRecDepth 20000 in
theorem gX9_cost_X9_costBy : GoodIn wsX9_cost (va_wsS RX9 110 yX9_costBy wsX9_costBy) := goodIn_app (goodIn_of _ (by decide +kernel)) ggX9_cost_X9_costBy
theorem dX9_cost_0 : decode cX9_cost 0 = .ok (.aload_n 0, 1) := by decide +kernel
theorem dX9_cost_1 : decode cX9_cost 1 = .ok (.getfield 7, 3) := by decide +kernel
theorem dX9_cost_4 : decode cX9_cost 4 = .ok (.iload_n 1, 1) := by decide +kernel
theorem dX9_cost_5 : decode cX9_cost 5 = .ok (.iload_n 2, 1) := by decide +kernel
theorem dX9_cost_6 : decode cX9_cost 6 = .ok (.invokestatic 110, 3) := by decide +kernel
theorem dX9_cost_9 : decode cX9_cost 9 = .ok (.ireturn, 1) := by decide +kernel
theorem dX9_keep_0 : decode cX9_keep 0 = .ok (.aload_n 0, 1) := by decide +kernel
theorem dX9_keep_1 : decode cX9_keep 1 = .ok (.getfield 7, 3) := by decide +kernel
theorem dX9_keep_4 : decode cX9_keep 4 = .ok (.iconst 3, 1) := by decide +kernel
theorem dX9_keep_5 : decode cX9_keep 5 = .ok (.iaload, 1) := by decide +kernel
theorem dX9_keep_6 : decode cX9_keep 6 = .ok (.bipush 8, 2) := by decide +kernel
theorem dX9_keep_8 : decode cX9_keep 8 = .ok (.if_icmp .ne 43, 3) := by decide +kernel
theorem dX9_keep_11 : decode cX9_keep 11 = .ok (.iconst 0, 1) := by decide +kernel
theorem dX9_keep_12 : decode cX9_keep 12 = .ok (.istore_n 1, 1) := by decide +kernel
theorem dX9_keep_13 : decode cX9_keep 13 = .ok (.iload_n 1, 1) := by decide +kernel
theorem dX9_keep_14 : decode cX9_keep 14 = .ok (.bipush 77, 2) := by decide +kernel
theorem dX9_keep_16 : decode cX9_keep 16 = .ok (.if_icmp .ge 27, 3) := by decide +kernel
theorem dX9_keep_19 : decode cX9_keep 19 = .ok (.aload_n 0, 1) := by decide +kernel
theorem dX9_keep_20 : decode cX9_keep 20 = .ok (.getfield 7, 3) := by decide +kernel
theorem dX9_keep_23 : decode cX9_keep 23 = .ok (.bipush 75, 2) := by decide +kernel
theorem dX9_keep_25 : decode cX9_keep 25 = .ok (.iload_n 1, 1) := by decide +kernel
theorem dX9_keep_26 : decode cX9_keep 26 = .ok (.iadd, 1) := by decide +kernel
theorem dX9_keep_27 : decode cX9_keep 27 = .ok (.aload_n 0, 1) := by decide +kernel
theorem dX9_keep_28 : decode cX9_keep 28 = .ok (.getfield 7, 3) := by decide +kernel
theorem dX9_keep_31 : decode cX9_keep 31 = .ok (.bipush 86, 2) := by decide +kernel
theorem dX9_keep_33 : decode cX9_keep 33 = .ok (.iload_n 1, 1) := by decide +kernel
theorem dX9_keep_34 : decode cX9_keep 34 = .ok (.iadd, 1) := by decide +kernel
theorem dX9_keep_35 : decode cX9_keep 35 = .ok (.iaload, 1) := by decide +kernel
theorem dX9_keep_36 : decode cX9_keep 36 = .ok (.iastore, 1) := by decide +kernel
theorem dX9_keep_37 : decode cX9_keep 37 = .ok (.iinc 1 1, 3) := by decide +kernel
theorem dX9_keep_40 : decode cX9_keep 40 = .ok (.goto (-27), 3) := by decide +kernel
theorem dX9_keep_43 : decode cX9_keep 43 = .ok (.aload_n 0, 1) := by decide +kernel
theorem dX9_keep_44 : decode cX9_keep 44 = .ok (.getfield 7, 3) := by decide +kernel
theorem dX9_keep_47 : decode cX9_keep 47 = .ok (.iconst 3, 1) := by decide +kernel
theorem dX9_keep_48 : decode cX9_keep 48 = .ok (.bipush 7, 2) := by decide +kernel
theorem dX9_keep_50 : decode cX9_keep 50 = .ok (.iastore, 1) := by decide +kernel
theorem dX9_keep_51 : decode cX9_keep 51 = .ok (.iconst 0, 1) := by decide +kernel
theorem dX9_keep_52 : decode cX9_keep 52 = .ok (.istore_n 1, 1) := by decide +kernel
theorem dX9_keep_53 : decode cX9_keep 53 = .ok (.iload_n 1, 1) := by decide +kernel
theorem dX9_keep_54 : decode cX9_keep 54 = .ok (.bipush 11, 2) := by decide +kernel
theorem dX9_keep_56 : decode cX9_keep 56 = .ok (.if_icmp .ge 36, 3) := by decide +kernel
theorem dX9_keep_59 : decode cX9_keep 59 = .ok (.aload_n 0, 1) := by decide +kernel
theorem dX9_keep_60 : decode cX9_keep 60 = .ok (.getfield 7, 3) := by decide +kernel
theorem dX9_keep_63 : decode cX9_keep 63 = .ok (.bipush 75, 2) := by decide +kernel
theorem dX9_keep_65 : decode cX9_keep 65 = .ok (.bipush 11, 2) := by decide +kernel
theorem dX9_keep_67 : decode cX9_keep 67 = .ok (.aload_n 0, 1) := by decide +kernel
theorem dX9_keep_68 : decode cX9_keep 68 = .ok (.getfield 7, 3) := by decide +kernel
theorem dX9_keep_71 : decode cX9_keep 71 = .ok (.iconst 3, 1) := by decide +kernel
theorem dX9_keep_72 : decode cX9_keep 72 = .ok (.iaload, 1) := by decide +kernel
theorem dX9_keep_73 : decode cX9_keep 73 = .ok (.imul, 1) := by decide +kernel
theorem dX9_keep_74 : decode cX9_keep 74 = .ok (.iadd, 1) := by decide +kernel
theorem dX9_keep_75 : decode cX9_keep 75 = .ok (.iload_n 1, 1) := by decide +kernel
theorem dX9_keep_76 : decode cX9_keep 76 = .ok (.iadd, 1) := by decide +kernel
theorem dX9_keep_77 : decode cX9_keep 77 = .ok (.aload_n 0, 1) := by decide +kernel
theorem dX9_keep_78 : decode cX9_keep 78 = .ok (.getfield 7, 3) := by decide +kernel
theorem dX9_keep_81 : decode cX9_keep 81 = .ok (.iconst 4, 1) := by decide +kernel
theorem dX9_keep_82 : decode cX9_keep 82 = .ok (.iload_n 1, 1) := by decide +kernel
theorem dX9_keep_83 : decode cX9_keep 83 = .ok (.iadd, 1) := by decide +kernel
theorem dX9_keep_84 : decode cX9_keep 84 = .ok (.iaload, 1) := by decide +kernel
theorem dX9_keep_85 : decode cX9_keep 85 = .ok (.iastore, 1) := by decide +kernel
theorem dX9_keep_86 : decode cX9_keep 86 = .ok (.iinc 1 1, 3) := by decide +kernel
theorem dX9_keep_89 : decode cX9_keep 89 = .ok (.goto (-36), 3) := by decide +kernel
theorem dX9_keep_92 : decode cX9_keep 92 = .ok (.aload_n 0, 1) := by decide +kernel
theorem dX9_keep_93 : decode cX9_keep 93 = .ok (.getfield 7, 3) := by decide +kernel
theorem dX9_keep_96 : decode cX9_keep 96 = .ok (.iconst 3, 1) := by decide +kernel
theorem dX9_keep_97 : decode cX9_keep 97 = .ok (.dup2, 1) := by decide +kernel
theorem dX9_keep_98 : decode cX9_keep 98 = .ok (.iaload, 1) := by decide +kernel
theorem dX9_keep_99 : decode cX9_keep 99 = .ok (.iconst 1, 1) := by decide +kernel
theorem dX9_keep_100 : decode cX9_keep 100 = .ok (.iadd, 1) := by decide +kernel
theorem dX9_keep_101 : decode cX9_keep 101 = .ok (.iastore, 1) := by decide +kernel
theorem dX9_keep_102 : decode cX9_keep 102 = .ok (.return_, 1) := by decide +kernel
set_option maxRecDepth 20000 in
theorem ggX9_goDrive_X9_costBy : GoodIn wsX9_goDrive wsX9_costBy := goodIn_r _ [4, 5, 6, 3, 7, 8, 9, 10, 11, 12, 13, 14, 15, 16, 17, 18, 19] (by decide +kernel) (by decide +kernel)
set_option maxRecDepth 20000 in
theorem gX9_goDrive_X9_costBy : GoodIn wsX9_goDrive (va_wsS RX9 110 yX9_costBy wsX9_costBy) := goodIn_app (goodIn_of _ (by decide +kernel)) ggX9_goDrive_X9_costBy
theorem dX9_goDrive_0 : decode cX9_goDrive 0 = .ok (.iconst 0, 1) := by decide +kernel
theorem dX9_goDrive_1 : decode cX9_goDrive 1 = .ok (.istore_n 2, 1) := by decide +kernel
theorem dX9_goDrive_2 : decode cX9_goDrive 2 = .ok (.iconst 0, 1) := by decide +kernel
theorem dX9_goDrive_3 : decode cX9_goDrive 3 = .ok (.istore_n 3, 1) := by decide +kernel
theorem dX9_goDrive_4 : decode cX9_goDrive 4 = .ok (.iload_n 3, 1) := by decide +kernel
theorem dX9_goDrive_5 : decode cX9_goDrive 5 = .ok (.iload_n 1, 1) := by decide +kernel
theorem dX9_goDrive_6 : decode cX9_goDrive 6 = .ok (.if_icmp .ge 68, 3) := by decide +kernel
theorem dX9_goDrive_9 : decode cX9_goDrive 9 = .ok (.aload_n 0, 1) := by decide +kernel
theorem dX9_goDrive_10 : decode cX9_goDrive 10 = .ok (.iconst 4, 1) := by decide +kernel
theorem dX9_goDrive_11 : decode cX9_goDrive 11 = .ok (.iaload, 1) := by decide +kernel
theorem dX9_goDrive_12 : decode cX9_goDrive 12 = .ok (.istore 4, 2) := by decide +kernel
theorem dX9_goDrive_14 : decode cX9_goDrive 14 = .ok (.aload_n 0, 1) := by decide +kernel
theorem dX9_goDrive_15 : decode cX9_goDrive 15 = .ok (.iload 4, 2) := by decide +kernel
theorem dX9_goDrive_17 : decode cX9_goDrive 17 = .ok (.aload_n 0, 1) := by decide +kernel
theorem dX9_goDrive_18 : decode cX9_goDrive 18 = .ok (.bipush 7, 2) := by decide +kernel
theorem dX9_goDrive_20 : decode cX9_goDrive 20 = .ok (.iload 4, 2) := by decide +kernel
theorem dX9_goDrive_22 : decode cX9_goDrive 22 = .ok (.iadd, 1) := by decide +kernel
theorem dX9_goDrive_23 : decode cX9_goDrive 23 = .ok (.iaload, 1) := by decide +kernel
theorem dX9_goDrive_24 : decode cX9_goDrive 24 = .ok (.invokestatic 110, 3) := by decide +kernel
theorem dX9_goDrive_27 : decode cX9_goDrive 27 = .ok (.istore 5, 2) := by decide +kernel
theorem dX9_goDrive_29 : decode cX9_goDrive 29 = .ok (.iload_n 2, 1) := by decide +kernel
theorem dX9_goDrive_30 : decode cX9_goDrive 30 = .ok (.aload_n 0, 1) := by decide +kernel
theorem dX9_goDrive_31 : decode cX9_goDrive 31 = .ok (.bipush 18, 2) := by decide +kernel
theorem dX9_goDrive_33 : decode cX9_goDrive 33 = .ok (.iload 4, 2) := by decide +kernel
theorem dX9_goDrive_35 : decode cX9_goDrive 35 = .ok (.iadd, 1) := by decide +kernel
theorem dX9_goDrive_36 : decode cX9_goDrive 36 = .ok (.iaload, 1) := by decide +kernel
theorem dX9_goDrive_37 : decode cX9_goDrive 37 = .ok (.iload 5, 2) := by decide +kernel
theorem dX9_goDrive_39 : decode cX9_goDrive 39 = .ok (.iadd, 1) := by decide +kernel
theorem dX9_goDrive_40 : decode cX9_goDrive 40 = .ok (.iadd, 1) := by decide +kernel
theorem dX9_goDrive_41 : decode cX9_goDrive 41 = .ok (.istore_n 2, 1) := by decide +kernel
theorem dX9_goDrive_42 : decode cX9_goDrive 42 = .ok (.aload_n 0, 1) := by decide +kernel
theorem dX9_goDrive_43 : decode cX9_goDrive 43 = .ok (.bipush 6, 2) := by decide +kernel
theorem dX9_goDrive_45 : decode cX9_goDrive 45 = .ok (.dup2, 1) := by decide +kernel
theorem dX9_goDrive_46 : decode cX9_goDrive 46 = .ok (.iaload, 1) := by decide +kernel
theorem dX9_goDrive_47 : decode cX9_goDrive 47 = .ok (.iload 5, 2) := by decide +kernel
theorem dX9_goDrive_49 : decode cX9_goDrive 49 = .ok (.bipush 60, 2) := by decide +kernel
theorem dX9_goDrive_51 : decode cX9_goDrive 51 = .ok (.if_icmp .ne 7, 3) := by decide +kernel
theorem dX9_goDrive_54 : decode cX9_goDrive 54 = .ok (.iconst 1, 1) := by decide +kernel
theorem dX9_goDrive_55 : decode cX9_goDrive 55 = .ok (.goto 4, 3) := by decide +kernel
theorem dX9_goDrive_58 : decode cX9_goDrive 58 = .ok (.iconst 0, 1) := by decide +kernel
theorem dX9_goDrive_59 : decode cX9_goDrive 59 = .ok (.iadd, 1) := by decide +kernel
theorem dX9_goDrive_60 : decode cX9_goDrive 60 = .ok (.iastore, 1) := by decide +kernel
theorem dX9_goDrive_61 : decode cX9_goDrive 61 = .ok (.aload_n 0, 1) := by decide +kernel
theorem dX9_goDrive_62 : decode cX9_goDrive 62 = .ok (.iconst 4, 1) := by decide +kernel
theorem dX9_goDrive_63 : decode cX9_goDrive 63 = .ok (.dup2, 1) := by decide +kernel
theorem dX9_goDrive_64 : decode cX9_goDrive 64 = .ok (.iaload, 1) := by decide +kernel
theorem dX9_goDrive_65 : decode cX9_goDrive 65 = .ok (.iconst 1, 1) := by decide +kernel
theorem dX9_goDrive_66 : decode cX9_goDrive 66 = .ok (.iadd, 1) := by decide +kernel
theorem dX9_goDrive_67 : decode cX9_goDrive 67 = .ok (.iastore, 1) := by decide +kernel
theorem dX9_goDrive_68 : decode cX9_goDrive 68 = .ok (.iinc 3 1, 3) := by decide +kernel
theorem dX9_goDrive_71 : decode cX9_goDrive 71 = .ok (.goto (-67), 3) := by decide +kernel
theorem dX9_goDrive_74 : decode cX9_goDrive 74 = .ok (.aload_n 0, 1) := by decide +kernel
theorem dX9_goDrive_75 : decode cX9_goDrive 75 = .ok (.iconst 5, 1) := by decide +kernel
theorem dX9_goDrive_76 : decode cX9_goDrive 76 = .ok (.dup2, 1) := by decide +kernel
theorem dX9_goDrive_77 : decode cX9_goDrive 77 = .ok (.iaload, 1) := by decide +kernel
theorem dX9_goDrive_78 : decode cX9_goDrive 78 = .ok (.iload_n 2, 1) := by decide +kernel
theorem dX9_goDrive_79 : decode cX9_goDrive 79 = .ok (.iadd, 1) := by decide +kernel
theorem dX9_goDrive_80 : decode cX9_goDrive 80 = .ok (.iastore, 1) := by decide +kernel
theorem dX9_goDrive_81 : decode cX9_goDrive 81 = .ok (.iload_n 2, 1) := by decide +kernel
theorem dX9_goDrive_82 : decode cX9_goDrive 82 = .ok (.ireturn, 1) := by decide +kernel
set_option maxRecDepth 20000 in
theorem ggX9_drive_X9_in : GoodIn wsX9_drive wsX9_in := goodIn_r _ [6] (by decide +kernel) (by decide +kernel)
set_option maxRecDepth 20000 in
theorem gX9_drive_X9_in : GoodIn wsX9_drive (va_wsS RX9 56 yX9_in wsX9_in) := goodIn_app (goodIn_of _ (by decide +kernel)) ggX9_drive_X9_in
set_option maxRecDepth 20000 in
theorem ggX9_drive_X9_bad : GoodIn wsX9_drive wsX9_bad := goodIn_r _ [10, 11, 45, 46, 47, 48, 49, 50, 51, 52, 53, 54, 55, 56, 57, 58, 59, 60, 61, 62] (by decide +kernel) (by decide +kernel)
set_option maxRecDepth 20000 in
theorem gX9_drive_X9_bad : GoodIn wsX9_drive (wsV RX9 73 RX9 yX9_bad wsX9_bad) := goodIn_app (goodIn_of _ (by decide +kernel)) ggX9_drive_X9_bad
set_option maxRecDepth 20000 in
theorem ggX9_drive_X9_many : GoodIn wsX9_drive wsX9_many := goodIn_r _ [15, 2, 45, 46, 47, 48, 49, 50, 51, 52, 53, 54, 55, 56, 57, 58, 59, 60, 61, 62] (by decide +kernel) (by decide +kernel)
set_option maxRecDepth 20000 in
theorem gX9_drive_X9_many : GoodIn wsX9_drive (wsV RX9 52 RX9 yX9_many wsX9_many) := goodIn_app (goodIn_of _ (by decide +kernel)) ggX9_drive_X9_many
set_option maxRecDepth 20000 in
theorem ggX9_drive_X9_no : GoodIn wsX9_drive wsX9_no := goodIn_r _ [19, 11, 45, 46, 47, 48, 49, 50, 51, 52, 53, 54, 55, 56, 57, 58, 59, 60, 61, 62] (by decide +kernel) (by decide +kernel)
set_option maxRecDepth 20000 in
theorem gX9_drive_X9_no : GoodIn wsX9_drive (wsV RX9 115 RX9 yX9_no wsX9_no) := goodIn_app (goodIn_of _ (by decide +kernel)) ggX9_drive_X9_no
set_option maxRecDepth 20000 in
theorem ggX9_drive_X9_keep : GoodIn wsX9_drive wsX9_keep := goodIn_r _ [23, 2, 45, 46, 47, 48, 49, 50, 51, 52, 53, 54, 55, 56, 57, 58, 59, 60, 61, 62] (by decide +kernel) (by decide +kernel)
set_option maxRecDepth 20000 in
theorem gX9_drive_X9_keep : GoodIn wsX9_drive (wsV RX9 118 RX9 yX9_keep wsX9_keep) := goodIn_app (goodIn_of _ (by decide +kernel)) ggX9_drive_X9_keep
set_option maxRecDepth 20000 in
theorem ggX9_drive_X9_goDrive : GoodIn wsX9_drive wsX9_goDrive := goodIn_r _ [26, 27, 28, 5, 29, 30, 31, 32, 33, 34, 35, 36, 37, 38, 39, 40, 41, 42, 43, 44] (by decide +kernel) (by decide +kernel)
set_option maxRecDepth 20000 in
theorem gX9_drive_X9_goDrive : GoodIn wsX9_drive (va_wsS RX9 121 yX9_goDrive wsX9_goDrive) := goodIn_app (goodIn_of _ (by decide +kernel)) ggX9_drive_X9_goDrive
theorem dX9_drive_0 : decode cX9_drive 0 = .ok (.iload_n 1, 1) := by decide +kernel
theorem dX9_drive_1 : decode cX9_drive 1 = .ok (.i2l, 1) := by decide +kernel
theorem dX9_drive_2 : decode cX9_drive 2 = .ok (.lconst 1, 1) := by decide +kernel
theorem dX9_drive_3 : decode cX9_drive 3 = .ok (.ldc2_w 113, 3) := by decide +kernel
theorem dX9_drive_6 : decode cX9_drive 6 = .ok (.invokestatic 56, 3) := by decide +kernel
theorem dX9_drive_9 : decode cX9_drive 9 = .ok (.ifCond .ne 10, 3) := by decide +kernel
theorem dX9_drive_12 : decode cX9_drive 12 = .ok (.aload_n 0, 1) := by decide +kernel
theorem dX9_drive_13 : decode cX9_drive 13 = .ok (.bipush (-2), 2) := by decide +kernel
theorem dX9_drive_15 : decode cX9_drive 15 = .ok (.invokevirtual 73, 3) := by decide +kernel
theorem dX9_drive_18 : decode cX9_drive 18 = .ok (.ireturn, 1) := by decide +kernel
theorem dX9_drive_19 : decode cX9_drive 19 = .ok (.aload_n 0, 1) := by decide +kernel
theorem dX9_drive_20 : decode cX9_drive 20 = .ok (.getfield 7, 3) := by decide +kernel
theorem dX9_drive_23 : decode cX9_drive 23 = .ok (.iconst 4, 1) := by decide +kernel
theorem dX9_drive_24 : decode cX9_drive 24 = .ok (.iaload, 1) := by decide +kernel
theorem dX9_drive_25 : decode cX9_drive 25 = .ok (.iload_n 1, 1) := by decide +kernel
theorem dX9_drive_26 : decode cX9_drive 26 = .ok (.iadd, 1) := by decide +kernel
theorem dX9_drive_27 : decode cX9_drive 27 = .ok (.aload_n 0, 1) := by decide +kernel
theorem dX9_drive_28 : decode cX9_drive 28 = .ok (.invokevirtual 52, 3) := by decide +kernel
theorem dX9_drive_31 : decode cX9_drive 31 = .ok (.if_icmp .le 8, 3) := by decide +kernel
theorem dX9_drive_34 : decode cX9_drive 34 = .ok (.aload_n 0, 1) := by decide +kernel
theorem dX9_drive_35 : decode cX9_drive 35 = .ok (.invokevirtual 115, 3) := by decide +kernel
theorem dX9_drive_38 : decode cX9_drive 38 = .ok (.ireturn, 1) := by decide +kernel
theorem dX9_drive_39 : decode cX9_drive 39 = .ok (.aload_n 0, 1) := by decide +kernel
theorem dX9_drive_40 : decode cX9_drive 40 = .ok (.invokevirtual 118, 3) := by decide +kernel
theorem dX9_drive_43 : decode cX9_drive 43 = .ok (.aload_n 0, 1) := by decide +kernel
theorem dX9_drive_44 : decode cX9_drive 44 = .ok (.getfield 7, 3) := by decide +kernel
theorem dX9_drive_47 : decode cX9_drive 47 = .ok (.iload_n 1, 1) := by decide +kernel
theorem dX9_drive_48 : decode cX9_drive 48 = .ok (.invokestatic 121, 3) := by decide +kernel
theorem dX9_drive_51 : decode cX9_drive 51 = .ok (.ireturn, 1) := by decide +kernel
set_option maxRecDepth 20000 in
theorem ggX9_write_X9_isBend : GoodIn wsX9_write wsX9_isBend := goodIn_r _ [6, 7, 8, 9, 5, 10, 1, 11, 12, 13, 31, 32, 33, 34, 35, 36, 37, 38, 39, 40, 41, 42, 43, 44, 45, 46, 47, 48] (by decide +kernel) (by decide +kernel)
set_option maxRecDepth 20000 in
theorem gX9_write_X9_isBend : GoodIn wsX9_write (wsV RX9 87 RX9 yX9_isBend wsX9_isBend) := goodIn_app (goodIn_of _ (by decide +kernel)) ggX9_write_X9_isBend
set_option maxRecDepth 20000 in
theorem ggX9_write_X9_isNote : GoodIn wsX9_write wsX9_isNote := goodIn_r _ [16, 17, 11, 12, 5, 13] (by decide +kernel) (by decide +kernel)
set_option maxRecDepth 20000 in
theorem gX9_write_X9_isNote : GoodIn wsX9_write (va_wsS RX9 77 yX9_isNote wsX9_isNote) := goodIn_app (goodIn_of _ (by decide +kernel)) ggX9_write_X9_isNote
set_option maxRecDepth 20000 in
theorem ggX9_write_X9_bad : GoodIn wsX9_write wsX9_bad := goodIn_r _ [21, 22, 31, 32, 33, 34, 35, 36, 37, 38, 39, 40, 41, 42, 43, 44, 45, 46, 47, 48] (by decide +kernel) (by decide +kernel)
set_option maxRecDepth 20000 in
theorem gX9_write_X9_bad : GoodIn wsX9_write (wsV RX9 73 RX9 yX9_bad wsX9_bad) := goodIn_app (goodIn_of _ (by decide +kernel)) ggX9_write_X9_bad
set_option maxRecDepth 20000 in
theorem ggX9_write_X9_noteOf : GoodIn wsX9_write wsX9_noteOf := goodIn_r _ [26, 1, 31, 32, 33, 34, 35, 36, 37, 38, 39, 40, 41, 42, 43, 44, 45, 46, 47, 48] (by decide +kernel) (by decide +kernel)
set_option maxRecDepth 20000 in
theorem gX9_write_X9_noteOf : GoodIn wsX9_write (wsV RX9 124 RX9 yX9_noteOf wsX9_noteOf) := goodIn_app (goodIn_of _ (by decide +kernel)) ggX9_write_X9_noteOf
set_option maxRecDepth 20000 in
theorem ggX9_write_X9_keep : GoodIn wsX9_write wsX9_keep := goodIn_r _ [30, 1, 31, 32, 33, 34, 35, 36, 37, 38, 39, 40, 41, 42, 43, 44, 45, 46, 47, 48] (by decide +kernel) (by decide +kernel)
set_option maxRecDepth 20000 in
theorem gX9_write_X9_keep : GoodIn wsX9_write (wsV RX9 118 RX9 yX9_keep wsX9_keep) := goodIn_app (goodIn_of _ (by decide +kernel)) ggX9_write_X9_keep
theorem dX9_write_0 : decode cX9_write 0 = .ok (.aload_n 0, 1) := by decide +kernel
theorem dX9_write_1 : decode cX9_write 1 = .ok (.iload_n 1, 1) := by decide +kernel
theorem dX9_write_2 : decode cX9_write 2 = .ok (.invokevirtual 87, 3) := by decide +kernel
theorem dX9_write_5 : decode cX9_write 5 = .ok (.ifCond .eq 10, 3) := by decide +kernel
theorem dX9_write_8 : decode cX9_write 8 = .ok (.iload_n 2, 1) := by decide +kernel
theorem dX9_write_9 : decode cX9_write 9 = .ok (.invokestatic 77, 3) := by decide +kernel
theorem dX9_write_12 : decode cX9_write 12 = .ok (.ifCond .ne 10, 3) := by decide +kernel
theorem dX9_write_15 : decode cX9_write 15 = .ok (.aload_n 0, 1) := by decide +kernel
theorem dX9_write_16 : decode cX9_write 16 = .ok (.bipush (-2), 2) := by decide +kernel
theorem dX9_write_18 : decode cX9_write 18 = .ok (.invokevirtual 73, 3) := by decide +kernel
theorem dX9_write_21 : decode cX9_write 21 = .ok (.ireturn, 1) := by decide +kernel
theorem dX9_write_22 : decode cX9_write 22 = .ok (.aload_n 0, 1) := by decide +kernel
theorem dX9_write_23 : decode cX9_write 23 = .ok (.iload_n 1, 1) := by decide +kernel
theorem dX9_write_24 : decode cX9_write 24 = .ok (.invokevirtual 124, 3) := by decide +kernel
theorem dX9_write_27 : decode cX9_write 27 = .ok (.istore_n 3, 1) := by decide +kernel
theorem dX9_write_28 : decode cX9_write 28 = .ok (.aload_n 0, 1) := by decide +kernel
theorem dX9_write_29 : decode cX9_write 29 = .ok (.invokevirtual 118, 3) := by decide +kernel
theorem dX9_write_32 : decode cX9_write 32 = .ok (.aload_n 0, 1) := by decide +kernel
theorem dX9_write_33 : decode cX9_write 33 = .ok (.getfield 7, 3) := by decide +kernel
theorem dX9_write_36 : decode cX9_write 36 = .ok (.bipush 7, 2) := by decide +kernel
theorem dX9_write_38 : decode cX9_write 38 = .ok (.iload_n 1, 1) := by decide +kernel
theorem dX9_write_39 : decode cX9_write 39 = .ok (.iadd, 1) := by decide +kernel
theorem dX9_write_40 : decode cX9_write 40 = .ok (.iload_n 2, 1) := by decide +kernel
theorem dX9_write_41 : decode cX9_write 41 = .ok (.iastore, 1) := by decide +kernel
theorem dX9_write_42 : decode cX9_write 42 = .ok (.iload_n 3, 1) := by decide +kernel
theorem dX9_write_43 : decode cX9_write 43 = .ok (.ireturn, 1) := by decide +kernel
set_option maxRecDepth 20000 in
theorem ggX9_undo_X9_no : GoodIn wsX9_undo wsX9_no := goodIn_r _ [6, 7, 8, 9, 10, 11, 12, 13, 14, 15, 16, 17, 18, 19, 20, 21, 22, 23, 24, 25] (by decide +kernel) (by decide +kernel)
set_option maxRecDepth 20000 in
theorem gX9_undo_X9_no : GoodIn wsX9_undo (wsV RX9 115 RX9 yX9_no wsX9_no) := goodIn_app (goodIn_of _ (by decide +kernel)) ggX9_undo_X9_no
theorem dX9_undo_0 : decode cX9_undo 0 = .ok (.aload_n 0, 1) := by decide +kernel
theorem dX9_undo_1 : decode cX9_undo 1 = .ok (.getfield 7, 3) := by decide +kernel
theorem dX9_undo_4 : decode cX9_undo 4 = .ok (.iconst 3, 1) := by decide +kernel
theorem dX9_undo_5 : decode cX9_undo 5 = .ok (.iaload, 1) := by decide +kernel
theorem dX9_undo_6 : decode cX9_undo 6 = .ok (.ifCond .ne 8, 3) := by decide +kernel
theorem dX9_undo_9 : decode cX9_undo 9 = .ok (.aload_n 0, 1) := by decide +kernel
theorem dX9_undo_10 : decode cX9_undo 10 = .ok (.invokevirtual 115, 3) := by decide +kernel
theorem dX9_undo_13 : decode cX9_undo 13 = .ok (.ireturn, 1) := by decide +kernel
theorem dX9_undo_14 : decode cX9_undo 14 = .ok (.aload_n 0, 1) := by decide +kernel
theorem dX9_undo_15 : decode cX9_undo 15 = .ok (.getfield 7, 3) := by decide +kernel
theorem dX9_undo_18 : decode cX9_undo 18 = .ok (.iconst 3, 1) := by decide +kernel
theorem dX9_undo_19 : decode cX9_undo 19 = .ok (.dup2, 1) := by decide +kernel
theorem dX9_undo_20 : decode cX9_undo 20 = .ok (.iaload, 1) := by decide +kernel
theorem dX9_undo_21 : decode cX9_undo 21 = .ok (.iconst 1, 1) := by decide +kernel
theorem dX9_undo_22 : decode cX9_undo 22 = .ok (.isub, 1) := by decide +kernel
theorem dX9_undo_23 : decode cX9_undo 23 = .ok (.iastore, 1) := by decide +kernel
theorem dX9_undo_24 : decode cX9_undo 24 = .ok (.iconst 0, 1) := by decide +kernel
theorem dX9_undo_25 : decode cX9_undo 25 = .ok (.istore_n 1, 1) := by decide +kernel
theorem dX9_undo_26 : decode cX9_undo 26 = .ok (.iload_n 1, 1) := by decide +kernel
theorem dX9_undo_27 : decode cX9_undo 27 = .ok (.bipush 11, 2) := by decide +kernel
theorem dX9_undo_29 : decode cX9_undo 29 = .ok (.if_icmp .ge 36, 3) := by decide +kernel
theorem dX9_undo_32 : decode cX9_undo 32 = .ok (.aload_n 0, 1) := by decide +kernel
theorem dX9_undo_33 : decode cX9_undo 33 = .ok (.getfield 7, 3) := by decide +kernel
theorem dX9_undo_36 : decode cX9_undo 36 = .ok (.iconst 4, 1) := by decide +kernel
theorem dX9_undo_37 : decode cX9_undo 37 = .ok (.iload_n 1, 1) := by decide +kernel
theorem dX9_undo_38 : decode cX9_undo 38 = .ok (.iadd, 1) := by decide +kernel
theorem dX9_undo_39 : decode cX9_undo 39 = .ok (.aload_n 0, 1) := by decide +kernel
theorem dX9_undo_40 : decode cX9_undo 40 = .ok (.getfield 7, 3) := by decide +kernel
theorem dX9_undo_43 : decode cX9_undo 43 = .ok (.bipush 75, 2) := by decide +kernel
theorem dX9_undo_45 : decode cX9_undo 45 = .ok (.bipush 11, 2) := by decide +kernel
theorem dX9_undo_47 : decode cX9_undo 47 = .ok (.aload_n 0, 1) := by decide +kernel
theorem dX9_undo_48 : decode cX9_undo 48 = .ok (.getfield 7, 3) := by decide +kernel
theorem dX9_undo_51 : decode cX9_undo 51 = .ok (.iconst 3, 1) := by decide +kernel
theorem dX9_undo_52 : decode cX9_undo 52 = .ok (.iaload, 1) := by decide +kernel
theorem dX9_undo_53 : decode cX9_undo 53 = .ok (.imul, 1) := by decide +kernel
theorem dX9_undo_54 : decode cX9_undo 54 = .ok (.iadd, 1) := by decide +kernel
theorem dX9_undo_55 : decode cX9_undo 55 = .ok (.iload_n 1, 1) := by decide +kernel
theorem dX9_undo_56 : decode cX9_undo 56 = .ok (.iadd, 1) := by decide +kernel
theorem dX9_undo_57 : decode cX9_undo 57 = .ok (.iaload, 1) := by decide +kernel
theorem dX9_undo_58 : decode cX9_undo 58 = .ok (.iastore, 1) := by decide +kernel
theorem dX9_undo_59 : decode cX9_undo 59 = .ok (.iinc 1 1, 3) := by decide +kernel
theorem dX9_undo_62 : decode cX9_undo 62 = .ok (.goto (-36), 3) := by decide +kernel
theorem dX9_undo_65 : decode cX9_undo 65 = .ok (.aload_n 0, 1) := by decide +kernel
theorem dX9_undo_66 : decode cX9_undo 66 = .ok (.getfield 7, 3) := by decide +kernel
theorem dX9_undo_69 : decode cX9_undo 69 = .ok (.iconst 4, 1) := by decide +kernel
theorem dX9_undo_70 : decode cX9_undo 70 = .ok (.iaload, 1) := by decide +kernel
theorem dX9_undo_71 : decode cX9_undo 71 = .ok (.ireturn, 1) := by decide +kernel
set_option maxRecDepth 20000 in
theorem ggX9_of_X9_isBend : GoodIn wsX9_of wsX9_isBend := goodIn_r _ [7, 8, 9, 10, 6, 11, 2, 12, 13, 14, 27, 28, 29, 30, 31, 32, 33, 34, 35, 36, 37, 38, 39, 40, 41, 42, 43, 44] (by decide +kernel) (by decide +kernel)
set_option maxRecDepth 20000 in
theorem gX9_of_X9_isBend : GoodIn wsX9_of (wsV RX9 87 RX9 yX9_isBend wsX9_isBend) := goodIn_app (goodIn_of _ (by decide +kernel)) ggX9_of_X9_isBend
set_option maxRecDepth 20000 in
theorem ggX9_of_X9_in : GoodIn wsX9_of wsX9_in := goodIn_r _ [14] (by decide +kernel) (by decide +kernel)
set_option maxRecDepth 20000 in
theorem gX9_of_X9_in : GoodIn wsX9_of (va_wsS RX9 56 yX9_in wsX9_in) := goodIn_app (goodIn_of _ (by decide +kernel)) ggX9_of_X9_in
set_option maxRecDepth 20000 in
theorem ggX9_of_X9_bad : GoodIn wsX9_of wsX9_bad := goodIn_r _ [18, 19, 27, 28, 29, 30, 31, 32, 33, 34, 35, 36, 37, 38, 39, 40, 41, 42, 43, 44] (by decide +kernel) (by decide +kernel)
set_option maxRecDepth 20000 in
theorem gX9_of_X9_bad : GoodIn wsX9_of (wsV RX9 73 RX9 yX9_bad wsX9_bad) := goodIn_app (goodIn_of _ (by decide +kernel)) ggX9_of_X9_bad
set_option maxRecDepth 20000 in
theorem ggX9_of_X9_noteOf : GoodIn wsX9_of wsX9_noteOf := goodIn_r _ [23, 2, 27, 28, 29, 30, 31, 32, 33, 34, 35, 36, 37, 38, 39, 40, 41, 42, 43, 44] (by decide +kernel) (by decide +kernel)
set_option maxRecDepth 20000 in
theorem gX9_of_X9_noteOf : GoodIn wsX9_of (wsV RX9 124 RX9 yX9_noteOf wsX9_noteOf) := goodIn_app (goodIn_of _ (by decide +kernel)) ggX9_of_X9_noteOf
set_option maxRecDepth 20000 in
theorem ggX9_of_X9_holdsOf : GoodIn wsX9_of wsX9_holdsOf := goodIn_r _ [26] (by decide +kernel) (by decide +kernel)
set_option maxRecDepth 20000 in
theorem gX9_of_X9_holdsOf : GoodIn wsX9_of (va_wsS RX9 90 yX9_holdsOf wsX9_holdsOf) := goodIn_app (goodIn_of _ (by decide +kernel)) ggX9_of_X9_holdsOf
theorem dX9_of_0 : decode cX9_of 0 = .ok (.aload_n 0, 1) := by decide +kernel
theorem dX9_of_1 : decode cX9_of 1 = .ok (.iload_n 1, 1) := by decide +kernel
theorem dX9_of_2 : decode cX9_of 2 = .ok (.invokevirtual 87, 3) := by decide +kernel
theorem dX9_of_5 : decode cX9_of 5 = .ok (.ifCond .eq 15, 3) := by decide +kernel
theorem dX9_of_8 : decode cX9_of 8 = .ok (.iload_n 2, 1) := by decide +kernel
theorem dX9_of_9 : decode cX9_of 9 = .ok (.i2l, 1) := by decide +kernel
theorem dX9_of_10 : decode cX9_of 10 = .ok (.lconst 0, 1) := by decide +kernel
theorem dX9_of_11 : decode cX9_of 11 = .ok (.ldc2_w 60, 3) := by decide +kernel
theorem dX9_of_14 : decode cX9_of 14 = .ok (.invokestatic 56, 3) := by decide +kernel
theorem dX9_of_17 : decode cX9_of 17 = .ok (.ifCond .ne 10, 3) := by decide +kernel
theorem dX9_of_20 : decode cX9_of 20 = .ok (.aload_n 0, 1) := by decide +kernel
theorem dX9_of_21 : decode cX9_of 21 = .ok (.bipush (-2), 2) := by decide +kernel
theorem dX9_of_23 : decode cX9_of 23 = .ok (.invokevirtual 73, 3) := by decide +kernel
theorem dX9_of_26 : decode cX9_of 26 = .ok (.ireturn, 1) := by decide +kernel
theorem dX9_of_27 : decode cX9_of 27 = .ok (.iload_n 2, 1) := by decide +kernel
theorem dX9_of_28 : decode cX9_of 28 = .ok (.tableswitch 84 0 4 #[36, 46, 56, 62, 72], 36) := by decide +kernel
theorem dX9_of_64 : decode cX9_of 64 = .ok (.aload_n 0, 1) := by decide +kernel
theorem dX9_of_65 : decode cX9_of 65 = .ok (.getfield 7, 3) := by decide +kernel
theorem dX9_of_68 : decode cX9_of 68 = .ok (.bipush 18, 2) := by decide +kernel
theorem dX9_of_70 : decode cX9_of 70 = .ok (.iload_n 1, 1) := by decide +kernel
theorem dX9_of_71 : decode cX9_of 71 = .ok (.iadd, 1) := by decide +kernel
theorem dX9_of_72 : decode cX9_of 72 = .ok (.iaload, 1) := by decide +kernel
theorem dX9_of_73 : decode cX9_of 73 = .ok (.ireturn, 1) := by decide +kernel
theorem dX9_of_74 : decode cX9_of 74 = .ok (.aload_n 0, 1) := by decide +kernel
theorem dX9_of_75 : decode cX9_of 75 = .ok (.getfield 7, 3) := by decide +kernel
theorem dX9_of_78 : decode cX9_of 78 = .ok (.bipush 26, 2) := by decide +kernel
theorem dX9_of_80 : decode cX9_of 80 = .ok (.iload_n 1, 1) := by decide +kernel
theorem dX9_of_81 : decode cX9_of 81 = .ok (.iadd, 1) := by decide +kernel
theorem dX9_of_82 : decode cX9_of 82 = .ok (.iaload, 1) := by decide +kernel
theorem dX9_of_83 : decode cX9_of 83 = .ok (.ireturn, 1) := by decide +kernel
theorem dX9_of_84 : decode cX9_of 84 = .ok (.aload_n 0, 1) := by decide +kernel
theorem dX9_of_85 : decode cX9_of 85 = .ok (.iload_n 1, 1) := by decide +kernel
theorem dX9_of_86 : decode cX9_of 86 = .ok (.invokevirtual 124, 3) := by decide +kernel
theorem dX9_of_89 : decode cX9_of 89 = .ok (.ireturn, 1) := by decide +kernel
theorem dX9_of_90 : decode cX9_of 90 = .ok (.aload_n 0, 1) := by decide +kernel
theorem dX9_of_91 : decode cX9_of 91 = .ok (.getfield 7, 3) := by decide +kernel
theorem dX9_of_94 : decode cX9_of 94 = .ok (.bipush 34, 2) := by decide +kernel
theorem dX9_of_96 : decode cX9_of 96 = .ok (.iload_n 1, 1) := by decide +kernel
theorem dX9_of_97 : decode cX9_of 97 = .ok (.iadd, 1) := by decide +kernel
theorem dX9_of_98 : decode cX9_of 98 = .ok (.iaload, 1) := by decide +kernel
theorem dX9_of_99 : decode cX9_of 99 = .ok (.ireturn, 1) := by decide +kernel
theorem dX9_of_100 : decode cX9_of 100 = .ok (.aload_n 0, 1) := by decide +kernel
theorem dX9_of_101 : decode cX9_of 101 = .ok (.getfield 7, 3) := by decide +kernel
theorem dX9_of_104 : decode cX9_of 104 = .ok (.bipush 17, 2) := by decide +kernel
theorem dX9_of_106 : decode cX9_of 106 = .ok (.iaload, 1) := by decide +kernel
theorem dX9_of_107 : decode cX9_of 107 = .ok (.iload_n 1, 1) := by decide +kernel
theorem dX9_of_108 : decode cX9_of 108 = .ok (.ishr, 1) := by decide +kernel
theorem dX9_of_109 : decode cX9_of 109 = .ok (.iconst 1, 1) := by decide +kernel
theorem dX9_of_110 : decode cX9_of 110 = .ok (.iand, 1) := by decide +kernel
theorem dX9_of_111 : decode cX9_of 111 = .ok (.ireturn, 1) := by decide +kernel
theorem dX9_of_112 : decode cX9_of 112 = .ok (.aload_n 0, 1) := by decide +kernel
theorem dX9_of_113 : decode cX9_of 113 = .ok (.getfield 7, 3) := by decide +kernel
theorem dX9_of_116 : decode cX9_of 116 = .ok (.iload_n 1, 1) := by decide +kernel
theorem dX9_of_117 : decode cX9_of 117 = .ok (.invokestatic 90, 3) := by decide +kernel
theorem dX9_of_120 : decode cX9_of 120 = .ok (.ireturn, 1) := by decide +kernel
theorem dX9_nowOf_0 : decode cX9_nowOf 0 = .ok (.aload_n 0, 1) := by decide +kernel
theorem dX9_nowOf_1 : decode cX9_nowOf 1 = .ok (.getfield 7, 3) := by decide +kernel
theorem dX9_nowOf_4 : decode cX9_nowOf 4 = .ok (.iload_n 1, 1) := by decide +kernel
theorem dX9_nowOf_5 : decode cX9_nowOf 5 = .ok (.iconst 3, 1) := by decide +kernel
theorem dX9_nowOf_6 : decode cX9_nowOf 6 = .ok (.if_icmp .ge 9, 3) := by decide +kernel
theorem dX9_nowOf_9 : decode cX9_nowOf 9 = .ok (.iconst 4, 1) := by decide +kernel
theorem dX9_nowOf_10 : decode cX9_nowOf 10 = .ok (.iload_n 1, 1) := by decide +kernel
theorem dX9_nowOf_11 : decode cX9_nowOf 11 = .ok (.iadd, 1) := by decide +kernel
theorem dX9_nowOf_12 : decode cX9_nowOf 12 = .ok (.goto 15, 3) := by decide +kernel
theorem dX9_nowOf_15 : decode cX9_nowOf 15 = .ok (.iload_n 1, 1) := by decide +kernel
theorem dX9_nowOf_16 : decode cX9_nowOf 16 = .ok (.iconst 3, 1) := by decide +kernel
theorem dX9_nowOf_17 : decode cX9_nowOf 17 = .ok (.if_icmp .ne 8, 3) := by decide +kernel
theorem dX9_nowOf_20 : decode cX9_nowOf 20 = .ok (.bipush 15, 2) := by decide +kernel
theorem dX9_nowOf_22 : decode cX9_nowOf 22 = .ok (.goto 5, 3) := by decide +kernel
theorem dX9_nowOf_25 : decode cX9_nowOf 25 = .ok (.bipush 16, 2) := by decide +kernel
theorem dX9_nowOf_27 : decode cX9_nowOf 27 = .ok (.iaload, 1) := by decide +kernel
theorem dX9_nowOf_28 : decode cX9_nowOf 28 = .ok (.ireturn, 1) := by decide +kernel
set_option maxRecDepth 20000 in
theorem ggX9_now_X9_in : GoodIn wsX9_now wsX9_in := goodIn_r _ [5] (by decide +kernel) (by decide +kernel)
set_option maxRecDepth 20000 in
theorem gX9_now_X9_in : GoodIn wsX9_now (va_wsS RX9 56 yX9_in wsX9_in) := goodIn_app (goodIn_of _ (by decide +kernel)) ggX9_now_X9_in
set_option maxRecDepth 20000 in
theorem ggX9_now_X9_nowOf : GoodIn wsX9_now wsX9_nowOf := goodIn_r _ [9, 10, 16, 17, 18, 19, 20, 21, 22, 23, 24, 25, 26, 27, 28, 29, 30, 31, 32, 33] (by decide +kernel) (by decide +kernel)
set_option maxRecDepth 20000 in
theorem gX9_now_X9_nowOf : GoodIn wsX9_now (wsV RX9 129 RX9 yX9_nowOf wsX9_nowOf) := goodIn_app (goodIn_of _ (by decide +kernel)) ggX9_now_X9_nowOf
set_option maxRecDepth 20000 in
theorem ggX9_now_X9_bad : GoodIn wsX9_now wsX9_bad := goodIn_r _ [14, 15, 16, 17, 18, 19, 20, 21, 22, 23, 24, 25, 26, 27, 28, 29, 30, 31, 32, 33] (by decide +kernel) (by decide +kernel)
set_option maxRecDepth 20000 in
theorem gX9_now_X9_bad : GoodIn wsX9_now (wsV RX9 73 RX9 yX9_bad wsX9_bad) := goodIn_app (goodIn_of _ (by decide +kernel)) ggX9_now_X9_bad
theorem dX9_now_0 : decode cX9_now 0 = .ok (.iload_n 1, 1) := by decide +kernel
theorem dX9_now_1 : decode cX9_now 1 = .ok (.i2l, 1) := by decide +kernel
theorem dX9_now_2 : decode cX9_now 2 = .ok (.lconst 0, 1) := by decide +kernel
theorem dX9_now_3 : decode cX9_now 3 = .ok (.ldc2_w 127, 3) := by decide +kernel
theorem dX9_now_6 : decode cX9_now 6 = .ok (.invokestatic 56, 3) := by decide +kernel
theorem dX9_now_9 : decode cX9_now 9 = .ok (.ifCond .eq 11, 3) := by decide +kernel
theorem dX9_now_12 : decode cX9_now 12 = .ok (.aload_n 0, 1) := by decide +kernel
theorem dX9_now_13 : decode cX9_now 13 = .ok (.iload_n 1, 1) := by decide +kernel
theorem dX9_now_14 : decode cX9_now 14 = .ok (.invokevirtual 129, 3) := by decide +kernel
theorem dX9_now_17 : decode cX9_now 17 = .ok (.goto 9, 3) := by decide +kernel
theorem dX9_now_20 : decode cX9_now 20 = .ok (.aload_n 0, 1) := by decide +kernel
theorem dX9_now_21 : decode cX9_now 21 = .ok (.bipush (-2), 2) := by decide +kernel
theorem dX9_now_23 : decode cX9_now 23 = .ok (.invokevirtual 73, 3) := by decide +kernel
theorem dX9_now_26 : decode cX9_now 26 = .ok (.ireturn, 1) := by decide +kernel
set_option maxRecDepth 20000 in
theorem ggX9_pace_X9_isBend : GoodIn wsX9_pace wsX9_isBend := goodIn_r _ [8, 9, 10, 11, 7, 12, 3, 13, 14, 15, 47, 48, 49, 50, 51, 52, 53, 54, 55, 56, 57, 58, 59, 60, 61, 62, 63, 64] (by decide +kernel) (by decide +kernel)
set_option maxRecDepth 20000 in
theorem gX9_pace_X9_isBend : GoodIn wsX9_pace (wsV RX9 87 RX9 yX9_isBend wsX9_isBend) := goodIn_app (goodIn_of _ (by decide +kernel)) ggX9_pace_X9_isBend
set_option maxRecDepth 20000 in
theorem ggX9_pace_X9_in : GoodIn wsX9_pace wsX9_in := goodIn_r _ [15] (by decide +kernel) (by decide +kernel)
set_option maxRecDepth 20000 in
theorem gX9_pace_X9_in : GoodIn wsX9_pace (va_wsS RX9 56 yX9_in wsX9_in) := goodIn_app (goodIn_of _ (by decide +kernel)) ggX9_pace_X9_in
set_option maxRecDepth 20000 in
theorem ggX9_pace_X9_bad : GoodIn wsX9_pace wsX9_bad := goodIn_r _ [19, 20, 47, 48, 49, 50, 51, 52, 53, 54, 55, 56, 57, 58, 59, 60, 61, 62, 63, 64] (by decide +kernel) (by decide +kernel)
set_option maxRecDepth 20000 in
theorem gX9_pace_X9_bad : GoodIn wsX9_pace (wsV RX9 73 RX9 yX9_bad wsX9_bad) := goodIn_app (goodIn_of _ (by decide +kernel)) ggX9_pace_X9_bad
set_option maxRecDepth 20000 in
theorem ggX9_pace_X9_noteOf : GoodIn wsX9_pace wsX9_noteOf := goodIn_r _ [24, 3, 47, 48, 49, 50, 51, 52, 53, 54, 55, 56, 57, 58, 59, 60, 61, 62, 63, 64] (by decide +kernel) (by decide +kernel)
set_option maxRecDepth 20000 in
theorem gX9_pace_X9_noteOf : GoodIn wsX9_pace (wsV RX9 124 RX9 yX9_noteOf wsX9_noteOf) := goodIn_app (goodIn_of _ (by decide +kernel)) ggX9_pace_X9_noteOf
set_option maxRecDepth 20000 in
theorem ggX9_pace_X9_paceBy : GoodIn wsX9_pace wsX9_paceBy := goodIn_r _ [27, 28, 29, 7, 30, 31, 32, 33, 34, 35, 36] (by decide +kernel) (by decide +kernel)
set_option maxRecDepth 20000 in
theorem gX9_pace_X9_paceBy : GoodIn wsX9_pace (va_wsS RX9 102 yX9_paceBy wsX9_paceBy) := goodIn_app (goodIn_of _ (by decide +kernel)) ggX9_pace_X9_paceBy
set_option maxRecDepth 20000 in
theorem ggX9_pace_X9_cost : GoodIn wsX9_pace wsX9_cost := goodIn_r _ [40, 3, 41, 42, 7, 43, 25, 26, 27, 28, 29, 30, 31, 32, 33, 34, 35, 36, 44, 45, 46, 47, 48, 49, 50, 51, 52, 53, 54, 55, 56, 57, 58, 59, 60, 61, 62, 63, 64] (by decide +kernel) (by decide +kernel)
set_option maxRecDepth 20000 in
theorem gX9_pace_X9_cost : GoodIn wsX9_pace (wsV RX9 134 RX9 yX9_cost wsX9_cost) := goodIn_app (goodIn_of _ (by decide +kernel)) ggX9_pace_X9_cost
theorem dX9_pace_0 : decode cX9_pace 0 = .ok (.aload_n 0, 1) := by decide +kernel
theorem dX9_pace_1 : decode cX9_pace 1 = .ok (.iload_n 1, 1) := by decide +kernel
theorem dX9_pace_2 : decode cX9_pace 2 = .ok (.invokevirtual 87, 3) := by decide +kernel
theorem dX9_pace_5 : decode cX9_pace 5 = .ok (.ifCond .eq 27, 3) := by decide +kernel
theorem dX9_pace_8 : decode cX9_pace 8 = .ok (.iload_n 2, 1) := by decide +kernel
theorem dX9_pace_9 : decode cX9_pace 9 = .ok (.i2l, 1) := by decide +kernel
theorem dX9_pace_10 : decode cX9_pace 10 = .ok (.ldc2_w 132, 3) := by decide +kernel
theorem dX9_pace_13 : decode cX9_pace 13 = .ok (.ldc2_w 62, 3) := by decide +kernel
theorem dX9_pace_16 : decode cX9_pace 16 = .ok (.invokestatic 56, 3) := by decide +kernel
theorem dX9_pace_19 : decode cX9_pace 19 = .ok (.ifCond .eq 13, 3) := by decide +kernel
theorem dX9_pace_22 : decode cX9_pace 22 = .ok (.iload_n 3, 1) := by decide +kernel
theorem dX9_pace_23 : decode cX9_pace 23 = .ok (.i2l, 1) := by decide +kernel
theorem dX9_pace_24 : decode cX9_pace 24 = .ok (.lconst 0, 1) := by decide +kernel
theorem dX9_pace_25 : decode cX9_pace 25 = .ok (.lconst 1, 1) := by decide +kernel
theorem dX9_pace_26 : decode cX9_pace 26 = .ok (.invokestatic 56, 3) := by decide +kernel
theorem dX9_pace_29 : decode cX9_pace 29 = .ok (.ifCond .ne 10, 3) := by decide +kernel
theorem dX9_pace_32 : decode cX9_pace 32 = .ok (.aload_n 0, 1) := by decide +kernel
theorem dX9_pace_33 : decode cX9_pace 33 = .ok (.bipush (-2), 2) := by decide +kernel
theorem dX9_pace_35 : decode cX9_pace 35 = .ok (.invokevirtual 73, 3) := by decide +kernel
theorem dX9_pace_38 : decode cX9_pace 38 = .ok (.ireturn, 1) := by decide +kernel
theorem dX9_pace_39 : decode cX9_pace 39 = .ok (.iload_n 2, 1) := by decide +kernel
theorem dX9_pace_40 : decode cX9_pace 40 = .ok (.iconst (-1), 1) := by decide +kernel
theorem dX9_pace_41 : decode cX9_pace 41 = .ok (.if_icmp .ne 11, 3) := by decide +kernel
theorem dX9_pace_44 : decode cX9_pace 44 = .ok (.aload_n 0, 1) := by decide +kernel
theorem dX9_pace_45 : decode cX9_pace 45 = .ok (.iload_n 1, 1) := by decide +kernel
theorem dX9_pace_46 : decode cX9_pace 46 = .ok (.invokevirtual 124, 3) := by decide +kernel
theorem dX9_pace_49 : decode cX9_pace 49 = .ok (.goto 4, 3) := by decide +kernel
theorem dX9_pace_52 : decode cX9_pace 52 = .ok (.iload_n 2, 1) := by decide +kernel
theorem dX9_pace_53 : decode cX9_pace 53 = .ok (.istore 4, 2) := by decide +kernel
theorem dX9_pace_55 : decode cX9_pace 55 = .ok (.iload_n 3, 1) := by decide +kernel
theorem dX9_pace_56 : decode cX9_pace 56 = .ok (.ifCond .ne 16, 3) := by decide +kernel
theorem dX9_pace_59 : decode cX9_pace 59 = .ok (.aload_n 0, 1) := by decide +kernel
theorem dX9_pace_60 : decode cX9_pace 60 = .ok (.getfield 7, 3) := by decide +kernel
theorem dX9_pace_63 : decode cX9_pace 63 = .ok (.iload_n 1, 1) := by decide +kernel
theorem dX9_pace_64 : decode cX9_pace 64 = .ok (.iload 4, 2) := by decide +kernel
theorem dX9_pace_66 : decode cX9_pace 66 = .ok (.invokestatic 102, 3) := by decide +kernel
theorem dX9_pace_69 : decode cX9_pace 69 = .ok (.goto 10, 3) := by decide +kernel
theorem dX9_pace_72 : decode cX9_pace 72 = .ok (.aload_n 0, 1) := by decide +kernel
theorem dX9_pace_73 : decode cX9_pace 73 = .ok (.iload_n 1, 1) := by decide +kernel
theorem dX9_pace_74 : decode cX9_pace 74 = .ok (.iload 4, 2) := by decide +kernel
theorem dX9_pace_76 : decode cX9_pace 76 = .ok (.invokevirtual 134, 3) := by decide +kernel
theorem dX9_pace_79 : decode cX9_pace 79 = .ok (.ireturn, 1) := by decide +kernel
set_option maxRecDepth 20000 in
theorem ggX9_left_X9_many : GoodIn wsX9_left wsX9_many := goodIn_r _ [6, 1, 33, 34, 35, 36, 37, 38, 39, 40, 41, 42, 43, 44, 45, 46, 47, 48, 49, 50] (by decide +kernel) (by decide +kernel)
set_option maxRecDepth 20000 in
theorem gX9_left_X9_many : GoodIn wsX9_left (wsV RX9 52 RX9 yX9_many wsX9_many) := goodIn_app (goodIn_of _ (by decide +kernel)) ggX9_left_X9_many
set_option maxRecDepth 20000 in
theorem ggX9_left_X9_noteOf : GoodIn wsX9_left wsX9_noteOf := goodIn_r _ [10, 1, 33, 34, 35, 36, 37, 38, 39, 40, 41, 42, 43, 44, 45, 46, 47, 48, 49, 50] (by decide +kernel) (by decide +kernel)
set_option maxRecDepth 20000 in
theorem gX9_left_X9_noteOf : GoodIn wsX9_left (wsV RX9 124 RX9 yX9_noteOf wsX9_noteOf) := goodIn_app (goodIn_of _ (by decide +kernel)) ggX9_left_X9_noteOf
set_option maxRecDepth 20000 in
theorem ggX9_left_X9_cost : GoodIn wsX9_left wsX9_cost := goodIn_r _ [14, 1, 15, 16, 5, 17, 18, 19, 20, 21, 22, 23, 24, 25, 26, 27, 28, 29, 30, 31, 32, 33, 34, 35, 36, 37, 38, 39, 40, 41, 42, 43, 44, 45, 46, 47, 48, 49, 50] (by decide +kernel) (by decide +kernel)
set_option maxRecDepth 20000 in
theorem gX9_left_X9_cost : GoodIn wsX9_left (wsV RX9 134 RX9 yX9_cost wsX9_cost) := goodIn_app (goodIn_of _ (by decide +kernel)) ggX9_left_X9_cost
theorem dX9_left_0 : decode cX9_left 0 = .ok (.iconst 0, 1) := by decide +kernel
theorem dX9_left_1 : decode cX9_left 1 = .ok (.istore_n 1, 1) := by decide +kernel
theorem dX9_left_2 : decode cX9_left 2 = .ok (.aload_n 0, 1) := by decide +kernel
theorem dX9_left_3 : decode cX9_left 3 = .ok (.getfield 7, 3) := by decide +kernel
theorem dX9_left_6 : decode cX9_left 6 = .ok (.iconst 4, 1) := by decide +kernel
theorem dX9_left_7 : decode cX9_left 7 = .ok (.iaload, 1) := by decide +kernel
theorem dX9_left_8 : decode cX9_left 8 = .ok (.istore_n 2, 1) := by decide +kernel
theorem dX9_left_9 : decode cX9_left 9 = .ok (.iload_n 2, 1) := by decide +kernel
theorem dX9_left_10 : decode cX9_left 10 = .ok (.aload_n 0, 1) := by decide +kernel
theorem dX9_left_11 : decode cX9_left 11 = .ok (.invokevirtual 52, 3) := by decide +kernel
theorem dX9_left_14 : decode cX9_left 14 = .ok (.if_icmp .ge 32, 3) := by decide +kernel
theorem dX9_left_17 : decode cX9_left 17 = .ok (.iload_n 1, 1) := by decide +kernel
theorem dX9_left_18 : decode cX9_left 18 = .ok (.aload_n 0, 1) := by decide +kernel
theorem dX9_left_19 : decode cX9_left 19 = .ok (.getfield 7, 3) := by decide +kernel
theorem dX9_left_22 : decode cX9_left 22 = .ok (.bipush 18, 2) := by decide +kernel
theorem dX9_left_24 : decode cX9_left 24 = .ok (.iload_n 2, 1) := by decide +kernel
theorem dX9_left_25 : decode cX9_left 25 = .ok (.iadd, 1) := by decide +kernel
theorem dX9_left_26 : decode cX9_left 26 = .ok (.iaload, 1) := by decide +kernel
theorem dX9_left_27 : decode cX9_left 27 = .ok (.aload_n 0, 1) := by decide +kernel
theorem dX9_left_28 : decode cX9_left 28 = .ok (.iload_n 2, 1) := by decide +kernel
theorem dX9_left_29 : decode cX9_left 29 = .ok (.aload_n 0, 1) := by decide +kernel
theorem dX9_left_30 : decode cX9_left 30 = .ok (.iload_n 2, 1) := by decide +kernel
theorem dX9_left_31 : decode cX9_left 31 = .ok (.invokevirtual 124, 3) := by decide +kernel
theorem dX9_left_34 : decode cX9_left 34 = .ok (.invokevirtual 134, 3) := by decide +kernel
theorem dX9_left_37 : decode cX9_left 37 = .ok (.iadd, 1) := by decide +kernel
theorem dX9_left_38 : decode cX9_left 38 = .ok (.iadd, 1) := by decide +kernel
theorem dX9_left_39 : decode cX9_left 39 = .ok (.istore_n 1, 1) := by decide +kernel
theorem dX9_left_40 : decode cX9_left 40 = .ok (.iinc 2 1, 3) := by decide +kernel
theorem dX9_left_43 : decode cX9_left 43 = .ok (.goto (-34), 3) := by decide +kernel
theorem dX9_left_46 : decode cX9_left 46 = .ok (.iload_n 1, 1) := by decide +kernel
theorem dX9_left_47 : decode cX9_left 47 = .ok (.ireturn, 1) := by decide +kernel
set_option maxRecDepth 20000 in
theorem ggX9_savedAt_X9_cost : GoodIn wsX9_savedAt wsX9_cost := goodIn_r _ [6, 7, 8, 9, 5, 10, 11, 12, 13, 14, 15, 16, 17, 18, 19, 20, 21, 22, 23, 24, 25, 30, 31, 32, 33, 34, 35, 36, 37, 38, 39, 40, 41, 42, 43, 44, 45, 46, 47] (by decide +kernel) (by decide +kernel)
set_option maxRecDepth 20000 in
theorem gX9_savedAt_X9_cost : GoodIn wsX9_savedAt (wsV RX9 134 RX9 yX9_cost wsX9_cost) := goodIn_app (goodIn_of _ (by decide +kernel)) ggX9_savedAt_X9_cost
set_option maxRecDepth 20000 in
theorem ggX9_savedAt_X9_noteOf : GoodIn wsX9_savedAt wsX9_noteOf := goodIn_r _ [29, 7, 30, 31, 32, 33, 34, 35, 36, 37, 38, 39, 40, 41, 42, 43, 44, 45, 46, 47] (by decide +kernel) (by decide +kernel)
set_option maxRecDepth 20000 in
theorem gX9_savedAt_X9_noteOf : GoodIn wsX9_savedAt (wsV RX9 124 RX9 yX9_noteOf wsX9_noteOf) := goodIn_app (goodIn_of _ (by decide +kernel)) ggX9_savedAt_X9_noteOf
theorem dX9_savedAt_0 : decode cX9_savedAt 0 = .ok (.ldc 137, 2) := by decide +kernel
theorem dX9_savedAt_2 : decode cX9_savedAt 2 = .ok (.istore_n 2, 1) := by decide +kernel
theorem dX9_savedAt_3 : decode cX9_savedAt 3 = .ok (.iconst 0, 1) := by decide +kernel
theorem dX9_savedAt_4 : decode cX9_savedAt 4 = .ok (.istore_n 3, 1) := by decide +kernel
theorem dX9_savedAt_5 : decode cX9_savedAt 5 = .ok (.iload_n 3, 1) := by decide +kernel
theorem dX9_savedAt_6 : decode cX9_savedAt 6 = .ok (.bipush 7, 2) := by decide +kernel
theorem dX9_savedAt_8 : decode cX9_savedAt 8 = .ok (.if_icmp .ge 30, 3) := by decide +kernel
theorem dX9_savedAt_11 : decode cX9_savedAt 11 = .ok (.aload_n 0, 1) := by decide +kernel
theorem dX9_savedAt_12 : decode cX9_savedAt 12 = .ok (.iload_n 1, 1) := by decide +kernel
theorem dX9_savedAt_13 : decode cX9_savedAt 13 = .ok (.iload_n 3, 1) := by decide +kernel
theorem dX9_savedAt_14 : decode cX9_savedAt 14 = .ok (.invokevirtual 134, 3) := by decide +kernel
theorem dX9_savedAt_17 : decode cX9_savedAt 17 = .ok (.iload_n 2, 1) := by decide +kernel
theorem dX9_savedAt_18 : decode cX9_savedAt 18 = .ok (.if_icmp .ge 12, 3) := by decide +kernel
theorem dX9_savedAt_21 : decode cX9_savedAt 21 = .ok (.aload_n 0, 1) := by decide +kernel
theorem dX9_savedAt_22 : decode cX9_savedAt 22 = .ok (.iload_n 1, 1) := by decide +kernel
theorem dX9_savedAt_23 : decode cX9_savedAt 23 = .ok (.iload_n 3, 1) := by decide +kernel
theorem dX9_savedAt_24 : decode cX9_savedAt 24 = .ok (.invokevirtual 134, 3) := by decide +kernel
theorem dX9_savedAt_27 : decode cX9_savedAt 27 = .ok (.goto 4, 3) := by decide +kernel
theorem dX9_savedAt_30 : decode cX9_savedAt 30 = .ok (.iload_n 2, 1) := by decide +kernel
theorem dX9_savedAt_31 : decode cX9_savedAt 31 = .ok (.istore_n 2, 1) := by decide +kernel
theorem dX9_savedAt_32 : decode cX9_savedAt 32 = .ok (.iinc 3 1, 3) := by decide +kernel
theorem dX9_savedAt_35 : decode cX9_savedAt 35 = .ok (.goto (-30), 3) := by decide +kernel
theorem dX9_savedAt_38 : decode cX9_savedAt 38 = .ok (.aload_n 0, 1) := by decide +kernel
theorem dX9_savedAt_39 : decode cX9_savedAt 39 = .ok (.iload_n 1, 1) := by decide +kernel
theorem dX9_savedAt_40 : decode cX9_savedAt 40 = .ok (.aload_n 0, 1) := by decide +kernel
theorem dX9_savedAt_41 : decode cX9_savedAt 41 = .ok (.iload_n 1, 1) := by decide +kernel
theorem dX9_savedAt_42 : decode cX9_savedAt 42 = .ok (.invokevirtual 124, 3) := by decide +kernel
theorem dX9_savedAt_45 : decode cX9_savedAt 45 = .ok (.invokevirtual 134, 3) := by decide +kernel
theorem dX9_savedAt_48 : decode cX9_savedAt 48 = .ok (.iload_n 2, 1) := by decide +kernel
theorem dX9_savedAt_49 : decode cX9_savedAt 49 = .ok (.isub, 1) := by decide +kernel
theorem dX9_savedAt_50 : decode cX9_savedAt 50 = .ok (.ireturn, 1) := by decide +kernel
theorem dX9_isAhead_0 : decode cX9_isAhead 0 = .ok (.iload_n 1, 1) := by decide +kernel
theorem dX9_isAhead_1 : decode cX9_isAhead 1 = .ok (.iconst 1, 1) := by decide +kernel
theorem dX9_isAhead_2 : decode cX9_isAhead 2 = .ok (.aload_n 0, 1) := by decide +kernel
theorem dX9_isAhead_3 : decode cX9_isAhead 3 = .ok (.getfield 7, 3) := by decide +kernel
theorem dX9_isAhead_6 : decode cX9_isAhead 6 = .ok (.iconst 4, 1) := by decide +kernel
theorem dX9_isAhead_7 : decode cX9_isAhead 7 = .ok (.iaload, 1) := by decide +kernel
theorem dX9_isAhead_8 : decode cX9_isAhead 8 = .ok (.ishl, 1) := by decide +kernel
theorem dX9_isAhead_9 : decode cX9_isAhead 9 = .ok (.iconst 1, 1) := by decide +kernel
theorem dX9_isAhead_10 : decode cX9_isAhead 10 = .ok (.isub, 1) := by decide +kernel
theorem dX9_isAhead_11 : decode cX9_isAhead 11 = .ok (.iand, 1) := by decide +kernel
theorem dX9_isAhead_12 : decode cX9_isAhead 12 = .ok (.ifCond .ne 7, 3) := by decide +kernel
theorem dX9_isAhead_15 : decode cX9_isAhead 15 = .ok (.iconst 1, 1) := by decide +kernel
theorem dX9_isAhead_16 : decode cX9_isAhead 16 = .ok (.goto 4, 3) := by decide +kernel
theorem dX9_isAhead_19 : decode cX9_isAhead 19 = .ok (.iconst 0, 1) := by decide +kernel
theorem dX9_isAhead_20 : decode cX9_isAhead 20 = .ok (.ireturn, 1) := by decide +kernel
set_option maxRecDepth 20000 in
theorem ggX9_mend_X9_in : GoodIn wsX9_mend wsX9_in := goodIn_r _ [5] (by decide +kernel) (by decide +kernel)
set_option maxRecDepth 20000 in
theorem gX9_mend_X9_in : GoodIn wsX9_mend (va_wsS RX9 56 yX9_in wsX9_in) := goodIn_app (goodIn_of _ (by decide +kernel)) ggX9_mend_X9_in
set_option maxRecDepth 20000 in
theorem ggX9_mend_X9_bad : GoodIn wsX9_mend wsX9_bad := goodIn_r _ [9, 10, 54, 55, 56, 57, 58, 59, 60, 61, 62, 63, 64, 65, 66, 67, 68, 69, 70, 71] (by decide +kernel) (by decide +kernel)
set_option maxRecDepth 20000 in
theorem gX9_mend_X9_bad : GoodIn wsX9_mend (wsV RX9 73 RX9 yX9_bad wsX9_bad) := goodIn_app (goodIn_of _ (by decide +kernel)) ggX9_mend_X9_bad
set_option maxRecDepth 20000 in
theorem ggX9_mend_X9_many : GoodIn wsX9_mend wsX9_many := goodIn_r _ [14, 15, 54, 55, 56, 57, 58, 59, 60, 61, 62, 63, 64, 65, 66, 67, 68, 69, 70, 71] (by decide +kernel) (by decide +kernel)
set_option maxRecDepth 20000 in
theorem gX9_mend_X9_many : GoodIn wsX9_mend (wsV RX9 52 RX9 yX9_many wsX9_many) := goodIn_app (goodIn_of _ (by decide +kernel)) ggX9_mend_X9_many
set_option maxRecDepth 20000 in
theorem ggX9_mend_X9_has : GoodIn wsX9_mend wsX9_has := goodIn_r _ [18] (by decide +kernel) (by decide +kernel)
set_option maxRecDepth 20000 in
theorem gX9_mend_X9_has : GoodIn wsX9_mend (va_wsS RX9 94 yX9_has wsX9_has) := goodIn_app (goodIn_of _ (by decide +kernel)) ggX9_mend_X9_has
set_option maxRecDepth 20000 in
theorem ggX9_mend_X9_savedAt : GoodIn wsX9_mend wsX9_savedAt := goodIn_r _ [22, 23, 24, 25, 26, 4, 27, 15, 28, 29, 30, 31, 32, 33, 34, 35, 36, 16, 17, 18, 37, 38, 39, 40, 41, 42, 43, 44, 45, 46, 54, 55, 56, 57, 58, 59, 60, 61, 62, 63, 64, 65, 66, 67, 68, 69, 70, 71] (by decide +kernel) (by decide +kernel)
set_option maxRecDepth 20000 in
theorem gX9_mend_X9_savedAt : GoodIn wsX9_mend (wsV RX9 138 RX9 yX9_savedAt wsX9_savedAt) := goodIn_app (goodIn_of _ (by decide +kernel)) ggX9_mend_X9_savedAt
set_option maxRecDepth 20000 in
theorem ggX9_mend_X9_bits : GoodIn wsX9_mend wsX9_bits := goodIn_r _ [49] (by decide +kernel) (by decide +kernel)
set_option maxRecDepth 20000 in
theorem gX9_mend_X9_bits : GoodIn wsX9_mend (va_wsS RX9 141 yX9_bits wsX9_bits) := goodIn_app (goodIn_of _ (by decide +kernel)) ggX9_mend_X9_bits
set_option maxRecDepth 20000 in
theorem ggX9_mend_X9_isAhead : GoodIn wsX9_mend wsX9_isAhead := goodIn_r _ [53, 15, 54, 55, 56, 57, 58, 59, 60, 61, 62, 63, 64, 65, 66, 67, 68, 69, 70, 71] (by decide +kernel) (by decide +kernel)
set_option maxRecDepth 20000 in
theorem gX9_mend_X9_isAhead : GoodIn wsX9_mend (wsV RX9 144 RX9 yX9_isAhead wsX9_isAhead) := goodIn_app (goodIn_of _ (by decide +kernel)) ggX9_mend_X9_isAhead
theorem dX9_mend_0 : decode cX9_mend 0 = .ok (.iload_n 1, 1) := by decide +kernel
theorem dX9_mend_1 : decode cX9_mend 1 = .ok (.i2l, 1) := by decide +kernel
theorem dX9_mend_2 : decode cX9_mend 2 = .ok (.lconst 0, 1) := by decide +kernel
theorem dX9_mend_3 : decode cX9_mend 3 = .ok (.ldc2_w 113, 3) := by decide +kernel
theorem dX9_mend_6 : decode cX9_mend 6 = .ok (.invokestatic 56, 3) := by decide +kernel
theorem dX9_mend_9 : decode cX9_mend 9 = .ok (.ifCond .eq 13, 3) := by decide +kernel
theorem dX9_mend_12 : decode cX9_mend 12 = .ok (.iload_n 2, 1) := by decide +kernel
theorem dX9_mend_13 : decode cX9_mend 13 = .ok (.i2l, 1) := by decide +kernel
theorem dX9_mend_14 : decode cX9_mend 14 = .ok (.lconst 0, 1) := by decide +kernel
theorem dX9_mend_15 : decode cX9_mend 15 = .ok (.lconst 1, 1) := by decide +kernel
theorem dX9_mend_16 : decode cX9_mend 16 = .ok (.invokestatic 56, 3) := by decide +kernel
theorem dX9_mend_19 : decode cX9_mend 19 = .ok (.ifCond .ne 10, 3) := by decide +kernel
theorem dX9_mend_22 : decode cX9_mend 22 = .ok (.aload_n 0, 1) := by decide +kernel
theorem dX9_mend_23 : decode cX9_mend 23 = .ok (.bipush (-2), 2) := by decide +kernel
theorem dX9_mend_25 : decode cX9_mend 25 = .ok (.invokevirtual 73, 3) := by decide +kernel
theorem dX9_mend_28 : decode cX9_mend 28 = .ok (.ireturn, 1) := by decide +kernel
theorem dX9_mend_29 : decode cX9_mend 29 = .ok (.iconst 0, 1) := by decide +kernel
theorem dX9_mend_30 : decode cX9_mend 30 = .ok (.istore_n 3, 1) := by decide +kernel
theorem dX9_mend_31 : decode cX9_mend 31 = .ok (.iconst 0, 1) := by decide +kernel
theorem dX9_mend_32 : decode cX9_mend 32 = .ok (.istore 4, 2) := by decide +kernel
theorem dX9_mend_34 : decode cX9_mend 34 = .ok (.iconst 1, 1) := by decide +kernel
theorem dX9_mend_35 : decode cX9_mend 35 = .ok (.istore 5, 2) := by decide +kernel
theorem dX9_mend_37 : decode cX9_mend 37 = .ok (.iload 5, 2) := by decide +kernel
theorem dX9_mend_39 : decode cX9_mend 39 = .ok (.iconst 1, 1) := by decide +kernel
theorem dX9_mend_40 : decode cX9_mend 40 = .ok (.aload_n 0, 1) := by decide +kernel
theorem dX9_mend_41 : decode cX9_mend 41 = .ok (.invokevirtual 52, 3) := by decide +kernel
theorem dX9_mend_44 : decode cX9_mend 44 = .ok (.ishl, 1) := by decide +kernel
theorem dX9_mend_45 : decode cX9_mend 45 = .ok (.if_icmp .ge 118, 3) := by decide +kernel
theorem dX9_mend_48 : decode cX9_mend 48 = .ok (.iconst 0, 1) := by decide +kernel
theorem dX9_mend_49 : decode cX9_mend 49 = .ok (.istore 6, 2) := by decide +kernel
theorem dX9_mend_51 : decode cX9_mend 51 = .ok (.iconst 0, 1) := by decide +kernel
theorem dX9_mend_52 : decode cX9_mend 52 = .ok (.istore 7, 2) := by decide +kernel
theorem dX9_mend_54 : decode cX9_mend 54 = .ok (.iload 7, 2) := by decide +kernel
theorem dX9_mend_56 : decode cX9_mend 56 = .ok (.aload_n 0, 1) := by decide +kernel
theorem dX9_mend_57 : decode cX9_mend 57 = .ok (.invokevirtual 52, 3) := by decide +kernel
theorem dX9_mend_60 : decode cX9_mend 60 = .ok (.if_icmp .ge 34, 3) := by decide +kernel
theorem dX9_mend_63 : decode cX9_mend 63 = .ok (.iload 6, 2) := by decide +kernel
theorem dX9_mend_65 : decode cX9_mend 65 = .ok (.iload 5, 2) := by decide +kernel
theorem dX9_mend_67 : decode cX9_mend 67 = .ok (.iload 7, 2) := by decide +kernel
theorem dX9_mend_69 : decode cX9_mend 69 = .ok (.invokestatic 94, 3) := by decide +kernel
theorem dX9_mend_72 : decode cX9_mend 72 = .ok (.ifCond .eq 12, 3) := by decide +kernel
theorem dX9_mend_75 : decode cX9_mend 75 = .ok (.aload_n 0, 1) := by decide +kernel
theorem dX9_mend_76 : decode cX9_mend 76 = .ok (.iload 7, 2) := by decide +kernel
theorem dX9_mend_78 : decode cX9_mend 78 = .ok (.invokevirtual 138, 3) := by decide +kernel
theorem dX9_mend_81 : decode cX9_mend 81 = .ok (.goto 4, 3) := by decide +kernel
theorem dX9_mend_84 : decode cX9_mend 84 = .ok (.iconst 0, 1) := by decide +kernel
theorem dX9_mend_85 : decode cX9_mend 85 = .ok (.iadd, 1) := by decide +kernel
theorem dX9_mend_86 : decode cX9_mend 86 = .ok (.istore 6, 2) := by decide +kernel
theorem dX9_mend_88 : decode cX9_mend 88 = .ok (.iinc 7 1, 3) := by decide +kernel
theorem dX9_mend_91 : decode cX9_mend 91 = .ok (.goto (-37), 3) := by decide +kernel
theorem dX9_mend_94 : decode cX9_mend 94 = .ok (.iload 6, 2) := by decide +kernel
theorem dX9_mend_96 : decode cX9_mend 96 = .ok (.iload 4, 2) := by decide +kernel
theorem dX9_mend_98 : decode cX9_mend 98 = .ok (.if_icmp .gt 22, 3) := by decide +kernel
theorem dX9_mend_101 : decode cX9_mend 101 = .ok (.iload 6, 2) := by decide +kernel
theorem dX9_mend_103 : decode cX9_mend 103 = .ok (.iload 4, 2) := by decide +kernel
theorem dX9_mend_105 : decode cX9_mend 105 = .ok (.if_icmp .ne 19, 3) := by decide +kernel
theorem dX9_mend_108 : decode cX9_mend 108 = .ok (.iload 5, 2) := by decide +kernel
theorem dX9_mend_110 : decode cX9_mend 110 = .ok (.invokestatic 141, 3) := by decide +kernel
theorem dX9_mend_113 : decode cX9_mend 113 = .ok (.iload_n 3, 1) := by decide +kernel
theorem dX9_mend_114 : decode cX9_mend 114 = .ok (.invokestatic 141, 3) := by decide +kernel
theorem dX9_mend_117 : decode cX9_mend 117 = .ok (.if_icmp .ge 7, 3) := by decide +kernel
theorem dX9_mend_120 : decode cX9_mend 120 = .ok (.iconst 1, 1) := by decide +kernel
theorem dX9_mend_121 : decode cX9_mend 121 = .ok (.goto 4, 3) := by decide +kernel
theorem dX9_mend_124 : decode cX9_mend 124 = .ok (.iconst 0, 1) := by decide +kernel
theorem dX9_mend_125 : decode cX9_mend 125 = .ok (.istore 7, 2) := by decide +kernel
theorem dX9_mend_127 : decode cX9_mend 127 = .ok (.aload_n 0, 1) := by decide +kernel
theorem dX9_mend_128 : decode cX9_mend 128 = .ok (.iload 5, 2) := by decide +kernel
theorem dX9_mend_130 : decode cX9_mend 130 = .ok (.invokevirtual 144, 3) := by decide +kernel
theorem dX9_mend_133 : decode cX9_mend 133 = .ok (.ifCond .eq 24, 3) := by decide +kernel
theorem dX9_mend_136 : decode cX9_mend 136 = .ok (.iload 5, 2) := by decide +kernel
theorem dX9_mend_138 : decode cX9_mend 138 = .ok (.invokestatic 141, 3) := by decide +kernel
theorem dX9_mend_141 : decode cX9_mend 141 = .ok (.iload_n 1, 1) := by decide +kernel
theorem dX9_mend_142 : decode cX9_mend 142 = .ok (.if_icmp .gt 15, 3) := by decide +kernel
theorem dX9_mend_145 : decode cX9_mend 145 = .ok (.iload 7, 2) := by decide +kernel
theorem dX9_mend_147 : decode cX9_mend 147 = .ok (.ifCond .eq 10, 3) := by decide +kernel
theorem dX9_mend_150 : decode cX9_mend 150 = .ok (.iload 5, 2) := by decide +kernel
theorem dX9_mend_152 : decode cX9_mend 152 = .ok (.istore_n 3, 1) := by decide +kernel
theorem dX9_mend_153 : decode cX9_mend 153 = .ok (.iload 6, 2) := by decide +kernel
theorem dX9_mend_155 : decode cX9_mend 155 = .ok (.istore 4, 2) := by decide +kernel
theorem dX9_mend_157 : decode cX9_mend 157 = .ok (.iinc 5 1, 3) := by decide +kernel
theorem dX9_mend_160 : decode cX9_mend 160 = .ok (.goto (-123), 3) := by decide +kernel
theorem dX9_mend_163 : decode cX9_mend 163 = .ok (.iload_n 2, 1) := by decide +kernel
theorem dX9_mend_164 : decode cX9_mend 164 = .ok (.ifCond .ne 8, 3) := by decide +kernel
theorem dX9_mend_167 : decode cX9_mend 167 = .ok (.iload 4, 2) := by decide +kernel
theorem dX9_mend_169 : decode cX9_mend 169 = .ok (.goto 4, 3) := by decide +kernel
theorem dX9_mend_172 : decode cX9_mend 172 = .ok (.iload_n 3, 1) := by decide +kernel
theorem dX9_mend_173 : decode cX9_mend 173 = .ok (.ireturn, 1) := by decide +kernel
set_option maxRecDepth 20000 in
theorem ggX9_canRead_X9_isAhead : GoodIn wsX9_canRead wsX9_isAhead := goodIn_r _ [6, 1, 18, 19, 20, 21, 22, 23, 24, 25, 26, 27, 28, 29, 30, 31, 32, 33, 34, 35] (by decide +kernel) (by decide +kernel)
set_option maxRecDepth 20000 in
theorem gX9_canRead_X9_isAhead : GoodIn wsX9_canRead (wsV RX9 144 RX9 yX9_isAhead wsX9_isAhead) := goodIn_app (goodIn_of _ (by decide +kernel)) ggX9_canRead_X9_isAhead
set_option maxRecDepth 20000 in
theorem ggX9_canRead_X9_many : GoodIn wsX9_canRead wsX9_many := goodIn_r _ [10, 1, 18, 19, 20, 21, 22, 23, 24, 25, 26, 27, 28, 29, 30, 31, 32, 33, 34, 35] (by decide +kernel) (by decide +kernel)
set_option maxRecDepth 20000 in
theorem gX9_canRead_X9_many : GoodIn wsX9_canRead (wsV RX9 52 RX9 yX9_many wsX9_many) := goodIn_app (goodIn_of _ (by decide +kernel)) ggX9_canRead_X9_many
set_option maxRecDepth 20000 in
theorem ggX9_canRead_X9_has : GoodIn wsX9_canRead wsX9_has := goodIn_r _ [13] (by decide +kernel) (by decide +kernel)
set_option maxRecDepth 20000 in
theorem gX9_canRead_X9_has : GoodIn wsX9_canRead (va_wsS RX9 94 yX9_has wsX9_has) := goodIn_app (goodIn_of _ (by decide +kernel)) ggX9_canRead_X9_has
set_option maxRecDepth 20000 in
theorem ggX9_canRead_X9_noteOf : GoodIn wsX9_canRead wsX9_noteOf := goodIn_r _ [17, 1, 18, 19, 20, 21, 22, 23, 24, 25, 26, 27, 28, 29, 30, 31, 32, 33, 34, 35] (by decide +kernel) (by decide +kernel)
set_option maxRecDepth 20000 in
theorem gX9_canRead_X9_noteOf : GoodIn wsX9_canRead (wsV RX9 124 RX9 yX9_noteOf wsX9_noteOf) := goodIn_app (goodIn_of _ (by decide +kernel)) ggX9_canRead_X9_noteOf
theorem dX9_canRead_0 : decode cX9_canRead 0 = .ok (.aload_n 0, 1) := by decide +kernel
theorem dX9_canRead_1 : decode cX9_canRead 1 = .ok (.iload_n 1, 1) := by decide +kernel
theorem dX9_canRead_2 : decode cX9_canRead 2 = .ok (.invokevirtual 144, 3) := by decide +kernel
theorem dX9_canRead_5 : decode cX9_canRead 5 = .ok (.istore_n 3, 1) := by decide +kernel
theorem dX9_canRead_6 : decode cX9_canRead 6 = .ok (.iconst 0, 1) := by decide +kernel
theorem dX9_canRead_7 : decode cX9_canRead 7 = .ok (.istore 4, 2) := by decide +kernel
theorem dX9_canRead_9 : decode cX9_canRead 9 = .ok (.iconst 0, 1) := by decide +kernel
theorem dX9_canRead_10 : decode cX9_canRead 10 = .ok (.istore 5, 2) := by decide +kernel
theorem dX9_canRead_12 : decode cX9_canRead 12 = .ok (.aload_n 0, 1) := by decide +kernel
theorem dX9_canRead_13 : decode cX9_canRead 13 = .ok (.getfield 7, 3) := by decide +kernel
theorem dX9_canRead_16 : decode cX9_canRead 16 = .ok (.iconst 4, 1) := by decide +kernel
theorem dX9_canRead_17 : decode cX9_canRead 17 = .ok (.iaload, 1) := by decide +kernel
theorem dX9_canRead_18 : decode cX9_canRead 18 = .ok (.istore 6, 2) := by decide +kernel
theorem dX9_canRead_20 : decode cX9_canRead 20 = .ok (.iload 6, 2) := by decide +kernel
theorem dX9_canRead_22 : decode cX9_canRead 22 = .ok (.aload_n 0, 1) := by decide +kernel
theorem dX9_canRead_23 : decode cX9_canRead 23 = .ok (.invokevirtual 52, 3) := by decide +kernel
theorem dX9_canRead_26 : decode cX9_canRead 26 = .ok (.if_icmp .ge 89, 3) := by decide +kernel
theorem dX9_canRead_29 : decode cX9_canRead 29 = .ok (.iload 5, 2) := by decide +kernel
theorem dX9_canRead_31 : decode cX9_canRead 31 = .ok (.aload_n 0, 1) := by decide +kernel
theorem dX9_canRead_32 : decode cX9_canRead 32 = .ok (.getfield 7, 3) := by decide +kernel
theorem dX9_canRead_35 : decode cX9_canRead 35 = .ok (.bipush 18, 2) := by decide +kernel
theorem dX9_canRead_37 : decode cX9_canRead 37 = .ok (.iload 6, 2) := by decide +kernel
theorem dX9_canRead_39 : decode cX9_canRead 39 = .ok (.iadd, 1) := by decide +kernel
theorem dX9_canRead_40 : decode cX9_canRead 40 = .ok (.iaload, 1) := by decide +kernel
theorem dX9_canRead_41 : decode cX9_canRead 41 = .ok (.iadd, 1) := by decide +kernel
theorem dX9_canRead_42 : decode cX9_canRead 42 = .ok (.istore 5, 2) := by decide +kernel
theorem dX9_canRead_44 : decode cX9_canRead 44 = .ok (.iload 4, 2) := by decide +kernel
theorem dX9_canRead_46 : decode cX9_canRead 46 = .ok (.iload_n 1, 1) := by decide +kernel
theorem dX9_canRead_47 : decode cX9_canRead 47 = .ok (.iload 6, 2) := by decide +kernel
theorem dX9_canRead_49 : decode cX9_canRead 49 = .ok (.invokestatic 94, 3) := by decide +kernel
theorem dX9_canRead_52 : decode cX9_canRead 52 = .ok (.ifCond .eq 16, 3) := by decide +kernel
theorem dX9_canRead_55 : decode cX9_canRead 55 = .ok (.aload_n 0, 1) := by decide +kernel
theorem dX9_canRead_56 : decode cX9_canRead 56 = .ok (.getfield 7, 3) := by decide +kernel
theorem dX9_canRead_59 : decode cX9_canRead 59 = .ok (.bipush 34, 2) := by decide +kernel
theorem dX9_canRead_61 : decode cX9_canRead 61 = .ok (.iload 6, 2) := by decide +kernel
theorem dX9_canRead_63 : decode cX9_canRead 63 = .ok (.iadd, 1) := by decide +kernel
theorem dX9_canRead_64 : decode cX9_canRead 64 = .ok (.iaload, 1) := by decide +kernel
theorem dX9_canRead_65 : decode cX9_canRead 65 = .ok (.goto 4, 3) := by decide +kernel
theorem dX9_canRead_68 : decode cX9_canRead 68 = .ok (.iconst 0, 1) := by decide +kernel
theorem dX9_canRead_69 : decode cX9_canRead 69 = .ok (.iadd, 1) := by decide +kernel
theorem dX9_canRead_70 : decode cX9_canRead 70 = .ok (.istore 4, 2) := by decide +kernel
theorem dX9_canRead_72 : decode cX9_canRead 72 = .ok (.iload_n 3, 1) := by decide +kernel
theorem dX9_canRead_73 : decode cX9_canRead 73 = .ok (.ifCond .eq 34, 3) := by decide +kernel
theorem dX9_canRead_76 : decode cX9_canRead 76 = .ok (.iload_n 1, 1) := by decide +kernel
theorem dX9_canRead_77 : decode cX9_canRead 77 = .ok (.iload 6, 2) := by decide +kernel
theorem dX9_canRead_79 : decode cX9_canRead 79 = .ok (.invokestatic 94, 3) := by decide +kernel
theorem dX9_canRead_82 : decode cX9_canRead 82 = .ok (.ifCond .eq 21, 3) := by decide +kernel

