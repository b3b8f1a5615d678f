theorem dX6_danger_5 : decode cX6_danger 5 = .ok (.invokevirtual 79, 3) := by decide +kernel
theorem dX6_danger_8 : decode cX6_danger 8 = .ok (.ifCond .eq 13, 3) := by decide +kernel
theorem dX6_danger_11 : decode cX6_danger 11 = .ok (.iload_n 2, 1) := by decide +kernel
theorem dX6_danger_12 : decode cX6_danger 12 = .ok (.iconst 0, 1) := by decide +kernel
theorem dX6_danger_13 : decode cX6_danger 13 = .ok (.bipush 60, 2) := by decide +kernel
theorem dX6_danger_15 : decode cX6_danger 15 = .ok (.invokestatic 66, 3) := by decide +kernel
theorem dX6_danger_18 : decode cX6_danger 18 = .ok (.ifCond .ne 6, 3) := by decide +kernel
theorem dX6_danger_21 : decode cX6_danger 21 = .ok (.ldc 70, 2) := by decide +kernel
theorem dX6_danger_23 : decode cX6_danger 23 = .ok (.ireturn, 1) := by decide +kernel
theorem dX6_danger_24 : decode cX6_danger 24 = .ok (.aload_n 0, 1) := by decide +kernel
theorem dX6_danger_25 : decode cX6_danger 25 = .ok (.getfield 10, 3) := by decide +kernel
theorem dX6_danger_28 : decode cX6_danger 28 = .ok (.iload_n 1, 1) := by decide +kernel
theorem dX6_danger_29 : decode cX6_danger 29 = .ok (.iload_n 2, 1) := by decide +kernel
theorem dX6_danger_30 : decode cX6_danger 30 = .ok (.invokevirtual 127, 3) := by decide +kernel
theorem dX6_danger_33 : decode cX6_danger 33 = .ok (.ireturn, 1) := by decide +kernel
set_option maxRecDepth 20000 in
theorem ggX6_come_X1_has : GoodIn wsX6_come wsX1_has := goodIn_r _ [9, 10, 21, 22, 23, 24, 25, 26, 27, 28, 29, 30, 31, 32, 33, 34, 35] (by decide +kernel) (by decide +kernel)
set_option maxRecDepth 20000 in
theorem gX6_come_X1_has : GoodIn wsX6_come (wsV RX6 79 RX1 yX1_has wsX1_has) := goodIn_app (goodIn_of _ (by decide +kernel)) ggX6_come_X1_has
theorem dX6_come_0 : decode cX6_come 0 = .ok (.iload_n 1, 1) := by decide +kernel
theorem dX6_come_1 : decode cX6_come 1 = .ok (.ldc 130, 2) := by decide +kernel
theorem dX6_come_3 : decode cX6_come 3 = .ok (.if_icmp .eq 17, 3) := by decide +kernel
theorem dX6_come_6 : decode cX6_come 6 = .ok (.aload_n 0, 1) := by decide +kernel
theorem dX6_come_7 : decode cX6_come 7 = .ok (.getfield 10, 3) := by decide +kernel
theorem dX6_come_10 : decode cX6_come 10 = .ok (.iload_n 1, 1) := by decide +kernel
theorem dX6_come_11 : decode cX6_come 11 = .ok (.invokevirtual 79, 3) := by decide +kernel
theorem dX6_come_14 : decode cX6_come 14 = .ok (.ifCond .ne 6, 3) := by decide +kernel
theorem dX6_come_17 : decode cX6_come 17 = .ok (.ldc 70, 2) := by decide +kernel
theorem dX6_come_19 : decode cX6_come 19 = .ok (.ireturn, 1) := by decide +kernel
theorem dX6_come_20 : decode cX6_come 20 = .ok (.aload_n 0, 1) := by decide +kernel
theorem dX6_come_21 : decode cX6_come 21 = .ok (.getfield 10, 3) := by decide +kernel
theorem dX6_come_24 : decode cX6_come 24 = .ok (.getfield 131, 3) := by decide +kernel
theorem dX6_come_27 : decode cX6_come 27 = .ok (.istore_n 2, 1) := by decide +kernel
theorem dX6_come_28 : decode cX6_come 28 = .ok (.aload_n 0, 1) := by decide +kernel
theorem dX6_come_29 : decode cX6_come 29 = .ok (.getfield 10, 3) := by decide +kernel
theorem dX6_come_32 : decode cX6_come 32 = .ok (.iload_n 1, 1) := by decide +kernel
theorem dX6_come_33 : decode cX6_come 33 = .ok (.putfield 131, 3) := by decide +kernel
theorem dX6_come_36 : decode cX6_come 36 = .ok (.iload_n 2, 1) := by decide +kernel
theorem dX6_come_37 : decode cX6_come 37 = .ok (.ireturn, 1) := by decide +kernel
set_option maxRecDepth 20000 in
theorem ggX6_step_X6_within : GoodIn wsX6_step wsX6_within := goodIn_r _ [10] (by decide +kernel) (by decide +kernel)
set_option maxRecDepth 20000 in
theorem gX6_step_X6_within : GoodIn wsX6_step (va_wsS RX6 66 yX6_within wsX6_within) := goodIn_app (goodIn_of _ (by decide +kernel)) ggX6_step_X6_within
set_option maxRecDepth 20000 in
theorem ggX6_step_X1_mayStep : GoodIn wsX6_step wsX1_mayStep := goodIn_r _ [15, 16, 17, 18, 19, 14, 20, 21, 97, 98, 99, 100, 101, 102, 103, 104, 105, 106, 107, 108, 109, 110, 111] (by decide +kernel) (by decide +kernel)
set_option maxRecDepth 20000 in
theorem gX6_step_X1_mayStep : GoodIn wsX6_step (wsV RX6 134 RX1 yX1_mayStep wsX1_mayStep) := goodIn_app (goodIn_of _ (by decide +kernel)) ggX6_step_X1_mayStep
set_option maxRecDepth 20000 in
theorem ggX6_step_X1_passMinute : GoodIn wsX6_step wsX1_passMinute := goodIn_r _ [25, 26, 27, 28, 29, 30, 17, 18, 19, 14, 20, 21, 31, 32, 33, 34, 35, 36, 37, 38, 39, 40, 41, 42, 43, 44, 45, 46, 47, 48, 49, 50, 51, 52, 53, 54, 55, 56, 9, 57, 58, 59, 60, 61, 62, 63, 64, 65, 66, 67, 68, 69, 70, 71, 72, 73, 74, 75, 76, 77, 78, 79, 80, 81, 82, 83, 84, 85, 86, 97, 98, 99, 100, 101, 102, 103, 104, 105, 106, 107, 108, 109, 110, 111, 112, 113, 114] (by decide +kernel) (by decide +kernel)
set_option maxRecDepth 20000 in
theorem gX6_step_X1_passMinute : GoodIn wsX6_step (wsV RX6 141 RX1 yX1_passMinute wsX1_passMinute) := goodIn_app (goodIn_of _ (by decide +kernel)) ggX6_step_X1_passMinute
theorem dX6_step_0 : decode cX6_step 0 = .ok (.iload_n 1, 1) := by decide +kernel
theorem dX6_step_1 : decode cX6_step 1 = .ok (.iconst 0, 1) := by decide +kernel
theorem dX6_step_2 : decode cX6_step 2 = .ok (.iconst 3, 1) := by decide +kernel
theorem dX6_step_3 : decode cX6_step 3 = .ok (.invokestatic 66, 3) := by decide +kernel
theorem dX6_step_6 : decode cX6_step 6 = .ok (.ifCond .ne 6, 3) := by decide +kernel
theorem dX6_step_9 : decode cX6_step 9 = .ok (.ldc 70, 2) := by decide +kernel
theorem dX6_step_11 : decode cX6_step 11 = .ok (.ireturn, 1) := by decide +kernel
theorem dX6_step_12 : decode cX6_step 12 = .ok (.aload_n 0, 1) := by decide +kernel
theorem dX6_step_13 : decode cX6_step 13 = .ok (.getfield 10, 3) := by decide +kernel
theorem dX6_step_16 : decode cX6_step 16 = .ok (.aload_n 0, 1) := by decide +kernel
theorem dX6_step_17 : decode cX6_step 17 = .ok (.getfield 10, 3) := by decide +kernel
theorem dX6_step_20 : decode cX6_step 20 = .ok (.getfield 131, 3) := by decide +kernel
theorem dX6_step_23 : decode cX6_step 23 = .ok (.iload_n 1, 1) := by decide +kernel
theorem dX6_step_24 : decode cX6_step 24 = .ok (.invokevirtual 134, 3) := by decide +kernel
theorem dX6_step_27 : decode cX6_step 27 = .ok (.ifCond .ne 6, 3) := by decide +kernel
theorem dX6_step_30 : decode cX6_step 30 = .ok (.ldc 137, 2) := by decide +kernel
theorem dX6_step_32 : decode cX6_step 32 = .ok (.ireturn, 1) := by decide +kernel
theorem dX6_step_33 : decode cX6_step 33 = .ok (.aload_n 0, 1) := by decide +kernel
theorem dX6_step_34 : decode cX6_step 34 = .ok (.getfield 10, 3) := by decide +kernel
theorem dX6_step_37 : decode cX6_step 37 = .ok (.getfield 138, 3) := by decide +kernel
theorem dX6_step_40 : decode cX6_step 40 = .ok (.sipush 9999, 3) := by decide +kernel
theorem dX6_step_43 : decode cX6_step 43 = .ok (.if_icmp .lt 6, 3) := by decide +kernel
theorem dX6_step_46 : decode cX6_step 46 = .ok (.ldc 74, 2) := by decide +kernel
theorem dX6_step_48 : decode cX6_step 48 = .ok (.ireturn, 1) := by decide +kernel
theorem dX6_step_49 : decode cX6_step 49 = .ok (.aload_n 0, 1) := by decide +kernel
theorem dX6_step_50 : decode cX6_step 50 = .ok (.getfield 10, 3) := by decide +kernel
theorem dX6_step_53 : decode cX6_step 53 = .ok (.iload_n 1, 1) := by decide +kernel
theorem dX6_step_54 : decode cX6_step 54 = .ok (.invokevirtual 141, 3) := by decide +kernel
theorem dX6_step_57 : decode cX6_step 57 = .ok (.ireturn, 1) := by decide +kernel
set_option maxRecDepth 20000 in
theorem ggX6_run_X6_within : GoodIn wsX6_run wsX6_within := goodIn_r _ [8] (by decide +kernel) (by decide +kernel)
set_option maxRecDepth 20000 in
theorem gX6_run_X6_within : GoodIn wsX6_run (va_wsS RX6 66 yX6_within wsX6_within) := goodIn_app (goodIn_of _ (by decide +kernel)) ggX6_run_X6_within
set_option maxRecDepth 20000 in
theorem ggX6_run_X5_weigh : GoodIn wsX6_run wsX5_weigh := goodIn_r _ [13, 14, 15, 16, 17, 18, 19, 20, 21, 22, 23, 24, 25, 26, 27, 28, 29, 30, 31, 32, 33, 34, 35, 36, 37, 38, 39, 40, 41, 42, 7, 43, 44, 45, 46, 47, 48, 49, 50, 51, 52, 140, 141, 142, 143, 144, 145, 146, 147, 148, 149, 150, 151, 152, 153, 154, 155, 156, 157, 158, 159, 160] (by decide +kernel) (by decide +kernel)
set_option maxRecDepth 20000 in
theorem gX6_run_X5_weigh : GoodIn wsX6_run (wsV RX6 144 RX5 yX5_weigh wsX5_weigh) := goodIn_app (goodIn_of _ (by decide +kernel)) ggX6_run_X5_weigh
set_option maxRecDepth 20000 in
theorem ggX6_run_X6_passBestMinute : GoodIn wsX6_run wsX6_passBestMinute := goodIn_r _ [56, 57, 2, 58, 59, 60, 19, 61, 62, 63, 64, 65, 12, 66, 67, 68, 69, 70, 71, 72, 14, 15, 73, 74, 75, 76, 77, 78, 79, 80, 81, 82, 83, 84, 85, 86, 42, 7, 43, 44, 45, 46, 47, 48, 49, 50, 23, 24, 25, 26, 27, 28, 29, 30, 31, 32, 33, 34, 35, 36, 37, 38, 39, 40, 41, 87, 88, 89, 90, 91, 92, 93, 94, 95, 96, 97, 98, 99, 100, 101, 102, 103, 104, 105, 106, 107, 108, 109, 110, 111, 112, 113, 114, 115, 116, 117, 118, 119, 120, 121, 17, 18, 20, 21, 22, 51, 52, 122, 123, 124, 125, 126, 127, 128, 129, 140, 141, 142, 143, 144, 145, 146, 147, 148, 149, 150, 151, 152, 153, 154, 130, 131, 132, 133, 134, 135, 136, 137, 138, 139, 155, 156, 157, 158, 159, 160] (by decide +kernel) (by decide +kernel)
set_option maxRecDepth 20000 in
theorem gX6_run_X6_passBestMinute : GoodIn wsX6_run (wsV RX6 148 RX6 yX6_passBestMinute wsX6_passBestMinute) := goodIn_app (goodIn_of _ (by decide +kernel)) ggX6_run_X6_passBestMinute
theorem dX6_run_0 : decode cX6_run 0 = .ok (.iload_n 1, 1) := by decide +kernel
theorem dX6_run_1 : decode cX6_run 1 = .ok (.iconst 1, 1) := by decide +kernel
theorem dX6_run_2 : decode cX6_run 2 = .ok (.bipush 60, 2) := by decide +kernel
theorem dX6_run_4 : decode cX6_run 4 = .ok (.invokestatic 66, 3) := by decide +kernel
theorem dX6_run_7 : decode cX6_run 7 = .ok (.ifCond .ne 6, 3) := by decide +kernel
theorem dX6_run_10 : decode cX6_run 10 = .ok (.ldc 70, 2) := by decide +kernel
theorem dX6_run_12 : decode cX6_run 12 = .ok (.ireturn, 1) := by decide +kernel
theorem dX6_run_13 : decode cX6_run 13 = .ok (.aload_n 0, 1) := by decide +kernel
theorem dX6_run_14 : decode cX6_run 14 = .ok (.getfield 25, 3) := by decide +kernel
theorem dX6_run_17 : decode cX6_run 17 = .ok (.aload_n 0, 1) := by decide +kernel
theorem dX6_run_18 : decode cX6_run 18 = .ok (.getfield 10, 3) := by decide +kernel
theorem dX6_run_21 : decode cX6_run 21 = .ok (.invokevirtual 144, 3) := by decide +kernel
theorem dX6_run_24 : decode cX6_run 24 = .ok (.iconst 0, 1) := by decide +kernel
theorem dX6_run_25 : decode cX6_run 25 = .ok (.istore_n 2, 1) := by decide +kernel
theorem dX6_run_26 : decode cX6_run 26 = .ok (.iload_n 2, 1) := by decide +kernel
theorem dX6_run_27 : decode cX6_run 27 = .ok (.iload_n 1, 1) := by decide +kernel
theorem dX6_run_28 : decode cX6_run 28 = .ok (.if_icmp .ge 30, 3) := by decide +kernel
theorem dX6_run_31 : decode cX6_run 31 = .ok (.aload_n 0, 1) := by decide +kernel
theorem dX6_run_32 : decode cX6_run 32 = .ok (.getfield 10, 3) := by decide +kernel
theorem dX6_run_35 : decode cX6_run 35 = .ok (.getfield 138, 3) := by decide +kernel
theorem dX6_run_38 : decode cX6_run 38 = .ok (.sipush 9999, 3) := by decide +kernel
theorem dX6_run_41 : decode cX6_run 41 = .ok (.if_icmp .ge 17, 3) := by decide +kernel
theorem dX6_run_44 : decode cX6_run 44 = .ok (.aload_n 0, 1) := by decide +kernel
theorem dX6_run_45 : decode cX6_run 45 = .ok (.aload_n 0, 1) := by decide +kernel
theorem dX6_run_46 : decode cX6_run 46 = .ok (.getfield 10, 3) := by decide +kernel
theorem dX6_run_49 : decode cX6_run 49 = .ok (.invokevirtual 148, 3) := by decide +kernel
theorem dX6_run_52 : decode cX6_run 52 = .ok (.iinc 2 1, 3) := by decide +kernel
theorem dX6_run_55 : decode cX6_run 55 = .ok (.goto (-29), 3) := by decide +kernel
theorem dX6_run_58 : decode cX6_run 58 = .ok (.iload_n 2, 1) := by decide +kernel
theorem dX6_run_59 : decode cX6_run 59 = .ok (.ireturn, 1) := by decide +kernel
set_option maxRecDepth 20000 in
theorem ggX6_tree_X1_has : GoodIn wsX6_tree wsX1_has := goodIn_r _ [9, 10, 121, 122, 123, 124, 125, 126, 127, 128, 129, 130, 131, 132, 133, 134, 135] (by decide +kernel) (by decide +kernel)
set_option maxRecDepth 20000 in
theorem gX6_tree_X1_has : GoodIn wsX6_tree (wsV RX6 79 RX1 yX1_has wsX1_has) := goodIn_app (goodIn_of _ (by decide +kernel)) ggX6_tree_X1_has
set_option maxRecDepth 20000 in
theorem ggX6_tree_X6_within : GoodIn wsX6_tree wsX6_within := goodIn_r _ [14] (by decide +kernel) (by decide +kernel)
set_option maxRecDepth 20000 in
theorem gX6_tree_X6_within : GoodIn wsX6_tree (va_wsS RX6 66 yX6_within wsX6_within) := goodIn_app (goodIn_of _ (by decide +kernel)) ggX6_tree_X6_within
set_option maxRecDepth 20000 in
theorem ggX6_tree_X5_weigh : GoodIn wsX6_tree wsX5_weigh := goodIn_r _ [19, 20, 21, 22, 23, 24, 8, 25, 26, 27, 28, 29, 30, 31, 32, 33, 34, 35, 36, 37, 38, 39, 40, 41, 42, 43, 44, 45, 46, 47, 13, 48, 49, 50, 51, 52, 53, 54, 55, 56, 57, 121, 122, 123, 124, 125, 126, 127, 128, 129, 130, 131, 132, 133, 134, 135, 118, 119, 120, 136, 137, 138] (by decide +kernel) (by decide +kernel)
set_option maxRecDepth 20000 in
theorem gX6_tree_X5_weigh : GoodIn wsX6_tree (wsV RX6 144 RX5 yX5_weigh wsX5_weigh) := goodIn_app (goodIn_of _ (by decide +kernel)) ggX6_tree_X5_weigh
set_option maxRecDepth 20000 in
theorem ggX6_tree_X5_grow : GoodIn wsX6_tree wsX5_grow := goodIn_r _ [61, 62, 63, 64, 65, 66, 67, 20, 21, 68, 69, 70, 71, 72, 73, 74, 8, 75, 76, 77, 78, 79, 80, 81, 47, 13, 48, 49, 50, 51, 52, 53, 54, 55, 28, 29, 30, 31, 32, 33, 34, 35, 36, 37, 38, 39, 40, 41, 42, 43, 44, 45, 46, 82, 83, 84, 18, 85, 86, 87, 118, 119, 120, 121, 122, 123, 124, 125, 126, 127, 128, 129, 130, 131, 132, 133, 134, 135, 136, 137, 138] (by decide +kernel) (by decide +kernel)
set_option maxRecDepth 20000 in
theorem gX6_tree_X5_grow : GoodIn wsX6_tree (wsV RX6 151 RX5 yX5_grow wsX5_grow) := goodIn_app (goodIn_of _ (by decide +kernel)) ggX6_tree_X5_grow
set_option maxRecDepth 20000 in
theorem ggX6_tree_X5_bestStep : GoodIn wsX6_tree wsX5_bestStep := goodIn_r _ [91, 92, 93, 94, 8, 95, 96, 97, 6, 7, 9, 10, 98, 99, 100, 18, 101, 63, 102, 103, 104, 105, 106, 107, 121, 122, 123, 124, 125, 126, 127, 128, 129, 130, 131, 132, 133, 134, 135, 118, 119, 120] (by decide +kernel) (by decide +kernel)
set_option maxRecDepth 20000 in
theorem gX6_tree_X5_bestStep : GoodIn wsX6_tree (wsV RX6 158 RX5 yX5_bestStep wsX5_bestStep) := goodIn_app (goodIn_of _ (by decide +kernel)) ggX6_tree_X5_bestStep
theorem dX6_tree_0 : decode cX6_tree 0 = .ok (.aload_n 0, 1) := by decide +kernel
theorem dX6_tree_1 : decode cX6_tree 1 = .ok (.getfield 10, 3) := by decide +kernel
theorem dX6_tree_4 : decode cX6_tree 4 = .ok (.iload_n 1, 1) := by decide +kernel
theorem dX6_tree_5 : decode cX6_tree 5 = .ok (.invokevirtual 79, 3) := by decide +kernel
theorem dX6_tree_8 : decode cX6_tree 8 = .ok (.ifCond .eq 22, 3) := by decide +kernel
theorem dX6_tree_11 : decode cX6_tree 11 = .ok (.iload_n 2, 1) := by decide +kernel
theorem dX6_tree_12 : decode cX6_tree 12 = .ok (.iconst 1, 1) := by decide +kernel
theorem dX6_tree_13 : decode cX6_tree 13 = .ok (.bipush 60, 2) := by decide +kernel
theorem dX6_tree_15 : decode cX6_tree 15 = .ok (.invokestatic 66, 3) := by decide +kernel
theorem dX6_tree_18 : decode cX6_tree 18 = .ok (.ifCond .eq 12, 3) := by decide +kernel
theorem dX6_tree_21 : decode cX6_tree 21 = .ok (.iload_n 3, 1) := by decide +kernel
theorem dX6_tree_22 : decode cX6_tree 22 = .ok (.iconst 0, 1) := by decide +kernel
theorem dX6_tree_23 : decode cX6_tree 23 = .ok (.iconst 1, 1) := by decide +kernel
theorem dX6_tree_24 : decode cX6_tree 24 = .ok (.invokestatic 66, 3) := by decide +kernel
theorem dX6_tree_27 : decode cX6_tree 27 = .ok (.ifCond .ne 6, 3) := by decide +kernel
theorem dX6_tree_30 : decode cX6_tree 30 = .ok (.ldc 70, 2) := by decide +kernel
theorem dX6_tree_32 : decode cX6_tree 32 = .ok (.ireturn, 1) := by decide +kernel
theorem dX6_tree_33 : decode cX6_tree 33 = .ok (.aload_n 0, 1) := by decide +kernel
theorem dX6_tree_34 : decode cX6_tree 34 = .ok (.getfield 25, 3) := by decide +kernel
theorem dX6_tree_37 : decode cX6_tree 37 = .ok (.aload_n 0, 1) := by decide +kernel
theorem dX6_tree_38 : decode cX6_tree 38 = .ok (.getfield 10, 3) := by decide +kernel
theorem dX6_tree_41 : decode cX6_tree 41 = .ok (.invokevirtual 144, 3) := by decide +kernel
theorem dX6_tree_44 : decode cX6_tree 44 = .ok (.aload_n 0, 1) := by decide +kernel
theorem dX6_tree_45 : decode cX6_tree 45 = .ok (.getfield 25, 3) := by decide +kernel
theorem dX6_tree_48 : decode cX6_tree 48 = .ok (.aload_n 0, 1) := by decide +kernel
theorem dX6_tree_49 : decode cX6_tree 49 = .ok (.getfield 10, 3) := by decide +kernel
theorem dX6_tree_52 : decode cX6_tree 52 = .ok (.iload_n 2, 1) := by decide +kernel
theorem dX6_tree_53 : decode cX6_tree 53 = .ok (.invokevirtual 151, 3) := by decide +kernel
theorem dX6_tree_56 : decode cX6_tree 56 = .ok (.iload_n 3, 1) := by decide +kernel
theorem dX6_tree_57 : decode cX6_tree 57 = .ok (.ifCond .ne 15, 3) := by decide +kernel
theorem dX6_tree_60 : decode cX6_tree 60 = .ok (.aload_n 0, 1) := by decide +kernel
theorem dX6_tree_61 : decode cX6_tree 61 = .ok (.getfield 25, 3) := by decide +kernel
theorem dX6_tree_64 : decode cX6_tree 64 = .ok (.getfield 155, 3) := by decide +kernel
theorem dX6_tree_67 : decode cX6_tree 67 = .ok (.iload_n 1, 1) := by decide +kernel
theorem dX6_tree_68 : decode cX6_tree 68 = .ok (.iaload, 1) := by decide +kernel
theorem dX6_tree_69 : decode cX6_tree 69 = .ok (.goto 15, 3) := by decide +kernel
theorem dX6_tree_72 : decode cX6_tree 72 = .ok (.aload_n 0, 1) := by decide +kernel
theorem dX6_tree_73 : decode cX6_tree 73 = .ok (.getfield 25, 3) := by decide +kernel
theorem dX6_tree_76 : decode cX6_tree 76 = .ok (.aload_n 0, 1) := by decide +kernel
theorem dX6_tree_77 : decode cX6_tree 77 = .ok (.getfield 10, 3) := by decide +kernel
theorem dX6_tree_80 : decode cX6_tree 80 = .ok (.iload_n 1, 1) := by decide +kernel
theorem dX6_tree_81 : decode cX6_tree 81 = .ok (.invokevirtual 158, 3) := by decide +kernel
theorem dX6_tree_84 : decode cX6_tree 84 = .ok (.ireturn, 1) := by decide +kernel
set_option maxRecDepth 20000 in
theorem ggX6_rule_X1_has : GoodIn wsX6_rule wsX1_has := goodIn_r _ [9, 10, 121, 122, 123, 124, 125, 126, 127, 128, 129, 130, 131, 132, 133, 134, 135] (by decide +kernel) (by decide +kernel)
set_option maxRecDepth 20000 in
theorem gX6_rule_X1_has : GoodIn wsX6_rule (wsV RX6 79 RX1 yX1_has wsX1_has) := goodIn_app (goodIn_of _ (by decide +kernel)) ggX6_rule_X1_has
set_option maxRecDepth 20000 in
theorem ggX6_rule_X6_within : GoodIn wsX6_rule wsX6_within := goodIn_r _ [14] (by decide +kernel) (by decide +kernel)
set_option maxRecDepth 20000 in
theorem gX6_rule_X6_within : GoodIn wsX6_rule (va_wsS RX6 66 yX6_within wsX6_within) := goodIn_app (goodIn_of _ (by decide +kernel)) ggX6_rule_X6_within
set_option maxRecDepth 20000 in
theorem ggX6_rule_X1_dangerByRule : GoodIn wsX6_rule wsX1_dangerByRule := goodIn_r _ [18, 19, 6, 7, 8, 9, 10, 20, 21, 22, 23, 24, 25, 26, 27, 28, 29, 30, 31, 32, 33, 34, 35, 36, 37, 38, 39, 40, 41, 42, 43, 44, 45, 46, 47, 48, 49, 13, 50, 51, 52, 53, 54, 55, 56, 57, 58, 59, 60, 61, 62, 63, 64, 65, 66, 67, 68, 69, 70, 71, 72, 73, 74, 75, 76, 77, 78, 121, 122, 123, 124, 125, 126, 127, 128, 129, 130, 131, 132, 133, 134, 135, 136, 137, 138] (by decide +kernel) (by decide +kernel)
set_option maxRecDepth 20000 in
theorem gX6_rule_X1_dangerByRule : GoodIn wsX6_rule (wsV RX6 162 RX1 yX1_dangerByRule wsX1_dangerByRule) := goodIn_app (goodIn_of _ (by decide +kernel)) ggX6_rule_X1_dangerByRule
set_option maxRecDepth 20000 in
theorem ggX6_rule_X5_weigh : GoodIn wsX6_rule wsX5_weigh := goodIn_r _ [83, 84, 85, 86, 25, 26, 8, 27, 28, 29, 30, 31, 32, 33, 34, 35, 36, 37, 38, 39, 40, 41, 42, 43, 44, 45, 46, 47, 48, 49, 13, 50, 51, 52, 53, 54, 55, 56, 57, 58, 59, 121, 122, 123, 124, 125, 126, 127, 128, 129, 130, 131, 132, 133, 134, 135, 118, 119, 120, 136, 137, 138] (by decide +kernel) (by decide +kernel)
set_option maxRecDepth 20000 in
theorem gX6_rule_X5_weigh : GoodIn wsX6_rule (wsV RX6 144 RX5 yX5_weigh wsX5_weigh) := goodIn_app (goodIn_of _ (by decide +kernel)) ggX6_rule_X5_weigh
set_option maxRecDepth 20000 in
theorem ggX6_rule_X5_grow : GoodIn wsX6_rule wsX5_grow := goodIn_r _ [90, 91, 92, 93, 94, 95, 96, 84, 85, 97, 98, 99, 100, 101, 61, 62, 8, 63, 64, 65, 66, 67, 68, 69, 49, 13, 50, 51, 52, 53, 54, 55, 56, 57, 30, 31, 32, 33, 34, 35, 36, 37, 38, 39, 40, 41, 42, 43, 44, 45, 46, 47, 48, 102, 103, 104, 82, 105, 106, 107, 118, 119, 120, 121, 122, 123, 124, 125, 126, 127, 128, 129, 130, 131, 132, 133, 134, 135, 136, 137, 138] (by decide +kernel) (by decide +kernel)
set_option maxRecDepth 20000 in
theorem gX6_rule_X5_grow : GoodIn wsX6_rule (wsV RX6 151 RX5 yX5_grow wsX5_grow) := goodIn_app (goodIn_of _ (by decide +kernel)) ggX6_rule_X5_grow
theorem dX6_rule_0 : decode cX6_rule 0 = .ok (.aload_n 0, 1) := by decide +kernel
theorem dX6_rule_1 : decode cX6_rule 1 = .ok (.getfield 10, 3) := by decide +kernel
theorem dX6_rule_4 : decode cX6_rule 4 = .ok (.iload_n 1, 1) := by decide +kernel
theorem dX6_rule_5 : decode cX6_rule 5 = .ok (.invokevirtual 79, 3) := by decide +kernel
theorem dX6_rule_8 : decode cX6_rule 8 = .ok (.ifCond .eq 22, 3) := by decide +kernel
theorem dX6_rule_11 : decode cX6_rule 11 = .ok (.iload_n 2, 1) := by decide +kernel
theorem dX6_rule_12 : decode cX6_rule 12 = .ok (.iconst 1, 1) := by decide +kernel
theorem dX6_rule_13 : decode cX6_rule 13 = .ok (.bipush 60, 2) := by decide +kernel
theorem dX6_rule_15 : decode cX6_rule 15 = .ok (.invokestatic 66, 3) := by decide +kernel
theorem dX6_rule_18 : decode cX6_rule 18 = .ok (.ifCond .eq 12, 3) := by decide +kernel
theorem dX6_rule_21 : decode cX6_rule 21 = .ok (.iload_n 3, 1) := by decide +kernel
theorem dX6_rule_22 : decode cX6_rule 22 = .ok (.iconst 0, 1) := by decide +kernel
theorem dX6_rule_23 : decode cX6_rule 23 = .ok (.iconst 1, 1) := by decide +kernel
theorem dX6_rule_24 : decode cX6_rule 24 = .ok (.invokestatic 66, 3) := by decide +kernel
theorem dX6_rule_27 : decode cX6_rule 27 = .ok (.ifCond .ne 6, 3) := by decide +kernel
theorem dX6_rule_30 : decode cX6_rule 30 = .ok (.ldc 70, 2) := by decide +kernel
theorem dX6_rule_32 : decode cX6_rule 32 = .ok (.ireturn, 1) := by decide +kernel
theorem dX6_rule_33 : decode cX6_rule 33 = .ok (.aload_n 0, 1) := by decide +kernel
theorem dX6_rule_34 : decode cX6_rule 34 = .ok (.getfield 10, 3) := by decide +kernel
theorem dX6_rule_37 : decode cX6_rule 37 = .ok (.iload_n 1, 1) := by decide +kernel
theorem dX6_rule_38 : decode cX6_rule 38 = .ok (.iload_n 2, 1) := by decide +kernel
theorem dX6_rule_39 : decode cX6_rule 39 = .ok (.invokevirtual 162, 3) := by decide +kernel
theorem dX6_rule_42 : decode cX6_rule 42 = .ok (.istore 4, 2) := by decide +kernel
theorem dX6_rule_44 : decode cX6_rule 44 = .ok (.iload_n 3, 1) := by decide +kernel
theorem dX6_rule_45 : decode cX6_rule 45 = .ok (.ifCond .ne 6, 3) := by decide +kernel
theorem dX6_rule_48 : decode cX6_rule 48 = .ok (.iload 4, 2) := by decide +kernel
theorem dX6_rule_50 : decode cX6_rule 50 = .ok (.ireturn, 1) := by decide +kernel
theorem dX6_rule_51 : decode cX6_rule 51 = .ok (.aload_n 0, 1) := by decide +kernel
theorem dX6_rule_52 : decode cX6_rule 52 = .ok (.getfield 25, 3) := by decide +kernel
theorem dX6_rule_55 : decode cX6_rule 55 = .ok (.aload_n 0, 1) := by decide +kernel
theorem dX6_rule_56 : decode cX6_rule 56 = .ok (.getfield 10, 3) := by decide +kernel
theorem dX6_rule_59 : decode cX6_rule 59 = .ok (.invokevirtual 144, 3) := by decide +kernel
theorem dX6_rule_62 : decode cX6_rule 62 = .ok (.aload_n 0, 1) := by decide +kernel
theorem dX6_rule_63 : decode cX6_rule 63 = .ok (.getfield 25, 3) := by decide +kernel
theorem dX6_rule_66 : decode cX6_rule 66 = .ok (.aload_n 0, 1) := by decide +kernel
theorem dX6_rule_67 : decode cX6_rule 67 = .ok (.getfield 10, 3) := by decide +kernel
theorem dX6_rule_70 : decode cX6_rule 70 = .ok (.iload_n 2, 1) := by decide +kernel
theorem dX6_rule_71 : decode cX6_rule 71 = .ok (.invokevirtual 151, 3) := by decide +kernel
theorem dX6_rule_74 : decode cX6_rule 74 = .ok (.iload 4, 2) := by decide +kernel
theorem dX6_rule_76 : decode cX6_rule 76 = .ok (.aload_n 0, 1) := by decide +kernel
theorem dX6_rule_77 : decode cX6_rule 77 = .ok (.getfield 25, 3) := by decide +kernel
theorem dX6_rule_80 : decode cX6_rule 80 = .ok (.getfield 155, 3) := by decide +kernel
theorem dX6_rule_83 : decode cX6_rule 83 = .ok (.iload_n 1, 1) := by decide +kernel
theorem dX6_rule_84 : decode cX6_rule 84 = .ok (.iaload, 1) := by decide +kernel
theorem dX6_rule_85 : decode cX6_rule 85 = .ok (.isub, 1) := by decide +kernel
theorem dX6_rule_86 : decode cX6_rule 86 = .ok (.ireturn, 1) := by decide +kernel
set_option maxRecDepth 20000 in
theorem ggX6_hide_X1_has : GoodIn wsX6_hide wsX1_has := goodIn_r _ [17, 18, 72, 73, 74, 75, 76, 77, 78, 79, 80, 81, 82, 83, 84, 85, 86] (by decide +kernel) (by decide +kernel)
set_option maxRecDepth 20000 in
theorem gX6_hide_X1_has : GoodIn wsX6_hide (wsV RX6 79 RX1 yX1_has wsX1_has) := goodIn_app (goodIn_of _ (by decide +kernel)) ggX6_hide_X1_has
set_option maxRecDepth 20000 in
theorem ggX6_hide_X6_within : GoodIn wsX6_hide wsX6_within := goodIn_r _ [22] (by decide +kernel) (by decide +kernel)
set_option maxRecDepth 20000 in
theorem gX6_hide_X6_within : GoodIn wsX6_hide (va_wsS RX6 66 yX6_within wsX6_within) := goodIn_app (goodIn_of _ (by decide +kernel)) ggX6_hide_X6_within
set_option maxRecDepth 20000 in
theorem ggX6_hide_X5_weigh : GoodIn wsX6_hide wsX5_weigh := goodIn_r _ [27, 28, 29, 30, 31, 32, 16, 33, 34, 35, 36, 37, 38, 39, 40, 41, 42, 43, 44, 45, 46, 47, 48, 49, 50, 51, 52, 53, 54, 55, 21, 56, 9, 10, 6, 11, 4, 5, 7, 57, 58, 72, 73, 74, 75, 76, 77, 78, 79, 80, 81, 82, 83, 84, 85, 86, 87, 88, 89, 90, 91, 92] (by decide +kernel) (by decide +kernel)
set_option maxRecDepth 20000 in
theorem gX6_hide_X5_weigh : GoodIn wsX6_hide (wsV RX6 144 RX5 yX5_weigh wsX5_weigh) := goodIn_app (goodIn_of _ (by decide +kernel)) ggX6_hide_X5_weigh
set_option maxRecDepth 20000 in
theorem ggX6_hide_X6_firstLeast : GoodIn wsX6_hide wsX6_firstLeast := goodIn_r _ [61] (by decide +kernel) (by decide +kernel)
set_option maxRecDepth 20000 in
theorem gX6_hide_X6_firstLeast : GoodIn wsX6_hide (va_wsS RX6 171 yX6_firstLeast wsX6_firstLeast) := goodIn_app (goodIn_of _ (by decide +kernel)) ggX6_hide_X6_firstLeast
theorem dX6_hide_0 : decode cX6_hide 0 = .ok (.aload_n 0, 1) := by decide +kernel
theorem dX6_hide_1 : decode cX6_hide 1 = .ok (.getfield 10, 3) := by decide +kernel
theorem dX6_hide_4 : decode cX6_hide 4 = .ok (.iload_n 1, 1) := by decide +kernel
theorem dX6_hide_5 : decode cX6_hide 5 = .ok (.invokevirtual 79, 3) := by decide +kernel
theorem dX6_hide_8 : decode cX6_hide 8 = .ok (.ifCond .eq 13, 3) := by decide +kernel
theorem dX6_hide_11 : decode cX6_hide 11 = .ok (.iload_n 2, 1) := by decide +kernel
theorem dX6_hide_12 : decode cX6_hide 12 = .ok (.iconst 0, 1) := by decide +kernel
theorem dX6_hide_13 : decode cX6_hide 13 = .ok (.bipush 60, 2) := by decide +kernel
theorem dX6_hide_15 : decode cX6_hide 15 = .ok (.invokestatic 66, 3) := by decide +kernel
theorem dX6_hide_18 : decode cX6_hide 18 = .ok (.ifCond .ne 6, 3) := by decide +kernel
theorem dX6_hide_21 : decode cX6_hide 21 = .ok (.ldc 70, 2) := by decide +kernel
theorem dX6_hide_23 : decode cX6_hide 23 = .ok (.ireturn, 1) := by decide +kernel
theorem dX6_hide_24 : decode cX6_hide 24 = .ok (.aload_n 0, 1) := by decide +kernel
theorem dX6_hide_25 : decode cX6_hide 25 = .ok (.getfield 25, 3) := by decide +kernel
theorem dX6_hide_28 : decode cX6_hide 28 = .ok (.aload_n 0, 1) := by decide +kernel
theorem dX6_hide_29 : decode cX6_hide 29 = .ok (.getfield 10, 3) := by decide +kernel
theorem dX6_hide_32 : decode cX6_hide 32 = .ok (.invokevirtual 144, 3) := by decide +kernel
theorem dX6_hide_35 : decode cX6_hide 35 = .ok (.iconst 0, 1) := by decide +kernel
theorem dX6_hide_36 : decode cX6_hide 36 = .ok (.iload_n 1, 1) := by decide +kernel
theorem dX6_hide_37 : decode cX6_hide 37 = .ok (.iload_n 2, 1) := by decide +kernel
theorem dX6_hide_38 : decode cX6_hide 38 = .ok (.isub, 1) := by decide +kernel
theorem dX6_hide_39 : decode cX6_hide 39 = .ok (.invokestatic 165, 3) := by decide +kernel
theorem dX6_hide_42 : decode cX6_hide 42 = .ok (.istore_n 3, 1) := by decide +kernel
theorem dX6_hide_43 : decode cX6_hide 43 = .ok (.aload_n 0, 1) := by decide +kernel
theorem dX6_hide_44 : decode cX6_hide 44 = .ok (.getfield 10, 3) := by decide +kernel
theorem dX6_hide_47 : decode cX6_hide 47 = .ok (.getfield 71, 3) := by decide +kernel
theorem dX6_hide_50 : decode cX6_hide 50 = .ok (.iconst 1, 1) := by decide +kernel
theorem dX6_hide_51 : decode cX6_hide 51 = .ok (.isub, 1) := by decide +kernel
theorem dX6_hide_52 : decode cX6_hide 52 = .ok (.iload_n 1, 1) := by decide +kernel
theorem dX6_hide_53 : decode cX6_hide 53 = .ok (.iload_n 2, 1) := by decide +kernel
theorem dX6_hide_54 : decode cX6_hide 54 = .ok (.iadd, 1) := by decide +kernel
theorem dX6_hide_55 : decode cX6_hide 55 = .ok (.invokestatic 104, 3) := by decide +kernel
theorem dX6_hide_58 : decode cX6_hide 58 = .ok (.istore 4, 2) := by decide +kernel
theorem dX6_hide_60 : decode cX6_hide 60 = .ok (.aload_n 0, 1) := by decide +kernel
theorem dX6_hide_61 : decode cX6_hide 61 = .ok (.getfield 25, 3) := by decide +kernel
theorem dX6_hide_64 : decode cX6_hide 64 = .ok (.getfield 168, 3) := by decide +kernel
theorem dX6_hide_67 : decode cX6_hide 67 = .ok (.iload_n 3, 1) := by decide +kernel
theorem dX6_hide_68 : decode cX6_hide 68 = .ok (.iload 4, 2) := by decide +kernel
theorem dX6_hide_70 : decode cX6_hide 70 = .ok (.invokestatic 171, 3) := by decide +kernel
theorem dX6_hide_73 : decode cX6_hide 73 = .ok (.ireturn, 1) := by decide +kernel
set_option maxRecDepth 20000 in
theorem ggX6_safest_X6_within : GoodIn wsX6_safest wsX6_within := goodIn_r _ [10] (by decide +kernel) (by decide +kernel)
set_option maxRecDepth 20000 in
theorem gX6_safest_X6_within : GoodIn wsX6_safest (va_wsS RX6 66 yX6_within wsX6_within) := goodIn_app (goodIn_of _ (by decide +kernel)) ggX6_safest_X6_within
set_option maxRecDepth 20000 in
theorem ggX6_safest_X5_weigh : GoodIn wsX6_safest wsX5_weigh := goodIn_r _ [15, 16, 17, 18, 19, 20, 21, 22, 23, 24, 25, 26, 27, 28, 29, 30, 31, 32, 33, 34, 35, 36, 37, 38, 39, 40, 41, 42, 43, 44, 9, 45, 46, 47, 48, 49, 50, 51, 52, 53, 54, 98, 99, 100, 101, 102, 103, 104, 105, 106, 107, 108, 109, 110, 111, 112, 113, 114, 115, 116, 117, 118] (by decide +kernel) (by decide +kernel)
set_option maxRecDepth 20000 in
theorem gX6_safest_X5_weigh : GoodIn wsX6_safest (wsV RX6 144 RX5 yX5_weigh wsX5_weigh) := goodIn_app (goodIn_of _ (by decide +kernel)) ggX6_safest_X5_weigh
set_option maxRecDepth 20000 in
theorem ggX6_safest_X5_grow : GoodIn wsX6_safest wsX5_grow := goodIn_r _ [58, 59, 60, 61, 62, 63, 64, 16, 17, 65, 66, 67, 68, 69, 70, 71, 21, 72, 73, 74, 75, 76, 77, 78, 44, 9, 45, 46, 47, 48, 49, 50, 51, 52, 25, 26, 27, 28, 29, 30, 31, 32, 33, 34, 35, 36, 37, 38, 39, 40, 41, 42, 43, 79, 80, 81, 14, 82, 83, 84, 113, 114, 115, 98, 99, 100, 101, 102, 103, 104, 105, 106, 107, 108, 109, 110, 111, 112, 116, 117, 118] (by decide +kernel) (by decide +kernel)
set_option maxRecDepth 20000 in
theorem gX6_safest_X5_grow : GoodIn wsX6_safest (wsV RX6 151 RX5 yX5_grow wsX5_grow) := goodIn_app (goodIn_of _ (by decide +kernel)) ggX6_safest_X5_grow
set_option maxRecDepth 20000 in
theorem ggX6_safest_X6_firstLeast : GoodIn wsX6_safest wsX6_firstLeast := goodIn_r _ [87] (by decide +kernel) (by decide +kernel)
set_option maxRecDepth 20000 in
theorem gX6_safest_X6_firstLeast : GoodIn wsX6_safest (va_wsS RX6 171 yX6_firstLeast wsX6_firstLeast) := goodIn_app (goodIn_of _ (by decide +kernel)) ggX6_safest_X6_firstLeast
theorem dX6_safest_0 : decode cX6_safest 0 = .ok (.iload_n 1, 1) := by decide +kernel
theorem dX6_safest_1 : decode cX6_safest 1 = .ok (.iconst 1, 1) := by decide +kernel
theorem dX6_safest_2 : decode cX6_safest 2 = .ok (.bipush 60, 2) := by decide +kernel
theorem dX6_safest_4 : decode cX6_safest 4 = .ok (.invokestatic 66, 3) := by decide +kernel
theorem dX6_safest_7 : decode cX6_safest 7 = .ok (.ifCond .ne 6, 3) := by decide +kernel
theorem dX6_safest_10 : decode cX6_safest 10 = .ok (.ldc 70, 2) := by decide +kernel
theorem dX6_safest_12 : decode cX6_safest 12 = .ok (.ireturn, 1) := by decide +kernel
theorem dX6_safest_13 : decode cX6_safest 13 = .ok (.aload_n 0, 1) := by decide +kernel
theorem dX6_safest_14 : decode cX6_safest 14 = .ok (.getfield 10, 3) := by decide +kernel
theorem dX6_safest_17 : decode cX6_safest 17 = .ok (.getfield 71, 3) := by decide +kernel
theorem dX6_safest_20 : decode cX6_safest 20 = .ok (.ifCond .ne 6, 3) := by decide +kernel
theorem dX6_safest_23 : decode cX6_safest 23 = .ok (.ldc 130, 2) := by decide +kernel
theorem dX6_safest_25 : decode cX6_safest 25 = .ok (.ireturn, 1) := by decide +kernel
theorem dX6_safest_26 : decode cX6_safest 26 = .ok (.aload_n 0, 1) := by decide +kernel
theorem dX6_safest_27 : decode cX6_safest 27 = .ok (.getfield 25, 3) := by decide +kernel
theorem dX6_safest_30 : decode cX6_safest 30 = .ok (.aload_n 0, 1) := by decide +kernel
theorem dX6_safest_31 : decode cX6_safest 31 = .ok (.getfield 10, 3) := by decide +kernel
theorem dX6_safest_34 : decode cX6_safest 34 = .ok (.invokevirtual 144, 3) := by decide +kernel
theorem dX6_safest_37 : decode cX6_safest 37 = .ok (.aload_n 0, 1) := by decide +kernel
theorem dX6_safest_38 : decode cX6_safest 38 = .ok (.getfield 25, 3) := by decide +kernel
theorem dX6_safest_41 : decode cX6_safest 41 = .ok (.aload_n 0, 1) := by decide +kernel
theorem dX6_safest_42 : decode cX6_safest 42 = .ok (.getfield 10, 3) := by decide +kernel
theorem dX6_safest_45 : decode cX6_safest 45 = .ok (.iload_n 1, 1) := by decide +kernel
theorem dX6_safest_46 : decode cX6_safest 46 = .ok (.invokevirtual 151, 3) := by decide +kernel
theorem dX6_safest_49 : decode cX6_safest 49 = .ok (.aload_n 0, 1) := by decide +kernel
theorem dX6_safest_50 : decode cX6_safest 50 = .ok (.getfield 25, 3) := by decide +kernel
theorem dX6_safest_53 : decode cX6_safest 53 = .ok (.getfield 155, 3) := by decide +kernel
theorem dX6_safest_56 : decode cX6_safest 56 = .ok (.iconst 0, 1) := by decide +kernel
theorem dX6_safest_57 : decode cX6_safest 57 = .ok (.aload_n 0, 1) := by decide +kernel
theorem dX6_safest_58 : decode cX6_safest 58 = .ok (.getfield 10, 3) := by decide +kernel
theorem dX6_safest_61 : decode cX6_safest 61 = .ok (.getfield 71, 3) := by decide +kernel
theorem dX6_safest_64 : decode cX6_safest 64 = .ok (.iconst 1, 1) := by decide +kernel
theorem dX6_safest_65 : decode cX6_safest 65 = .ok (.isub, 1) := by decide +kernel
theorem dX6_safest_66 : decode cX6_safest 66 = .ok (.invokestatic 171, 3) := by decide +kernel
theorem dX6_safest_69 : decode cX6_safest 69 = .ok (.ireturn, 1) := by decide +kernel
set_option maxRecDepth 20000 in
theorem ggX6_claps_X6_isSheet : GoodIn wsX6_claps wsX6_isSheet := goodIn_r _ [8] (by decide +kernel) (by decide +kernel)
set_option maxRecDepth 20000 in
theorem gX6_claps_X6_isSheet : GoodIn wsX6_claps (va_wsS RX6 175 yX6_isSheet wsX6_isSheet) := goodIn_app (goodIn_of _ (by decide +kernel)) ggX6_claps_X6_isSheet
set_option maxRecDepth 20000 in
theorem ggX6_claps_X6_within : GoodIn wsX6_claps wsX6_within := goodIn_r _ [11] (by decide +kernel) (by decide +kernel)
set_option maxRecDepth 20000 in
theorem gX6_claps_X6_within : GoodIn wsX6_claps (va_wsS RX6 66 yX6_within wsX6_within) := goodIn_app (goodIn_of _ (by decide +kernel)) ggX6_claps_X6_within
set_option maxRecDepth 20000 in
theorem ggX6_claps_X2_isMissing : GoodIn wsX6_claps wsX2_isMissing := goodIn_r _ [16, 17, 69, 70, 71] (by decide +kernel) (by decide +kernel)
set_option maxRecDepth 20000 in
theorem gX6_claps_X2_isMissing : GoodIn wsX6_claps (wsV RX6 178 RX2 yX2_isMissing wsX2_isMissing) := goodIn_app (goodIn_of _ (by decide +kernel)) ggX6_claps_X2_isMissing
set_option maxRecDepth 20000 in
theorem ggX6_claps_X2_firstNumber : GoodIn wsX6_claps wsX2_firstNumber := goodIn_r _ [21, 22, 23, 24, 25, 26, 15, 27, 28, 69, 70, 71] (by decide +kernel) (by decide +kernel)
set_option maxRecDepth 20000 in
theorem gX6_claps_X2_firstNumber : GoodIn wsX6_claps (wsV RX6 183 RX2 yX2_firstNumber wsX2_firstNumber) := goodIn_app (goodIn_of _ (by decide +kernel)) ggX6_claps_X2_firstNumber
set_option maxRecDepth 20000 in
theorem ggX6_claps_X2_howFar : GoodIn wsX6_claps wsX2_howFar := goodIn_r _ [32, 22, 28, 24, 25, 26, 15, 27, 23, 69, 70, 71] (by decide +kernel) (by decide +kernel)
set_option maxRecDepth 20000 in
theorem gX6_claps_X2_howFar : GoodIn wsX6_claps (wsV RX6 187 RX2 yX2_howFar wsX2_howFar) := goodIn_app (goodIn_of _ (by decide +kernel)) ggX6_claps_X2_howFar
set_option maxRecDepth 20000 in
theorem ggX6_claps_X2_comes : GoodIn wsX6_claps wsX2_comes := goodIn_r _ [36, 23, 28, 22, 37, 19, 20, 15, 21, 24, 25, 26, 27, 69, 70, 71] (by decide +kernel) (by decide +kernel)
set_option maxRecDepth 20000 in
theorem gX6_claps_X2_comes : GoodIn wsX6_claps (wsV RX6 190 RX2 yX2_comes wsX2_comes) := goodIn_app (goodIn_of _ (by decide +kernel)) ggX6_claps_X2_comes
set_option maxRecDepth 20000 in
theorem ggX6_claps_X2_explainingPace : GoodIn wsX6_claps wsX2_explainingPace := goodIn_r _ [41, 42, 43, 44, 15, 45, 23, 28, 22, 46, 47, 48, 49, 37, 19, 20, 21, 24, 25, 26, 27, 50, 7, 51, 52, 53, 54, 55, 56, 57, 69, 70, 71] (by decide +kernel) (by decide +kernel)
set_option maxRecDepth 20000 in
theorem gX6_claps_X2_explainingPace : GoodIn wsX6_claps (wsV RX6 193 RX2 yX2_explainingPace wsX2_explainingPace) := goodIn_app (goodIn_of _ (by decide +kernel)) ggX6_claps_X2_explainingPace
set_option maxRecDepth 20000 in
theorem ggX6_claps_X2_differences : GoodIn wsX6_claps wsX2_differences := goodIn_r _ [45, 23, 28, 22, 46, 47, 48, 49, 37, 19, 20, 15, 21, 24, 25, 26, 27, 50, 7, 51, 52, 53, 54, 55, 56, 57, 69, 70, 71] (by decide +kernel) (by decide +kernel)
set_option maxRecDepth 20000 in
theorem gX6_claps_X2_differences : GoodIn wsX6_claps (wsV RX6 196 RX2 yX2_differences wsX2_differences) := goodIn_app (goodIn_of _ (by decide +kernel)) ggX6_claps_X2_differences
theorem dX6_claps_0 : decode cX6_claps 0 = .ok (.iload_n 1, 1) := by decide +kernel
theorem dX6_claps_1 : decode cX6_claps 1 = .ok (.invokestatic 175, 3) := by decide +kernel
theorem dX6_claps_4 : decode cX6_claps 4 = .ok (.ifCond .eq 12, 3) := by decide +kernel
theorem dX6_claps_7 : decode cX6_claps 7 = .ok (.iload_n 2, 1) := by decide +kernel
theorem dX6_claps_8 : decode cX6_claps 8 = .ok (.iconst 0, 1) := by decide +kernel
theorem dX6_claps_9 : decode cX6_claps 9 = .ok (.iconst 3, 1) := by decide +kernel
theorem dX6_claps_10 : decode cX6_claps 10 = .ok (.invokestatic 66, 3) := by decide +kernel
theorem dX6_claps_13 : decode cX6_claps 13 = .ok (.ifCond .ne 6, 3) := by decide +kernel
theorem dX6_claps_16 : decode cX6_claps 16 = .ok (.ldc 70, 2) := by decide +kernel
theorem dX6_claps_18 : decode cX6_claps 18 = .ok (.ireturn, 1) := by decide +kernel
theorem dX6_claps_19 : decode cX6_claps 19 = .ok (.aload_n 0, 1) := by decide +kernel
theorem dX6_claps_20 : decode cX6_claps 20 = .ok (.getfield 38, 3) := by decide +kernel
theorem dX6_claps_23 : decode cX6_claps 23 = .ok (.iload_n 1, 1) := by decide +kernel
theorem dX6_claps_24 : decode cX6_claps 24 = .ok (.aaload, 1) := by decide +kernel
theorem dX6_claps_25 : decode cX6_claps 25 = .ok (.astore_n 3, 1) := by decide +kernel
theorem dX6_claps_26 : decode cX6_claps 26 = .ok (.aload_n 3, 1) := by decide +kernel
theorem dX6_claps_27 : decode cX6_claps 27 = .ok (.invokevirtual 178, 3) := by decide +kernel
theorem dX6_claps_30 : decode cX6_claps 30 = .ok (.ifCond .eq 6, 3) := by decide +kernel
theorem dX6_claps_33 : decode cX6_claps 33 = .ok (.ldc 182, 2) := by decide +kernel
theorem dX6_claps_35 : decode cX6_claps 35 = .ok (.ireturn, 1) := by decide +kernel
theorem dX6_claps_36 : decode cX6_claps 36 = .ok (.aload_n 3, 1) := by decide +kernel
theorem dX6_claps_37 : decode cX6_claps 37 = .ok (.invokevirtual 183, 3) := by decide +kernel
theorem dX6_claps_40 : decode cX6_claps 40 = .ok (.ldc 130, 2) := by decide +kernel
theorem dX6_claps_42 : decode cX6_claps 42 = .ok (.if_icmp .ne 6, 3) := by decide +kernel
theorem dX6_claps_45 : decode cX6_claps 45 = .ok (.ldc 130, 2) := by decide +kernel
theorem dX6_claps_47 : decode cX6_claps 47 = .ok (.ireturn, 1) := by decide +kernel
theorem dX6_claps_48 : decode cX6_claps 48 = .ok (.iload_n 2, 1) := by decide +kernel
theorem dX6_claps_49 : decode cX6_claps 49 = .ok (.tableswitch 42 0 2 #[27, 32, 37], 27) := by decide +kernel
theorem dX6_claps_76 : decode cX6_claps 76 = .ok (.aload_n 3, 1) := by decide +kernel
theorem dX6_claps_77 : decode cX6_claps 77 = .ok (.invokevirtual 187, 3) := by decide +kernel
theorem dX6_claps_80 : decode cX6_claps 80 = .ok (.ireturn, 1) := by decide +kernel
theorem dX6_claps_81 : decode cX6_claps 81 = .ok (.aload_n 3, 1) := by decide +kernel
theorem dX6_claps_82 : decode cX6_claps 82 = .ok (.invokevirtual 190, 3) := by decide +kernel
theorem dX6_claps_85 : decode cX6_claps 85 = .ok (.ireturn, 1) := by decide +kernel
theorem dX6_claps_86 : decode cX6_claps 86 = .ok (.aload_n 3, 1) := by decide +kernel
theorem dX6_claps_87 : decode cX6_claps 87 = .ok (.invokevirtual 193, 3) := by decide +kernel
theorem dX6_claps_90 : decode cX6_claps 90 = .ok (.ireturn, 1) := by decide +kernel
theorem dX6_claps_91 : decode cX6_claps 91 = .ok (.aload_n 3, 1) := by decide +kernel
theorem dX6_claps_92 : decode cX6_claps 92 = .ok (.aload_n 3, 1) := by decide +kernel
theorem dX6_claps_93 : decode cX6_claps 93 = .ok (.invokevirtual 193, 3) := by decide +kernel
theorem dX6_claps_96 : decode cX6_claps 96 = .ok (.invokevirtual 196, 3) := by decide +kernel
theorem dX6_claps_99 : decode cX6_claps 99 = .ok (.ireturn, 1) := by decide +kernel
set_option maxRecDepth 20000 in
theorem ggX6_hear_X6_isSheet : GoodIn wsX6_hear wsX6_isSheet := goodIn_r _ [11] (by decide +kernel) (by decide +kernel)
set_option maxRecDepth 20000 in
theorem gX6_hear_X6_isSheet : GoodIn wsX6_hear (va_wsS RX6 175 yX6_isSheet wsX6_isSheet) := goodIn_app (goodIn_of _ (by decide +kernel)) ggX6_hear_X6_isSheet
set_option maxRecDepth 20000 in
theorem ggX6_hear_X2_isMissing : GoodIn wsX6_hear wsX2_isMissing := goodIn_r _ [16, 17, 80, 81, 82] (by decide +kernel) (by decide +kernel)
set_option maxRecDepth 20000 in
theorem gX6_hear_X2_isMissing : GoodIn wsX6_hear (wsV RX6 178 RX2 yX2_isMissing wsX2_isMissing) := goodIn_app (goodIn_of _ (by decide +kernel)) ggX6_hear_X2_isMissing
set_option maxRecDepth 20000 in
theorem ggX6_hear_X2_firstNumber : GoodIn wsX6_hear wsX2_firstNumber := goodIn_r _ [21, 22, 23, 24, 25, 26, 15, 27, 28, 80, 81, 82] (by decide +kernel) (by decide +kernel)
set_option maxRecDepth 20000 in
theorem gX6_hear_X2_firstNumber : GoodIn wsX6_hear (wsV RX6 183 RX2 yX2_firstNumber wsX2_firstNumber) := goodIn_app (goodIn_of _ (by decide +kernel)) ggX6_hear_X2_firstNumber
set_option maxRecDepth 20000 in
theorem ggX6_hear_X2_howFar : GoodIn wsX6_hear wsX2_howFar := goodIn_r _ [32, 22, 28, 24, 25, 26, 15, 27, 23, 80, 81, 82] (by decide +kernel) (by decide +kernel)
set_option maxRecDepth 20000 in
theorem gX6_hear_X2_howFar : GoodIn wsX6_hear (wsV RX6 187 RX2 yX2_howFar wsX2_howFar) := goodIn_app (goodIn_of _ (by decide +kernel)) ggX6_hear_X2_howFar
set_option maxRecDepth 20000 in
theorem ggX6_hear_X6_held : GoodIn wsX6_hear wsX6_held := goodIn_r _ [35, 36, 37, 38, 39, 40, 41, 42] (by decide +kernel) (by decide +kernel)
set_option maxRecDepth 20000 in
theorem gX6_hear_X6_held : GoodIn wsX6_hear (va_wsS RX6 199 yX6_held wsX6_held) := goodIn_app (goodIn_of _ (by decide +kernel)) ggX6_hear_X6_held
set_option maxRecDepth 20000 in
theorem ggX6_hear_X2_explainingPace : GoodIn wsX6_hear wsX2_explainingPace := goodIn_r _ [46, 47, 48, 49, 15, 50, 23, 28, 22, 51, 52, 38, 53, 54, 19, 20, 21, 24, 25, 26, 27, 34, 10, 35, 36, 37, 39, 40, 41, 42, 80, 81, 82] (by decide +kernel) (by decide +kernel)
set_option maxRecDepth 20000 in
theorem gX6_hear_X2_explainingPace : GoodIn wsX6_hear (wsV RX6 193 RX2 yX2_explainingPace wsX2_explainingPace) := goodIn_app (goodIn_of _ (by decide +kernel)) ggX6_hear_X2_explainingPace
theorem dX6_hear_0 : decode cX6_hear 0 = .ok (.iload_n 1, 1) := by decide +kernel
theorem dX6_hear_1 : decode cX6_hear 1 = .ok (.invokestatic 175, 3) := by decide +kernel
theorem dX6_hear_4 : decode cX6_hear 4 = .ok (.ifCond .ne 6, 3) := by decide +kernel
theorem dX6_hear_7 : decode cX6_hear 7 = .ok (.ldc 70, 2) := by decide +kernel
theorem dX6_hear_9 : decode cX6_hear 9 = .ok (.ireturn, 1) := by decide +kernel
theorem dX6_hear_10 : decode cX6_hear 10 = .ok (.aload_n 0, 1) := by decide +kernel
theorem dX6_hear_11 : decode cX6_hear 11 = .ok (.getfield 38, 3) := by decide +kernel
theorem dX6_hear_14 : decode cX6_hear 14 = .ok (.iload_n 1, 1) := by decide +kernel
theorem dX6_hear_15 : decode cX6_hear 15 = .ok (.aaload, 1) := by decide +kernel
theorem dX6_hear_16 : decode cX6_hear 16 = .ok (.astore_n 2, 1) := by decide +kernel
theorem dX6_hear_17 : decode cX6_hear 17 = .ok (.aload_n 2, 1) := by decide +kernel
theorem dX6_hear_18 : decode cX6_hear 18 = .ok (.invokevirtual 178, 3) := by decide +kernel
theorem dX6_hear_21 : decode cX6_hear 21 = .ok (.ifCond .eq 6, 3) := by decide +kernel
theorem dX6_hear_24 : decode cX6_hear 24 = .ok (.ldc 182, 2) := by decide +kernel
theorem dX6_hear_26 : decode cX6_hear 26 = .ok (.ireturn, 1) := by decide +kernel
theorem dX6_hear_27 : decode cX6_hear 27 = .ok (.aload_n 2, 1) := by decide +kernel
theorem dX6_hear_28 : decode cX6_hear 28 = .ok (.invokevirtual 183, 3) := by decide +kernel
theorem dX6_hear_31 : decode cX6_hear 31 = .ok (.ldc 130, 2) := by decide +kernel
theorem dX6_hear_33 : decode cX6_hear 33 = .ok (.if_icmp .ne 6, 3) := by decide +kernel
theorem dX6_hear_36 : decode cX6_hear 36 = .ok (.ldc 130, 2) := by decide +kernel
theorem dX6_hear_38 : decode cX6_hear 38 = .ok (.ireturn, 1) := by decide +kernel
theorem dX6_hear_39 : decode cX6_hear 39 = .ok (.aload_n 0, 1) := by decide +kernel
theorem dX6_hear_40 : decode cX6_hear 40 = .ok (.getfield 10, 3) := by decide +kernel
theorem dX6_hear_43 : decode cX6_hear 43 = .ok (.aload_n 2, 1) := by decide +kernel
theorem dX6_hear_44 : decode cX6_hear 44 = .ok (.invokevirtual 187, 3) := by decide +kernel
theorem dX6_hear_47 : decode cX6_hear 47 = .ok (.iconst 0, 1) := by decide +kernel
theorem dX6_hear_48 : decode cX6_hear 48 = .ok (.bipush 99, 2) := by decide +kernel
theorem dX6_hear_50 : decode cX6_hear 50 = .ok (.invokestatic 199, 3) := by decide +kernel
theorem dX6_hear_53 : decode cX6_hear 53 = .ok (.putfield 115, 3) := by decide +kernel
theorem dX6_hear_56 : decode cX6_hear 56 = .ok (.aload_n 0, 1) := by decide +kernel
theorem dX6_hear_57 : decode cX6_hear 57 = .ok (.getfield 10, 3) := by decide +kernel
theorem dX6_hear_60 : decode cX6_hear 60 = .ok (.aload_n 2, 1) := by decide +kernel
theorem dX6_hear_61 : decode cX6_hear 61 = .ok (.invokevirtual 193, 3) := by decide +kernel
theorem dX6_hear_64 : decode cX6_hear 64 = .ok (.putfield 118, 3) := by decide +kernel
theorem dX6_hear_67 : decode cX6_hear 67 = .ok (.aload_n 0, 1) := by decide +kernel
theorem dX6_hear_68 : decode cX6_hear 68 = .ok (.getfield 10, 3) := by decide +kernel
theorem dX6_hear_71 : decode cX6_hear 71 = .ok (.getfield 115, 3) := by decide +kernel
theorem dX6_hear_74 : decode cX6_hear 74 = .ok (.ireturn, 1) := by decide +kernel
set_option maxRecDepth 20000 in
theorem ggX6_feed_X0_takeBytes : GoodIn wsX6_feed wsX0_takeBytes := goodIn_r _ [8, 9, 10, 21, 22, 23, 24, 25, 26, 27, 28, 29, 30, 31, 32] (by decide +kernel) (by decide +kernel)
set_option maxRecDepth 20000 in
theorem gX6_feed_X0_takeBytes : GoodIn wsX6_feed (wsV RX6 205 RX0 yX0_takeBytes wsX0_takeBytes) := goodIn_app (goodIn_of _ (by decide +kernel)) ggX6_feed_X0_takeBytes
theorem dX6_feed_0 : decode cX6_feed 0 = .ok (.aload_n 0, 1) := by decide +kernel
theorem dX6_feed_1 : decode cX6_feed 1 = .ok (.getfield 32, 3) := by decide +kernel
theorem dX6_feed_4 : decode cX6_feed 4 = .ok (.getfield 202, 3) := by decide +kernel
theorem dX6_feed_7 : decode cX6_feed 7 = .ok (.bipush 12, 2) := by decide +kernel
theorem dX6_feed_9 : decode cX6_feed 9 = .ok (.iadd, 1) := by decide +kernel
theorem dX6_feed_10 : decode cX6_feed 10 = .ok (.bipush 96, 2) := by decide +kernel
theorem dX6_feed_12 : decode cX6_feed 12 = .ok (.if_icmp .le 6, 3) := by decide +kernel
theorem dX6_feed_15 : decode cX6_feed 15 = .ok (.ldc 74, 2) := by decide +kernel
theorem dX6_feed_17 : decode cX6_feed 17 = .ok (.ireturn, 1) := by decide +kernel
theorem dX6_feed_18 : decode cX6_feed 18 = .ok (.aload_n 0, 1) := by decide +kernel
theorem dX6_feed_19 : decode cX6_feed 19 = .ok (.getfield 32, 3) := by decide +kernel
theorem dX6_feed_22 : decode cX6_feed 22 = .ok (.iload_n 1, 1) := by decide +kernel
theorem dX6_feed_23 : decode cX6_feed 23 = .ok (.invokevirtual 205, 3) := by decide +kernel
theorem dX6_feed_26 : decode cX6_feed 26 = .ok (.aload_n 0, 1) := by decide +kernel
theorem dX6_feed_27 : decode cX6_feed 27 = .ok (.getfield 32, 3) := by decide +kernel
theorem dX6_feed_30 : decode cX6_feed 30 = .ok (.iload_n 2, 1) := by decide +kernel
theorem dX6_feed_31 : decode cX6_feed 31 = .ok (.invokevirtual 205, 3) := by decide +kernel
theorem dX6_feed_34 : decode cX6_feed 34 = .ok (.aload_n 0, 1) := by decide +kernel
theorem dX6_feed_35 : decode cX6_feed 35 = .ok (.getfield 32, 3) := by decide +kernel
theorem dX6_feed_38 : decode cX6_feed 38 = .ok (.iload_n 3, 1) := by decide +kernel
theorem dX6_feed_39 : decode cX6_feed 39 = .ok (.invokevirtual 205, 3) := by decide +kernel
theorem dX6_feed_42 : decode cX6_feed 42 = .ok (.aload_n 0, 1) := by decide +kernel
theorem dX6_feed_43 : decode cX6_feed 43 = .ok (.getfield 32, 3) := by decide +kernel
theorem dX6_feed_46 : decode cX6_feed 46 = .ok (.getfield 202, 3) := by decide +kernel
theorem dX6_feed_49 : decode cX6_feed 49 = .ok (.ireturn, 1) := by decide +kernel
set_option maxRecDepth 20000 in
theorem ggX6_trim_X6_within : GoodIn wsX6_trim wsX6_within := goodIn_r _ [7] (by decide +kernel) (by decide +kernel)
set_option maxRecDepth 20000 in
theorem gX6_trim_X6_within : GoodIn wsX6_trim (va_wsS RX6 66 yX6_within wsX6_within) := goodIn_app (goodIn_of _ (by decide +kernel)) ggX6_trim_X6_within
theorem dX6_trim_0 : decode cX6_trim 0 = .ok (.iload_n 1, 1) := by decide +kernel
theorem dX6_trim_1 : decode cX6_trim 1 = .ok (.iconst 0, 1) := by decide +kernel
theorem dX6_trim_2 : decode cX6_trim 2 = .ok (.aload_n 0, 1) := by decide +kernel
theorem dX6_trim_3 : decode cX6_trim 3 = .ok (.getfield 32, 3) := by decide +kernel
theorem dX6_trim_6 : decode cX6_trim 6 = .ok (.getfield 202, 3) := by decide +kernel
theorem dX6_trim_9 : decode cX6_trim 9 = .ok (.invokestatic 66, 3) := by decide +kernel
theorem dX6_trim_12 : decode cX6_trim 12 = .ok (.ifCond .ne 6, 3) := by decide +kernel
theorem dX6_trim_15 : decode cX6_trim 15 = .ok (.ldc 70, 2) := by decide +kernel
theorem dX6_trim_17 : decode cX6_trim 17 = .ok (.ireturn, 1) := by decide +kernel
theorem dX6_trim_18 : decode cX6_trim 18 = .ok (.aload_n 0, 1) := by decide +kernel
theorem dX6_trim_19 : decode cX6_trim 19 = .ok (.getfield 32, 3) := by decide +kernel
theorem dX6_trim_22 : decode cX6_trim 22 = .ok (.iload_n 1, 1) := by decide +kernel
theorem dX6_trim_23 : decode cX6_trim 23 = .ok (.putfield 202, 3) := by decide +kernel
theorem dX6_trim_26 : decode cX6_trim 26 = .ok (.iload_n 1, 1) := by decide +kernel
theorem dX6_trim_27 : decode cX6_trim 27 = .ok (.ireturn, 1) := by decide +kernel
set_option maxRecDepth 20000 in
theorem ggX6_text_X0_readTape : GoodIn wsX6_text wsX0_readTape := goodIn_r _ [12, 13, 14, 15, 16, 17, 18, 19, 20, 21, 22, 23, 11, 24, 25, 26, 27, 28, 29, 30, 31, 32, 33, 34, 35, 36, 37, 38, 39, 40, 41, 42, 43, 44, 45, 46, 47, 48, 49, 50, 51, 52, 53, 54, 55, 56, 57, 58, 59, 60, 61, 62, 63, 64, 65, 66, 67, 68, 69, 70, 71, 72, 73, 74, 75, 76, 77, 78, 79, 80, 81, 82, 83, 84, 85, 86, 87, 88, 89, 90, 91, 92, 93, 94, 95, 96, 97, 98, 99, 100, 101, 102, 103, 104, 105, 106, 107, 108, 109, 110, 111, 112, 113, 114, 115, 116, 117, 118, 119, 120, 121, 122, 123, 124, 125, 126, 127, 128, 129, 130, 131, 132, 133, 134, 135, 136, 137, 138, 139, 140, 141, 142, 143, 144, 145, 146, 147, 148, 149, 150, 151, 152, 153, 154, 155, 156, 157, 158, 159, 160, 161, 162, 163, 164, 165, 166, 167, 168, 169, 170, 171, 172, 173, 174, 175, 176, 177, 178, 179, 180, 181, 182, 183, 184, 185, 186, 187, 188, 189, 190, 191, 192, 193, 194, 195, 196, 251, 252, 253, 254, 255, 256, 257, 258, 259, 260, 261, 262] (by decide +kernel) (by decide +kernel)
set_option maxRecDepth 20000 in
theorem gX6_text_X0_readTape : GoodIn wsX6_text (wsV RX6 209 RX0 yX0_readTape wsX0_readTape) := goodIn_app (goodIn_of _ (by decide +kernel)) ggX6_text_X0_readTape
set_option maxRecDepth 20000 in
theorem ggX6_text_X0_textRead : GoodIn wsX6_text wsX0_textRead := goodIn_r _ [200, 201, 202, 203, 35, 16, 111, 15, 204, 205, 206, 207, 208, 209, 210, 211, 212, 213, 214, 215, 147, 144, 148, 216, 217, 218, 219, 220, 221, 222, 223, 224, 225, 226, 227, 228, 278, 279, 280, 251, 252, 253, 254, 255, 256, 257, 258, 259, 260, 261, 262] (by decide +kernel) (by decide +kernel)
set_option maxRecDepth 20000 in
theorem gX6_text_X0_textRead : GoodIn wsX6_text (wsV RX6 218 RX0 yX0_textRead wsX0_textRead) := goodIn_app (goodIn_of _ (by decide +kernel)) ggX6_text_X0_textRead
set_option maxRecDepth 20000 in
theorem ggX6_text_X1_appendText : GoodIn wsX6_text wsX1_appendText := goodIn_r _ [233, 234, 235, 236, 237, 238, 239, 240, 263, 264, 265, 266, 267, 268, 269, 270, 271, 272, 273, 274, 275, 276, 277, 278, 279, 280] (by decide +kernel) (by decide +kernel)
set_option maxRecDepth 20000 in
theorem gX6_text_X1_appendText : GoodIn wsX6_text (wsV RX6 222 RX1 yX1_appendText wsX1_appendText) := goodIn_app (goodIn_of _ (by decide +kernel)) ggX6_text_X1_appendText
theorem dX6_text_0 : decode cX6_text 0 = .ok (.aload_n 0, 1) := by decide +kernel
theorem dX6_text_1 : decode cX6_text 1 = .ok (.getfield 32, 3) := by decide +kernel
theorem dX6_text_4 : decode cX6_text 4 = .ok (.invokevirtual 209, 3) := by decide +kernel
theorem dX6_text_7 : decode cX6_text 7 = .ok (.aload_n 0, 1) := by decide +kernel
theorem dX6_text_8 : decode cX6_text 8 = .ok (.getfield 32, 3) := by decide +kernel
theorem dX6_text_11 : decode cX6_text 11 = .ok (.iconst 0, 1) := by decide +kernel
theorem dX6_text_12 : decode cX6_text 12 = .ok (.putfield 202, 3) := by decide +kernel
theorem dX6_text_15 : decode cX6_text 15 = .ok (.aload_n 0, 1) := by decide +kernel
theorem dX6_text_16 : decode cX6_text 16 = .ok (.getfield 32, 3) := by decide +kernel
theorem dX6_text_19 : decode cX6_text 19 = .ok (.getfield 212, 3) := by decide +kernel
theorem dX6_text_22 : decode cX6_text 22 = .ok (.ldc 130, 2) := by decide +kernel
theorem dX6_text_24 : decode cX6_text 24 = .ok (.if_icmp .eq 14, 3) := by decide +kernel
theorem dX6_text_27 : decode cX6_text 27 = .ok (.bipush (-100), 2) := by decide +kernel
theorem dX6_text_29 : decode cX6_text 29 = .ok (.aload_n 0, 1) := by decide +kernel
theorem dX6_text_30 : decode cX6_text 30 = .ok (.getfield 32, 3) := by decide +kernel
theorem dX6_text_33 : decode cX6_text 33 = .ok (.getfield 212, 3) := by decide +kernel
theorem dX6_text_36 : decode cX6_text 36 = .ok (.isub, 1) := by decide +kernel
theorem dX6_text_37 : decode cX6_text 37 = .ok (.ireturn, 1) := by decide +kernel
theorem dX6_text_38 : decode cX6_text 38 = .ok (.aload_n 0, 1) := by decide +kernel
theorem dX6_text_39 : decode cX6_text 39 = .ok (.getfield 10, 3) := by decide +kernel
theorem dX6_text_42 : decode cX6_text 42 = .ok (.getfield 215, 3) := by decide +kernel
theorem dX6_text_45 : decode cX6_text 45 = .ok (.bipush 14, 2) := by decide +kernel
theorem dX6_text_47 : decode cX6_text 47 = .ok (.if_icmp .lt 6, 3) := by decide +kernel
theorem dX6_text_50 : decode cX6_text 50 = .ok (.ldc 74, 2) := by decide +kernel
theorem dX6_text_52 : decode cX6_text 52 = .ok (.ireturn, 1) := by decide +kernel
theorem dX6_text_53 : decode cX6_text 53 = .ok (.aload_n 0, 1) := by decide +kernel
theorem dX6_text_54 : decode cX6_text 54 = .ok (.getfield 10, 3) := by decide +kernel
theorem dX6_text_57 : decode cX6_text 57 = .ok (.aload_n 0, 1) := by decide +kernel
theorem dX6_text_58 : decode cX6_text 58 = .ok (.getfield 32, 3) := by decide +kernel
theorem dX6_text_61 : decode cX6_text 61 = .ok (.invokevirtual 218, 3) := by decide +kernel
theorem dX6_text_64 : decode cX6_text 64 = .ok (.invokevirtual 222, 3) := by decide +kernel
theorem dX6_text_67 : decode cX6_text 67 = .ok (.ireturn, 1) := by decide +kernel
set_option maxRecDepth 20000 in
theorem ggX6_textTold_X6_within : GoodIn wsX6_textTold wsX6_within := goodIn_r _ [10] (by decide +kernel) (by decide +kernel)
set_option maxRecDepth 20000 in
theorem gX6_textTold_X6_within : GoodIn wsX6_textTold (va_wsS RX6 66 yX6_within wsX6_within) := goodIn_app (goodIn_of _ (by decide +kernel)) ggX6_textTold_X6_within
theorem dX6_textTold_0 : decode cX6_textTold 0 = .ok (.iload_n 1, 1) := by decide +kernel
theorem dX6_textTold_1 : decode cX6_textTold 1 = .ok (.iconst 0, 1) := by decide +kernel
theorem dX6_textTold_2 : decode cX6_textTold 2 = .ok (.aload_n 0, 1) := by decide +kernel
theorem dX6_textTold_3 : decode cX6_textTold 3 = .ok (.getfield 10, 3) := by decide +kernel
theorem dX6_textTold_6 : decode cX6_textTold 6 = .ok (.getfield 215, 3) := by decide +kernel
theorem dX6_textTold_9 : decode cX6_textTold 9 = .ok (.iconst 1, 1) := by decide +kernel
theorem dX6_textTold_10 : decode cX6_textTold 10 = .ok (.isub, 1) := by decide +kernel
theorem dX6_textTold_11 : decode cX6_textTold 11 = .ok (.invokestatic 66, 3) := by decide +kernel
theorem dX6_textTold_14 : decode cX6_textTold 14 = .ok (.ifCond .eq 12, 3) := by decide +kernel
theorem dX6_textTold_17 : decode cX6_textTold 17 = .ok (.iload_n 2, 1) := by decide +kernel
theorem dX6_textTold_18 : decode cX6_textTold 18 = .ok (.iconst 0, 1) := by decide +kernel
theorem dX6_textTold_19 : decode cX6_textTold 19 = .ok (.iconst 1, 1) := by decide +kernel
theorem dX6_textTold_20 : decode cX6_textTold 20 = .ok (.invokestatic 66, 3) := by decide +kernel
theorem dX6_textTold_23 : decode cX6_textTold 23 = .ok (.ifCond .ne 6, 3) := by decide +kernel
theorem dX6_textTold_26 : decode cX6_textTold 26 = .ok (.ldc 70, 2) := by decide +kernel
theorem dX6_textTold_28 : decode cX6_textTold 28 = .ok (.ireturn, 1) := by decide +kernel
theorem dX6_textTold_29 : decode cX6_textTold 29 = .ok (.aload_n 0, 1) := by decide +kernel
theorem dX6_textTold_30 : decode cX6_textTold 30 = .ok (.getfield 10, 3) := by decide +kernel
theorem dX6_textTold_33 : decode cX6_textTold 33 = .ok (.getfield 226, 3) := by decide +kernel
theorem dX6_textTold_36 : decode cX6_textTold 36 = .ok (.iload_n 1, 1) := by decide +kernel
theorem dX6_textTold_37 : decode cX6_textTold 37 = .ok (.aaload, 1) := by decide +kernel
theorem dX6_textTold_38 : decode cX6_textTold 38 = .ok (.astore_n 3, 1) := by decide +kernel
theorem dX6_textTold_39 : decode cX6_textTold 39 = .ok (.aload_n 3, 1) := by decide +kernel
theorem dX6_textTold_40 : decode cX6_textTold 40 = .ok (.ifnonnull 6, 3) := by decide +kernel
theorem dX6_textTold_43 : decode cX6_textTold 43 = .ok (.ldc 70, 2) := by decide +kernel
theorem dX6_textTold_45 : decode cX6_textTold 45 = .ok (.ireturn, 1) := by decide +kernel
theorem dX6_textTold_46 : decode cX6_textTold 46 = .ok (.iload_n 2, 1) := by decide +kernel
theorem dX6_textTold_47 : decode cX6_textTold 47 = .ok (.ifCond .ne 10, 3) := by decide +kernel
theorem dX6_textTold_50 : decode cX6_textTold 50 = .ok (.aload_n 3, 1) := by decide +kernel
theorem dX6_textTold_51 : decode cX6_textTold 51 = .ok (.getfield 230, 3) := by decide +kernel
theorem dX6_textTold_54 : decode cX6_textTold 54 = .ok (.goto 7, 3) := by decide +kernel
theorem dX6_textTold_57 : decode cX6_textTold 57 = .ok (.aload_n 3, 1) := by decide +kernel
theorem dX6_textTold_58 : decode cX6_textTold 58 = .ok (.getfield 235, 3) := by decide +kernel
theorem dX6_textTold_61 : decode cX6_textTold 61 = .ok (.ireturn, 1) := by decide +kernel
set_option maxRecDepth 20000 in
theorem ggX6_why_X6_within : GoodIn wsX6_why wsX6_within := goodIn_r _ [7] (by decide +kernel) (by decide +kernel)
set_option maxRecDepth 20000 in
theorem gX6_why_X6_within : GoodIn wsX6_why (va_wsS RX6 66 yX6_within wsX6_within) := goodIn_app (goodIn_of _ (by decide +kernel)) ggX6_why_X6_within
theorem dX6_why_0 : decode cX6_why 0 = .ok (.iload_n 1, 1) := by decide +kernel
theorem dX6_why_1 : decode cX6_why 1 = .ok (.iconst 0, 1) := by decide +kernel
theorem dX6_why_2 : decode cX6_why 2 = .ok (.iconst 2, 1) := by decide +kernel
theorem dX6_why_3 : decode cX6_why 3 = .ok (.invokestatic 66, 3) := by decide +kernel
theorem dX6_why_6 : decode cX6_why 6 = .ok (.ifCond .ne 6, 3) := by decide +kernel
theorem dX6_why_9 : decode cX6_why 9 = .ok (.ldc 70, 2) := by decide +kernel
theorem dX6_why_11 : decode cX6_why 11 = .ok (.ireturn, 1) := by decide +kernel
theorem dX6_why_12 : decode cX6_why 12 = .ok (.aload_n 0, 1) := by decide +kernel
theorem dX6_why_13 : decode cX6_why 13 = .ok (.getfield 10, 3) := by decide +kernel
theorem dX6_why_16 : decode cX6_why 16 = .ok (.getfield 238, 3) := by decide +kernel
theorem dX6_why_19 : decode cX6_why 19 = .ok (.iload_n 1, 1) := by decide +kernel
theorem dX6_why_20 : decode cX6_why 20 = .ok (.iaload, 1) := by decide +kernel
theorem dX6_why_21 : decode cX6_why 21 = .ok (.ireturn, 1) := by decide +kernel
set_option maxRecDepth 20000 in
theorem ggX6_sheet_X6_isSheet : GoodIn wsX6_sheet wsX6_isSheet := goodIn_r _ [7] (by decide +kernel) (by decide +kernel)
set_option maxRecDepth 20000 in
theorem gX6_sheet_X6_isSheet : GoodIn wsX6_sheet (va_wsS RX6 175 yX6_isSheet wsX6_isSheet) := goodIn_app (goodIn_of _ (by decide +kernel)) ggX6_sheet_X6_isSheet
set_option maxRecDepth 20000 in
theorem ggX6_sheet_X6_within : GoodIn wsX6_sheet wsX6_within := goodIn_r _ [10] (by decide +kernel) (by decide +kernel)
set_option maxRecDepth 20000 in
theorem gX6_sheet_X6_within : GoodIn wsX6_sheet (va_wsS RX6 66 yX6_within wsX6_within) := goodIn_app (goodIn_of _ (by decide +kernel)) ggX6_sheet_X6_within
set_option maxRecDepth 20000 in
theorem ggX6_sheet_X2_beginAnew : GoodIn wsX6_sheet wsX2_beginAnew := goodIn_r _ [15, 16, 17, 18, 19, 20, 21, 22, 33, 34, 35] (by decide +kernel) (by decide +kernel)
set_option maxRecDepth 20000 in
theorem gX6_sheet_X2_beginAnew : GoodIn wsX6_sheet (wsV RX6 242 RX2 yX2_beginAnew wsX2_beginAnew) := goodIn_app (goodIn_of _ (by decide +kernel)) ggX6_sheet_X2_beginAnew
theorem dX6_sheet_0 : decode cX6_sheet 0 = .ok (.iload_n 1, 1) := by decide +kernel
theorem dX6_sheet_1 : decode cX6_sheet 1 = .ok (.invokestatic 175, 3) := by decide +kernel
theorem dX6_sheet_4 : decode cX6_sheet 4 = .ok (.ifCond .eq 12, 3) := by decide +kernel
theorem dX6_sheet_7 : decode cX6_sheet 7 = .ok (.iload_n 2, 1) := by decide +kernel
theorem dX6_sheet_8 : decode cX6_sheet 8 = .ok (.iconst (-1), 1) := by decide +kernel
theorem dX6_sheet_9 : decode cX6_sheet 9 = .ok (.iconst 1, 1) := by decide +kernel
theorem dX6_sheet_10 : decode cX6_sheet 10 = .ok (.invokestatic 66, 3) := by decide +kernel
theorem dX6_sheet_13 : decode cX6_sheet 13 = .ok (.ifCond .ne 6, 3) := by decide +kernel
theorem dX6_sheet_16 : decode cX6_sheet 16 = .ok (.ldc 70, 2) := by decide +kernel
theorem dX6_sheet_18 : decode cX6_sheet 18 = .ok (.ireturn, 1) := by decide +kernel
theorem dX6_sheet_19 : decode cX6_sheet 19 = .ok (.iload_n 2, 1) := by decide +kernel
theorem dX6_sheet_20 : decode cX6_sheet 20 = .ok (.iconst (-1), 1) := by decide +kernel
theorem dX6_sheet_21 : decode cX6_sheet 21 = .ok (.if_icmp .ne 7, 3) := by decide +kernel
theorem dX6_sheet_24 : decode cX6_sheet 24 = .ok (.iconst 0, 1) := by decide +kernel
theorem dX6_sheet_25 : decode cX6_sheet 25 = .ok (.goto 4, 3) := by decide +kernel
theorem dX6_sheet_28 : decode cX6_sheet 28 = .ok (.iload_n 3, 1) := by decide +kernel
theorem dX6_sheet_29 : decode cX6_sheet 29 = .ok (.istore 4, 2) := by decide +kernel
theorem dX6_sheet_31 : decode cX6_sheet 31 = .ok (.iload 4, 2) := by decide +kernel
theorem dX6_sheet_33 : decode cX6_sheet 33 = .ok (.bipush 24, 2) := by decide +kernel
theorem dX6_sheet_35 : decode cX6_sheet 35 = .ok (.if_icmp .le 6, 3) := by decide +kernel
theorem dX6_sheet_38 : decode cX6_sheet 38 = .ok (.ldc 70, 2) := by decide +kernel
theorem dX6_sheet_40 : decode cX6_sheet 40 = .ok (.ireturn, 1) := by decide +kernel
theorem dX6_sheet_41 : decode cX6_sheet 41 = .ok (.iload 4, 2) := by decide +kernel
theorem dX6_sheet_43 : decode cX6_sheet 43 = .ok (.ifCond .ge 6, 3) := by decide +kernel
theorem dX6_sheet_46 : decode cX6_sheet 46 = .ok (.ldc 241, 2) := by decide +kernel
theorem dX6_sheet_48 : decode cX6_sheet 48 = .ok (.ireturn, 1) := by decide +kernel
theorem dX6_sheet_49 : decode cX6_sheet 49 = .ok (.aload_n 0, 1) := by decide +kernel
theorem dX6_sheet_50 : decode cX6_sheet 50 = .ok (.getfield 38, 3) := by decide +kernel
theorem dX6_sheet_53 : decode cX6_sheet 53 = .ok (.iload_n 1, 1) := by decide +kernel
theorem dX6_sheet_54 : decode cX6_sheet 54 = .ok (.aaload, 1) := by decide +kernel
theorem dX6_sheet_55 : decode cX6_sheet 55 = .ok (.iload_n 2, 1) := by decide +kernel
theorem dX6_sheet_56 : decode cX6_sheet 56 = .ok (.iload 4, 2) := by decide +kernel
theorem dX6_sheet_58 : decode cX6_sheet 58 = .ok (.invokevirtual 242, 3) := by decide +kernel
theorem dX6_sheet_61 : decode cX6_sheet 61 = .ok (.iload 4, 2) := by decide +kernel
theorem dX6_sheet_63 : decode cX6_sheet 63 = .ok (.ireturn, 1) := by decide +kernel
set_option maxRecDepth 20000 in
theorem ggX6_mark_X6_isSheet : GoodIn wsX6_mark wsX6_isSheet := goodIn_r _ [14] (by decide +kernel) (by decide +kernel)
set_option maxRecDepth 20000 in
theorem gX6_mark_X6_isSheet : GoodIn wsX6_mark (va_wsS RX6 175 yX6_isSheet wsX6_isSheet) := goodIn_app (goodIn_of _ (by decide +kernel)) ggX6_mark_X6_isSheet
set_option maxRecDepth 20000 in
theorem ggX6_mark_X2_isMissing : GoodIn wsX6_mark wsX2_isMissing := goodIn_r _ [19, 20, 39, 40, 41] (by decide +kernel) (by decide +kernel)
set_option maxRecDepth 20000 in
theorem gX6_mark_X2_isMissing : GoodIn wsX6_mark (wsV RX6 178 RX2 yX2_isMissing wsX2_isMissing) := goodIn_app (goodIn_of _ (by decide +kernel)) ggX6_mark_X2_isMissing
set_option maxRecDepth 20000 in
theorem ggX6_mark_X2_has : GoodIn wsX6_mark wsX2_has := goodIn_r _ [24, 25, 39, 40, 41] (by decide +kernel) (by decide +kernel)
set_option maxRecDepth 20000 in
theorem gX6_mark_X2_has : GoodIn wsX6_mark (wsV RX6 246 RX2 yX2_has wsX2_has) := goodIn_app (goodIn_of _ (by decide +kernel)) ggX6_mark_X2_has
set_option maxRecDepth 20000 in
theorem ggX6_mark_X6_within : GoodIn wsX6_mark wsX6_within := goodIn_r _ [28] (by decide +kernel) (by decide +kernel)
set_option maxRecDepth 20000 in
theorem gX6_mark_X6_within : GoodIn wsX6_mark (va_wsS RX6 66 yX6_within wsX6_within) := goodIn_app (goodIn_of _ (by decide +kernel)) ggX6_mark_X6_within
theorem dX6_mark_0 : decode cX6_mark 0 = .ok (.iload_n 1, 1) := by decide +kernel
theorem dX6_mark_1 : decode cX6_mark 1 = .ok (.invokestatic 175, 3) := by decide +kernel
theorem dX6_mark_4 : decode cX6_mark 4 = .ok (.ifCond .ne 6, 3) := by decide +kernel
theorem dX6_mark_7 : decode cX6_mark 7 = .ok (.ldc 70, 2) := by decide +kernel
theorem dX6_mark_9 : decode cX6_mark 9 = .ok (.ireturn, 1) := by decide +kernel
theorem dX6_mark_10 : decode cX6_mark 10 = .ok (.aload_n 0, 1) := by decide +kernel
theorem dX6_mark_11 : decode cX6_mark 11 = .ok (.getfield 38, 3) := by decide +kernel
theorem dX6_mark_14 : decode cX6_mark 14 = .ok (.iload_n 1, 1) := by decide +kernel
theorem dX6_mark_15 : decode cX6_mark 15 = .ok (.aaload, 1) := by decide +kernel
theorem dX6_mark_16 : decode cX6_mark 16 = .ok (.astore 4, 2) := by decide +kernel
theorem dX6_mark_18 : decode cX6_mark 18 = .ok (.aload 4, 2) := by decide +kernel
theorem dX6_mark_20 : decode cX6_mark 20 = .ok (.invokevirtual 178, 3) := by decide +kernel
theorem dX6_mark_23 : decode cX6_mark 23 = .ok (.ifCond .eq 6, 3) := by decide +kernel
theorem dX6_mark_26 : decode cX6_mark 26 = .ok (.ldc 182, 2) := by decide +kernel
theorem dX6_mark_28 : decode cX6_mark 28 = .ok (.ireturn, 1) := by decide +kernel
theorem dX6_mark_29 : decode cX6_mark 29 = .ok (.aload 4, 2) := by decide +kernel
theorem dX6_mark_31 : decode cX6_mark 31 = .ok (.iload_n 2, 1) := by decide +kernel
theorem dX6_mark_32 : decode cX6_mark 32 = .ok (.invokevirtual 246, 3) := by decide +kernel
theorem dX6_mark_35 : decode cX6_mark 35 = .ok (.ifCond .ne 6, 3) := by decide +kernel
theorem dX6_mark_38 : decode cX6_mark 38 = .ok (.ldc 247, 2) := by decide +kernel
theorem dX6_mark_40 : decode cX6_mark 40 = .ok (.ireturn, 1) := by decide +kernel
theorem dX6_mark_41 : decode cX6_mark 41 = .ok (.aload 4, 2) := by decide +kernel
theorem dX6_mark_43 : decode cX6_mark 43 = .ok (.getfield 248, 3) := by decide +kernel
theorem dX6_mark_46 : decode cX6_mark 46 = .ok (.ifCond .ne 23, 3) := by decide +kernel
theorem dX6_mark_49 : decode cX6_mark 49 = .ok (.iload_n 3, 1) := by decide +kernel
theorem dX6_mark_50 : decode cX6_mark 50 = .ok (.ldc 130, 2) := by decide +kernel
theorem dX6_mark_52 : decode cX6_mark 52 = .ok (.if_icmp .ne 6, 3) := by decide +kernel
theorem dX6_mark_55 : decode cX6_mark 55 = .ok (.ldc 103, 2) := by decide +kernel
theorem dX6_mark_57 : decode cX6_mark 57 = .ok (.ireturn, 1) := by decide +kernel
theorem dX6_mark_58 : decode cX6_mark 58 = .ok (.aload 4, 2) := by decide +kernel
theorem dX6_mark_60 : decode cX6_mark 60 = .ok (.getfield 251, 3) := by decide +kernel
theorem dX6_mark_63 : decode cX6_mark 63 = .ok (.iload_n 2, 1) := by decide +kernel
theorem dX6_mark_64 : decode cX6_mark 64 = .ok (.iload_n 3, 1) := by decide +kernel
theorem dX6_mark_65 : decode cX6_mark 65 = .ok (.i2s, 1) := by decide +kernel
theorem dX6_mark_66 : decode cX6_mark 66 = .ok (.iastore, 1) := by decide +kernel
theorem dX6_mark_67 : decode cX6_mark 67 = .ok (.iconst 1, 1) := by decide +kernel
theorem dX6_mark_68 : decode cX6_mark 68 = .ok (.ireturn, 1) := by decide +kernel
theorem dX6_mark_69 : decode cX6_mark 69 = .ok (.iload_n 3, 1) := by decide +kernel
theorem dX6_mark_70 : decode cX6_mark 70 = .ok (.ldc 130, 2) := by decide +kernel
theorem dX6_mark_72 : decode cX6_mark 72 = .ok (.if_icmp .eq 17, 3) := by decide +kernel
theorem dX6_mark_75 : decode cX6_mark 75 = .ok (.iload_n 3, 1) := by decide +kernel
theorem dX6_mark_76 : decode cX6_mark 76 = .ok (.ldc 254, 2) := by decide +kernel
theorem dX6_mark_78 : decode cX6_mark 78 = .ok (.ldc 255, 2) := by decide +kernel
theorem dX6_mark_80 : decode cX6_mark 80 = .ok (.invokestatic 66, 3) := by decide +kernel
theorem dX6_mark_83 : decode cX6_mark 83 = .ok (.ifCond .ne 6, 3) := by decide +kernel
theorem dX6_mark_86 : decode cX6_mark 86 = .ok (.ldc 70, 2) := by decide +kernel
theorem dX6_mark_88 : decode cX6_mark 88 = .ok (.ireturn, 1) := by decide +kernel
theorem dX6_mark_89 : decode cX6_mark 89 = .ok (.aload 4, 2) := by decide +kernel
theorem dX6_mark_91 : decode cX6_mark 91 = .ok (.getfield 251, 3) := by decide +kernel
theorem dX6_mark_94 : decode cX6_mark 94 = .ok (.iload_n 2, 1) := by decide +kernel
theorem dX6_mark_95 : decode cX6_mark 95 = .ok (.iload_n 3, 1) := by decide +kernel
theorem dX6_mark_96 : decode cX6_mark 96 = .ok (.iastore, 1) := by decide +kernel
theorem dX6_mark_97 : decode cX6_mark 97 = .ok (.iconst 1, 1) := by decide +kernel
theorem dX6_mark_98 : decode cX6_mark 98 = .ok (.ireturn, 1) := by decide +kernel
set_option maxRecDepth 20000 in
theorem ggX6_pour_X6_isSheet : GoodIn wsX6_pour wsX6_isSheet := goodIn_r _ [8] (by decide +kernel) (by decide +kernel)
set_option maxRecDepth 20000 in
theorem gX6_pour_X6_isSheet : GoodIn wsX6_pour (va_wsS RX6 175 yX6_isSheet wsX6_isSheet) := goodIn_app (goodIn_of _ (by decide +kernel)) ggX6_pour_X6_isSheet
set_option maxRecDepth 20000 in
theorem ggX6_pour_X2_isMissing : GoodIn wsX6_pour wsX2_isMissing := goodIn_r _ [13, 14, 49, 50, 51] (by decide +kernel) (by decide +kernel)
set_option maxRecDepth 20000 in
theorem gX6_pour_X2_isMissing : GoodIn wsX6_pour (wsV RX6 178 RX2 yX2_isMissing wsX2_isMissing) := goodIn_app (goodIn_of _ (by decide +kernel)) ggX6_pour_X2_isMissing
set_option maxRecDepth 20000 in
theorem ggX6_pour_X1_takeHeights : GoodIn wsX6_pour wsX1_takeHeights := goodIn_r _ [19, 20, 21, 22, 23, 24, 25, 26, 12, 27, 28, 29, 30, 7, 31, 32, 33, 34, 35, 36, 37, 38, 52, 53, 54, 55, 56, 57, 58, 59, 60, 61, 62, 63, 64, 65, 66, 49, 50, 51] (by decide +kernel) (by decide +kernel)
set_option maxRecDepth 20000 in
theorem gX6_pour_X1_takeHeights : GoodIn wsX6_pour (wsV RX6 256 RX1 yX1_takeHeights wsX1_takeHeights) := goodIn_app (goodIn_of _ (by decide +kernel)) ggX6_pour_X1_takeHeights
theorem dX6_pour_0 : decode cX6_pour 0 = .ok (.iload_n 1, 1) := by decide +kernel
theorem dX6_pour_1 : decode cX6_pour 1 = .ok (.invokestatic 175, 3) := by decide +kernel
theorem dX6_pour_4 : decode cX6_pour 4 = .ok (.ifCond .ne 6, 3) := by decide +kernel
theorem dX6_pour_7 : decode cX6_pour 7 = .ok (.ldc 70, 2) := by decide +kernel
theorem dX6_pour_9 : decode cX6_pour 9 = .ok (.ireturn, 1) := by decide +kernel
theorem dX6_pour_10 : decode cX6_pour 10 = .ok (.aload_n 0, 1) := by decide +kernel
theorem dX6_pour_11 : decode cX6_pour 11 = .ok (.getfield 38, 3) := by decide +kernel
theorem dX6_pour_14 : decode cX6_pour 14 = .ok (.iload_n 1, 1) := by decide +kernel
theorem dX6_pour_15 : decode cX6_pour 15 = .ok (.aaload, 1) := by decide +kernel
theorem dX6_pour_16 : decode cX6_pour 16 = .ok (.astore_n 2, 1) := by decide +kernel
theorem dX6_pour_17 : decode cX6_pour 17 = .ok (.aload_n 2, 1) := by decide +kernel
theorem dX6_pour_18 : decode cX6_pour 18 = .ok (.invokevirtual 178, 3) := by decide +kernel
theorem dX6_pour_21 : decode cX6_pour 21 = .ok (.ifCond .eq 6, 3) := by decide +kernel
theorem dX6_pour_24 : decode cX6_pour 24 = .ok (.ldc 182, 2) := by decide +kernel
theorem dX6_pour_26 : decode cX6_pour 26 = .ok (.ireturn, 1) := by decide +kernel
theorem dX6_pour_27 : decode cX6_pour 27 = .ok (.aload_n 0, 1) := by decide +kernel
theorem dX6_pour_28 : decode cX6_pour 28 = .ok (.getfield 10, 3) := by decide +kernel
theorem dX6_pour_31 : decode cX6_pour 31 = .ok (.aload_n 2, 1) := by decide +kernel
theorem dX6_pour_32 : decode cX6_pour 32 = .ok (.invokevirtual 256, 3) := by decide +kernel
theorem dX6_pour_35 : decode cX6_pour 35 = .ok (.ireturn, 1) := by decide +kernel
set_option maxRecDepth 20000 in
theorem ggX6_reads_X6_isSheet : GoodIn wsX6_reads wsX6_isSheet := goodIn_r _ [8] (by decide +kernel) (by decide +kernel)
set_option maxRecDepth 20000 in
theorem gX6_reads_X6_isSheet : GoodIn wsX6_reads (va_wsS RX6 175 yX6_isSheet wsX6_isSheet) := goodIn_app (goodIn_of _ (by decide +kernel)) ggX6_reads_X6_isSheet
set_option maxRecDepth 20000 in
theorem ggX6_reads_X2_isMissing : GoodIn wsX6_reads wsX2_isMissing := goodIn_r _ [13, 14, 80, 81, 82] (by decide +kernel) (by decide +kernel)
set_option maxRecDepth 20000 in
theorem gX6_reads_X2_isMissing : GoodIn wsX6_reads (wsV RX6 178 RX2 yX2_isMissing wsX2_isMissing) := goodIn_app (goodIn_of _ (by decide +kernel)) ggX6_reads_X2_isMissing
set_option maxRecDepth 20000 in
theorem ggX6_reads_X1_firstNotRisk : GoodIn wsX6_reads wsX1_firstNotRisk := goodIn_r _ [19, 20, 21, 22, 23, 24, 25, 12, 26, 27, 28, 29, 30, 31, 18, 32, 33, 34, 35, 36, 37, 38, 39, 40, 41, 42, 43, 44, 45, 46, 47, 48, 49, 50, 51, 52, 53, 54, 55, 56, 57, 58, 59, 7, 60, 61, 62, 63, 64, 65, 66, 67, 68, 69, 80, 81, 82, 83, 84, 85, 86, 87, 88, 89, 90, 91, 92, 93, 94, 95, 96, 97, 98, 99, 100] (by decide +kernel) (by decide +kernel)
set_option maxRecDepth 20000 in
theorem gX6_reads_X1_firstNotRisk : GoodIn wsX6_reads (wsV RX6 260 RX1 yX1_firstNotRisk wsX1_firstNotRisk) := goodIn_app (goodIn_of _ (by decide +kernel)) ggX6_reads_X1_firstNotRisk
theorem dX6_reads_0 : decode cX6_reads 0 = .ok (.iload_n 1, 1) := by decide +kernel
theorem dX6_reads_1 : decode cX6_reads 1 = .ok (.invokestatic 175, 3) := by decide +kernel
theorem dX6_reads_4 : decode cX6_reads 4 = .ok (.ifCond .ne 6, 3) := by decide +kernel
theorem dX6_reads_7 : decode cX6_reads 7 = .ok (.ldc 70, 2) := by decide +kernel
theorem dX6_reads_9 : decode cX6_reads 9 = .ok (.ireturn, 1) := by decide +kernel
theorem dX6_reads_10 : decode cX6_reads 10 = .ok (.aload_n 0, 1) := by decide +kernel
theorem dX6_reads_11 : decode cX6_reads 11 = .ok (.getfield 38, 3) := by decide +kernel
theorem dX6_reads_14 : decode cX6_reads 14 = .ok (.iload_n 1, 1) := by decide +kernel
theorem dX6_reads_15 : decode cX6_reads 15 = .ok (.aaload, 1) := by decide +kernel
theorem dX6_reads_16 : decode cX6_reads 16 = .ok (.astore_n 2, 1) := by decide +kernel
theorem dX6_reads_17 : decode cX6_reads 17 = .ok (.aload_n 2, 1) := by decide +kernel
theorem dX6_reads_18 : decode cX6_reads 18 = .ok (.invokevirtual 178, 3) := by decide +kernel
theorem dX6_reads_21 : decode cX6_reads 21 = .ok (.ifCond .eq 6, 3) := by decide +kernel
theorem dX6_reads_24 : decode cX6_reads 24 = .ok (.ldc 182, 2) := by decide +kernel
theorem dX6_reads_26 : decode cX6_reads 26 = .ok (.ireturn, 1) := by decide +kernel
theorem dX6_reads_27 : decode cX6_reads 27 = .ok (.aload_n 0, 1) := by decide +kernel
theorem dX6_reads_28 : decode cX6_reads 28 = .ok (.getfield 10, 3) := by decide +kernel
theorem dX6_reads_31 : decode cX6_reads 31 = .ok (.aload_n 2, 1) := by decide +kernel
theorem dX6_reads_32 : decode cX6_reads 32 = .ok (.invokevirtual 260, 3) := by decide +kernel
theorem dX6_reads_35 : decode cX6_reads 35 = .ok (.ireturn, 1) := by decide +kernel
set_option maxRecDepth 20000 in
theorem ggX6_copy_X6_isSheet : GoodIn wsX6_copy wsX6_isSheet := goodIn_r _ [15] (by decide +kernel) (by decide +kernel)
set_option maxRecDepth 20000 in
theorem gX6_copy_X6_isSheet : GoodIn wsX6_copy (va_wsS RX6 175 yX6_isSheet wsX6_isSheet) := goodIn_app (goodIn_of _ (by decide +kernel)) ggX6_copy_X6_isSheet
set_option maxRecDepth 20000 in
theorem ggX6_copy_X2_isMissing : GoodIn wsX6_copy wsX2_isMissing := goodIn_r _ [20, 21, 37, 38, 39] (by decide +kernel) (by decide +kernel)
set_option maxRecDepth 20000 in
theorem gX6_copy_X2_isMissing : GoodIn wsX6_copy (wsV RX6 178 RX2 yX2_isMissing wsX2_isMissing) := goodIn_app (goodIn_of _ (by decide +kernel)) ggX6_copy_X2_isMissing
set_option maxRecDepth 20000 in
theorem ggX6_copy_X2_hasStretch : GoodIn wsX6_copy wsX2_hasStretch := goodIn_r _ [25, 26, 37, 38, 39] (by decide +kernel) (by decide +kernel)
set_option maxRecDepth 20000 in
theorem gX6_copy_X2_hasStretch : GoodIn wsX6_copy (wsV RX6 263 RX2 yX2_hasStretch wsX2_hasStretch) := goodIn_app (goodIn_of _ (by decide +kernel)) ggX6_copy_X2_hasStretch
theorem dX6_copy_0 : decode cX6_copy 0 = .ok (.iload_n 1, 1) := by decide +kernel
theorem dX6_copy_1 : decode cX6_copy 1 = .ok (.invokestatic 175, 3) := by decide +kernel
theorem dX6_copy_4 : decode cX6_copy 4 = .ok (.ifCond .eq 10, 3) := by decide +kernel
theorem dX6_copy_7 : decode cX6_copy 7 = .ok (.iload_n 3, 1) := by decide +kernel
theorem dX6_copy_8 : decode cX6_copy 8 = .ok (.invokestatic 175, 3) := by decide +kernel
theorem dX6_copy_11 : decode cX6_copy 11 = .ok (.ifCond .ne 6, 3) := by decide +kernel
theorem dX6_copy_14 : decode cX6_copy 14 = .ok (.ldc 70, 2) := by decide +kernel
theorem dX6_copy_16 : decode cX6_copy 16 = .ok (.ireturn, 1) := by decide +kernel
theorem dX6_copy_17 : decode cX6_copy 17 = .ok (.aload_n 0, 1) := by decide +kernel
theorem dX6_copy_18 : decode cX6_copy 18 = .ok (.getfield 38, 3) := by decide +kernel
theorem dX6_copy_21 : decode cX6_copy 21 = .ok (.iload_n 1, 1) := by decide +kernel
theorem dX6_copy_22 : decode cX6_copy 22 = .ok (.aaload, 1) := by decide +kernel
theorem dX6_copy_23 : decode cX6_copy 23 = .ok (.astore 6, 2) := by decide +kernel
theorem dX6_copy_25 : decode cX6_copy 25 = .ok (.aload_n 0, 1) := by decide +kernel
theorem dX6_copy_26 : decode cX6_copy 26 = .ok (.getfield 38, 3) := by decide +kernel
theorem dX6_copy_29 : decode cX6_copy 29 = .ok (.iload_n 3, 1) := by decide +kernel
theorem dX6_copy_30 : decode cX6_copy 30 = .ok (.aaload, 1) := by decide +kernel
theorem dX6_copy_31 : decode cX6_copy 31 = .ok (.astore 7, 2) := by decide +kernel
theorem dX6_copy_33 : decode cX6_copy 33 = .ok (.aload 6, 2) := by decide +kernel
theorem dX6_copy_35 : decode cX6_copy 35 = .ok (.invokevirtual 178, 3) := by decide +kernel
theorem dX6_copy_38 : decode cX6_copy 38 = .ok (.ifCond .ne 11, 3) := by decide +kernel
theorem dX6_copy_41 : decode cX6_copy 41 = .ok (.aload 7, 2) := by decide +kernel
theorem dX6_copy_43 : decode cX6_copy 43 = .ok (.invokevirtual 178, 3) := by decide +kernel
theorem dX6_copy_46 : decode cX6_copy 46 = .ok (.ifCond .eq 6, 3) := by decide +kernel
theorem dX6_copy_49 : decode cX6_copy 49 = .ok (.ldc 182, 2) := by decide +kernel
theorem dX6_copy_51 : decode cX6_copy 51 = .ok (.ireturn, 1) := by decide +kernel
theorem dX6_copy_52 : decode cX6_copy 52 = .ok (.aload 6, 2) := by decide +kernel
theorem dX6_copy_54 : decode cX6_copy 54 = .ok (.getfield 248, 3) := by decide +kernel
theorem dX6_copy_57 : decode cX6_copy 57 = .ok (.aload 7, 2) := by decide +kernel
theorem dX6_copy_59 : decode cX6_copy 59 = .ok (.getfield 248, 3) := by decide +kernel
theorem dX6_copy_62 : decode cX6_copy 62 = .ok (.if_icmp .eq 6, 3) := by decide +kernel
theorem dX6_copy_65 : decode cX6_copy 65 = .ok (.ldc 103, 2) := by decide +kernel
theorem dX6_copy_67 : decode cX6_copy 67 = .ok (.ireturn, 1) := by decide +kernel
theorem dX6_copy_68 : decode cX6_copy 68 = .ok (.aload 6, 2) := by decide +kernel
theorem dX6_copy_70 : decode cX6_copy 70 = .ok (.iload_n 2, 1) := by decide +kernel
theorem dX6_copy_71 : decode cX6_copy 71 = .ok (.iload 5, 2) := by decide +kernel
theorem dX6_copy_73 : decode cX6_copy 73 = .ok (.invokevirtual 263, 3) := by decide +kernel
theorem dX6_copy_76 : decode cX6_copy 76 = .ok (.ifCond .eq 15, 3) := by decide +kernel
theorem dX6_copy_79 : decode cX6_copy 79 = .ok (.aload 7, 2) := by decide +kernel
theorem dX6_copy_81 : decode cX6_copy 81 = .ok (.iload 4, 2) := by decide +kernel
theorem dX6_copy_83 : decode cX6_copy 83 = .ok (.iload 5, 2) := by decide +kernel
theorem dX6_copy_85 : decode cX6_copy 85 = .ok (.invokevirtual 263, 3) := by decide +kernel
theorem dX6_copy_88 : decode cX6_copy 88 = .ok (.ifCond .ne 6, 3) := by decide +kernel
theorem dX6_copy_91 : decode cX6_copy 91 = .ok (.ldc 247, 2) := by decide +kernel
theorem dX6_copy_93 : decode cX6_copy 93 = .ok (.ireturn, 1) := by decide +kernel
theorem dX6_copy_94 : decode cX6_copy 94 = .ok (.aload 6, 2) := by decide +kernel
theorem dX6_copy_96 : decode cX6_copy 96 = .ok (.getfield 251, 3) := by decide +kernel
theorem dX6_copy_99 : decode cX6_copy 99 = .ok (.iload_n 2, 1) := by decide +kernel
theorem dX6_copy_100 : decode cX6_copy 100 = .ok (.aload 7, 2) := by decide +kernel
theorem dX6_copy_102 : decode cX6_copy 102 = .ok (.getfield 251, 3) := by decide +kernel
theorem dX6_copy_105 : decode cX6_copy 105 = .ok (.iload 4, 2) := by decide +kernel
theorem dX6_copy_107 : decode cX6_copy 107 = .ok (.iload 5, 2) := by decide +kernel
theorem dX6_copy_109 : decode cX6_copy 109 = .ok (.invokestatic 266, 3) := by decide +kernel
theorem dX6_copy_112 : decode cX6_copy 112 = .ok (.iload 5, 2) := by decide +kernel
theorem dX6_copy_114 : decode cX6_copy 114 = .ok (.ireturn, 1) := by decide +kernel
set_option maxRecDepth 20000 in
theorem ggX6_lay_X6_isSlot : GoodIn wsX6_lay wsX6_isSlot := goodIn_r _ [14] (by decide +kernel) (by decide +kernel)
set_option maxRecDepth 20000 in
theorem gX6_lay_X6_isSlot : GoodIn wsX6_lay (va_wsS RX6 272 yX6_isSlot wsX6_isSlot) := goodIn_app (goodIn_of _ (by decide +kernel)) ggX6_lay_X6_isSlot
set_option maxRecDepth 20000 in
theorem ggX6_lay_X6_within : GoodIn wsX6_lay wsX6_within := goodIn_r _ [17] (by decide +kernel) (by decide +kernel)
set_option maxRecDepth 20000 in
theorem gX6_lay_X6_within : GoodIn wsX6_lay (va_wsS RX6 66 yX6_within wsX6_within) := goodIn_app (goodIn_of _ (by decide +kernel)) ggX6_lay_X6_within
set_option maxRecDepth 20000 in
theorem ggX6_lay_X1_has : GoodIn wsX6_lay wsX1_has := goodIn_r _ [22, 23, 65, 66, 67, 68, 69, 70, 71, 72, 73, 74, 75, 76, 77, 78, 79] (by decide +kernel) (by decide +kernel)
set_option maxRecDepth 20000 in
theorem gX6_lay_X1_has : GoodIn wsX6_lay (wsV RX6 79 RX1 yX1_has wsX1_has) := goodIn_app (goodIn_of _ (by decide +kernel)) ggX6_lay_X1_has
set_option maxRecDepth 20000 in
theorem ggX6_lay_X6_isSheet : GoodIn wsX6_lay wsX6_isSheet := goodIn_r _ [26] (by decide +kernel) (by decide +kernel)
set_option maxRecDepth 20000 in
theorem gX6_lay_X6_isSheet : GoodIn wsX6_lay (va_wsS RX6 175 yX6_isSheet wsX6_isSheet) := goodIn_app (goodIn_of _ (by decide +kernel)) ggX6_lay_X6_isSheet
set_option maxRecDepth 20000 in
theorem ggX6_lay_X2_isMissing : GoodIn wsX6_lay wsX2_isMissing := goodIn_r _ [31, 32, 80, 81, 82] (by decide +kernel) (by decide +kernel)
set_option maxRecDepth 20000 in
theorem gX6_lay_X2_isMissing : GoodIn wsX6_lay (wsV RX6 178 RX2 yX2_isMissing wsX2_isMissing) := goodIn_app (goodIn_of _ (by decide +kernel)) ggX6_lay_X2_isMissing
set_option maxRecDepth 20000 in
theorem ggX6_lay_X3_takePlace : GoodIn wsX6_lay wsX3_takePlace := goodIn_r _ [37, 38, 39, 60, 61, 62, 63, 64] (by decide +kernel) (by decide +kernel)
set_option maxRecDepth 20000 in
theorem gX6_lay_X3_takePlace : GoodIn wsX6_lay (wsV RX6 278 RX3 yX3_takePlace wsX3_takePlace) := goodIn_app (goodIn_of _ (by decide +kernel)) ggX6_lay_X3_takePlace
set_option maxRecDepth 20000 in
theorem ggX6_lay_X2_become : GoodIn wsX6_lay wsX2_become := goodIn_r _ [43, 32, 44, 45, 46, 47, 48, 49, 80, 81, 82] (by decide +kernel) (by decide +kernel)
set_option maxRecDepth 20000 in
theorem gX6_lay_X2_become : GoodIn wsX6_lay (wsV RX6 285 RX2 yX2_become wsX2_become) := goodIn_app (goodIn_of _ (by decide +kernel)) ggX6_lay_X2_become
theorem dX6_lay_0 : decode cX6_lay 0 = .ok (.iload_n 1, 1) := by decide +kernel
theorem dX6_lay_1 : decode cX6_lay 1 = .ok (.invokestatic 272, 3) := by decide +kernel
theorem dX6_lay_4 : decode cX6_lay 4 = .ok (.ifCond .eq 12, 3) := by decide +kernel
theorem dX6_lay_7 : decode cX6_lay 7 = .ok (.iload_n 2, 1) := by decide +kernel
theorem dX6_lay_8 : decode cX6_lay 8 = .ok (.iconst 0, 1) := by decide +kernel
theorem dX6_lay_9 : decode cX6_lay 9 = .ok (.iconst 3, 1) := by decide +kernel
theorem dX6_lay_10 : decode cX6_lay 10 = .ok (.invokestatic 66, 3) := by decide +kernel
theorem dX6_lay_13 : decode cX6_lay 13 = .ok (.ifCond .ne 6, 3) := by decide +kernel
theorem dX6_lay_16 : decode cX6_lay 16 = .ok (.ldc 70, 2) := by decide +kernel
theorem dX6_lay_18 : decode cX6_lay 18 = .ok (.ireturn, 1) := by decide +kernel
theorem dX6_lay_19 : decode cX6_lay 19 = .ok (.iload_n 2, 1) := by decide +kernel
theorem dX6_lay_20 : decode cX6_lay 20 = .ok (.iconst 1, 1) := by decide +kernel
theorem dX6_lay_21 : decode cX6_lay 21 = .ok (.if_icmp .ne 14, 3) := by decide +kernel
theorem dX6_lay_24 : decode cX6_lay 24 = .ok (.aload_n 0, 1) := by decide +kernel
theorem dX6_lay_25 : decode cX6_lay 25 = .ok (.getfield 10, 3) := by decide +kernel
theorem dX6_lay_28 : decode cX6_lay 28 = .ok (.iload_n 3, 1) := by decide +kernel
theorem dX6_lay_29 : decode cX6_lay 29 = .ok (.invokevirtual 79, 3) := by decide +kernel
theorem dX6_lay_32 : decode cX6_lay 32 = .ok (.ifCond .eq 15, 3) := by decide +kernel
theorem dX6_lay_35 : decode cX6_lay 35 = .ok (.iload_n 2, 1) := by decide +kernel
theorem dX6_lay_36 : decode cX6_lay 36 = .ok (.iconst 2, 1) := by decide +kernel
theorem dX6_lay_37 : decode cX6_lay 37 = .ok (.if_icmp .ne 13, 3) := by decide +kernel
theorem dX6_lay_40 : decode cX6_lay 40 = .ok (.iload_n 3, 1) := by decide +kernel
theorem dX6_lay_41 : decode cX6_lay 41 = .ok (.invokestatic 175, 3) := by decide +kernel
theorem dX6_lay_44 : decode cX6_lay 44 = .ok (.ifCond .ne 6, 3) := by decide +kernel
theorem dX6_lay_47 : decode cX6_lay 47 = .ok (.ldc 70, 2) := by decide +kernel
theorem dX6_lay_49 : decode cX6_lay 49 = .ok (.ireturn, 1) := by decide +kernel
theorem dX6_lay_50 : decode cX6_lay 50 = .ok (.iload_n 2, 1) := by decide +kernel
theorem dX6_lay_51 : decode cX6_lay 51 = .ok (.iconst 2, 1) := by decide +kernel
theorem dX6_lay_52 : decode cX6_lay 52 = .ok (.if_icmp .ne 18, 3) := by decide +kernel
theorem dX6_lay_55 : decode cX6_lay 55 = .ok (.aload_n 0, 1) := by decide +kernel
theorem dX6_lay_56 : decode cX6_lay 56 = .ok (.getfield 38, 3) := by decide +kernel
theorem dX6_lay_59 : decode cX6_lay 59 = .ok (.iload_n 3, 1) := by decide +kernel
theorem dX6_lay_60 : decode cX6_lay 60 = .ok (.aaload, 1) := by decide +kernel
theorem dX6_lay_61 : decode cX6_lay 61 = .ok (.invokevirtual 178, 3) := by decide +kernel
theorem dX6_lay_64 : decode cX6_lay 64 = .ok (.ifCond .eq 6, 3) := by decide +kernel
theorem dX6_lay_67 : decode cX6_lay 67 = .ok (.ldc 182, 2) := by decide +kernel
theorem dX6_lay_69 : decode cX6_lay 69 = .ok (.ireturn, 1) := by decide +kernel
theorem dX6_lay_70 : decode cX6_lay 70 = .ok (.aload_n 0, 1) := by decide +kernel
theorem dX6_lay_71 : decode cX6_lay 71 = .ok (.getfield 44, 3) := by decide +kernel
theorem dX6_lay_74 : decode cX6_lay 74 = .ok (.iload_n 1, 1) := by decide +kernel
theorem dX6_lay_75 : decode cX6_lay 75 = .ok (.aaload, 1) := by decide +kernel
theorem dX6_lay_76 : decode cX6_lay 76 = .ok (.astore 4, 2) := by decide +kernel
theorem dX6_lay_78 : decode cX6_lay 78 = .ok (.aload 4, 2) := by decide +kernel
theorem dX6_lay_80 : decode cX6_lay 80 = .ok (.getfield 275, 3) := by decide +kernel
theorem dX6_lay_83 : decode cX6_lay 83 = .ok (.istore 5, 2) := by decide +kernel
theorem dX6_lay_85 : decode cX6_lay 85 = .ok (.aload 4, 2) := by decide +kernel
theorem dX6_lay_87 : decode cX6_lay 87 = .ok (.iload_n 2, 1) := by decide +kernel
theorem dX6_lay_88 : decode cX6_lay 88 = .ok (.putfield 275, 3) := by decide +kernel
theorem dX6_lay_91 : decode cX6_lay 91 = .ok (.iload_n 2, 1) := by decide +kernel
theorem dX6_lay_92 : decode cX6_lay 92 = .ok (.iconst 1, 1) := by decide +kernel
theorem dX6_lay_93 : decode cX6_lay 93 = .ok (.if_icmp .ne 29, 3) := by decide +kernel
theorem dX6_lay_96 : decode cX6_lay 96 = .ok (.aload 4, 2) := by decide +kernel
theorem dX6_lay_98 : decode cX6_lay 98 = .ok (.aload_n 0, 1) := by decide +kernel
theorem dX6_lay_99 : decode cX6_lay 99 = .ok (.getfield 10, 3) := by decide +kernel
theorem dX6_lay_102 : decode cX6_lay 102 = .ok (.getfield 82, 3) := by decide +kernel
theorem dX6_lay_105 : decode cX6_lay 105 = .ok (.iload_n 3, 1) := by decide +kernel
theorem dX6_lay_106 : decode cX6_lay 106 = .ok (.iaload, 1) := by decide +kernel
theorem dX6_lay_107 : decode cX6_lay 107 = .ok (.aload_n 0, 1) := by decide +kernel
theorem dX6_lay_108 : decode cX6_lay 108 = .ok (.getfield 10, 3) := by decide +kernel
theorem dX6_lay_111 : decode cX6_lay 111 = .ok (.getfield 85, 3) := by decide +kernel
theorem dX6_lay_114 : decode cX6_lay 114 = .ok (.iload_n 3, 1) := by decide +kernel
theorem dX6_lay_115 : decode cX6_lay 115 = .ok (.iaload, 1) := by decide +kernel
theorem dX6_lay_116 : decode cX6_lay 116 = .ok (.invokevirtual 278, 3) := by decide +kernel
theorem dX6_lay_119 : decode cX6_lay 119 = .ok (.goto 36, 3) := by decide +kernel
theorem dX6_lay_122 : decode cX6_lay 122 = .ok (.iload_n 2, 1) := by decide +kernel
theorem dX6_lay_123 : decode cX6_lay 123 = .ok (.iconst 2, 1) := by decide +kernel
theorem dX6_lay_124 : decode cX6_lay 124 = .ok (.if_icmp .ne 20, 3) := by decide +kernel
theorem dX6_lay_127 : decode cX6_lay 127 = .ok (.aload 4, 2) := by decide +kernel
theorem dX6_lay_129 : decode cX6_lay 129 = .ok (.getfield 281, 3) := by decide +kernel
theorem dX6_lay_132 : decode cX6_lay 132 = .ok (.aload_n 0, 1) := by decide +kernel
theorem dX6_lay_133 : decode cX6_lay 133 = .ok (.getfield 38, 3) := by decide +kernel
theorem dX6_lay_136 : decode cX6_lay 136 = .ok (.iload_n 3, 1) := by decide +kernel
theorem dX6_lay_137 : decode cX6_lay 137 = .ok (.aaload, 1) := by decide +kernel
theorem dX6_lay_138 : decode cX6_lay 138 = .ok (.invokevirtual 285, 3) := by decide +kernel
theorem dX6_lay_141 : decode cX6_lay 141 = .ok (.goto 14, 3) := by decide +kernel
theorem dX6_lay_144 : decode cX6_lay 144 = .ok (.iload_n 2, 1) := by decide +kernel
theorem dX6_lay_145 : decode cX6_lay 145 = .ok (.iconst 3, 1) := by decide +kernel
theorem dX6_lay_146 : decode cX6_lay 146 = .ok (.if_icmp .ne 9, 3) := by decide +kernel
theorem dX6_lay_149 : decode cX6_lay 149 = .ok (.aload 4, 2) := by decide +kernel
theorem dX6_lay_151 : decode cX6_lay 151 = .ok (.iload_n 3, 1) := by decide +kernel
theorem dX6_lay_152 : decode cX6_lay 152 = .ok (.putfield 289, 3) := by decide +kernel
theorem dX6_lay_155 : decode cX6_lay 155 = .ok (.iload 5, 2) := by decide +kernel
theorem dX6_lay_157 : decode cX6_lay 157 = .ok (.ireturn, 1) := by decide +kernel
set_option maxRecDepth 20000 in
theorem ggX6_ask_X6_isSlot : GoodIn wsX6_ask wsX6_isSlot := goodIn_r _ [11] (by decide +kernel) (by decide +kernel)
set_option maxRecDepth 20000 in
theorem gX6_ask_X6_isSlot : GoodIn wsX6_ask (va_wsS RX6 272 yX6_isSlot wsX6_isSlot) := goodIn_app (goodIn_of _ (by decide +kernel)) ggX6_ask_X6_isSlot
set_option maxRecDepth 20000 in
theorem ggX6_ask_X6_isKind : GoodIn wsX6_ask wsX6_isKind := goodIn_r _ [14, 15] (by decide +kernel) (by decide +kernel)
set_option maxRecDepth 20000 in
theorem gX6_ask_X6_isKind : GoodIn wsX6_ask (va_wsS RX6 62 yX6_isKind wsX6_isKind) := goodIn_app (goodIn_of _ (by decide +kernel)) ggX6_ask_X6_isKind
set_option maxRecDepth 20000 in
theorem ggX6_ask_X6_isOfKind : GoodIn wsX6_ask wsX6_isOfKind := goodIn_r _ [18, 15, 12, 13, 10, 14] (by decide +kernel) (by decide +kernel)
set_option maxRecDepth 20000 in
theorem gX6_ask_X6_isOfKind : GoodIn wsX6_ask (va_wsS RX6 99 yX6_isOfKind wsX6_isOfKind) := goodIn_app (goodIn_of _ (by decide +kernel)) ggX6_ask_X6_isOfKind
set_option maxRecDepth 20000 in
theorem ggX6_ask_X6_worthOf : GoodIn wsX6_ask wsX6_worthOf := goodIn_r _ [21] (by decide +kernel) (by decide +kernel)
set_option maxRecDepth 20000 in
theorem gX6_ask_X6_worthOf : GoodIn wsX6_ask (va_wsS RX6 95 yX6_worthOf wsX6_worthOf) := goodIn_app (goodIn_of _ (by decide +kernel)) ggX6_ask_X6_worthOf
theorem dX6_ask_0 : decode cX6_ask 0 = .ok (.iload_n 1, 1) := by decide +kernel
theorem dX6_ask_1 : decode cX6_ask 1 = .ok (.invokestatic 272, 3) := by decide +kernel
theorem dX6_ask_4 : decode cX6_ask 4 = .ok (.ifCond .eq 10, 3) := by decide +kernel
theorem dX6_ask_7 : decode cX6_ask 7 = .ok (.iload_n 2, 1) := by decide +kernel
theorem dX6_ask_8 : decode cX6_ask 8 = .ok (.invokestatic 62, 3) := by decide +kernel
theorem dX6_ask_11 : decode cX6_ask 11 = .ok (.ifCond .ne 6, 3) := by decide +kernel
theorem dX6_ask_14 : decode cX6_ask 14 = .ok (.ldc 70, 2) := by decide +kernel
theorem dX6_ask_16 : decode cX6_ask 16 = .ok (.ireturn, 1) := by decide +kernel
theorem dX6_ask_17 : decode cX6_ask 17 = .ok (.aload_n 0, 1) := by decide +kernel
theorem dX6_ask_18 : decode cX6_ask 18 = .ok (.getfield 44, 3) := by decide +kernel
theorem dX6_ask_21 : decode cX6_ask 21 = .ok (.iload_n 1, 1) := by decide +kernel
theorem dX6_ask_22 : decode cX6_ask 22 = .ok (.aaload, 1) := by decide +kernel
theorem dX6_ask_23 : decode cX6_ask 23 = .ok (.astore_n 3, 1) := by decide +kernel
theorem dX6_ask_24 : decode cX6_ask 24 = .ok (.aload_n 3, 1) := by decide +kernel
theorem dX6_ask_25 : decode cX6_ask 25 = .ok (.getfield 275, 3) := by decide +kernel
theorem dX6_ask_28 : decode cX6_ask 28 = .ok (.ifCond .ne 6, 3) := by decide +kernel
theorem dX6_ask_31 : decode cX6_ask 31 = .ok (.ldc 182, 2) := by decide +kernel
theorem dX6_ask_33 : decode cX6_ask 33 = .ok (.ireturn, 1) := by decide +kernel
theorem dX6_ask_34 : decode cX6_ask 34 = .ok (.aload_n 3, 1) := by decide +kernel
theorem dX6_ask_35 : decode cX6_ask 35 = .ok (.getfield 275, 3) := by decide +kernel
theorem dX6_ask_38 : decode cX6_ask 38 = .ok (.iconst 1, 1) := by decide +kernel
theorem dX6_ask_39 : decode cX6_ask 39 = .ok (.if_icmp .ne 14, 3) := by decide +kernel
theorem dX6_ask_42 : decode cX6_ask 42 = .ok (.aload_n 3, 1) := by decide +kernel
theorem dX6_ask_43 : decode cX6_ask 43 = .ok (.getfield 292, 3) := by decide +kernel
theorem dX6_ask_46 : decode cX6_ask 46 = .ok (.iload_n 2, 1) := by decide +kernel
theorem dX6_ask_47 : decode cX6_ask 47 = .ok (.invokestatic 99, 3) := by decide +kernel
theorem dX6_ask_50 : decode cX6_ask 50 = .ok (.ifCond .ne 6, 3) := by decide +kernel
theorem dX6_ask_53 : decode cX6_ask 53 = .ok (.ldc 103, 2) := by decide +kernel
theorem dX6_ask_55 : decode cX6_ask 55 = .ok (.ireturn, 1) := by decide +kernel
theorem dX6_ask_56 : decode cX6_ask 56 = .ok (.aload_n 3, 1) := by decide +kernel
theorem dX6_ask_57 : decode cX6_ask 57 = .ok (.getfield 292, 3) := by decide +kernel
theorem dX6_ask_60 : decode cX6_ask 60 = .ok (.aload_n 3, 1) := by decide +kernel
theorem dX6_ask_61 : decode cX6_ask 61 = .ok (.getfield 295, 3) := by decide +kernel
theorem dX6_ask_64 : decode cX6_ask 64 = .ok (.invokestatic 95, 3) := by decide +kernel
theorem dX6_ask_67 : decode cX6_ask 67 = .ok (.ireturn, 1) := by decide +kernel
set_option maxRecDepth 20000 in
theorem ggX6_item_X6_isSlot : GoodIn wsX6_item wsX6_isSlot := goodIn_r _ [12] (by decide +kernel) (by decide +kernel)
set_option maxRecDepth 20000 in
theorem gX6_item_X6_isSlot : GoodIn wsX6_item (va_wsS RX6 272 yX6_isSlot wsX6_isSlot) := goodIn_app (goodIn_of _ (by decide +kernel)) ggX6_item_X6_isSlot
set_option maxRecDepth 20000 in
theorem ggX6_item_X2_has : GoodIn wsX6_item wsX2_has := goodIn_r _ [17, 18, 40, 41, 42] (by decide +kernel) (by decide +kernel)
set_option maxRecDepth 20000 in
theorem gX6_item_X2_has : GoodIn wsX6_item (wsV RX6 246 RX2 yX2_has wsX2_has) := goodIn_app (goodIn_of _ (by decide +kernel)) ggX6_item_X2_has
set_option maxRecDepth 20000 in
theorem ggX6_item_X2_isNumber : GoodIn wsX6_item wsX2_isNumber := goodIn_r _ [22, 23, 24, 40, 41, 42] (by decide +kernel) (by decide +kernel)
set_option maxRecDepth 20000 in
theorem gX6_item_X2_isNumber : GoodIn wsX6_item (wsV RX6 298 RX2 yX2_isNumber wsX2_isNumber) := goodIn_app (goodIn_of _ (by decide +kernel)) ggX6_item_X2_isNumber
theorem dX6_item_0 : decode cX6_item 0 = .ok (.iload_n 1, 1) := by decide +kernel
theorem dX6_item_1 : decode cX6_item 1 = .ok (.invokestatic 272, 3) := by decide +kernel
theorem dX6_item_4 : decode cX6_item 4 = .ok (.ifCond .ne 6, 3) := by decide +kernel
theorem dX6_item_7 : decode cX6_item 7 = .ok (.ldc 70, 2) := by decide +kernel
theorem dX6_item_9 : decode cX6_item 9 = .ok (.ireturn, 1) := by decide +kernel
theorem dX6_item_10 : decode cX6_item 10 = .ok (.aload_n 0, 1) := by decide +kernel
theorem dX6_item_11 : decode cX6_item 11 = .ok (.getfield 44, 3) := by decide +kernel
theorem dX6_item_14 : decode cX6_item 14 = .ok (.iload_n 1, 1) := by decide +kernel
theorem dX6_item_15 : decode cX6_item 15 = .ok (.aaload, 1) := by decide +kernel
theorem dX6_item_16 : decode cX6_item 16 = .ok (.astore_n 3, 1) := by decide +kernel
theorem dX6_item_17 : decode cX6_item 17 = .ok (.aload_n 3, 1) := by decide +kernel
theorem dX6_item_18 : decode cX6_item 18 = .ok (.getfield 275, 3) := by decide +kernel
theorem dX6_item_21 : decode cX6_item 21 = .ok (.ifCond .ne 6, 3) := by decide +kernel
theorem dX6_item_24 : decode cX6_item 24 = .ok (.ldc 182, 2) := by decide +kernel
theorem dX6_item_26 : decode cX6_item 26 = .ok (.ireturn, 1) := by decide +kernel
theorem dX6_item_27 : decode cX6_item 27 = .ok (.aload_n 3, 1) := by decide +kernel
theorem dX6_item_28 : decode cX6_item 28 = .ok (.getfield 275, 3) := by decide +kernel
theorem dX6_item_31 : decode cX6_item 31 = .ok (.iconst 2, 1) := by decide +kernel
theorem dX6_item_32 : decode cX6_item 32 = .ok (.if_icmp .eq 6, 3) := by decide +kernel
theorem dX6_item_35 : decode cX6_item 35 = .ok (.ldc 103, 2) := by decide +kernel
theorem dX6_item_37 : decode cX6_item 37 = .ok (.ireturn, 1) := by decide +kernel
theorem dX6_item_38 : decode cX6_item 38 = .ok (.aload_n 3, 1) := by decide +kernel
theorem dX6_item_39 : decode cX6_item 39 = .ok (.getfield 281, 3) := by decide +kernel
theorem dX6_item_42 : decode cX6_item 42 = .ok (.iload_n 2, 1) := by decide +kernel
theorem dX6_item_43 : decode cX6_item 43 = .ok (.invokevirtual 246, 3) := by decide +kernel
theorem dX6_item_46 : decode cX6_item 46 = .ok (.ifCond .ne 6, 3) := by decide +kernel
theorem dX6_item_49 : decode cX6_item 49 = .ok (.ldc 247, 2) := by decide +kernel
theorem dX6_item_51 : decode cX6_item 51 = .ok (.ireturn, 1) := by decide +kernel
theorem dX6_item_52 : decode cX6_item 52 = .ok (.aload_n 3, 1) := by decide +kernel
theorem dX6_item_53 : decode cX6_item 53 = .ok (.getfield 281, 3) := by decide +kernel
theorem dX6_item_56 : decode cX6_item 56 = .ok (.iload_n 2, 1) := by decide +kernel
theorem dX6_item_57 : decode cX6_item 57 = .ok (.invokevirtual 298, 3) := by decide +kernel
theorem dX6_item_60 : decode cX6_item 60 = .ok (.ifCond .eq 15, 3) := by decide +kernel
theorem dX6_item_63 : decode cX6_item 63 = .ok (.aload_n 3, 1) := by decide +kernel
theorem dX6_item_64 : decode cX6_item 64 = .ok (.getfield 281, 3) := by decide +kernel
theorem dX6_item_67 : decode cX6_item 67 = .ok (.getfield 251, 3) := by decide +kernel
theorem dX6_item_70 : decode cX6_item 70 = .ok (.iload_n 2, 1) := by decide +kernel
theorem dX6_item_71 : decode cX6_item 71 = .ok (.iaload, 1) := by decide +kernel
theorem dX6_item_72 : decode cX6_item 72 = .ok (.goto 5, 3) := by decide +kernel
theorem dX6_item_75 : decode cX6_item 75 = .ok (.ldc 103, 2) := by decide +kernel
theorem dX6_item_77 : decode cX6_item 77 = .ok (.ireturn, 1) := by decide +kernel
set_option maxRecDepth 20000 in
theorem ggX6_rest_X6_isSlot : GoodIn wsX6_rest wsX6_isSlot := goodIn_r _ [11] (by decide +kernel) (by decide +kernel)
set_option maxRecDepth 20000 in
theorem gX6_rest_X6_isSlot : GoodIn wsX6_rest (va_wsS RX6 272 yX6_isSlot wsX6_isSlot) := goodIn_app (goodIn_of _ (by decide +kernel)) ggX6_rest_X6_isSlot
theorem dX6_rest_0 : decode cX6_rest 0 = .ok (.iload_n 1, 1) := by decide +kernel
theorem dX6_rest_1 : decode cX6_rest 1 = .ok (.invokestatic 272, 3) := by decide +kernel
theorem dX6_rest_4 : decode cX6_rest 4 = .ok (.ifCond .ne 6, 3) := by decide +kernel
theorem dX6_rest_7 : decode cX6_rest 7 = .ok (.ldc 70, 2) := by decide +kernel
theorem dX6_rest_9 : decode cX6_rest 9 = .ok (.ireturn, 1) := by decide +kernel
theorem dX6_rest_10 : decode cX6_rest 10 = .ok (.aload_n 0, 1) := by decide +kernel
theorem dX6_rest_11 : decode cX6_rest 11 = .ok (.getfield 44, 3) := by decide +kernel
theorem dX6_rest_14 : decode cX6_rest 14 = .ok (.iload_n 1, 1) := by decide +kernel
theorem dX6_rest_15 : decode cX6_rest 15 = .ok (.aaload, 1) := by decide +kernel
theorem dX6_rest_16 : decode cX6_rest 16 = .ok (.astore_n 3, 1) := by decide +kernel
theorem dX6_rest_17 : decode cX6_rest 17 = .ok (.aload_n 3, 1) := by decide +kernel
theorem dX6_rest_18 : decode cX6_rest 18 = .ok (.getfield 275, 3) := by decide +kernel
theorem dX6_rest_21 : decode cX6_rest 21 = .ok (.ifCond .ne 6, 3) := by decide +kernel
theorem dX6_rest_24 : decode cX6_rest 24 = .ok (.ldc 182, 2) := by decide +kernel
theorem dX6_rest_26 : decode cX6_rest 26 = .ok (.ireturn, 1) := by decide +kernel
theorem dX6_rest_27 : decode cX6_rest 27 = .ok (.aload_n 3, 1) := by decide +kernel
theorem dX6_rest_28 : decode cX6_rest 28 = .ok (.getfield 275, 3) := by decide +kernel
theorem dX6_rest_31 : decode cX6_rest 31 = .ok (.iconst 3, 1) := by decide +kernel
theorem dX6_rest_32 : decode cX6_rest 32 = .ok (.if_icmp .eq 6, 3) := by decide +kernel
theorem dX6_rest_35 : decode cX6_rest 35 = .ok (.ldc 103, 2) := by decide +kernel
theorem dX6_rest_37 : decode cX6_rest 37 = .ok (.ireturn, 1) := by decide +kernel
theorem dX6_rest_38 : decode cX6_rest 38 = .ok (.iload_n 2, 1) := by decide +kernel
theorem dX6_rest_39 : decode cX6_rest 39 = .ok (.ifCond .ne 6, 3) := by decide +kernel
theorem dX6_rest_42 : decode cX6_rest 42 = .ok (.ldc 137, 2) := by decide +kernel
theorem dX6_rest_44 : decode cX6_rest 44 = .ok (.ireturn, 1) := by decide +kernel
theorem dX6_rest_45 : decode cX6_rest 45 = .ok (.aload_n 3, 1) := by decide +kernel
theorem dX6_rest_46 : decode cX6_rest 46 = .ok (.getfield 289, 3) := by decide +kernel
theorem dX6_rest_49 : decode cX6_rest 49 = .ok (.iload_n 2, 1) := by decide +kernel
theorem dX6_rest_50 : decode cX6_rest 50 = .ok (.irem, 1) := by decide +kernel
theorem dX6_rest_51 : decode cX6_rest 51 = .ok (.ireturn, 1) := by decide +kernel
theorem dX6_tell_0 : decode cX6_tell 0 = .ok (.aload_n 0, 1) := by decide +kernel
theorem dX6_tell_1 : decode cX6_tell 1 = .ok (.getfield 52, 3) := by decide +kernel
theorem dX6_tell_4 : decode cX6_tell 4 = .ok (.bipush 60, 2) := by decide +kernel
theorem dX6_tell_6 : decode cX6_tell 6 = .ok (.if_icmp .lt 6, 3) := by decide +kernel
theorem dX6_tell_9 : decode cX6_tell 9 = .ok (.ldc 74, 2) := by decide +kernel
theorem dX6_tell_11 : decode cX6_tell 11 = .ok (.ireturn, 1) := by decide +kernel
theorem dX6_tell_12 : decode cX6_tell 12 = .ok (.aload_n 0, 1) := by decide +kernel
theorem dX6_tell_13 : decode cX6_tell 13 = .ok (.getfield 48, 3) := by decide +kernel
theorem dX6_tell_16 : decode cX6_tell 16 = .ok (.aload_n 0, 1) := by decide +kernel
theorem dX6_tell_17 : decode cX6_tell 17 = .ok (.getfield 52, 3) := by decide +kernel
theorem dX6_tell_20 : decode cX6_tell 20 = .ok (.iload_n 1, 1) := by decide +kernel
theorem dX6_tell_21 : decode cX6_tell 21 = .ok (.iastore, 1) := by decide +kernel
theorem dX6_tell_22 : decode cX6_tell 22 = .ok (.aload_n 0, 1) := by decide +kernel
theorem dX6_tell_23 : decode cX6_tell 23 = .ok (.dup, 1) := by decide +kernel
theorem dX6_tell_24 : decode cX6_tell 24 = .ok (.getfield 52, 3) := by decide +kernel
theorem dX6_tell_27 : decode cX6_tell 27 = .ok (.iconst 1, 1) := by decide +kernel
theorem dX6_tell_28 : decode cX6_tell 28 = .ok (.iadd, 1) := by decide +kernel
theorem dX6_tell_29 : decode cX6_tell 29 = .ok (.putfield 52, 3) := by decide +kernel
theorem dX6_tell_32 : decode cX6_tell 32 = .ok (.aload_n 0, 1) := by decide +kernel
theorem dX6_tell_33 : decode cX6_tell 33 = .ok (.getfield 52, 3) := by decide +kernel
theorem dX6_tell_36 : decode cX6_tell 36 = .ok (.ireturn, 1) := by decide +kernel
set_option maxRecDepth 20000 in
theorem ggX6_check_X6_within : GoodIn wsX6_check wsX6_within := goodIn_r _ [14] (by decide +kernel) (by decide +kernel)
set_option maxRecDepth 20000 in
theorem gX6_check_X6_within : GoodIn wsX6_check (va_wsS RX6 66 yX6_within wsX6_within) := goodIn_app (goodIn_of _ (by decide +kernel)) ggX6_check_X6_within
set_option maxRecDepth 20000 in
theorem ggX6_check_X1_become : GoodIn wsX6_check wsX1_become := goodIn_r _ [19, 20, 21, 22, 23, 24, 25, 26, 27, 28, 29, 30, 31, 32, 33, 34, 35, 36, 37, 157, 158, 159, 160, 161, 162, 163, 164, 165, 166, 167, 168, 169, 170, 171] (by decide +kernel) (by decide +kernel)
set_option maxRecDepth 20000 in
theorem gX6_check_X1_become : GoodIn wsX6_check (wsV RX6 301 RX1 yX1_become wsX1_become) := goodIn_app (goodIn_of _ (by decide +kernel)) ggX6_check_X1_become
set_option maxRecDepth 20000 in
theorem ggX6_check_X5_weigh : GoodIn wsX6_check wsX5_weigh := goodIn_r _ [42, 43, 44, 45, 46, 47, 18, 48, 25, 20, 49, 50, 51, 52, 27, 28, 53, 54, 55, 56, 57, 58, 59, 60, 61, 62, 63, 64, 65, 66, 13, 67, 68, 69, 70, 71, 72, 73, 74, 75, 76, 157, 158, 159, 160, 161, 162, 163, 164, 165, 166, 167, 168, 169, 170, 171, 172, 173, 174, 175, 176, 177] (by decide +kernel) (by decide +kernel)
set_option maxRecDepth 20000 in
theorem gX6_check_X5_weigh : GoodIn wsX6_check (wsV RX6 144 RX5 yX5_weigh wsX5_weigh) := goodIn_app (goodIn_of _ (by decide +kernel)) ggX6_check_X5_weigh
set_option maxRecDepth 20000 in
theorem ggX6_check_X6_passBestMinute : GoodIn wsX6_check wsX6_passBestMinute := goodIn_r _ [80, 81, 7, 82, 83, 84, 18, 85, 29, 86, 87, 88, 41, 89, 90, 91, 92, 22, 23, 24, 43, 44, 93, 94, 95, 96, 97, 98, 99, 100, 101, 102, 103, 104, 31, 32, 66, 13, 67, 68, 69, 70, 71, 72, 73, 74, 49, 50, 51, 52, 27, 28, 53, 54, 55, 56, 57, 58, 59, 60, 61, 62, 63, 64, 65, 105, 106, 107, 108, 109, 110, 111, 112, 113, 114, 115, 116, 117, 118, 26, 119, 120, 121, 122, 123, 124, 125, 126, 127, 128, 129, 130, 131, 132, 133, 33, 35, 36, 34, 134, 46, 47, 48, 25, 20, 75, 76, 135, 136, 137, 138, 139, 37, 140, 141, 157, 158, 159, 160, 161, 162, 163, 164, 165, 166, 167, 168, 169, 170, 171, 147, 148, 149, 150, 151, 152, 153, 154, 155, 156, 172, 173, 174, 175, 176, 177] (by decide +kernel) (by decide +kernel)
set_option maxRecDepth 20000 in
theorem gX6_check_X6_passBestMinute : GoodIn wsX6_check (wsV RX6 148 RX6 yX6_passBestMinute wsX6_passBestMinute) := goodIn_app (goodIn_of _ (by decide +kernel)) ggX6_check_X6_passBestMinute
set_option maxRecDepth 20000 in
theorem ggX6_check_X6_isWaiting : GoodIn wsX6_check wsX6_isWaiting := goodIn_r _ [145, 146, 147, 148, 149, 150, 151, 152, 153, 154, 155, 156] (by decide +kernel) (by decide +kernel)
set_option maxRecDepth 20000 in
theorem gX6_check_X6_isWaiting : GoodIn wsX6_check (wsV RX6 306 RX6 yX6_isWaiting wsX6_isWaiting) := goodIn_app (goodIn_of _ (by decide +kernel)) ggX6_check_X6_isWaiting
theorem dX6_check_0 : decode cX6_check 0 = .ok (.aload_n 0, 1) := by decide +kernel
theorem dX6_check_1 : decode cX6_check 1 = .ok (.getfield 52, 3) := by decide +kernel
theorem dX6_check_4 : decode cX6_check 4 = .ok (.istore_n 2, 1) := by decide +kernel
theorem dX6_check_5 : decode cX6_check 5 = .ok (.aload_n 0, 1) := by decide +kernel
theorem dX6_check_6 : decode cX6_check 6 = .ok (.iconst 0, 1) := by decide +kernel
theorem dX6_check_7 : decode cX6_check 7 = .ok (.putfield 52, 3) := by decide +kernel
theorem dX6_check_10 : decode cX6_check 10 = .ok (.iload_n 1, 1) := by decide +kernel
theorem dX6_check_11 : decode cX6_check 11 = .ok (.iconst 1, 1) := by decide +kernel
theorem dX6_check_12 : decode cX6_check 12 = .ok (.bipush 30, 2) := by decide +kernel
theorem dX6_check_14 : decode cX6_check 14 = .ok (.invokestatic 66, 3) := by decide +kernel
theorem dX6_check_17 : decode cX6_check 17 = .ok (.ifCond .ne 6, 3) := by decide +kernel
theorem dX6_check_20 : decode cX6_check 20 = .ok (.ldc 70, 2) := by decide +kernel
theorem dX6_check_22 : decode cX6_check 22 = .ok (.ireturn, 1) := by decide +kernel
theorem dX6_check_23 : decode cX6_check 23 = .ok (.aload_n 0, 1) := by decide +kernel
theorem dX6_check_24 : decode cX6_check 24 = .ok (.getfield 56, 3) := by decide +kernel
theorem dX6_check_27 : decode cX6_check 27 = .ok (.ifCond .ne 6, 3) := by decide +kernel
theorem dX6_check_30 : decode cX6_check 30 = .ok (.ldc 137, 2) := by decide +kernel
theorem dX6_check_32 : decode cX6_check 32 = .ok (.ireturn, 1) := by decide +kernel
theorem dX6_check_33 : decode cX6_check 33 = .ok (.aload_n 0, 1) := by decide +kernel
theorem dX6_check_34 : decode cX6_check 34 = .ok (.getfield 19, 3) := by decide +kernel
theorem dX6_check_37 : decode cX6_check 37 = .ok (.aload_n 0, 1) := by decide +kernel
theorem dX6_check_38 : decode cX6_check 38 = .ok (.getfield 16, 3) := by decide +kernel
theorem dX6_check_41 : decode cX6_check 41 = .ok (.invokevirtual 301, 3) := by decide +kernel
theorem dX6_check_44 : decode cX6_check 44 = .ok (.aload_n 0, 1) := by decide +kernel
theorem dX6_check_45 : decode cX6_check 45 = .ok (.getfield 25, 3) := by decide +kernel
theorem dX6_check_48 : decode cX6_check 48 = .ok (.aload_n 0, 1) := by decide +kernel
theorem dX6_check_49 : decode cX6_check 49 = .ok (.getfield 19, 3) := by decide +kernel
theorem dX6_check_52 : decode cX6_check 52 = .ok (.invokevirtual 144, 3) := by decide +kernel
theorem dX6_check_55 : decode cX6_check 55 = .ok (.iconst 0, 1) := by decide +kernel
theorem dX6_check_56 : decode cX6_check 56 = .ok (.istore_n 3, 1) := by decide +kernel
theorem dX6_check_57 : decode cX6_check 57 = .ok (.iconst 0, 1) := by decide +kernel
theorem dX6_check_58 : decode cX6_check 58 = .ok (.istore 4, 2) := by decide +kernel
theorem dX6_check_60 : decode cX6_check 60 = .ok (.iload 4, 2) := by decide +kernel
theorem dX6_check_62 : decode cX6_check 62 = .ok (.iload_n 1, 1) := by decide +kernel
theorem dX6_check_63 : decode cX6_check 63 = .ok (.if_icmp .ge 76, 3) := by decide +kernel
theorem dX6_check_66 : decode cX6_check 66 = .ok (.aload_n 0, 1) := by decide +kernel
theorem dX6_check_67 : decode cX6_check 67 = .ok (.getfield 19, 3) := by decide +kernel
theorem dX6_check_70 : decode cX6_check 70 = .ok (.getfield 138, 3) := by decide +kernel
theorem dX6_check_73 : decode cX6_check 73 = .ok (.sipush 9999, 3) := by decide +kernel
theorem dX6_check_76 : decode cX6_check 76 = .ok (.if_icmp .ge 63, 3) := by decide +kernel
theorem dX6_check_79 : decode cX6_check 79 = .ok (.aload_n 0, 1) := by decide +kernel
theorem dX6_check_80 : decode cX6_check 80 = .ok (.aload_n 0, 1) := by decide +kernel
theorem dX6_check_81 : decode cX6_check 81 = .ok (.getfield 19, 3) := by decide +kernel
theorem dX6_check_84 : decode cX6_check 84 = .ok (.invokevirtual 148, 3) := by decide +kernel
theorem dX6_check_87 : decode cX6_check 87 = .ok (.aload_n 0, 1) := by decide +kernel
theorem dX6_check_88 : decode cX6_check 88 = .ok (.iload_n 3, 1) := by decide +kernel
theorem dX6_check_89 : decode cX6_check 89 = .ok (.iload_n 2, 1) := by decide +kernel
theorem dX6_check_90 : decode cX6_check 90 = .ok (.aload_n 0, 1) := by decide +kernel
theorem dX6_check_91 : decode cX6_check 91 = .ok (.getfield 19, 3) := by decide +kernel
theorem dX6_check_94 : decode cX6_check 94 = .ok (.getfield 303, 3) := by decide +kernel
theorem dX6_check_97 : decode cX6_check 97 = .ok (.invokevirtual 306, 3) := by decide +kernel
theorem dX6_check_100 : decode cX6_check 100 = .ok (.ifCond .ne 7, 3) := by decide +kernel
theorem dX6_check_103 : decode cX6_check 103 = .ok (.iconst 1, 1) := by decide +kernel
theorem dX6_check_104 : decode cX6_check 104 = .ok (.iload_n 3, 1) := by decide +kernel
theorem dX6_check_105 : decode cX6_check 105 = .ok (.iadd, 1) := by decide +kernel
theorem dX6_check_106 : decode cX6_check 106 = .ok (.ireturn, 1) := by decide +kernel
theorem dX6_check_107 : decode cX6_check 107 = .ok (.iinc 3 1, 3) := by decide +kernel
theorem dX6_check_110 : decode cX6_check 110 = .ok (.aload_n 0, 1) := by decide +kernel
theorem dX6_check_111 : decode cX6_check 111 = .ok (.iload_n 3, 1) := by decide +kernel
theorem dX6_check_112 : decode cX6_check 112 = .ok (.iload_n 2, 1) := by decide +kernel
theorem dX6_check_113 : decode cX6_check 113 = .ok (.aload_n 0, 1) := by decide +kernel
theorem dX6_check_114 : decode cX6_check 114 = .ok (.getfield 19, 3) := by decide +kernel
theorem dX6_check_117 : decode cX6_check 117 = .ok (.getfield 309, 3) := by decide +kernel
theorem dX6_check_120 : decode cX6_check 120 = .ok (.invokevirtual 306, 3) := by decide +kernel
theorem dX6_check_123 : decode cX6_check 123 = .ok (.ifCond .ne 7, 3) := by decide +kernel
theorem dX6_check_126 : decode cX6_check 126 = .ok (.iconst 1, 1) := by decide +kernel
theorem dX6_check_127 : decode cX6_check 127 = .ok (.iload_n 3, 1) := by decide +kernel
theorem dX6_check_128 : decode cX6_check 128 = .ok (.iadd, 1) := by decide +kernel
theorem dX6_check_129 : decode cX6_check 129 = .ok (.ireturn, 1) := by decide +kernel
theorem dX6_check_130 : decode cX6_check 130 = .ok (.iinc 3 1, 3) := by decide +kernel
theorem dX6_check_133 : decode cX6_check 133 = .ok (.iinc 4 1, 3) := by decide +kernel
theorem dX6_check_136 : decode cX6_check 136 = .ok (.goto (-76), 3) := by decide +kernel
theorem dX6_check_139 : decode cX6_check 139 = .ok (.iload_n 3, 1) := by decide +kernel
theorem dX6_check_140 : decode cX6_check 140 = .ok (.iload_n 2, 1) := by decide +kernel
theorem dX6_check_141 : decode cX6_check 141 = .ok (.if_icmp .ne 7, 3) := by decide +kernel
theorem dX6_check_144 : decode cX6_check 144 = .ok (.iconst 0, 1) := by decide +kernel
theorem dX6_check_145 : decode cX6_check 145 = .ok (.goto 6, 3) := by decide +kernel
theorem dX6_check_148 : decode cX6_check 148 = .ok (.iconst 1, 1) := by decide +kernel
theorem dX6_check_149 : decode cX6_check 149 = .ok (.iload_n 3, 1) := by decide +kernel
theorem dX6_check_150 : decode cX6_check 150 = .ok (.iadd, 1) := by decide +kernel
theorem dX6_check_151 : decode cX6_check 151 = .ok (.ireturn, 1) := by decide +kernel
set_option maxRecDepth 20000 in
theorem ggX6_keep_X1_become : GoodIn wsX6_keep wsX1_become := goodIn_r _ [9, 10, 11, 12, 13, 14, 15, 16, 17, 18, 19, 20, 21, 22, 23, 24, 25, 26, 27, 38, 39, 40, 41, 42, 43, 44, 45, 46, 47, 48, 49, 50, 51, 52] (by decide +kernel) (by decide +kernel)
set_option maxRecDepth 20000 in
theorem gX6_keep_X1_become : GoodIn wsX6_keep (wsV RX6 301 RX1 yX1_become wsX1_become) := goodIn_app (goodIn_of _ (by decide +kernel)) ggX6_keep_X1_become
theorem dX6_keep_0 : decode cX6_keep 0 = .ok (.aload_n 0, 1) := by decide +kernel
theorem dX6_keep_1 : decode cX6_keep 1 = .ok (.getfield 16, 3) := by decide +kernel
theorem dX6_keep_4 : decode cX6_keep 4 = .ok (.aload_n 0, 1) := by decide +kernel
theorem dX6_keep_5 : decode cX6_keep 5 = .ok (.getfield 10, 3) := by decide +kernel
theorem dX6_keep_8 : decode cX6_keep 8 = .ok (.invokevirtual 301, 3) := by decide +kernel
theorem dX6_keep_11 : decode cX6_keep 11 = .ok (.aload_n 0, 1) := by decide +kernel
theorem dX6_keep_12 : decode cX6_keep 12 = .ok (.iconst 1, 1) := by decide +kernel
theorem dX6_keep_13 : decode cX6_keep 13 = .ok (.putfield 56, 3) := by decide +kernel
theorem dX6_keep_16 : decode cX6_keep 16 = .ok (.aload_n 0, 1) := by decide +kernel
theorem dX6_keep_17 : decode cX6_keep 17 = .ok (.getfield 16, 3) := by decide +kernel
theorem dX6_keep_20 : decode cX6_keep 20 = .ok (.getfield 71, 3) := by decide +kernel
theorem dX6_keep_23 : decode cX6_keep 23 = .ok (.ireturn, 1) := by decide +kernel
set_option maxRecDepth 20000 in
theorem ggX6_back_X1_become : GoodIn wsX6_back wsX1_become := goodIn_r _ [10, 11, 12, 13, 14, 15, 16, 17, 18, 19, 20, 21, 22, 23, 24, 25, 26, 27, 28, 39, 40, 41, 42, 43, 44, 45, 46, 47, 48, 49, 50, 51, 52, 53] (by decide +kernel) (by decide +kernel)
set_option maxRecDepth 20000 in
theorem gX6_back_X1_become : GoodIn wsX6_back (wsV RX6 301 RX1 yX1_become wsX1_become) := goodIn_app (goodIn_of _ (by decide +kernel)) ggX6_back_X1_become
theorem dX6_back_0 : decode cX6_back 0 = .ok (.aload_n 0, 1) := by decide +kernel
theorem dX6_back_1 : decode cX6_back 1 = .ok (.getfield 56, 3) := by decide +kernel
theorem dX6_back_4 : decode cX6_back 4 = .ok (.ifCond .ne 6, 3) := by decide +kernel
theorem dX6_back_7 : decode cX6_back 7 = .ok (.ldc 137, 2) := by decide +kernel
theorem dX6_back_9 : decode cX6_back 9 = .ok (.ireturn, 1) := by decide +kernel
theorem dX6_back_10 : decode cX6_back 10 = .ok (.aload_n 0, 1) := by decide +kernel
theorem dX6_back_11 : decode cX6_back 11 = .ok (.getfield 10, 3) := by decide +kernel
theorem dX6_back_14 : decode cX6_back 14 = .ok (.aload_n 0, 1) := by decide +kernel
theorem dX6_back_15 : decode cX6_back 15 = .ok (.getfield 16, 3) := by decide +kernel
theorem dX6_back_18 : decode cX6_back 18 = .ok (.invokevirtual 301, 3) := by decide +kernel
theorem dX6_back_21 : decode cX6_back 21 = .ok (.aload_n 0, 1) := by decide +kernel
theorem dX6_back_22 : decode cX6_back 22 = .ok (.getfield 10, 3) := by decide +kernel
theorem dX6_back_25 : decode cX6_back 25 = .ok (.getfield 71, 3) := by decide +kernel
theorem dX6_back_28 : decode cX6_back 28 = .ok (.ireturn, 1) := by decide +kernel
theorem dX6_count_0 : decode cX6_count 0 = .ok (.iload_n 1, 1) := by decide +kernel
theorem dX6_count_1 : decode cX6_count 1 = .ok (.tableswitch 144 0 10 #[59, 67, 75, 83, 91, 99, 107, 115, 123, 128, 136], 59) := by decide +kernel
theorem dX6_count_60 : decode cX6_count 60 = .ok (.aload_n 0, 1) := by decide +kernel
theorem dX6_count_61 : decode cX6_count 61 = .ok (.getfield 10, 3) := by decide +kernel
theorem dX6_count_64 : decode cX6_count 64 = .ok (.getfield 71, 3) := by decide +kernel
theorem dX6_count_67 : decode cX6_count 67 = .ok (.ireturn, 1) := by decide +kernel
