theorem dX7_aMinute_39 : decode cX7_aMinute 39 = .ok (.iload_n 3, 1) := by decide +kernel
theorem dX7_aMinute_40 : decode cX7_aMinute 40 = .ok (.iadd, 1) := by decide +kernel
theorem dX7_aMinute_41 : decode cX7_aMinute 41 = .ok (.iastore, 1) := by decide +kernel
theorem dX7_aMinute_42 : decode cX7_aMinute 42 = .ok (.aload_n 0, 1) := by decide +kernel
theorem dX7_aMinute_43 : decode cX7_aMinute 43 = .ok (.getfield 9, 3) := by decide +kernel
theorem dX7_aMinute_46 : decode cX7_aMinute 46 = .ok (.bipush 7, 2) := by decide +kernel
theorem dX7_aMinute_48 : decode cX7_aMinute 48 = .ok (.dup2, 1) := by decide +kernel
theorem dX7_aMinute_49 : decode cX7_aMinute 49 = .ok (.iaload, 1) := by decide +kernel
theorem dX7_aMinute_50 : decode cX7_aMinute 50 = .ok (.aload_n 0, 1) := by decide +kernel
theorem dX7_aMinute_51 : decode cX7_aMinute 51 = .ok (.invokevirtual 128, 3) := by decide +kernel
theorem dX7_aMinute_54 : decode cX7_aMinute 54 = .ok (.sipush 10000, 3) := by decide +kernel
theorem dX7_aMinute_57 : decode cX7_aMinute 57 = .ok (.irem, 1) := by decide +kernel
theorem dX7_aMinute_58 : decode cX7_aMinute 58 = .ok (.iload_n 3, 1) := by decide +kernel
theorem dX7_aMinute_59 : decode cX7_aMinute 59 = .ok (.if_icmp .ge 7, 3) := by decide +kernel
theorem dX7_aMinute_62 : decode cX7_aMinute 62 = .ok (.iconst 1, 1) := by decide +kernel
theorem dX7_aMinute_63 : decode cX7_aMinute 63 = .ok (.goto 4, 3) := by decide +kernel
theorem dX7_aMinute_66 : decode cX7_aMinute 66 = .ok (.iconst 0, 1) := by decide +kernel
theorem dX7_aMinute_67 : decode cX7_aMinute 67 = .ok (.iadd, 1) := by decide +kernel
theorem dX7_aMinute_68 : decode cX7_aMinute 68 = .ok (.iastore, 1) := by decide +kernel
theorem dX7_aMinute_69 : decode cX7_aMinute 69 = .ok (.aload_n 0, 1) := by decide +kernel
theorem dX7_aMinute_70 : decode cX7_aMinute 70 = .ok (.getfield 9, 3) := by decide +kernel
theorem dX7_aMinute_73 : decode cX7_aMinute 73 = .ok (.iconst 2, 1) := by decide +kernel
theorem dX7_aMinute_74 : decode cX7_aMinute 74 = .ok (.aload_n 0, 1) := by decide +kernel
theorem dX7_aMinute_75 : decode cX7_aMinute 75 = .ok (.iload_n 2, 1) := by decide +kernel
theorem dX7_aMinute_76 : decode cX7_aMinute 76 = .ok (.iload_n 1, 1) := by decide +kernel
theorem dX7_aMinute_77 : decode cX7_aMinute 77 = .ok (.invokevirtual 141, 3) := by decide +kernel
theorem dX7_aMinute_80 : decode cX7_aMinute 80 = .ok (.iastore, 1) := by decide +kernel
theorem dX7_aMinute_81 : decode cX7_aMinute 81 = .ok (.aload_n 0, 1) := by decide +kernel
theorem dX7_aMinute_82 : decode cX7_aMinute 82 = .ok (.getfield 9, 3) := by decide +kernel
theorem dX7_aMinute_85 : decode cX7_aMinute 85 = .ok (.iconst 4, 1) := by decide +kernel
theorem dX7_aMinute_86 : decode cX7_aMinute 86 = .ok (.aload_n 0, 1) := by decide +kernel
theorem dX7_aMinute_87 : decode cX7_aMinute 87 = .ok (.iconst 1, 1) := by decide +kernel
theorem dX7_aMinute_88 : decode cX7_aMinute 88 = .ok (.invokevirtual 132, 3) := by decide +kernel
theorem dX7_aMinute_91 : decode cX7_aMinute 91 = .ok (.iastore, 1) := by decide +kernel
theorem dX7_aMinute_92 : decode cX7_aMinute 92 = .ok (.aload_n 0, 1) := by decide +kernel
theorem dX7_aMinute_93 : decode cX7_aMinute 93 = .ok (.getfield 9, 3) := by decide +kernel
theorem dX7_aMinute_96 : decode cX7_aMinute 96 = .ok (.iconst 3, 1) := by decide +kernel
theorem dX7_aMinute_97 : decode cX7_aMinute 97 = .ok (.dup2, 1) := by decide +kernel
theorem dX7_aMinute_98 : decode cX7_aMinute 98 = .ok (.iaload, 1) := by decide +kernel
theorem dX7_aMinute_99 : decode cX7_aMinute 99 = .ok (.iconst 1, 1) := by decide +kernel
theorem dX7_aMinute_100 : decode cX7_aMinute 100 = .ok (.iadd, 1) := by decide +kernel
theorem dX7_aMinute_101 : decode cX7_aMinute 101 = .ok (.iastore, 1) := by decide +kernel
theorem dX7_aMinute_102 : decode cX7_aMinute 102 = .ok (.iload_n 3, 1) := by decide +kernel
theorem dX7_aMinute_103 : decode cX7_aMinute 103 = .ok (.ireturn, 1) := by decide +kernel
set_option maxRecDepth 20000 in
theorem ggX7_step_X7_in : GoodIn wsX7_step wsX7_in := goodIn_r _ [8] (by decide +kernel) (by decide +kernel)
set_option maxRecDepth 20000 in
theorem gX7_step_X7_in : GoodIn wsX7_step (va_wsS RX7 85 yX7_in wsX7_in) := goodIn_app (goodIn_of _ (by decide +kernel)) ggX7_step_X7_in
set_option maxRecDepth 20000 in
theorem ggX7_step_X7_may : GoodIn wsX7_step wsX7_may := goodIn_r _ [12, 13, 14, 15, 7, 16, 2, 58, 59, 60, 61, 62, 63, 64, 65, 66, 67, 68, 69, 70, 71, 72, 73, 74, 75, 76, 77, 78, 79, 80, 81, 82, 83, 84, 85, 86, 87, 88, 89, 90, 91, 92, 93, 94, 95, 96] (by decide +kernel) (by decide +kernel)
set_option maxRecDepth 20000 in
theorem gX7_step_X7_may : GoodIn wsX7_step (wsV RX7 144 RX7 yX7_may wsX7_may) := goodIn_app (goodIn_of _ (by decide +kernel)) ggX7_step_X7_may
set_option maxRecDepth 20000 in
theorem ggX7_step_X7_aMinute : GoodIn wsX7_step wsX7_aMinute := goodIn_r _ [20, 2, 21, 22, 23, 7, 24, 25, 26, 27, 28, 29, 13, 14, 15, 16, 30, 31, 32, 33, 34, 35, 36, 37, 38, 39, 40, 41, 42, 43, 44, 45, 46, 47, 48, 49, 50, 51, 52, 53, 54, 55, 56, 57, 58, 59, 60, 61, 62, 63, 64, 65, 66, 67, 68, 69, 70, 71, 72, 73, 74, 75, 76, 77, 78, 79, 80, 81, 82, 83, 84, 85, 86, 87, 88, 89, 90, 91, 92, 93, 94, 95, 96] (by decide +kernel) (by decide +kernel)
set_option maxRecDepth 20000 in
theorem gX7_step_X7_aMinute : GoodIn wsX7_step (wsV RX7 148 RX7 yX7_aMinute wsX7_aMinute) := goodIn_app (goodIn_of _ (by decide +kernel)) ggX7_step_X7_aMinute
theorem dX7_step_0 : decode cX7_step 0 = .ok (.iload_n 1, 1) := by decide +kernel
theorem dX7_step_1 : decode cX7_step 1 = .ok (.iconst 0, 1) := by decide +kernel
theorem dX7_step_2 : decode cX7_step 2 = .ok (.iconst 3, 1) := by decide +kernel
theorem dX7_step_3 : decode cX7_step 3 = .ok (.invokestatic 85, 3) := by decide +kernel
theorem dX7_step_6 : decode cX7_step 6 = .ok (.ifCond .ne 6, 3) := by decide +kernel
theorem dX7_step_9 : decode cX7_step 9 = .ok (.ldc 89, 2) := by decide +kernel
theorem dX7_step_11 : decode cX7_step 11 = .ok (.ireturn, 1) := by decide +kernel
theorem dX7_step_12 : decode cX7_step 12 = .ok (.aload_n 0, 1) := by decide +kernel
theorem dX7_step_13 : decode cX7_step 13 = .ok (.aload_n 0, 1) := by decide +kernel
theorem dX7_step_14 : decode cX7_step 14 = .ok (.getfield 9, 3) := by decide +kernel
theorem dX7_step_17 : decode cX7_step 17 = .ok (.iconst 2, 1) := by decide +kernel
theorem dX7_step_18 : decode cX7_step 18 = .ok (.iaload, 1) := by decide +kernel
theorem dX7_step_19 : decode cX7_step 19 = .ok (.iload_n 1, 1) := by decide +kernel
theorem dX7_step_20 : decode cX7_step 20 = .ok (.invokevirtual 144, 3) := by decide +kernel
theorem dX7_step_23 : decode cX7_step 23 = .ok (.ifCond .ne 6, 3) := by decide +kernel
theorem dX7_step_26 : decode cX7_step 26 = .ok (.ldc 147, 2) := by decide +kernel
theorem dX7_step_28 : decode cX7_step 28 = .ok (.ireturn, 1) := by decide +kernel
theorem dX7_step_29 : decode cX7_step 29 = .ok (.aload_n 0, 1) := by decide +kernel
theorem dX7_step_30 : decode cX7_step 30 = .ok (.getfield 9, 3) := by decide +kernel
theorem dX7_step_33 : decode cX7_step 33 = .ok (.iconst 3, 1) := by decide +kernel
theorem dX7_step_34 : decode cX7_step 34 = .ok (.iaload, 1) := by decide +kernel
theorem dX7_step_35 : decode cX7_step 35 = .ok (.sipush 9999, 3) := by decide +kernel
theorem dX7_step_38 : decode cX7_step 38 = .ok (.if_icmp .ne 8, 3) := by decide +kernel
theorem dX7_step_41 : decode cX7_step 41 = .ok (.ldc 90, 2) := by decide +kernel
theorem dX7_step_43 : decode cX7_step 43 = .ok (.goto 8, 3) := by decide +kernel
theorem dX7_step_46 : decode cX7_step 46 = .ok (.aload_n 0, 1) := by decide +kernel
theorem dX7_step_47 : decode cX7_step 47 = .ok (.iload_n 1, 1) := by decide +kernel
theorem dX7_step_48 : decode cX7_step 48 = .ok (.invokevirtual 148, 3) := by decide +kernel
theorem dX7_step_51 : decode cX7_step 51 = .ok (.ireturn, 1) := by decide +kernel
set_option maxRecDepth 20000 in
theorem ggX7_bestMinute_X7_findTree : GoodIn wsX7_bestMinute wsX7_findTree := goodIn_r _ [7, 1, 8, 9, 10, 2, 11, 12, 13, 6, 14, 15, 16, 17, 18, 19, 20, 21, 22, 23, 24, 25, 26, 27, 28, 29, 30, 31, 32, 33, 34, 35, 36, 37, 38, 39, 40, 41, 42, 43, 44, 45, 46, 47, 48, 49, 50, 60, 61, 62, 63, 64, 65, 66, 67, 68, 69, 70, 71, 72, 73, 74, 75, 76, 77, 78, 79, 80, 81, 82, 83, 84, 85, 86, 87, 88, 89, 90, 91, 92, 93, 94, 95, 96, 97, 98] (by decide +kernel) (by decide +kernel)
set_option maxRecDepth 20000 in
theorem gX7_bestMinute_X7_findTree : GoodIn wsX7_bestMinute (wsV RX7 151 RX7 yX7_findTree wsX7_findTree) := goodIn_app (goodIn_of _ (by decide +kernel)) ggX7_bestMinute_X7_findTree
set_option maxRecDepth 20000 in
theorem ggX7_bestMinute_X7_aMinute : GoodIn wsX7_bestMinute wsX7_aMinute := goodIn_r _ [54, 1, 11, 12, 13, 6, 14, 15, 16, 17, 18, 19, 20, 21, 22, 23, 24, 25, 26, 27, 28, 29, 30, 31, 32, 33, 34, 35, 36, 37, 38, 39, 40, 41, 42, 55, 56, 57, 58, 59, 43, 44, 45, 46, 60, 61, 62, 63, 64, 65, 66, 67, 68, 69, 70, 71, 72, 73, 74, 75, 76, 77, 78, 79, 80, 81, 82, 83, 84, 85, 86, 87, 88, 89, 90, 91, 92, 93, 94, 95, 96, 97, 98] (by decide +kernel) (by decide +kernel)
set_option maxRecDepth 20000 in
theorem gX7_bestMinute_X7_aMinute : GoodIn wsX7_bestMinute (wsV RX7 148 RX7 yX7_aMinute wsX7_aMinute) := goodIn_app (goodIn_of _ (by decide +kernel)) ggX7_bestMinute_X7_aMinute
theorem dX7_bestMinute_0 : decode cX7_bestMinute 0 = .ok (.iconst 2, 1) := by decide +kernel
theorem dX7_bestMinute_1 : decode cX7_bestMinute 1 = .ok (.istore_n 1, 1) := by decide +kernel
theorem dX7_bestMinute_2 : decode cX7_bestMinute 2 = .ok (.aload_n 0, 1) := by decide +kernel
theorem dX7_bestMinute_3 : decode cX7_bestMinute 3 = .ok (.getfield 9, 3) := by decide +kernel
theorem dX7_bestMinute_6 : decode cX7_bestMinute 6 = .ok (.iconst 2, 1) := by decide +kernel
theorem dX7_bestMinute_7 : decode cX7_bestMinute 7 = .ok (.iaload, 1) := by decide +kernel
theorem dX7_bestMinute_8 : decode cX7_bestMinute 8 = .ok (.ifCond .lt 21, 3) := by decide +kernel
theorem dX7_bestMinute_11 : decode cX7_bestMinute 11 = .ok (.aload_n 0, 1) := by decide +kernel
theorem dX7_bestMinute_12 : decode cX7_bestMinute 12 = .ok (.bipush 20, 2) := by decide +kernel
theorem dX7_bestMinute_14 : decode cX7_bestMinute 14 = .ok (.invokevirtual 151, 3) := by decide +kernel
theorem dX7_bestMinute_17 : decode cX7_bestMinute 17 = .ok (.aload_n 0, 1) := by decide +kernel
theorem dX7_bestMinute_18 : decode cX7_bestMinute 18 = .ok (.getfield 25, 3) := by decide +kernel
theorem dX7_bestMinute_21 : decode cX7_bestMinute 21 = .ok (.aload_n 0, 1) := by decide +kernel
theorem dX7_bestMinute_22 : decode cX7_bestMinute 22 = .ok (.getfield 9, 3) := by decide +kernel
theorem dX7_bestMinute_25 : decode cX7_bestMinute 25 = .ok (.iconst 2, 1) := by decide +kernel
theorem dX7_bestMinute_26 : decode cX7_bestMinute 26 = .ok (.iaload, 1) := by decide +kernel
theorem dX7_bestMinute_27 : decode cX7_bestMinute 27 = .ok (.iaload, 1) := by decide +kernel
theorem dX7_bestMinute_28 : decode cX7_bestMinute 28 = .ok (.istore_n 1, 1) := by decide +kernel
theorem dX7_bestMinute_29 : decode cX7_bestMinute 29 = .ok (.aload_n 0, 1) := by decide +kernel
theorem dX7_bestMinute_30 : decode cX7_bestMinute 30 = .ok (.iload_n 1, 1) := by decide +kernel
theorem dX7_bestMinute_31 : decode cX7_bestMinute 31 = .ok (.invokevirtual 148, 3) := by decide +kernel
theorem dX7_bestMinute_34 : decode cX7_bestMinute 34 = .ok (.istore_n 2, 1) := by decide +kernel
theorem dX7_bestMinute_35 : decode cX7_bestMinute 35 = .ok (.return_, 1) := by decide +kernel
set_option maxRecDepth 20000 in
theorem ggX7_run_X7_in : GoodIn wsX7_run wsX7_in := goodIn_r _ [6] (by decide +kernel) (by decide +kernel)
set_option maxRecDepth 20000 in
theorem gX7_run_X7_in : GoodIn wsX7_run (va_wsS RX7 85 yX7_in wsX7_in) := goodIn_app (goodIn_of _ (by decide +kernel)) ggX7_run_X7_in
set_option maxRecDepth 20000 in
theorem ggX7_run_X7_bestMinute : GoodIn wsX7_run wsX7_bestMinute := goodIn_r _ [10, 2, 11, 12, 13, 14, 5, 15, 16, 17, 18, 19, 20, 21, 22, 23, 24, 25, 26, 27, 28, 29, 30, 31, 32, 33, 34, 35, 36, 37, 38, 39, 40, 41, 42, 43, 44, 45, 46, 47, 48, 49, 50, 51, 52, 53, 54, 55, 56, 57, 58, 59, 60, 61, 62, 63, 64, 65, 66, 67, 68, 69, 70, 71, 72, 73, 74, 75, 76, 77, 78, 79, 80, 81, 82, 83, 84, 85, 86, 87, 88, 89, 90, 91, 92, 93, 94, 95, 96, 97, 98, 99, 100, 101, 102, 103, 104, 105, 106] (by decide +kernel) (by decide +kernel)
set_option maxRecDepth 20000 in
theorem gX7_run_X7_bestMinute : GoodIn wsX7_run (wsV RX7 155 RX7 yX7_bestMinute wsX7_bestMinute) := goodIn_app (goodIn_of _ (by decide +kernel)) ggX7_run_X7_bestMinute
theorem dX7_run_0 : decode cX7_run 0 = .ok (.iload_n 1, 1) := by decide +kernel
theorem dX7_run_1 : decode cX7_run 1 = .ok (.iconst 1, 1) := by decide +kernel
theorem dX7_run_2 : decode cX7_run 2 = .ok (.bipush 60, 2) := by decide +kernel
theorem dX7_run_4 : decode cX7_run 4 = .ok (.invokestatic 85, 3) := by decide +kernel
theorem dX7_run_7 : decode cX7_run 7 = .ok (.ifCond .ne 6, 3) := by decide +kernel
theorem dX7_run_10 : decode cX7_run 10 = .ok (.ldc 89, 2) := by decide +kernel
theorem dX7_run_12 : decode cX7_run 12 = .ok (.ireturn, 1) := by decide +kernel
theorem dX7_run_13 : decode cX7_run 13 = .ok (.iconst 0, 1) := by decide +kernel
theorem dX7_run_14 : decode cX7_run 14 = .ok (.istore_n 2, 1) := by decide +kernel
theorem dX7_run_15 : decode cX7_run 15 = .ok (.iload_n 2, 1) := by decide +kernel
theorem dX7_run_16 : decode cX7_run 16 = .ok (.iload_n 1, 1) := by decide +kernel
theorem dX7_run_17 : decode cX7_run 17 = .ok (.if_icmp .ge 25, 3) := by decide +kernel
theorem dX7_run_20 : decode cX7_run 20 = .ok (.aload_n 0, 1) := by decide +kernel
theorem dX7_run_21 : decode cX7_run 21 = .ok (.getfield 9, 3) := by decide +kernel
theorem dX7_run_24 : decode cX7_run 24 = .ok (.iconst 3, 1) := by decide +kernel
theorem dX7_run_25 : decode cX7_run 25 = .ok (.iaload, 1) := by decide +kernel
theorem dX7_run_26 : decode cX7_run 26 = .ok (.sipush 9999, 3) := by decide +kernel
theorem dX7_run_29 : decode cX7_run 29 = .ok (.if_icmp .ge 13, 3) := by decide +kernel
theorem dX7_run_32 : decode cX7_run 32 = .ok (.aload_n 0, 1) := by decide +kernel
theorem dX7_run_33 : decode cX7_run 33 = .ok (.invokevirtual 155, 3) := by decide +kernel
theorem dX7_run_36 : decode cX7_run 36 = .ok (.iinc 2 1, 3) := by decide +kernel
theorem dX7_run_39 : decode cX7_run 39 = .ok (.goto (-24), 3) := by decide +kernel
theorem dX7_run_42 : decode cX7_run 42 = .ok (.iload_n 2, 1) := by decide +kernel
theorem dX7_run_43 : decode cX7_run 43 = .ok (.ireturn, 1) := by decide +kernel
set_option maxRecDepth 20000 in
theorem ggX7_findTree_X7_riskOf : GoodIn wsX7_findTree wsX7_riskOf := goodIn_r _ [10, 11, 12, 13, 14, 9, 15, 1, 16, 17, 18, 19, 20, 21, 22, 23, 24, 25, 26, 27, 28, 29, 30, 47, 48, 49, 50, 51, 52, 53, 54, 55, 56, 57, 58, 59, 60, 61, 62, 63, 64, 65, 66, 67, 68, 69, 70, 71, 72, 73, 74, 75, 76, 77, 78, 79, 80, 81, 82, 83, 84, 85] (by decide +kernel) (by decide +kernel)
set_option maxRecDepth 20000 in
theorem gX7_findTree_X7_riskOf : GoodIn wsX7_findTree (wsV RX7 113 RX7 yX7_riskOf wsX7_riskOf) := goodIn_app (goodIn_of _ (by decide +kernel)) ggX7_findTree_X7_riskOf
set_option maxRecDepth 20000 in
theorem ggX7_findTree_X7_oddsOn : GoodIn wsX7_findTree wsX7_oddsOn := goodIn_r _ [34, 11, 35, 36, 37, 9, 38, 1, 28, 29, 30, 12, 13, 14, 15, 20, 21, 22, 23, 24, 25, 26, 27, 47, 48, 49, 50, 51, 52, 53, 54, 55, 56, 57, 58, 59, 60, 61, 62, 63, 64, 65, 66, 67, 68, 69, 70, 71, 72, 73, 74, 75, 76, 77, 78, 79, 80, 81, 82, 83, 84, 85] (by decide +kernel) (by decide +kernel)
set_option maxRecDepth 20000 in
theorem gX7_findTree_X7_oddsOn : GoodIn wsX7_findTree (wsV RX7 135 RX7 yX7_oddsOn wsX7_oddsOn) := goodIn_app (goodIn_of _ (by decide +kernel)) ggX7_findTree_X7_oddsOn
set_option maxRecDepth 20000 in
theorem ggX7_findTree_X7_goes : GoodIn wsX7_findTree wsX7_goes := goodIn_r _ [42, 1, 47, 48, 49, 50, 51, 52, 53, 54, 55, 56, 57, 58, 59, 60, 61, 62, 63, 64, 65, 66, 67, 68, 69, 70, 71, 72, 73, 74, 75, 76, 77, 78, 79, 80, 81, 82, 83, 84, 85] (by decide +kernel) (by decide +kernel)
set_option maxRecDepth 20000 in
theorem gX7_findTree_X7_goes : GoodIn wsX7_findTree (wsV RX7 141 RX7 yX7_goes wsX7_goes) := goodIn_app (goodIn_of _ (by decide +kernel)) ggX7_findTree_X7_goes
set_option maxRecDepth 20000 in
theorem ggX7_findTree_X7_may : GoodIn wsX7_findTree wsX7_may := goodIn_r _ [46, 16, 17, 18, 9, 19, 1, 47, 48, 49, 50, 51, 52, 53, 54, 55, 56, 57, 58, 59, 60, 61, 62, 63, 64, 65, 66, 67, 68, 69, 70, 71, 72, 73, 74, 75, 76, 77, 78, 79, 80, 81, 82, 83, 84, 85] (by decide +kernel) (by decide +kernel)
set_option maxRecDepth 20000 in
theorem gX7_findTree_X7_may : GoodIn wsX7_findTree (wsV RX7 144 RX7 yX7_may wsX7_may) := goodIn_app (goodIn_of _ (by decide +kernel)) ggX7_findTree_X7_may
theorem dX7_findTree_0 : decode cX7_findTree 0 = .ok (.iconst 0, 1) := by decide +kernel
theorem dX7_findTree_1 : decode cX7_findTree 1 = .ok (.istore_n 2, 1) := by decide +kernel
theorem dX7_findTree_2 : decode cX7_findTree 2 = .ok (.iload_n 2, 1) := by decide +kernel
theorem dX7_findTree_3 : decode cX7_findTree 3 = .ok (.aload_n 0, 1) := by decide +kernel
theorem dX7_findTree_4 : decode cX7_findTree 4 = .ok (.getfield 9, 3) := by decide +kernel
theorem dX7_findTree_7 : decode cX7_findTree 7 = .ok (.iconst 1, 1) := by decide +kernel
theorem dX7_findTree_8 : decode cX7_findTree 8 = .ok (.iaload, 1) := by decide +kernel
theorem dX7_findTree_9 : decode cX7_findTree 9 = .ok (.if_icmp .ge 27, 3) := by decide +kernel
theorem dX7_findTree_12 : decode cX7_findTree 12 = .ok (.aload_n 0, 1) := by decide +kernel
theorem dX7_findTree_13 : decode cX7_findTree 13 = .ok (.getfield 28, 3) := by decide +kernel
theorem dX7_findTree_16 : decode cX7_findTree 16 = .ok (.iload_n 2, 1) := by decide +kernel
theorem dX7_findTree_17 : decode cX7_findTree 17 = .ok (.aload_n 0, 1) := by decide +kernel
theorem dX7_findTree_18 : decode cX7_findTree 18 = .ok (.iload_n 2, 1) := by decide +kernel
theorem dX7_findTree_19 : decode cX7_findTree 19 = .ok (.invokevirtual 113, 3) := by decide +kernel
theorem dX7_findTree_22 : decode cX7_findTree 22 = .ok (.iastore, 1) := by decide +kernel
theorem dX7_findTree_23 : decode cX7_findTree 23 = .ok (.aload_n 0, 1) := by decide +kernel
theorem dX7_findTree_24 : decode cX7_findTree 24 = .ok (.getfield 19, 3) := by decide +kernel
theorem dX7_findTree_27 : decode cX7_findTree 27 = .ok (.iload_n 2, 1) := by decide +kernel
theorem dX7_findTree_28 : decode cX7_findTree 28 = .ok (.iconst 0, 1) := by decide +kernel
theorem dX7_findTree_29 : decode cX7_findTree 29 = .ok (.iastore, 1) := by decide +kernel
theorem dX7_findTree_30 : decode cX7_findTree 30 = .ok (.iinc 2 1, 3) := by decide +kernel
theorem dX7_findTree_33 : decode cX7_findTree 33 = .ok (.goto (-31), 3) := by decide +kernel
theorem dX7_findTree_36 : decode cX7_findTree 36 = .ok (.iload_n 1, 1) := by decide +kernel
theorem dX7_findTree_37 : decode cX7_findTree 37 = .ok (.iconst 1, 1) := by decide +kernel
theorem dX7_findTree_38 : decode cX7_findTree 38 = .ok (.isub, 1) := by decide +kernel
theorem dX7_findTree_39 : decode cX7_findTree 39 = .ok (.istore_n 2, 1) := by decide +kernel
theorem dX7_findTree_40 : decode cX7_findTree 40 = .ok (.iload_n 2, 1) := by decide +kernel
theorem dX7_findTree_41 : decode cX7_findTree 41 = .ok (.ifCond .lt 169, 3) := by decide +kernel
theorem dX7_findTree_44 : decode cX7_findTree 44 = .ok (.aload_n 0, 1) := by decide +kernel
theorem dX7_findTree_45 : decode cX7_findTree 45 = .ok (.iload_n 2, 1) := by decide +kernel
theorem dX7_findTree_46 : decode cX7_findTree 46 = .ok (.invokevirtual 135, 3) := by decide +kernel
theorem dX7_findTree_49 : decode cX7_findTree 49 = .ok (.istore_n 3, 1) := by decide +kernel
theorem dX7_findTree_50 : decode cX7_findTree 50 = .ok (.iconst 0, 1) := by decide +kernel
theorem dX7_findTree_51 : decode cX7_findTree 51 = .ok (.istore 4, 2) := by decide +kernel
theorem dX7_findTree_53 : decode cX7_findTree 53 = .ok (.iload 4, 2) := by decide +kernel
theorem dX7_findTree_55 : decode cX7_findTree 55 = .ok (.aload_n 0, 1) := by decide +kernel
theorem dX7_findTree_56 : decode cX7_findTree 56 = .ok (.getfield 9, 3) := by decide +kernel
theorem dX7_findTree_59 : decode cX7_findTree 59 = .ok (.iconst 1, 1) := by decide +kernel
theorem dX7_findTree_60 : decode cX7_findTree 60 = .ok (.iaload, 1) := by decide +kernel
theorem dX7_findTree_61 : decode cX7_findTree 61 = .ok (.if_icmp .ge 23, 3) := by decide +kernel
theorem dX7_findTree_64 : decode cX7_findTree 64 = .ok (.aload_n 0, 1) := by decide +kernel
theorem dX7_findTree_65 : decode cX7_findTree 65 = .ok (.getfield 22, 3) := by decide +kernel
theorem dX7_findTree_68 : decode cX7_findTree 68 = .ok (.iload 4, 2) := by decide +kernel
theorem dX7_findTree_70 : decode cX7_findTree 70 = .ok (.aload_n 0, 1) := by decide +kernel
theorem dX7_findTree_71 : decode cX7_findTree 71 = .ok (.getfield 19, 3) := by decide +kernel
theorem dX7_findTree_74 : decode cX7_findTree 74 = .ok (.iload 4, 2) := by decide +kernel
theorem dX7_findTree_76 : decode cX7_findTree 76 = .ok (.iaload, 1) := by decide +kernel
theorem dX7_findTree_77 : decode cX7_findTree 77 = .ok (.iastore, 1) := by decide +kernel
theorem dX7_findTree_78 : decode cX7_findTree 78 = .ok (.iinc 4 1, 3) := by decide +kernel
theorem dX7_findTree_81 : decode cX7_findTree 81 = .ok (.goto (-28), 3) := by decide +kernel
theorem dX7_findTree_84 : decode cX7_findTree 84 = .ok (.iconst 0, 1) := by decide +kernel
theorem dX7_findTree_85 : decode cX7_findTree 85 = .ok (.istore 4, 2) := by decide +kernel
theorem dX7_findTree_87 : decode cX7_findTree 87 = .ok (.iload 4, 2) := by decide +kernel
theorem dX7_findTree_89 : decode cX7_findTree 89 = .ok (.aload_n 0, 1) := by decide +kernel
theorem dX7_findTree_90 : decode cX7_findTree 90 = .ok (.getfield 9, 3) := by decide +kernel
theorem dX7_findTree_93 : decode cX7_findTree 93 = .ok (.iconst 1, 1) := by decide +kernel
theorem dX7_findTree_94 : decode cX7_findTree 94 = .ok (.iaload, 1) := by decide +kernel
theorem dX7_findTree_95 : decode cX7_findTree 95 = .ok (.if_icmp .ge 109, 3) := by decide +kernel
theorem dX7_findTree_98 : decode cX7_findTree 98 = .ok (.iconst (-1), 1) := by decide +kernel
theorem dX7_findTree_99 : decode cX7_findTree 99 = .ok (.istore 5, 2) := by decide +kernel
theorem dX7_findTree_101 : decode cX7_findTree 101 = .ok (.iconst 3, 1) := by decide +kernel
theorem dX7_findTree_102 : decode cX7_findTree 102 = .ok (.istore 6, 2) := by decide +kernel
theorem dX7_findTree_104 : decode cX7_findTree 104 = .ok (.iload 6, 2) := by decide +kernel
theorem dX7_findTree_106 : decode cX7_findTree 106 = .ok (.ifCond .lt 73, 3) := by decide +kernel
theorem dX7_findTree_109 : decode cX7_findTree 109 = .ok (.aload_n 0, 1) := by decide +kernel
theorem dX7_findTree_110 : decode cX7_findTree 110 = .ok (.iload 4, 2) := by decide +kernel
theorem dX7_findTree_112 : decode cX7_findTree 112 = .ok (.iload 6, 2) := by decide +kernel
theorem dX7_findTree_114 : decode cX7_findTree 114 = .ok (.invokevirtual 141, 3) := by decide +kernel
theorem dX7_findTree_117 : decode cX7_findTree 117 = .ok (.istore 7, 2) := by decide +kernel
theorem dX7_findTree_119 : decode cX7_findTree 119 = .ok (.iload 7, 2) := by decide +kernel
theorem dX7_findTree_121 : decode cX7_findTree 121 = .ok (.ifCond .ge 7, 3) := by decide +kernel
theorem dX7_findTree_124 : decode cX7_findTree 124 = .ok (.iconst 0, 1) := by decide +kernel
theorem dX7_findTree_125 : decode cX7_findTree 125 = .ok (.goto 10, 3) := by decide +kernel
theorem dX7_findTree_128 : decode cX7_findTree 128 = .ok (.aload_n 0, 1) := by decide +kernel
theorem dX7_findTree_129 : decode cX7_findTree 129 = .ok (.getfield 22, 3) := by decide +kernel
theorem dX7_findTree_132 : decode cX7_findTree 132 = .ok (.iload 7, 2) := by decide +kernel
theorem dX7_findTree_134 : decode cX7_findTree 134 = .ok (.iaload, 1) := by decide +kernel
theorem dX7_findTree_135 : decode cX7_findTree 135 = .ok (.istore 8, 2) := by decide +kernel
theorem dX7_findTree_137 : decode cX7_findTree 137 = .ok (.aload_n 0, 1) := by decide +kernel
theorem dX7_findTree_138 : decode cX7_findTree 138 = .ok (.iload 4, 2) := by decide +kernel
theorem dX7_findTree_140 : decode cX7_findTree 140 = .ok (.iload 6, 2) := by decide +kernel
theorem dX7_findTree_142 : decode cX7_findTree 142 = .ok (.invokevirtual 144, 3) := by decide +kernel
theorem dX7_findTree_145 : decode cX7_findTree 145 = .ok (.ifCond .eq 28, 3) := by decide +kernel
theorem dX7_findTree_148 : decode cX7_findTree 148 = .ok (.iload 5, 2) := by decide +kernel
theorem dX7_findTree_150 : decode cX7_findTree 150 = .ok (.ifCond .lt 10, 3) := by decide +kernel
theorem dX7_findTree_153 : decode cX7_findTree 153 = .ok (.iload 8, 2) := by decide +kernel
theorem dX7_findTree_155 : decode cX7_findTree 155 = .ok (.iload 5, 2) := by decide +kernel
theorem dX7_findTree_157 : decode cX7_findTree 157 = .ok (.if_icmp .gt 16, 3) := by decide +kernel
theorem dX7_findTree_160 : decode cX7_findTree 160 = .ok (.iload 8, 2) := by decide +kernel
theorem dX7_findTree_162 : decode cX7_findTree 162 = .ok (.istore 5, 2) := by decide +kernel
theorem dX7_findTree_164 : decode cX7_findTree 164 = .ok (.aload_n 0, 1) := by decide +kernel
theorem dX7_findTree_165 : decode cX7_findTree 165 = .ok (.getfield 25, 3) := by decide +kernel
theorem dX7_findTree_168 : decode cX7_findTree 168 = .ok (.iload 4, 2) := by decide +kernel
theorem dX7_findTree_170 : decode cX7_findTree 170 = .ok (.iload 6, 2) := by decide +kernel
theorem dX7_findTree_172 : decode cX7_findTree 172 = .ok (.iastore, 1) := by decide +kernel
theorem dX7_findTree_173 : decode cX7_findTree 173 = .ok (.iinc 6 (-1), 3) := by decide +kernel
theorem dX7_findTree_176 : decode cX7_findTree 176 = .ok (.goto (-72), 3) := by decide +kernel
theorem dX7_findTree_179 : decode cX7_findTree 179 = .ok (.aload_n 0, 1) := by decide +kernel
theorem dX7_findTree_180 : decode cX7_findTree 180 = .ok (.getfield 19, 3) := by decide +kernel
theorem dX7_findTree_183 : decode cX7_findTree 183 = .ok (.iload 4, 2) := by decide +kernel
theorem dX7_findTree_185 : decode cX7_findTree 185 = .ok (.aload_n 0, 1) := by decide +kernel
theorem dX7_findTree_186 : decode cX7_findTree 186 = .ok (.getfield 28, 3) := by decide +kernel
theorem dX7_findTree_189 : decode cX7_findTree 189 = .ok (.iload 4, 2) := by decide +kernel
theorem dX7_findTree_191 : decode cX7_findTree 191 = .ok (.iaload, 1) := by decide +kernel
theorem dX7_findTree_192 : decode cX7_findTree 192 = .ok (.iload_n 3, 1) := by decide +kernel
theorem dX7_findTree_193 : decode cX7_findTree 193 = .ok (.imul, 1) := by decide +kernel
theorem dX7_findTree_194 : decode cX7_findTree 194 = .ok (.iload 5, 2) := by decide +kernel
theorem dX7_findTree_196 : decode cX7_findTree 196 = .ok (.iadd, 1) := by decide +kernel
theorem dX7_findTree_197 : decode cX7_findTree 197 = .ok (.iastore, 1) := by decide +kernel
theorem dX7_findTree_198 : decode cX7_findTree 198 = .ok (.iinc 4 1, 3) := by decide +kernel
theorem dX7_findTree_201 : decode cX7_findTree 201 = .ok (.goto (-114), 3) := by decide +kernel
theorem dX7_findTree_204 : decode cX7_findTree 204 = .ok (.iinc 2 (-1), 3) := by decide +kernel
theorem dX7_findTree_207 : decode cX7_findTree 207 = .ok (.goto (-167), 3) := by decide +kernel
theorem dX7_findTree_210 : decode cX7_findTree 210 = .ok (.return_, 1) := by decide +kernel
set_option maxRecDepth 20000 in
theorem ggX7_tree_X7_isPlace : GoodIn wsX7_tree wsX7_isPlace := goodIn_r _ [8, 9, 10, 11, 7, 12, 59, 60, 61, 62, 63, 64, 65, 66, 67, 68, 69, 70, 71, 72, 73, 74, 75, 76, 77, 78, 79, 80, 81, 82, 83, 84, 85, 86, 87, 88, 89, 90, 91, 92, 93, 94, 95, 96, 97] (by decide +kernel) (by decide +kernel)
set_option maxRecDepth 20000 in
theorem gX7_tree_X7_isPlace : GoodIn wsX7_tree (wsV RX7 109 RX7 yX7_isPlace wsX7_isPlace) := goodIn_app (goodIn_of _ (by decide +kernel)) ggX7_tree_X7_isPlace
set_option maxRecDepth 20000 in
theorem ggX7_tree_X7_in : GoodIn wsX7_tree wsX7_in := goodIn_r _ [12] (by decide +kernel) (by decide +kernel)
set_option maxRecDepth 20000 in
theorem gX7_tree_X7_in : GoodIn wsX7_tree (va_wsS RX7 85 yX7_in wsX7_in) := goodIn_app (goodIn_of _ (by decide +kernel)) ggX7_tree_X7_in
set_option maxRecDepth 20000 in
theorem ggX7_tree_X7_findTree : GoodIn wsX7_tree wsX7_findTree := goodIn_r _ [16, 9, 17, 2, 18, 3, 19, 20, 21, 7, 22, 23, 24, 25, 26, 27, 28, 29, 30, 31, 32, 33, 34, 35, 36, 37, 38, 39, 40, 41, 42, 43, 44, 45, 46, 47, 48, 49, 50, 51, 52, 53, 54, 55, 56, 57, 58, 59, 60, 61, 62, 63, 64, 65, 66, 67, 68, 69, 70, 71, 72, 73, 74, 75, 76, 77, 78, 79, 80, 81, 82, 83, 84, 85, 86, 87, 88, 89, 90, 91, 92, 93, 94, 95, 96, 97] (by decide +kernel) (by decide +kernel)
set_option maxRecDepth 20000 in
theorem gX7_tree_X7_findTree : GoodIn wsX7_tree (wsV RX7 151 RX7 yX7_findTree wsX7_findTree) := goodIn_app (goodIn_of _ (by decide +kernel)) ggX7_tree_X7_findTree
theorem dX7_tree_0 : decode cX7_tree 0 = .ok (.aload_n 0, 1) := by decide +kernel
theorem dX7_tree_1 : decode cX7_tree 1 = .ok (.iload_n 1, 1) := by decide +kernel
theorem dX7_tree_2 : decode cX7_tree 2 = .ok (.invokevirtual 109, 3) := by decide +kernel
theorem dX7_tree_5 : decode cX7_tree 5 = .ok (.ifCond .eq 22, 3) := by decide +kernel
theorem dX7_tree_8 : decode cX7_tree 8 = .ok (.iload_n 2, 1) := by decide +kernel
theorem dX7_tree_9 : decode cX7_tree 9 = .ok (.iconst 1, 1) := by decide +kernel
theorem dX7_tree_10 : decode cX7_tree 10 = .ok (.bipush 60, 2) := by decide +kernel
theorem dX7_tree_12 : decode cX7_tree 12 = .ok (.invokestatic 85, 3) := by decide +kernel
theorem dX7_tree_15 : decode cX7_tree 15 = .ok (.ifCond .eq 12, 3) := by decide +kernel
theorem dX7_tree_18 : decode cX7_tree 18 = .ok (.iload_n 3, 1) := by decide +kernel
theorem dX7_tree_19 : decode cX7_tree 19 = .ok (.iconst 0, 1) := by decide +kernel
theorem dX7_tree_20 : decode cX7_tree 20 = .ok (.iconst 1, 1) := by decide +kernel
theorem dX7_tree_21 : decode cX7_tree 21 = .ok (.invokestatic 85, 3) := by decide +kernel
theorem dX7_tree_24 : decode cX7_tree 24 = .ok (.ifCond .ne 6, 3) := by decide +kernel
theorem dX7_tree_27 : decode cX7_tree 27 = .ok (.ldc 89, 2) := by decide +kernel
theorem dX7_tree_29 : decode cX7_tree 29 = .ok (.ireturn, 1) := by decide +kernel
theorem dX7_tree_30 : decode cX7_tree 30 = .ok (.aload_n 0, 1) := by decide +kernel
theorem dX7_tree_31 : decode cX7_tree 31 = .ok (.iload_n 2, 1) := by decide +kernel
theorem dX7_tree_32 : decode cX7_tree 32 = .ok (.invokevirtual 151, 3) := by decide +kernel
theorem dX7_tree_35 : decode cX7_tree 35 = .ok (.iload_n 3, 1) := by decide +kernel
theorem dX7_tree_36 : decode cX7_tree 36 = .ok (.ifCond .ne 12, 3) := by decide +kernel
theorem dX7_tree_39 : decode cX7_tree 39 = .ok (.aload_n 0, 1) := by decide +kernel
theorem dX7_tree_40 : decode cX7_tree 40 = .ok (.getfield 19, 3) := by decide +kernel
theorem dX7_tree_43 : decode cX7_tree 43 = .ok (.iload_n 1, 1) := by decide +kernel
theorem dX7_tree_44 : decode cX7_tree 44 = .ok (.iaload, 1) := by decide +kernel
theorem dX7_tree_45 : decode cX7_tree 45 = .ok (.goto 9, 3) := by decide +kernel
theorem dX7_tree_48 : decode cX7_tree 48 = .ok (.aload_n 0, 1) := by decide +kernel
theorem dX7_tree_49 : decode cX7_tree 49 = .ok (.getfield 25, 3) := by decide +kernel
theorem dX7_tree_52 : decode cX7_tree 52 = .ok (.iload_n 1, 1) := by decide +kernel
theorem dX7_tree_53 : decode cX7_tree 53 = .ok (.iaload, 1) := by decide +kernel
theorem dX7_tree_54 : decode cX7_tree 54 = .ok (.ireturn, 1) := by decide +kernel
set_option maxRecDepth 20000 in
theorem ggX7_doesTurn_X7_counts : GoodIn wsX7_doesTurn wsX7_counts := goodIn_r _ [6, 7, 23, 24, 25, 26, 27, 28, 29, 30, 31, 32, 33, 34, 35, 36, 37, 38, 39, 40, 41, 42, 43, 44, 45, 46, 47, 48, 49, 50, 51, 52, 53, 54, 55, 56, 57, 58, 59, 60, 61] (by decide +kernel) (by decide +kernel)
set_option maxRecDepth 20000 in
theorem gX7_doesTurn_X7_counts : GoodIn wsX7_doesTurn (wsV RX7 95 RX7 yX7_counts wsX7_counts) := goodIn_app (goodIn_of _ (by decide +kernel)) ggX7_doesTurn_X7_counts
set_option maxRecDepth 20000 in
theorem ggX7_doesTurn_X7_farOn : GoodIn wsX7_doesTurn wsX7_farOn := goodIn_r _ [11, 7, 12, 13, 5, 14, 23, 24, 25, 26, 27, 28, 29, 30, 31, 32, 33, 34, 35, 36, 37, 38, 39, 40, 41, 42, 43, 44, 45, 46, 47, 48, 49, 50, 51, 52, 53, 54, 55, 56, 57, 58, 59, 60, 61] (by decide +kernel) (by decide +kernel)
set_option maxRecDepth 20000 in
theorem gX7_doesTurn_X7_farOn : GoodIn wsX7_doesTurn (wsV RX7 132 RX7 yX7_farOn wsX7_farOn) := goodIn_app (goodIn_of _ (by decide +kernel)) ggX7_doesTurn_X7_farOn
set_option maxRecDepth 20000 in
theorem ggX7_doesTurn_X7_worksOut : GoodIn wsX7_doesTurn wsX7_worksOut := goodIn_r _ [18, 7, 19, 1, 20, 21, 5, 22, 23, 24, 25, 26, 27, 28, 29, 30, 31, 32, 33, 34, 35, 36, 37, 38, 39, 40, 41, 42, 43, 44, 45, 46, 47, 48, 49, 50, 51, 52, 53, 54, 55, 56, 57, 58, 59, 60, 61] (by decide +kernel) (by decide +kernel)
set_option maxRecDepth 20000 in
theorem gX7_doesTurn_X7_worksOut : GoodIn wsX7_doesTurn (wsV RX7 103 RX7 yX7_worksOut wsX7_worksOut) := goodIn_app (goodIn_of _ (by decide +kernel)) ggX7_doesTurn_X7_worksOut
theorem dX7_doesTurn_0 : decode cX7_doesTurn 0 = .ok (.aload_n 0, 1) := by decide +kernel
theorem dX7_doesTurn_1 : decode cX7_doesTurn 1 = .ok (.iconst 2, 1) := by decide +kernel
theorem dX7_doesTurn_2 : decode cX7_doesTurn 2 = .ok (.invokevirtual 95, 3) := by decide +kernel
theorem dX7_doesTurn_5 : decode cX7_doesTurn 5 = .ok (.istore_n 3, 1) := by decide +kernel
theorem dX7_doesTurn_6 : decode cX7_doesTurn 6 = .ok (.aload_n 0, 1) := by decide +kernel
theorem dX7_doesTurn_7 : decode cX7_doesTurn 7 = .ok (.getfield 54, 3) := by decide +kernel
theorem dX7_doesTurn_10 : decode cX7_doesTurn 10 = .ok (.iconst 0, 1) := by decide +kernel
theorem dX7_doesTurn_11 : decode cX7_doesTurn 11 = .ok (.aload_n 0, 1) := by decide +kernel
theorem dX7_doesTurn_12 : decode cX7_doesTurn 12 = .ok (.iload_n 2, 1) := by decide +kernel
theorem dX7_doesTurn_13 : decode cX7_doesTurn 13 = .ok (.invokevirtual 132, 3) := by decide +kernel
theorem dX7_doesTurn_16 : decode cX7_doesTurn 16 = .ok (.iastore, 1) := by decide +kernel
theorem dX7_doesTurn_17 : decode cX7_doesTurn 17 = .ok (.aload_n 0, 1) := by decide +kernel
theorem dX7_doesTurn_18 : decode cX7_doesTurn 18 = .ok (.getfield 54, 3) := by decide +kernel
theorem dX7_doesTurn_21 : decode cX7_doesTurn 21 = .ok (.iconst 1, 1) := by decide +kernel
theorem dX7_doesTurn_22 : decode cX7_doesTurn 22 = .ok (.iload_n 1, 1) := by decide +kernel
theorem dX7_doesTurn_23 : decode cX7_doesTurn 23 = .ok (.iastore, 1) := by decide +kernel
theorem dX7_doesTurn_24 : decode cX7_doesTurn 24 = .ok (.aload_n 0, 1) := by decide +kernel
theorem dX7_doesTurn_25 : decode cX7_doesTurn 25 = .ok (.getfield 54, 3) := by decide +kernel
theorem dX7_doesTurn_28 : decode cX7_doesTurn 28 = .ok (.iconst 2, 1) := by decide +kernel
theorem dX7_doesTurn_29 : decode cX7_doesTurn 29 = .ok (.iload_n 2, 1) := by decide +kernel
theorem dX7_doesTurn_30 : decode cX7_doesTurn 30 = .ok (.iastore, 1) := by decide +kernel
theorem dX7_doesTurn_31 : decode cX7_doesTurn 31 = .ok (.iload_n 3, 1) := by decide +kernel
theorem dX7_doesTurn_32 : decode cX7_doesTurn 32 = .ok (.ifCond .ge 21, 3) := by decide +kernel
theorem dX7_doesTurn_35 : decode cX7_doesTurn 35 = .ok (.aload_n 0, 1) := by decide +kernel
theorem dX7_doesTurn_36 : decode cX7_doesTurn 36 = .ok (.iload_n 2, 1) := by decide +kernel
theorem dX7_doesTurn_37 : decode cX7_doesTurn 37 = .ok (.invokevirtual 132, 3) := by decide +kernel
theorem dX7_doesTurn_40 : decode cX7_doesTurn 40 = .ok (.bipush 20, 2) := by decide +kernel
theorem dX7_doesTurn_42 : decode cX7_doesTurn 42 = .ok (.if_icmp .ge 7, 3) := by decide +kernel
theorem dX7_doesTurn_45 : decode cX7_doesTurn 45 = .ok (.iconst 1, 1) := by decide +kernel
theorem dX7_doesTurn_46 : decode cX7_doesTurn 46 = .ok (.goto 20, 3) := by decide +kernel
theorem dX7_doesTurn_49 : decode cX7_doesTurn 49 = .ok (.iconst 0, 1) := by decide +kernel
theorem dX7_doesTurn_50 : decode cX7_doesTurn 50 = .ok (.goto 16, 3) := by decide +kernel
theorem dX7_doesTurn_53 : decode cX7_doesTurn 53 = .ok (.aload_n 0, 1) := by decide +kernel
theorem dX7_doesTurn_54 : decode cX7_doesTurn 54 = .ok (.iload_n 3, 1) := by decide +kernel
theorem dX7_doesTurn_55 : decode cX7_doesTurn 55 = .ok (.invokevirtual 103, 3) := by decide +kernel
theorem dX7_doesTurn_58 : decode cX7_doesTurn 58 = .ok (.ifCond .eq 7, 3) := by decide +kernel
theorem dX7_doesTurn_61 : decode cX7_doesTurn 61 = .ok (.iconst 1, 1) := by decide +kernel
theorem dX7_doesTurn_62 : decode cX7_doesTurn 62 = .ok (.goto 4, 3) := by decide +kernel
theorem dX7_doesTurn_65 : decode cX7_doesTurn 65 = .ok (.iconst 0, 1) := by decide +kernel
theorem dX7_doesTurn_66 : decode cX7_doesTurn 66 = .ok (.ireturn, 1) := by decide +kernel
set_option maxRecDepth 20000 in
theorem ggX7_rule_X7_isPlace : GoodIn wsX7_rule wsX7_isPlace := goodIn_r _ [7, 8, 9, 10, 6, 11, 63, 64, 65, 66, 67, 68, 69, 70, 71, 72, 73, 74, 75, 76, 77, 78, 79, 80, 81, 82, 83, 84, 85, 86, 87, 88, 89, 90, 91, 92, 93, 94, 95, 96, 97, 98, 99, 100, 101] (by decide +kernel) (by decide +kernel)
set_option maxRecDepth 20000 in
theorem gX7_rule_X7_isPlace : GoodIn wsX7_rule (wsV RX7 109 RX7 yX7_isPlace wsX7_isPlace) := goodIn_app (goodIn_of _ (by decide +kernel)) ggX7_rule_X7_isPlace
set_option maxRecDepth 20000 in
theorem ggX7_rule_X7_in : GoodIn wsX7_rule wsX7_in := goodIn_r _ [11] (by decide +kernel) (by decide +kernel)
set_option maxRecDepth 20000 in
theorem gX7_rule_X7_in : GoodIn wsX7_rule (va_wsS RX7 85 yX7_in wsX7_in) := goodIn_app (goodIn_of _ (by decide +kernel)) ggX7_rule_X7_in
set_option maxRecDepth 20000 in
theorem ggX7_rule_X7_riskOf : GoodIn wsX7_rule wsX7_riskOf := goodIn_r _ [15, 16, 17, 18, 19, 6, 20, 8, 21, 22, 23, 24, 25, 26, 27, 28, 29, 30, 31, 32, 33, 34, 35, 63, 64, 65, 66, 67, 68, 69, 70, 71, 72, 73, 74, 75, 76, 77, 78, 79, 80, 81, 82, 83, 84, 85, 86, 87, 88, 89, 90, 91, 92, 93, 94, 95, 96, 97, 98, 99, 100, 101] (by decide +kernel) (by decide +kernel)
set_option maxRecDepth 20000 in
theorem gX7_rule_X7_riskOf : GoodIn wsX7_rule (wsV RX7 113 RX7 yX7_riskOf wsX7_riskOf) := goodIn_app (goodIn_of _ (by decide +kernel)) ggX7_rule_X7_riskOf
set_option maxRecDepth 20000 in
theorem ggX7_rule_X7_oddsOn : GoodIn wsX7_rule wsX7_oddsOn := goodIn_r _ [39, 16, 40, 41, 42, 6, 43, 8, 33, 34, 35, 17, 18, 19, 20, 25, 26, 27, 28, 29, 30, 31, 32, 63, 64, 65, 66, 67, 68, 69, 70, 71, 72, 73, 74, 75, 76, 77, 78, 79, 80, 81, 82, 83, 84, 85, 86, 87, 88, 89, 90, 91, 92, 93, 94, 95, 96, 97, 98, 99, 100, 101] (by decide +kernel) (by decide +kernel)
set_option maxRecDepth 20000 in
theorem gX7_rule_X7_oddsOn : GoodIn wsX7_rule (wsV RX7 135 RX7 yX7_oddsOn wsX7_oddsOn) := goodIn_app (goodIn_of _ (by decide +kernel)) ggX7_rule_X7_oddsOn
set_option maxRecDepth 20000 in
theorem ggX7_rule_X7_doesTurn : GoodIn wsX7_rule wsX7_doesTurn := goodIn_r _ [47, 16, 17, 18, 19, 6, 20, 8, 40, 41, 42, 43, 33, 34, 35, 25, 26, 27, 28, 29, 30, 31, 32, 63, 64, 65, 66, 67, 68, 69, 70, 71, 72, 73, 74, 75, 76, 77, 78, 79, 80, 81, 82, 83, 84, 85, 86, 87, 88, 89, 90, 91, 92, 93, 94, 95, 96, 97, 98, 99, 100, 101] (by decide +kernel) (by decide +kernel)
set_option maxRecDepth 20000 in
theorem gX7_rule_X7_doesTurn : GoodIn wsX7_rule (wsV RX7 158 RX7 yX7_doesTurn wsX7_doesTurn) := goodIn_app (goodIn_of _ (by decide +kernel)) ggX7_rule_X7_doesTurn
set_option maxRecDepth 20000 in
theorem ggX7_rule_X7_goes : GoodIn wsX7_rule wsX7_goes := goodIn_r _ [51, 8, 63, 64, 65, 66, 67, 68, 69, 70, 71, 72, 73, 74, 75, 76, 77, 78, 79, 80, 81, 82, 83, 84, 85, 86, 87, 88, 89, 90, 91, 92, 93, 94, 95, 96, 97, 98, 99, 100, 101] (by decide +kernel) (by decide +kernel)
set_option maxRecDepth 20000 in
theorem gX7_rule_X7_goes : GoodIn wsX7_rule (wsV RX7 141 RX7 yX7_goes wsX7_goes) := goodIn_app (goodIn_of _ (by decide +kernel)) ggX7_rule_X7_goes
set_option maxRecDepth 20000 in
theorem ggX7_rule_X7_findTree : GoodIn wsX7_rule wsX7_findTree := goodIn_r _ [55, 8, 56, 2, 57, 58, 12, 13, 14, 6, 15, 16, 17, 18, 19, 20, 21, 22, 23, 24, 25, 26, 27, 28, 29, 30, 31, 32, 33, 34, 35, 36, 37, 38, 39, 40, 41, 42, 43, 48, 49, 50, 51, 59, 60, 61, 62, 63, 64, 65, 66, 67, 68, 69, 70, 71, 72, 73, 74, 75, 76, 77, 78, 79, 80, 81, 82, 83, 84, 85, 86, 87, 88, 89, 90, 91, 92, 93, 94, 95, 96, 97, 98, 99, 100, 101] (by decide +kernel) (by decide +kernel)
set_option maxRecDepth 20000 in
theorem gX7_rule_X7_findTree : GoodIn wsX7_rule (wsV RX7 151 RX7 yX7_findTree wsX7_findTree) := goodIn_app (goodIn_of _ (by decide +kernel)) ggX7_rule_X7_findTree
theorem dX7_rule_0 : decode cX7_rule 0 = .ok (.aload_n 0, 1) := by decide +kernel
theorem dX7_rule_1 : decode cX7_rule 1 = .ok (.iload_n 1, 1) := by decide +kernel
theorem dX7_rule_2 : decode cX7_rule 2 = .ok (.invokevirtual 109, 3) := by decide +kernel
theorem dX7_rule_5 : decode cX7_rule 5 = .ok (.ifCond .eq 22, 3) := by decide +kernel
theorem dX7_rule_8 : decode cX7_rule 8 = .ok (.iload_n 2, 1) := by decide +kernel
theorem dX7_rule_9 : decode cX7_rule 9 = .ok (.iconst 1, 1) := by decide +kernel
theorem dX7_rule_10 : decode cX7_rule 10 = .ok (.bipush 60, 2) := by decide +kernel
theorem dX7_rule_12 : decode cX7_rule 12 = .ok (.invokestatic 85, 3) := by decide +kernel
theorem dX7_rule_15 : decode cX7_rule 15 = .ok (.ifCond .eq 12, 3) := by decide +kernel
theorem dX7_rule_18 : decode cX7_rule 18 = .ok (.iload_n 3, 1) := by decide +kernel
theorem dX7_rule_19 : decode cX7_rule 19 = .ok (.iconst 0, 1) := by decide +kernel
theorem dX7_rule_20 : decode cX7_rule 20 = .ok (.iconst 1, 1) := by decide +kernel
theorem dX7_rule_21 : decode cX7_rule 21 = .ok (.invokestatic 85, 3) := by decide +kernel
theorem dX7_rule_24 : decode cX7_rule 24 = .ok (.ifCond .ne 6, 3) := by decide +kernel
theorem dX7_rule_27 : decode cX7_rule 27 = .ok (.ldc 89, 2) := by decide +kernel
theorem dX7_rule_29 : decode cX7_rule 29 = .ok (.ireturn, 1) := by decide +kernel
theorem dX7_rule_30 : decode cX7_rule 30 = .ok (.iconst 0, 1) := by decide +kernel
theorem dX7_rule_31 : decode cX7_rule 31 = .ok (.istore 4, 2) := by decide +kernel
theorem dX7_rule_33 : decode cX7_rule 33 = .ok (.iload_n 1, 1) := by decide +kernel
theorem dX7_rule_34 : decode cX7_rule 34 = .ok (.istore 5, 2) := by decide +kernel
theorem dX7_rule_36 : decode cX7_rule 36 = .ok (.iconst 0, 1) := by decide +kernel
theorem dX7_rule_37 : decode cX7_rule 37 = .ok (.istore 6, 2) := by decide +kernel
theorem dX7_rule_39 : decode cX7_rule 39 = .ok (.iload 6, 2) := by decide +kernel
theorem dX7_rule_41 : decode cX7_rule 41 = .ok (.iload_n 2, 1) := by decide +kernel
theorem dX7_rule_42 : decode cX7_rule 42 = .ok (.if_icmp .ge 56, 3) := by decide +kernel
theorem dX7_rule_45 : decode cX7_rule 45 = .ok (.iload 5, 2) := by decide +kernel
theorem dX7_rule_47 : decode cX7_rule 47 = .ok (.ifCond .lt 51, 3) := by decide +kernel
theorem dX7_rule_50 : decode cX7_rule 50 = .ok (.iload 4, 2) := by decide +kernel
theorem dX7_rule_52 : decode cX7_rule 52 = .ok (.aload_n 0, 1) := by decide +kernel
theorem dX7_rule_53 : decode cX7_rule 53 = .ok (.iload 5, 2) := by decide +kernel
theorem dX7_rule_55 : decode cX7_rule 55 = .ok (.invokevirtual 113, 3) := by decide +kernel
theorem dX7_rule_58 : decode cX7_rule 58 = .ok (.aload_n 0, 1) := by decide +kernel
theorem dX7_rule_59 : decode cX7_rule 59 = .ok (.iload 6, 2) := by decide +kernel
theorem dX7_rule_61 : decode cX7_rule 61 = .ok (.invokevirtual 135, 3) := by decide +kernel
theorem dX7_rule_64 : decode cX7_rule 64 = .ok (.imul, 1) := by decide +kernel
theorem dX7_rule_65 : decode cX7_rule 65 = .ok (.iadd, 1) := by decide +kernel
theorem dX7_rule_66 : decode cX7_rule 66 = .ok (.istore 4, 2) := by decide +kernel
theorem dX7_rule_68 : decode cX7_rule 68 = .ok (.aload_n 0, 1) := by decide +kernel
theorem dX7_rule_69 : decode cX7_rule 69 = .ok (.iload 5, 2) := by decide +kernel
theorem dX7_rule_71 : decode cX7_rule 71 = .ok (.aload_n 0, 1) := by decide +kernel
theorem dX7_rule_72 : decode cX7_rule 72 = .ok (.iload 5, 2) := by decide +kernel
theorem dX7_rule_74 : decode cX7_rule 74 = .ok (.iload 6, 2) := by decide +kernel
theorem dX7_rule_76 : decode cX7_rule 76 = .ok (.invokevirtual 158, 3) := by decide +kernel
theorem dX7_rule_79 : decode cX7_rule 79 = .ok (.ifCond .eq 7, 3) := by decide +kernel
theorem dX7_rule_82 : decode cX7_rule 82 = .ok (.iconst 1, 1) := by decide +kernel
theorem dX7_rule_83 : decode cX7_rule 83 = .ok (.goto 4, 3) := by decide +kernel
theorem dX7_rule_86 : decode cX7_rule 86 = .ok (.iconst 0, 1) := by decide +kernel
theorem dX7_rule_87 : decode cX7_rule 87 = .ok (.invokevirtual 141, 3) := by decide +kernel
theorem dX7_rule_90 : decode cX7_rule 90 = .ok (.istore 5, 2) := by decide +kernel
theorem dX7_rule_92 : decode cX7_rule 92 = .ok (.iinc 6 1, 3) := by decide +kernel
theorem dX7_rule_95 : decode cX7_rule 95 = .ok (.goto (-56), 3) := by decide +kernel
theorem dX7_rule_98 : decode cX7_rule 98 = .ok (.aload_n 0, 1) := by decide +kernel
theorem dX7_rule_99 : decode cX7_rule 99 = .ok (.iload_n 2, 1) := by decide +kernel
theorem dX7_rule_100 : decode cX7_rule 100 = .ok (.invokevirtual 151, 3) := by decide +kernel
theorem dX7_rule_103 : decode cX7_rule 103 = .ok (.iload_n 3, 1) := by decide +kernel
theorem dX7_rule_104 : decode cX7_rule 104 = .ok (.ifCond .ne 8, 3) := by decide +kernel
theorem dX7_rule_107 : decode cX7_rule 107 = .ok (.iload 4, 2) := by decide +kernel
theorem dX7_rule_109 : decode cX7_rule 109 = .ok (.goto 12, 3) := by decide +kernel
theorem dX7_rule_112 : decode cX7_rule 112 = .ok (.iload 4, 2) := by decide +kernel
theorem dX7_rule_114 : decode cX7_rule 114 = .ok (.aload_n 0, 1) := by decide +kernel
theorem dX7_rule_115 : decode cX7_rule 115 = .ok (.getfield 19, 3) := by decide +kernel
theorem dX7_rule_118 : decode cX7_rule 118 = .ok (.iload_n 1, 1) := by decide +kernel
theorem dX7_rule_119 : decode cX7_rule 119 = .ok (.iaload, 1) := by decide +kernel
theorem dX7_rule_120 : decode cX7_rule 120 = .ok (.isub, 1) := by decide +kernel
theorem dX7_rule_121 : decode cX7_rule 121 = .ok (.ireturn, 1) := by decide +kernel
set_option maxRecDepth 20000 in
theorem ggX7_hide_X7_isPlace : GoodIn wsX7_hide wsX7_isPlace := goodIn_r _ [7, 2, 8, 9, 6, 10, 35, 36, 37, 38, 39, 40, 41, 42, 43, 44, 45, 46, 47, 48, 49, 50, 51, 52, 53, 54, 55, 56, 57, 58, 59, 60, 61, 62, 63, 64, 65, 66, 67, 68, 69, 70, 71, 72, 73] (by decide +kernel) (by decide +kernel)
set_option maxRecDepth 20000 in
theorem gX7_hide_X7_isPlace : GoodIn wsX7_hide (wsV RX7 109 RX7 yX7_isPlace wsX7_isPlace) := goodIn_app (goodIn_of _ (by decide +kernel)) ggX7_hide_X7_isPlace
set_option maxRecDepth 20000 in
theorem ggX7_hide_X7_in : GoodIn wsX7_hide wsX7_in := goodIn_r _ [10] (by decide +kernel) (by decide +kernel)
set_option maxRecDepth 20000 in
theorem gX7_hide_X7_in : GoodIn wsX7_hide (va_wsS RX7 85 yX7_in wsX7_in) := goodIn_app (goodIn_of _ (by decide +kernel)) ggX7_hide_X7_in
set_option maxRecDepth 20000 in
theorem ggX7_hide_X7_riskOf : GoodIn wsX7_hide wsX7_riskOf := goodIn_r _ [14, 15, 16, 17, 18, 6, 19, 2, 20, 21, 22, 23, 24, 25, 26, 27, 28, 29, 30, 31, 32, 33, 34, 35, 36, 37, 38, 39, 40, 41, 42, 43, 44, 45, 46, 47, 48, 49, 50, 51, 52, 53, 54, 55, 56, 57, 58, 59, 60, 61, 62, 63, 64, 65, 66, 67, 68, 69, 70, 71, 72, 73] (by decide +kernel) (by decide +kernel)
set_option maxRecDepth 20000 in
theorem gX7_hide_X7_riskOf : GoodIn wsX7_hide (wsV RX7 113 RX7 yX7_riskOf wsX7_riskOf) := goodIn_app (goodIn_of _ (by decide +kernel)) ggX7_hide_X7_riskOf
theorem dX7_hide_0 : decode cX7_hide 0 = .ok (.aload_n 0, 1) := by decide +kernel
theorem dX7_hide_1 : decode cX7_hide 1 = .ok (.iload_n 1, 1) := by decide +kernel
theorem dX7_hide_2 : decode cX7_hide 2 = .ok (.invokevirtual 109, 3) := by decide +kernel
theorem dX7_hide_5 : decode cX7_hide 5 = .ok (.ifCond .eq 13, 3) := by decide +kernel
theorem dX7_hide_8 : decode cX7_hide 8 = .ok (.iload_n 2, 1) := by decide +kernel
theorem dX7_hide_9 : decode cX7_hide 9 = .ok (.iconst 0, 1) := by decide +kernel
theorem dX7_hide_10 : decode cX7_hide 10 = .ok (.bipush 60, 2) := by decide +kernel
theorem dX7_hide_12 : decode cX7_hide 12 = .ok (.invokestatic 85, 3) := by decide +kernel
theorem dX7_hide_15 : decode cX7_hide 15 = .ok (.ifCond .ne 6, 3) := by decide +kernel
theorem dX7_hide_18 : decode cX7_hide 18 = .ok (.ldc 89, 2) := by decide +kernel
theorem dX7_hide_20 : decode cX7_hide 20 = .ok (.ireturn, 1) := by decide +kernel
theorem dX7_hide_21 : decode cX7_hide 21 = .ok (.iload_n 1, 1) := by decide +kernel
theorem dX7_hide_22 : decode cX7_hide 22 = .ok (.istore_n 3, 1) := by decide +kernel
theorem dX7_hide_23 : decode cX7_hide 23 = .ok (.aload_n 0, 1) := by decide +kernel
theorem dX7_hide_24 : decode cX7_hide 24 = .ok (.getfield 9, 3) := by decide +kernel
theorem dX7_hide_27 : decode cX7_hide 27 = .ok (.iconst 1, 1) := by decide +kernel
theorem dX7_hide_28 : decode cX7_hide 28 = .ok (.iaload, 1) := by decide +kernel
theorem dX7_hide_29 : decode cX7_hide 29 = .ok (.iconst 1, 1) := by decide +kernel
theorem dX7_hide_30 : decode cX7_hide 30 = .ok (.isub, 1) := by decide +kernel
theorem dX7_hide_31 : decode cX7_hide 31 = .ok (.istore 4, 2) := by decide +kernel
theorem dX7_hide_33 : decode cX7_hide 33 = .ok (.iload 4, 2) := by decide +kernel
theorem dX7_hide_35 : decode cX7_hide 35 = .ok (.ifCond .lt 63, 3) := by decide +kernel
theorem dX7_hide_38 : decode cX7_hide 38 = .ok (.iload 4, 2) := by decide +kernel
theorem dX7_hide_40 : decode cX7_hide 40 = .ok (.iload_n 1, 1) := by decide +kernel
theorem dX7_hide_41 : decode cX7_hide 41 = .ok (.isub, 1) := by decide +kernel
theorem dX7_hide_42 : decode cX7_hide 42 = .ok (.iload_n 2, 1) := by decide +kernel
theorem dX7_hide_43 : decode cX7_hide 43 = .ok (.ineg, 1) := by decide +kernel
theorem dX7_hide_44 : decode cX7_hide 44 = .ok (.iload_n 2, 1) := by decide +kernel
theorem dX7_hide_45 : decode cX7_hide 45 = .ok (.invokestatic 85, 3) := by decide +kernel
theorem dX7_hide_48 : decode cX7_hide 48 = .ok (.ifCond .eq 42, 3) := by decide +kernel
theorem dX7_hide_51 : decode cX7_hide 51 = .ok (.aload_n 0, 1) := by decide +kernel
theorem dX7_hide_52 : decode cX7_hide 52 = .ok (.iload 4, 2) := by decide +kernel
theorem dX7_hide_54 : decode cX7_hide 54 = .ok (.invokevirtual 113, 3) := by decide +kernel
theorem dX7_hide_57 : decode cX7_hide 57 = .ok (.aload_n 0, 1) := by decide +kernel
theorem dX7_hide_58 : decode cX7_hide 58 = .ok (.iload_n 3, 1) := by decide +kernel
theorem dX7_hide_59 : decode cX7_hide 59 = .ok (.invokevirtual 113, 3) := by decide +kernel
theorem dX7_hide_62 : decode cX7_hide 62 = .ok (.if_icmp .lt 23, 3) := by decide +kernel
theorem dX7_hide_65 : decode cX7_hide 65 = .ok (.aload_n 0, 1) := by decide +kernel
theorem dX7_hide_66 : decode cX7_hide 66 = .ok (.iload 4, 2) := by decide +kernel
theorem dX7_hide_68 : decode cX7_hide 68 = .ok (.invokevirtual 113, 3) := by decide +kernel
theorem dX7_hide_71 : decode cX7_hide 71 = .ok (.aload_n 0, 1) := by decide +kernel
theorem dX7_hide_72 : decode cX7_hide 72 = .ok (.iload_n 3, 1) := by decide +kernel
theorem dX7_hide_73 : decode cX7_hide 73 = .ok (.invokevirtual 113, 3) := by decide +kernel
theorem dX7_hide_76 : decode cX7_hide 76 = .ok (.if_icmp .ne 14, 3) := by decide +kernel
theorem dX7_hide_79 : decode cX7_hide 79 = .ok (.iload 4, 2) := by decide +kernel
theorem dX7_hide_81 : decode cX7_hide 81 = .ok (.iload_n 3, 1) := by decide +kernel
theorem dX7_hide_82 : decode cX7_hide 82 = .ok (.if_icmp .ge 8, 3) := by decide +kernel
theorem dX7_hide_85 : decode cX7_hide 85 = .ok (.iload 4, 2) := by decide +kernel
theorem dX7_hide_87 : decode cX7_hide 87 = .ok (.goto 4, 3) := by decide +kernel
theorem dX7_hide_90 : decode cX7_hide 90 = .ok (.iload_n 3, 1) := by decide +kernel
theorem dX7_hide_91 : decode cX7_hide 91 = .ok (.istore_n 3, 1) := by decide +kernel
theorem dX7_hide_92 : decode cX7_hide 92 = .ok (.iinc 4 (-1), 3) := by decide +kernel
theorem dX7_hide_95 : decode cX7_hide 95 = .ok (.goto (-62), 3) := by decide +kernel
theorem dX7_hide_98 : decode cX7_hide 98 = .ok (.iload_n 3, 1) := by decide +kernel
theorem dX7_hide_99 : decode cX7_hide 99 = .ok (.ireturn, 1) := by decide +kernel
set_option maxRecDepth 20000 in
theorem ggX7_safest_X7_in : GoodIn wsX7_safest wsX7_in := goodIn_r _ [7] (by decide +kernel) (by decide +kernel)
set_option maxRecDepth 20000 in
theorem gX7_safest_X7_in : GoodIn wsX7_safest (va_wsS RX7 85 yX7_in wsX7_in) := goodIn_app (goodIn_of _ (by decide +kernel)) ggX7_safest_X7_in
set_option maxRecDepth 20000 in
theorem ggX7_safest_X7_findTree : GoodIn wsX7_safest wsX7_findTree := goodIn_r _ [11, 2, 12, 3, 13, 14, 15, 16, 17, 6, 18, 19, 20, 21, 22, 23, 24, 25, 26, 27, 28, 29, 30, 31, 32, 33, 34, 35, 36, 37, 38, 39, 40, 41, 42, 43, 44, 45, 46, 47, 48, 49, 50, 51, 52, 53, 54, 59, 60, 61, 62, 63, 64, 65, 66, 67, 68, 69, 70, 71, 72, 73, 74, 75, 76, 77, 78, 79, 80, 81, 82, 83, 84, 85, 86, 87, 88, 89, 90, 91, 92, 93, 94, 95, 96, 97] (by decide +kernel) (by decide +kernel)
set_option maxRecDepth 20000 in
theorem gX7_safest_X7_findTree : GoodIn wsX7_safest (wsV RX7 151 RX7 yX7_findTree wsX7_findTree) := goodIn_app (goodIn_of _ (by decide +kernel)) ggX7_safest_X7_findTree
set_option maxRecDepth 20000 in
theorem ggX7_safest_X7_told0 : GoodIn wsX7_safest wsX7_told0 := goodIn_r _ [57, 58] (by decide +kernel) (by decide +kernel)
set_option maxRecDepth 20000 in
theorem gX7_safest_X7_told0 : GoodIn wsX7_safest (va_wsS RX7 138 yX7_told0 wsX7_told0) := goodIn_app (goodIn_of _ (by decide +kernel)) ggX7_safest_X7_told0
theorem dX7_safest_0 : decode cX7_safest 0 = .ok (.iload_n 1, 1) := by decide +kernel
theorem dX7_safest_1 : decode cX7_safest 1 = .ok (.iconst 1, 1) := by decide +kernel
theorem dX7_safest_2 : decode cX7_safest 2 = .ok (.bipush 60, 2) := by decide +kernel
theorem dX7_safest_4 : decode cX7_safest 4 = .ok (.invokestatic 85, 3) := by decide +kernel
theorem dX7_safest_7 : decode cX7_safest 7 = .ok (.ifCond .ne 6, 3) := by decide +kernel
theorem dX7_safest_10 : decode cX7_safest 10 = .ok (.ldc 89, 2) := by decide +kernel
theorem dX7_safest_12 : decode cX7_safest 12 = .ok (.ireturn, 1) := by decide +kernel
theorem dX7_safest_13 : decode cX7_safest 13 = .ok (.aload_n 0, 1) := by decide +kernel
theorem dX7_safest_14 : decode cX7_safest 14 = .ok (.iload_n 1, 1) := by decide +kernel
theorem dX7_safest_15 : decode cX7_safest 15 = .ok (.invokevirtual 151, 3) := by decide +kernel
theorem dX7_safest_18 : decode cX7_safest 18 = .ok (.iconst (-1), 1) := by decide +kernel
theorem dX7_safest_19 : decode cX7_safest 19 = .ok (.istore_n 2, 1) := by decide +kernel
theorem dX7_safest_20 : decode cX7_safest 20 = .ok (.iconst 0, 1) := by decide +kernel
theorem dX7_safest_21 : decode cX7_safest 21 = .ok (.istore_n 3, 1) := by decide +kernel
theorem dX7_safest_22 : decode cX7_safest 22 = .ok (.iload_n 3, 1) := by decide +kernel
theorem dX7_safest_23 : decode cX7_safest 23 = .ok (.aload_n 0, 1) := by decide +kernel
theorem dX7_safest_24 : decode cX7_safest 24 = .ok (.getfield 9, 3) := by decide +kernel
theorem dX7_safest_27 : decode cX7_safest 27 = .ok (.iconst 1, 1) := by decide +kernel
theorem dX7_safest_28 : decode cX7_safest 28 = .ok (.iaload, 1) := by decide +kernel
theorem dX7_safest_29 : decode cX7_safest 29 = .ok (.if_icmp .ge 34, 3) := by decide +kernel
theorem dX7_safest_32 : decode cX7_safest 32 = .ok (.iload_n 2, 1) := by decide +kernel
theorem dX7_safest_33 : decode cX7_safest 33 = .ok (.ifCond .lt 18, 3) := by decide +kernel
theorem dX7_safest_36 : decode cX7_safest 36 = .ok (.aload_n 0, 1) := by decide +kernel
theorem dX7_safest_37 : decode cX7_safest 37 = .ok (.getfield 19, 3) := by decide +kernel
theorem dX7_safest_40 : decode cX7_safest 40 = .ok (.iload_n 3, 1) := by decide +kernel
theorem dX7_safest_41 : decode cX7_safest 41 = .ok (.iaload, 1) := by decide +kernel
theorem dX7_safest_42 : decode cX7_safest 42 = .ok (.aload_n 0, 1) := by decide +kernel
theorem dX7_safest_43 : decode cX7_safest 43 = .ok (.getfield 19, 3) := by decide +kernel
theorem dX7_safest_46 : decode cX7_safest 46 = .ok (.iload_n 2, 1) := by decide +kernel
theorem dX7_safest_47 : decode cX7_safest 47 = .ok (.iaload, 1) := by decide +kernel
theorem dX7_safest_48 : decode cX7_safest 48 = .ok (.if_icmp .ge 7, 3) := by decide +kernel
theorem dX7_safest_51 : decode cX7_safest 51 = .ok (.iload_n 3, 1) := by decide +kernel
theorem dX7_safest_52 : decode cX7_safest 52 = .ok (.goto 4, 3) := by decide +kernel
theorem dX7_safest_55 : decode cX7_safest 55 = .ok (.iload_n 2, 1) := by decide +kernel
theorem dX7_safest_56 : decode cX7_safest 56 = .ok (.istore_n 2, 1) := by decide +kernel
theorem dX7_safest_57 : decode cX7_safest 57 = .ok (.iinc 3 1, 3) := by decide +kernel
theorem dX7_safest_60 : decode cX7_safest 60 = .ok (.goto (-38), 3) := by decide +kernel
theorem dX7_safest_63 : decode cX7_safest 63 = .ok (.iload_n 2, 1) := by decide +kernel
theorem dX7_safest_64 : decode cX7_safest 64 = .ok (.invokestatic 138, 3) := by decide +kernel
theorem dX7_safest_67 : decode cX7_safest 67 = .ok (.ireturn, 1) := by decide +kernel
theorem dX7_findClaps_0 : decode cX7_findClaps 0 = .ok (.aload_n 0, 1) := by decide +kernel
theorem dX7_findClaps_1 : decode cX7_findClaps 1 = .ok (.iconst (-1), 1) := by decide +kernel
theorem dX7_findClaps_2 : decode cX7_findClaps 2 = .ok (.putfield 161, 3) := by decide +kernel
theorem dX7_findClaps_5 : decode cX7_findClaps 5 = .ok (.aload_n 0, 1) := by decide +kernel
theorem dX7_findClaps_6 : decode cX7_findClaps 6 = .ok (.iconst 0, 1) := by decide +kernel
theorem dX7_findClaps_7 : decode cX7_findClaps 7 = .ok (.putfield 165, 3) := by decide +kernel
theorem dX7_findClaps_10 : decode cX7_findClaps 10 = .ok (.iconst 0, 1) := by decide +kernel
theorem dX7_findClaps_11 : decode cX7_findClaps 11 = .ok (.istore_n 2, 1) := by decide +kernel
theorem dX7_findClaps_12 : decode cX7_findClaps 12 = .ok (.iload_n 2, 1) := by decide +kernel
theorem dX7_findClaps_13 : decode cX7_findClaps 13 = .ok (.aload_n 0, 1) := by decide +kernel
theorem dX7_findClaps_14 : decode cX7_findClaps 14 = .ok (.getfield 60, 3) := by decide +kernel
theorem dX7_findClaps_17 : decode cX7_findClaps 17 = .ok (.iload_n 1, 1) := by decide +kernel
theorem dX7_findClaps_18 : decode cX7_findClaps 18 = .ok (.iaload, 1) := by decide +kernel
theorem dX7_findClaps_19 : decode cX7_findClaps 19 = .ok (.if_icmp .ge 108, 3) := by decide +kernel
theorem dX7_findClaps_22 : decode cX7_findClaps 22 = .ok (.aload_n 0, 1) := by decide +kernel
theorem dX7_findClaps_23 : decode cX7_findClaps 23 = .ok (.getfield 63, 3) := by decide +kernel
theorem dX7_findClaps_26 : decode cX7_findClaps 26 = .ok (.bipush 24, 2) := by decide +kernel
theorem dX7_findClaps_28 : decode cX7_findClaps 28 = .ok (.iload_n 1, 1) := by decide +kernel
theorem dX7_findClaps_29 : decode cX7_findClaps 29 = .ok (.imul, 1) := by decide +kernel
theorem dX7_findClaps_30 : decode cX7_findClaps 30 = .ok (.iload_n 2, 1) := by decide +kernel
theorem dX7_findClaps_31 : decode cX7_findClaps 31 = .ok (.iadd, 1) := by decide +kernel
theorem dX7_findClaps_32 : decode cX7_findClaps 32 = .ok (.iaload, 1) := by decide +kernel
theorem dX7_findClaps_33 : decode cX7_findClaps 33 = .ok (.istore_n 3, 1) := by decide +kernel
theorem dX7_findClaps_34 : decode cX7_findClaps 34 = .ok (.iload_n 3, 1) := by decide +kernel
theorem dX7_findClaps_35 : decode cX7_findClaps 35 = .ok (.ldc 84, 2) := by decide +kernel
theorem dX7_findClaps_37 : decode cX7_findClaps 37 = .ok (.if_icmp .eq 84, 3) := by decide +kernel
theorem dX7_findClaps_40 : decode cX7_findClaps 40 = .ok (.aload_n 0, 1) := by decide +kernel
theorem dX7_findClaps_41 : decode cX7_findClaps 41 = .ok (.getfield 161, 3) := by decide +kernel
theorem dX7_findClaps_44 : decode cX7_findClaps 44 = .ok (.ifCond .ge 7, 3) := by decide +kernel
theorem dX7_findClaps_47 : decode cX7_findClaps 47 = .ok (.iload_n 3, 1) := by decide +kernel
theorem dX7_findClaps_48 : decode cX7_findClaps 48 = .ok (.goto 17, 3) := by decide +kernel
theorem dX7_findClaps_51 : decode cX7_findClaps 51 = .ok (.aload_n 0, 1) := by decide +kernel
theorem dX7_findClaps_52 : decode cX7_findClaps 52 = .ok (.getfield 63, 3) := by decide +kernel
theorem dX7_findClaps_55 : decode cX7_findClaps 55 = .ok (.bipush 24, 2) := by decide +kernel
theorem dX7_findClaps_57 : decode cX7_findClaps 57 = .ok (.iload_n 1, 1) := by decide +kernel
theorem dX7_findClaps_58 : decode cX7_findClaps 58 = .ok (.imul, 1) := by decide +kernel
theorem dX7_findClaps_59 : decode cX7_findClaps 59 = .ok (.aload_n 0, 1) := by decide +kernel
theorem dX7_findClaps_60 : decode cX7_findClaps 60 = .ok (.getfield 168, 3) := by decide +kernel
theorem dX7_findClaps_63 : decode cX7_findClaps 63 = .ok (.iadd, 1) := by decide +kernel
theorem dX7_findClaps_64 : decode cX7_findClaps 64 = .ok (.iaload, 1) := by decide +kernel
theorem dX7_findClaps_65 : decode cX7_findClaps 65 = .ok (.istore 4, 2) := by decide +kernel
theorem dX7_findClaps_67 : decode cX7_findClaps 67 = .ok (.aload_n 0, 1) := by decide +kernel
theorem dX7_findClaps_68 : decode cX7_findClaps 68 = .ok (.dup, 1) := by decide +kernel
theorem dX7_findClaps_69 : decode cX7_findClaps 69 = .ok (.getfield 165, 3) := by decide +kernel
theorem dX7_findClaps_72 : decode cX7_findClaps 72 = .ok (.iload_n 3, 1) := by decide +kernel
theorem dX7_findClaps_73 : decode cX7_findClaps 73 = .ok (.iload 4, 2) := by decide +kernel
theorem dX7_findClaps_75 : decode cX7_findClaps 75 = .ok (.if_icmp .ge 7, 3) := by decide +kernel
theorem dX7_findClaps_78 : decode cX7_findClaps 78 = .ok (.iconst 1, 1) := by decide +kernel
theorem dX7_findClaps_79 : decode cX7_findClaps 79 = .ok (.goto 14, 3) := by decide +kernel
theorem dX7_findClaps_82 : decode cX7_findClaps 82 = .ok (.iload_n 3, 1) := by decide +kernel
theorem dX7_findClaps_83 : decode cX7_findClaps 83 = .ok (.iload 4, 2) := by decide +kernel
theorem dX7_findClaps_85 : decode cX7_findClaps 85 = .ok (.if_icmp .le 7, 3) := by decide +kernel
theorem dX7_findClaps_88 : decode cX7_findClaps 88 = .ok (.iconst (-1), 1) := by decide +kernel
theorem dX7_findClaps_89 : decode cX7_findClaps 89 = .ok (.goto 4, 3) := by decide +kernel
theorem dX7_findClaps_92 : decode cX7_findClaps 92 = .ok (.iconst 0, 1) := by decide +kernel
theorem dX7_findClaps_93 : decode cX7_findClaps 93 = .ok (.iadd, 1) := by decide +kernel
theorem dX7_findClaps_94 : decode cX7_findClaps 94 = .ok (.putfield 165, 3) := by decide +kernel
theorem dX7_findClaps_97 : decode cX7_findClaps 97 = .ok (.aload_n 0, 1) := by decide +kernel
theorem dX7_findClaps_98 : decode cX7_findClaps 98 = .ok (.aload_n 0, 1) := by decide +kernel
theorem dX7_findClaps_99 : decode cX7_findClaps 99 = .ok (.getfield 161, 3) := by decide +kernel
theorem dX7_findClaps_102 : decode cX7_findClaps 102 = .ok (.ifCond .ge 7, 3) := by decide +kernel
theorem dX7_findClaps_105 : decode cX7_findClaps 105 = .ok (.iload_n 2, 1) := by decide +kernel
theorem dX7_findClaps_106 : decode cX7_findClaps 106 = .ok (.goto 7, 3) := by decide +kernel
theorem dX7_findClaps_109 : decode cX7_findClaps 109 = .ok (.aload_n 0, 1) := by decide +kernel
theorem dX7_findClaps_110 : decode cX7_findClaps 110 = .ok (.getfield 161, 3) := by decide +kernel
theorem dX7_findClaps_113 : decode cX7_findClaps 113 = .ok (.putfield 161, 3) := by decide +kernel
theorem dX7_findClaps_116 : decode cX7_findClaps 116 = .ok (.aload_n 0, 1) := by decide +kernel
theorem dX7_findClaps_117 : decode cX7_findClaps 117 = .ok (.iload_n 2, 1) := by decide +kernel
theorem dX7_findClaps_118 : decode cX7_findClaps 118 = .ok (.putfield 168, 3) := by decide +kernel
theorem dX7_findClaps_121 : decode cX7_findClaps 121 = .ok (.iinc 2 1, 3) := by decide +kernel
theorem dX7_findClaps_124 : decode cX7_findClaps 124 = .ok (.goto (-112), 3) := by decide +kernel
theorem dX7_findClaps_127 : decode cX7_findClaps 127 = .ok (.aload_n 0, 1) := by decide +kernel
theorem dX7_findClaps_128 : decode cX7_findClaps 128 = .ok (.getfield 161, 3) := by decide +kernel
theorem dX7_findClaps_131 : decode cX7_findClaps 131 = .ok (.ifCond .lt 7, 3) := by decide +kernel
theorem dX7_findClaps_134 : decode cX7_findClaps 134 = .ok (.iconst 1, 1) := by decide +kernel
theorem dX7_findClaps_135 : decode cX7_findClaps 135 = .ok (.goto 4, 3) := by decide +kernel
theorem dX7_findClaps_138 : decode cX7_findClaps 138 = .ok (.iconst 0, 1) := by decide +kernel
theorem dX7_findClaps_139 : decode cX7_findClaps 139 = .ok (.ireturn, 1) := by decide +kernel
set_option maxRecDepth 20000 in
theorem ggX7_offBy_X7_within : GoodIn wsX7_offBy wsX7_within := goodIn_r _ [8] (by decide +kernel) (by decide +kernel)
set_option maxRecDepth 20000 in
theorem gX7_offBy_X7_within : GoodIn wsX7_offBy (va_wsS RX7 106 yX7_within wsX7_within) := goodIn_app (goodIn_of _ (by decide +kernel)) ggX7_offBy_X7_within
theorem dX7_offBy_0 : decode cX7_offBy 0 = .ok (.aload_n 0, 1) := by decide +kernel
theorem dX7_offBy_1 : decode cX7_offBy 1 = .ok (.getfield 63, 3) := by decide +kernel
theorem dX7_offBy_4 : decode cX7_offBy 4 = .ok (.bipush 24, 2) := by decide +kernel
theorem dX7_offBy_6 : decode cX7_offBy 6 = .ok (.iload_n 1, 1) := by decide +kernel
theorem dX7_offBy_7 : decode cX7_offBy 7 = .ok (.imul, 1) := by decide +kernel
theorem dX7_offBy_8 : decode cX7_offBy 8 = .ok (.aload_n 0, 1) := by decide +kernel
theorem dX7_offBy_9 : decode cX7_offBy 9 = .ok (.getfield 161, 3) := by decide +kernel
theorem dX7_offBy_12 : decode cX7_offBy 12 = .ok (.iadd, 1) := by decide +kernel
theorem dX7_offBy_13 : decode cX7_offBy 13 = .ok (.iaload, 1) := by decide +kernel
theorem dX7_offBy_14 : decode cX7_offBy 14 = .ok (.iconst 3, 1) := by decide +kernel
theorem dX7_offBy_15 : decode cX7_offBy 15 = .ok (.idiv, 1) := by decide +kernel
theorem dX7_offBy_16 : decode cX7_offBy 16 = .ok (.istore_n 3, 1) := by decide +kernel
theorem dX7_offBy_17 : decode cX7_offBy 17 = .ok (.iconst 0, 1) := by decide +kernel
theorem dX7_offBy_18 : decode cX7_offBy 18 = .ok (.istore 4, 2) := by decide +kernel
theorem dX7_offBy_20 : decode cX7_offBy 20 = .ok (.aload_n 0, 1) := by decide +kernel
theorem dX7_offBy_21 : decode cX7_offBy 21 = .ok (.getfield 161, 3) := by decide +kernel
theorem dX7_offBy_24 : decode cX7_offBy 24 = .ok (.istore 5, 2) := by decide +kernel
theorem dX7_offBy_26 : decode cX7_offBy 26 = .ok (.iload 5, 2) := by decide +kernel
theorem dX7_offBy_28 : decode cX7_offBy 28 = .ok (.aload_n 0, 1) := by decide +kernel
theorem dX7_offBy_29 : decode cX7_offBy 29 = .ok (.getfield 168, 3) := by decide +kernel
theorem dX7_offBy_32 : decode cX7_offBy 32 = .ok (.if_icmp .gt 76, 3) := by decide +kernel
theorem dX7_offBy_35 : decode cX7_offBy 35 = .ok (.aload_n 0, 1) := by decide +kernel
theorem dX7_offBy_36 : decode cX7_offBy 36 = .ok (.getfield 63, 3) := by decide +kernel
theorem dX7_offBy_39 : decode cX7_offBy 39 = .ok (.bipush 24, 2) := by decide +kernel
theorem dX7_offBy_41 : decode cX7_offBy 41 = .ok (.iload_n 1, 1) := by decide +kernel
theorem dX7_offBy_42 : decode cX7_offBy 42 = .ok (.imul, 1) := by decide +kernel
theorem dX7_offBy_43 : decode cX7_offBy 43 = .ok (.iload 5, 2) := by decide +kernel
theorem dX7_offBy_45 : decode cX7_offBy 45 = .ok (.iadd, 1) := by decide +kernel
theorem dX7_offBy_46 : decode cX7_offBy 46 = .ok (.iaload, 1) := by decide +kernel
theorem dX7_offBy_47 : decode cX7_offBy 47 = .ok (.istore 6, 2) := by decide +kernel
theorem dX7_offBy_49 : decode cX7_offBy 49 = .ok (.iload 6, 2) := by decide +kernel
theorem dX7_offBy_51 : decode cX7_offBy 51 = .ok (.iconst 3, 1) := by decide +kernel
theorem dX7_offBy_52 : decode cX7_offBy 52 = .ok (.iload_n 3, 1) := by decide +kernel
theorem dX7_offBy_53 : decode cX7_offBy 53 = .ok (.iload_n 2, 1) := by decide +kernel
theorem dX7_offBy_54 : decode cX7_offBy 54 = .ok (.iload 5, 2) := by decide +kernel
theorem dX7_offBy_56 : decode cX7_offBy 56 = .ok (.aload_n 0, 1) := by decide +kernel
theorem dX7_offBy_57 : decode cX7_offBy 57 = .ok (.getfield 161, 3) := by decide +kernel
theorem dX7_offBy_60 : decode cX7_offBy 60 = .ok (.isub, 1) := by decide +kernel
theorem dX7_offBy_61 : decode cX7_offBy 61 = .ok (.imul, 1) := by decide +kernel
theorem dX7_offBy_62 : decode cX7_offBy 62 = .ok (.isub, 1) := by decide +kernel
theorem dX7_offBy_63 : decode cX7_offBy 63 = .ok (.iconst 0, 1) := by decide +kernel
theorem dX7_offBy_64 : decode cX7_offBy 64 = .ok (.bipush 99, 2) := by decide +kernel
theorem dX7_offBy_66 : decode cX7_offBy 66 = .ok (.invokestatic 106, 3) := by decide +kernel
theorem dX7_offBy_69 : decode cX7_offBy 69 = .ok (.imul, 1) := by decide +kernel
theorem dX7_offBy_70 : decode cX7_offBy 70 = .ok (.isub, 1) := by decide +kernel
theorem dX7_offBy_71 : decode cX7_offBy 71 = .ok (.istore 7, 2) := by decide +kernel
theorem dX7_offBy_73 : decode cX7_offBy 73 = .ok (.iload 4, 2) := by decide +kernel
theorem dX7_offBy_75 : decode cX7_offBy 75 = .ok (.iload 6, 2) := by decide +kernel
theorem dX7_offBy_77 : decode cX7_offBy 77 = .ok (.ldc 84, 2) := by decide +kernel
theorem dX7_offBy_79 : decode cX7_offBy 79 = .ok (.if_icmp .ne 7, 3) := by decide +kernel
theorem dX7_offBy_82 : decode cX7_offBy 82 = .ok (.iconst 0, 1) := by decide +kernel
theorem dX7_offBy_83 : decode cX7_offBy 83 = .ok (.goto 16, 3) := by decide +kernel
theorem dX7_offBy_86 : decode cX7_offBy 86 = .ok (.iload 7, 2) := by decide +kernel
theorem dX7_offBy_88 : decode cX7_offBy 88 = .ok (.ifCond .ge 9, 3) := by decide +kernel
theorem dX7_offBy_91 : decode cX7_offBy 91 = .ok (.iload 7, 2) := by decide +kernel
theorem dX7_offBy_93 : decode cX7_offBy 93 = .ok (.ineg, 1) := by decide +kernel
theorem dX7_offBy_94 : decode cX7_offBy 94 = .ok (.goto 5, 3) := by decide +kernel
theorem dX7_offBy_97 : decode cX7_offBy 97 = .ok (.iload 7, 2) := by decide +kernel
theorem dX7_offBy_99 : decode cX7_offBy 99 = .ok (.iadd, 1) := by decide +kernel
theorem dX7_offBy_100 : decode cX7_offBy 100 = .ok (.istore 4, 2) := by decide +kernel
theorem dX7_offBy_102 : decode cX7_offBy 102 = .ok (.iinc 5 1, 3) := by decide +kernel
theorem dX7_offBy_105 : decode cX7_offBy 105 = .ok (.goto (-79), 3) := by decide +kernel
theorem dX7_offBy_108 : decode cX7_offBy 108 = .ok (.iload 4, 2) := by decide +kernel
theorem dX7_offBy_110 : decode cX7_offBy 110 = .ok (.ireturn, 1) := by decide +kernel
set_option maxRecDepth 20000 in
theorem ggX7_paceOf_X7_offBy : GoodIn wsX7_paceOf wsX7_offBy := goodIn_r _ [5, 6, 7, 8, 9, 10, 11, 4, 12, 13, 14, 15, 16, 17, 18, 19, 20, 21, 22, 23, 24, 25, 26, 27, 28, 29, 30, 31, 32, 33, 34, 35, 36, 37, 38, 39, 40, 41, 42, 43, 44, 45, 46, 47, 48, 49, 50, 51] (by decide +kernel) (by decide +kernel)
set_option maxRecDepth 20000 in
theorem gX7_paceOf_X7_offBy : GoodIn wsX7_paceOf (wsV RX7 171 RX7 yX7_offBy wsX7_offBy) := goodIn_app (goodIn_of _ (by decide +kernel)) ggX7_paceOf_X7_offBy
theorem dX7_paceOf_0 : decode cX7_paceOf 0 = .ok (.bipush (-9), 2) := by decide +kernel
theorem dX7_paceOf_2 : decode cX7_paceOf 2 = .ok (.istore_n 2, 1) := by decide +kernel
theorem dX7_paceOf_3 : decode cX7_paceOf 3 = .ok (.bipush (-8), 2) := by decide +kernel
theorem dX7_paceOf_5 : decode cX7_paceOf 5 = .ok (.istore_n 3, 1) := by decide +kernel
theorem dX7_paceOf_6 : decode cX7_paceOf 6 = .ok (.iload_n 3, 1) := by decide +kernel
theorem dX7_paceOf_7 : decode cX7_paceOf 7 = .ok (.bipush 10, 2) := by decide +kernel
theorem dX7_paceOf_9 : decode cX7_paceOf 9 = .ok (.if_icmp .ge 30, 3) := by decide +kernel
theorem dX7_paceOf_12 : decode cX7_paceOf 12 = .ok (.aload_n 0, 1) := by decide +kernel
theorem dX7_paceOf_13 : decode cX7_paceOf 13 = .ok (.iload_n 1, 1) := by decide +kernel
theorem dX7_paceOf_14 : decode cX7_paceOf 14 = .ok (.iload_n 3, 1) := by decide +kernel
theorem dX7_paceOf_15 : decode cX7_paceOf 15 = .ok (.invokevirtual 171, 3) := by decide +kernel
theorem dX7_paceOf_18 : decode cX7_paceOf 18 = .ok (.aload_n 0, 1) := by decide +kernel
theorem dX7_paceOf_19 : decode cX7_paceOf 19 = .ok (.iload_n 1, 1) := by decide +kernel
theorem dX7_paceOf_20 : decode cX7_paceOf 20 = .ok (.iload_n 2, 1) := by decide +kernel
theorem dX7_paceOf_21 : decode cX7_paceOf 21 = .ok (.invokevirtual 171, 3) := by decide +kernel
theorem dX7_paceOf_24 : decode cX7_paceOf 24 = .ok (.if_icmp .ge 7, 3) := by decide +kernel
theorem dX7_paceOf_27 : decode cX7_paceOf 27 = .ok (.iload_n 3, 1) := by decide +kernel
theorem dX7_paceOf_28 : decode cX7_paceOf 28 = .ok (.goto 4, 3) := by decide +kernel
theorem dX7_paceOf_31 : decode cX7_paceOf 31 = .ok (.iload_n 2, 1) := by decide +kernel
theorem dX7_paceOf_32 : decode cX7_paceOf 32 = .ok (.istore_n 2, 1) := by decide +kernel
theorem dX7_paceOf_33 : decode cX7_paceOf 33 = .ok (.iinc 3 1, 3) := by decide +kernel
theorem dX7_paceOf_36 : decode cX7_paceOf 36 = .ok (.goto (-30), 3) := by decide +kernel
theorem dX7_paceOf_39 : decode cX7_paceOf 39 = .ok (.iload_n 2, 1) := by decide +kernel
theorem dX7_paceOf_40 : decode cX7_paceOf 40 = .ok (.ireturn, 1) := by decide +kernel
set_option maxRecDepth 20000 in
theorem ggX7_claps_X7_isSheet : GoodIn wsX7_claps wsX7_isSheet := goodIn_r _ [11, 12, 13, 10, 14] (by decide +kernel) (by decide +kernel)
set_option maxRecDepth 20000 in
theorem gX7_claps_X7_isSheet : GoodIn wsX7_claps (va_wsS RX7 174 yX7_isSheet wsX7_isSheet) := goodIn_app (goodIn_of _ (by decide +kernel)) ggX7_claps_X7_isSheet
set_option maxRecDepth 20000 in
theorem ggX7_claps_X7_in : GoodIn wsX7_claps wsX7_in := goodIn_r _ [14] (by decide +kernel) (by decide +kernel)
set_option maxRecDepth 20000 in
theorem gX7_claps_X7_in : GoodIn wsX7_claps (va_wsS RX7 85 yX7_in wsX7_in) := goodIn_app (goodIn_of _ (by decide +kernel)) ggX7_claps_X7_in
set_option maxRecDepth 20000 in
theorem ggX7_claps_X7_findClaps : GoodIn wsX7_claps wsX7_findClaps := goodIn_r _ [18, 19, 7, 20, 5, 4, 6, 32, 33, 34, 35, 36, 37, 38, 39, 40, 41, 42, 43, 44, 45, 46, 47, 48, 49, 50, 51, 52, 53, 54, 55, 56, 57, 58, 59, 60, 61, 62, 63, 64, 65, 66, 67, 68, 69, 70] (by decide +kernel) (by decide +kernel)
set_option maxRecDepth 20000 in
theorem gX7_claps_X7_findClaps : GoodIn wsX7_claps (wsV RX7 178 RX7 yX7_findClaps wsX7_findClaps) := goodIn_app (goodIn_of _ (by decide +kernel)) ggX7_claps_X7_findClaps
set_option maxRecDepth 20000 in
theorem ggX7_claps_X7_paceOf : GoodIn wsX7_claps wsX7_paceOf := goodIn_r _ [24, 25, 26, 27, 10, 28, 5, 19, 6, 4, 29, 30, 31, 32, 33, 34, 35, 36, 37, 38, 39, 40, 41, 42, 43, 44, 45, 46, 47, 48, 49, 50, 51, 52, 53, 54, 55, 56, 57, 58, 59, 60, 61, 62, 63, 64, 65, 66, 67, 68, 69, 70] (by decide +kernel) (by decide +kernel)
set_option maxRecDepth 20000 in
theorem gX7_claps_X7_paceOf : GoodIn wsX7_claps (wsV RX7 181 RX7 yX7_paceOf wsX7_paceOf) := goodIn_app (goodIn_of _ (by decide +kernel)) ggX7_claps_X7_paceOf
set_option maxRecDepth 20000 in
theorem ggX7_claps_X7_offBy : GoodIn wsX7_claps wsX7_offBy := goodIn_r _ [28, 5, 19, 6, 4, 29, 30, 10, 31, 32, 33, 34, 35, 36, 37, 38, 39, 40, 41, 42, 43, 44, 45, 46, 47, 48, 49, 50, 51, 52, 53, 54, 55, 56, 57, 58, 59, 60, 61, 62, 63, 64, 65, 66, 67, 68, 69, 70] (by decide +kernel) (by decide +kernel)
set_option maxRecDepth 20000 in
theorem gX7_claps_X7_offBy : GoodIn wsX7_claps (wsV RX7 171 RX7 yX7_offBy wsX7_offBy) := goodIn_app (goodIn_of _ (by decide +kernel)) ggX7_claps_X7_offBy
theorem dX7_claps_0 : decode cX7_claps 0 = .ok (.iload_n 1, 1) := by decide +kernel
theorem dX7_claps_1 : decode cX7_claps 1 = .ok (.invokestatic 174, 3) := by decide +kernel
theorem dX7_claps_4 : decode cX7_claps 4 = .ok (.ifCond .eq 12, 3) := by decide +kernel
theorem dX7_claps_7 : decode cX7_claps 7 = .ok (.iload_n 2, 1) := by decide +kernel
theorem dX7_claps_8 : decode cX7_claps 8 = .ok (.iconst 0, 1) := by decide +kernel
theorem dX7_claps_9 : decode cX7_claps 9 = .ok (.iconst 3, 1) := by decide +kernel
theorem dX7_claps_10 : decode cX7_claps 10 = .ok (.invokestatic 85, 3) := by decide +kernel
theorem dX7_claps_13 : decode cX7_claps 13 = .ok (.ifCond .ne 6, 3) := by decide +kernel
theorem dX7_claps_16 : decode cX7_claps 16 = .ok (.ldc 89, 2) := by decide +kernel
theorem dX7_claps_18 : decode cX7_claps 18 = .ok (.ireturn, 1) := by decide +kernel
theorem dX7_claps_19 : decode cX7_claps 19 = .ok (.aload_n 0, 1) := by decide +kernel
theorem dX7_claps_20 : decode cX7_claps 20 = .ok (.getfield 57, 3) := by decide +kernel
theorem dX7_claps_23 : decode cX7_claps 23 = .ok (.iload_n 1, 1) := by decide +kernel
theorem dX7_claps_24 : decode cX7_claps 24 = .ok (.iaload, 1) := by decide +kernel
theorem dX7_claps_25 : decode cX7_claps 25 = .ok (.ifCond .ge 6, 3) := by decide +kernel
theorem dX7_claps_28 : decode cX7_claps 28 = .ok (.ldc 177, 2) := by decide +kernel
theorem dX7_claps_30 : decode cX7_claps 30 = .ok (.ireturn, 1) := by decide +kernel
theorem dX7_claps_31 : decode cX7_claps 31 = .ok (.aload_n 0, 1) := by decide +kernel
theorem dX7_claps_32 : decode cX7_claps 32 = .ok (.iload_n 1, 1) := by decide +kernel
theorem dX7_claps_33 : decode cX7_claps 33 = .ok (.invokevirtual 178, 3) := by decide +kernel
theorem dX7_claps_36 : decode cX7_claps 36 = .ok (.ifCond .ne 6, 3) := by decide +kernel
theorem dX7_claps_39 : decode cX7_claps 39 = .ok (.ldc 84, 2) := by decide +kernel
theorem dX7_claps_41 : decode cX7_claps 41 = .ok (.ireturn, 1) := by decide +kernel
theorem dX7_claps_42 : decode cX7_claps 42 = .ok (.aload_n 0, 1) := by decide +kernel
theorem dX7_claps_43 : decode cX7_claps 43 = .ok (.iload_n 1, 1) := by decide +kernel
theorem dX7_claps_44 : decode cX7_claps 44 = .ok (.invokevirtual 181, 3) := by decide +kernel
theorem dX7_claps_47 : decode cX7_claps 47 = .ok (.istore_n 3, 1) := by decide +kernel
theorem dX7_claps_48 : decode cX7_claps 48 = .ok (.iload_n 2, 1) := by decide +kernel
theorem dX7_claps_49 : decode cX7_claps 49 = .ok (.ifCond .ne 22, 3) := by decide +kernel
theorem dX7_claps_52 : decode cX7_claps 52 = .ok (.aload_n 0, 1) := by decide +kernel
theorem dX7_claps_53 : decode cX7_claps 53 = .ok (.getfield 63, 3) := by decide +kernel
theorem dX7_claps_56 : decode cX7_claps 56 = .ok (.bipush 24, 2) := by decide +kernel
theorem dX7_claps_58 : decode cX7_claps 58 = .ok (.iload_n 1, 1) := by decide +kernel
theorem dX7_claps_59 : decode cX7_claps 59 = .ok (.imul, 1) := by decide +kernel
theorem dX7_claps_60 : decode cX7_claps 60 = .ok (.aload_n 0, 1) := by decide +kernel
theorem dX7_claps_61 : decode cX7_claps 61 = .ok (.getfield 168, 3) := by decide +kernel
theorem dX7_claps_64 : decode cX7_claps 64 = .ok (.iadd, 1) := by decide +kernel
theorem dX7_claps_65 : decode cX7_claps 65 = .ok (.iaload, 1) := by decide +kernel
theorem dX7_claps_66 : decode cX7_claps 66 = .ok (.iconst 3, 1) := by decide +kernel
theorem dX7_claps_67 : decode cX7_claps 67 = .ok (.idiv, 1) := by decide +kernel
theorem dX7_claps_68 : decode cX7_claps 68 = .ok (.goto 30, 3) := by decide +kernel
theorem dX7_claps_71 : decode cX7_claps 71 = .ok (.iload_n 2, 1) := by decide +kernel
theorem dX7_claps_72 : decode cX7_claps 72 = .ok (.iconst 1, 1) := by decide +kernel
theorem dX7_claps_73 : decode cX7_claps 73 = .ok (.if_icmp .ne 10, 3) := by decide +kernel
theorem dX7_claps_76 : decode cX7_claps 76 = .ok (.aload_n 0, 1) := by decide +kernel
theorem dX7_claps_77 : decode cX7_claps 77 = .ok (.getfield 165, 3) := by decide +kernel
theorem dX7_claps_80 : decode cX7_claps 80 = .ok (.goto 18, 3) := by decide +kernel
theorem dX7_claps_83 : decode cX7_claps 83 = .ok (.iload_n 2, 1) := by decide +kernel
theorem dX7_claps_84 : decode cX7_claps 84 = .ok (.iconst 2, 1) := by decide +kernel
theorem dX7_claps_85 : decode cX7_claps 85 = .ok (.if_icmp .ne 7, 3) := by decide +kernel
theorem dX7_claps_88 : decode cX7_claps 88 = .ok (.iload_n 3, 1) := by decide +kernel
theorem dX7_claps_89 : decode cX7_claps 89 = .ok (.goto 9, 3) := by decide +kernel
theorem dX7_claps_92 : decode cX7_claps 92 = .ok (.aload_n 0, 1) := by decide +kernel
theorem dX7_claps_93 : decode cX7_claps 93 = .ok (.iload_n 1, 1) := by decide +kernel
theorem dX7_claps_94 : decode cX7_claps 94 = .ok (.iload_n 3, 1) := by decide +kernel
theorem dX7_claps_95 : decode cX7_claps 95 = .ok (.invokevirtual 171, 3) := by decide +kernel
theorem dX7_claps_98 : decode cX7_claps 98 = .ok (.ireturn, 1) := by decide +kernel
set_option maxRecDepth 20000 in
theorem ggX7_hear_X7_isSheet : GoodIn wsX7_hear wsX7_isSheet := goodIn_r _ [11, 12, 13, 10, 14] (by decide +kernel) (by decide +kernel)
set_option maxRecDepth 20000 in
theorem gX7_hear_X7_isSheet : GoodIn wsX7_hear (va_wsS RX7 174 yX7_isSheet wsX7_isSheet) := goodIn_app (goodIn_of _ (by decide +kernel)) ggX7_hear_X7_isSheet
set_option maxRecDepth 20000 in
theorem ggX7_hear_X7_findClaps : GoodIn wsX7_hear wsX7_findClaps := goodIn_r _ [18, 19, 20, 21, 6, 4, 7, 33, 34, 35, 36, 37, 38, 39, 40, 41, 42, 43, 44, 45, 46, 47, 48, 49, 50, 51, 52, 53, 54, 55, 56, 57, 58, 59, 60, 61, 62, 63, 64, 65, 66, 67, 68, 69, 70, 71] (by decide +kernel) (by decide +kernel)
set_option maxRecDepth 20000 in
theorem gX7_hear_X7_findClaps : GoodIn wsX7_hear (wsV RX7 178 RX7 yX7_findClaps wsX7_findClaps) := goodIn_app (goodIn_of _ (by decide +kernel)) ggX7_hear_X7_findClaps
set_option maxRecDepth 20000 in
theorem ggX7_hear_X7_within : GoodIn wsX7_hear wsX7_within := goodIn_r _ [24] (by decide +kernel) (by decide +kernel)
set_option maxRecDepth 20000 in
theorem gX7_hear_X7_within : GoodIn wsX7_hear (va_wsS RX7 106 yX7_within wsX7_within) := goodIn_app (goodIn_of _ (by decide +kernel)) ggX7_hear_X7_within
set_option maxRecDepth 20000 in
theorem ggX7_hear_X7_paceOf : GoodIn wsX7_hear wsX7_paceOf := goodIn_r _ [28, 29, 30, 31, 10, 32, 6, 19, 7, 4, 22, 23, 24, 33, 34, 35, 36, 37, 38, 39, 40, 41, 42, 43, 44, 45, 46, 47, 48, 49, 50, 51, 52, 53, 54, 55, 56, 57, 58, 59, 60, 61, 62, 63, 64, 65, 66, 67, 68, 69, 70, 71] (by decide +kernel) (by decide +kernel)
set_option maxRecDepth 20000 in
theorem gX7_hear_X7_paceOf : GoodIn wsX7_hear (wsV RX7 181 RX7 yX7_paceOf wsX7_paceOf) := goodIn_app (goodIn_of _ (by decide +kernel)) ggX7_hear_X7_paceOf
theorem dX7_hear_0 : decode cX7_hear 0 = .ok (.iload_n 1, 1) := by decide +kernel
theorem dX7_hear_1 : decode cX7_hear 1 = .ok (.invokestatic 174, 3) := by decide +kernel
theorem dX7_hear_4 : decode cX7_hear 4 = .ok (.ifCond .ne 6, 3) := by decide +kernel
theorem dX7_hear_7 : decode cX7_hear 7 = .ok (.ldc 89, 2) := by decide +kernel
theorem dX7_hear_9 : decode cX7_hear 9 = .ok (.ireturn, 1) := by decide +kernel
theorem dX7_hear_10 : decode cX7_hear 10 = .ok (.aload_n 0, 1) := by decide +kernel
theorem dX7_hear_11 : decode cX7_hear 11 = .ok (.getfield 57, 3) := by decide +kernel
theorem dX7_hear_14 : decode cX7_hear 14 = .ok (.iload_n 1, 1) := by decide +kernel
theorem dX7_hear_15 : decode cX7_hear 15 = .ok (.iaload, 1) := by decide +kernel
theorem dX7_hear_16 : decode cX7_hear 16 = .ok (.ifCond .ge 6, 3) := by decide +kernel
theorem dX7_hear_19 : decode cX7_hear 19 = .ok (.ldc 177, 2) := by decide +kernel
theorem dX7_hear_21 : decode cX7_hear 21 = .ok (.ireturn, 1) := by decide +kernel
theorem dX7_hear_22 : decode cX7_hear 22 = .ok (.aload_n 0, 1) := by decide +kernel
theorem dX7_hear_23 : decode cX7_hear 23 = .ok (.iload_n 1, 1) := by decide +kernel
theorem dX7_hear_24 : decode cX7_hear 24 = .ok (.invokevirtual 178, 3) := by decide +kernel
theorem dX7_hear_27 : decode cX7_hear 27 = .ok (.ifCond .ne 6, 3) := by decide +kernel
theorem dX7_hear_30 : decode cX7_hear 30 = .ok (.ldc 84, 2) := by decide +kernel
theorem dX7_hear_32 : decode cX7_hear 32 = .ok (.ireturn, 1) := by decide +kernel
theorem dX7_hear_33 : decode cX7_hear 33 = .ok (.aload_n 0, 1) := by decide +kernel
theorem dX7_hear_34 : decode cX7_hear 34 = .ok (.getfield 9, 3) := by decide +kernel
theorem dX7_hear_37 : decode cX7_hear 37 = .ok (.iconst 4, 1) := by decide +kernel
theorem dX7_hear_38 : decode cX7_hear 38 = .ok (.aload_n 0, 1) := by decide +kernel
theorem dX7_hear_39 : decode cX7_hear 39 = .ok (.getfield 63, 3) := by decide +kernel
theorem dX7_hear_42 : decode cX7_hear 42 = .ok (.bipush 24, 2) := by decide +kernel
theorem dX7_hear_44 : decode cX7_hear 44 = .ok (.iload_n 1, 1) := by decide +kernel
theorem dX7_hear_45 : decode cX7_hear 45 = .ok (.imul, 1) := by decide +kernel
theorem dX7_hear_46 : decode cX7_hear 46 = .ok (.aload_n 0, 1) := by decide +kernel
theorem dX7_hear_47 : decode cX7_hear 47 = .ok (.getfield 168, 3) := by decide +kernel
theorem dX7_hear_50 : decode cX7_hear 50 = .ok (.iadd, 1) := by decide +kernel
theorem dX7_hear_51 : decode cX7_hear 51 = .ok (.iaload, 1) := by decide +kernel
theorem dX7_hear_52 : decode cX7_hear 52 = .ok (.iconst 3, 1) := by decide +kernel
theorem dX7_hear_53 : decode cX7_hear 53 = .ok (.idiv, 1) := by decide +kernel
theorem dX7_hear_54 : decode cX7_hear 54 = .ok (.iconst 0, 1) := by decide +kernel
theorem dX7_hear_55 : decode cX7_hear 55 = .ok (.bipush 99, 2) := by decide +kernel
theorem dX7_hear_57 : decode cX7_hear 57 = .ok (.invokestatic 106, 3) := by decide +kernel
theorem dX7_hear_60 : decode cX7_hear 60 = .ok (.iastore, 1) := by decide +kernel
theorem dX7_hear_61 : decode cX7_hear 61 = .ok (.aload_n 0, 1) := by decide +kernel
theorem dX7_hear_62 : decode cX7_hear 62 = .ok (.getfield 9, 3) := by decide +kernel
theorem dX7_hear_65 : decode cX7_hear 65 = .ok (.iconst 5, 1) := by decide +kernel
theorem dX7_hear_66 : decode cX7_hear 66 = .ok (.aload_n 0, 1) := by decide +kernel
theorem dX7_hear_67 : decode cX7_hear 67 = .ok (.iload_n 1, 1) := by decide +kernel
theorem dX7_hear_68 : decode cX7_hear 68 = .ok (.invokevirtual 181, 3) := by decide +kernel
theorem dX7_hear_71 : decode cX7_hear 71 = .ok (.iastore, 1) := by decide +kernel
theorem dX7_hear_72 : decode cX7_hear 72 = .ok (.aload_n 0, 1) := by decide +kernel
theorem dX7_hear_73 : decode cX7_hear 73 = .ok (.getfield 9, 3) := by decide +kernel
theorem dX7_hear_76 : decode cX7_hear 76 = .ok (.iconst 4, 1) := by decide +kernel
theorem dX7_hear_77 : decode cX7_hear 77 = .ok (.iaload, 1) := by decide +kernel
theorem dX7_hear_78 : decode cX7_hear 78 = .ok (.ireturn, 1) := by decide +kernel
theorem dX7_feed_0 : decode cX7_feed 0 = .ok (.aload_n 0, 1) := by decide +kernel
theorem dX7_feed_1 : decode cX7_feed 1 = .ok (.getfield 184, 3) := by decide +kernel
theorem dX7_feed_4 : decode cX7_feed 4 = .ok (.bipush 12, 2) := by decide +kernel
theorem dX7_feed_6 : decode cX7_feed 6 = .ok (.iadd, 1) := by decide +kernel
theorem dX7_feed_7 : decode cX7_feed 7 = .ok (.bipush 96, 2) := by decide +kernel
theorem dX7_feed_9 : decode cX7_feed 9 = .ok (.if_icmp .le 6, 3) := by decide +kernel
theorem dX7_feed_12 : decode cX7_feed 12 = .ok (.ldc 90, 2) := by decide +kernel
theorem dX7_feed_14 : decode cX7_feed 14 = .ok (.ireturn, 1) := by decide +kernel
theorem dX7_feed_15 : decode cX7_feed 15 = .ok (.iconst 0, 1) := by decide +kernel
theorem dX7_feed_16 : decode cX7_feed 16 = .ok (.istore 4, 2) := by decide +kernel
theorem dX7_feed_18 : decode cX7_feed 18 = .ok (.iload 4, 2) := by decide +kernel
theorem dX7_feed_20 : decode cX7_feed 20 = .ok (.bipush 12, 2) := by decide +kernel
theorem dX7_feed_22 : decode cX7_feed 22 = .ok (.if_icmp .ge 62, 3) := by decide +kernel
theorem dX7_feed_25 : decode cX7_feed 25 = .ok (.iload 4, 2) := by decide +kernel
theorem dX7_feed_27 : decode cX7_feed 27 = .ok (.iconst 4, 1) := by decide +kernel
theorem dX7_feed_28 : decode cX7_feed 28 = .ok (.if_icmp .ge 7, 3) := by decide +kernel
theorem dX7_feed_31 : decode cX7_feed 31 = .ok (.iload_n 1, 1) := by decide +kernel
theorem dX7_feed_32 : decode cX7_feed 32 = .ok (.goto 15, 3) := by decide +kernel
theorem dX7_feed_35 : decode cX7_feed 35 = .ok (.iload 4, 2) := by decide +kernel
theorem dX7_feed_37 : decode cX7_feed 37 = .ok (.bipush 8, 2) := by decide +kernel
theorem dX7_feed_39 : decode cX7_feed 39 = .ok (.if_icmp .ge 7, 3) := by decide +kernel
theorem dX7_feed_42 : decode cX7_feed 42 = .ok (.iload_n 2, 1) := by decide +kernel
theorem dX7_feed_43 : decode cX7_feed 43 = .ok (.goto 4, 3) := by decide +kernel
theorem dX7_feed_46 : decode cX7_feed 46 = .ok (.iload_n 3, 1) := by decide +kernel
theorem dX7_feed_47 : decode cX7_feed 47 = .ok (.istore 5, 2) := by decide +kernel
theorem dX7_feed_49 : decode cX7_feed 49 = .ok (.aload_n 0, 1) := by decide +kernel
theorem dX7_feed_50 : decode cX7_feed 50 = .ok (.getfield 31, 3) := by decide +kernel
theorem dX7_feed_53 : decode cX7_feed 53 = .ok (.aload_n 0, 1) := by decide +kernel
theorem dX7_feed_54 : decode cX7_feed 54 = .ok (.getfield 184, 3) := by decide +kernel
theorem dX7_feed_57 : decode cX7_feed 57 = .ok (.iload 4, 2) := by decide +kernel
theorem dX7_feed_59 : decode cX7_feed 59 = .ok (.iadd, 1) := by decide +kernel
theorem dX7_feed_60 : decode cX7_feed 60 = .ok (.iload 5, 2) := by decide +kernel
theorem dX7_feed_62 : decode cX7_feed 62 = .ok (.bipush 24, 2) := by decide +kernel
theorem dX7_feed_64 : decode cX7_feed 64 = .ok (.bipush 8, 2) := by decide +kernel
theorem dX7_feed_66 : decode cX7_feed 66 = .ok (.iload 4, 2) := by decide +kernel
theorem dX7_feed_68 : decode cX7_feed 68 = .ok (.iconst 4, 1) := by decide +kernel
theorem dX7_feed_69 : decode cX7_feed 69 = .ok (.irem, 1) := by decide +kernel
theorem dX7_feed_70 : decode cX7_feed 70 = .ok (.imul, 1) := by decide +kernel
theorem dX7_feed_71 : decode cX7_feed 71 = .ok (.isub, 1) := by decide +kernel
theorem dX7_feed_72 : decode cX7_feed 72 = .ok (.ishr, 1) := by decide +kernel
theorem dX7_feed_73 : decode cX7_feed 73 = .ok (.sipush 255, 3) := by decide +kernel
theorem dX7_feed_76 : decode cX7_feed 76 = .ok (.iand, 1) := by decide +kernel
theorem dX7_feed_77 : decode cX7_feed 77 = .ok (.iastore, 1) := by decide +kernel
theorem dX7_feed_78 : decode cX7_feed 78 = .ok (.iinc 4 1, 3) := by decide +kernel
theorem dX7_feed_81 : decode cX7_feed 81 = .ok (.goto (-63), 3) := by decide +kernel
theorem dX7_feed_84 : decode cX7_feed 84 = .ok (.aload_n 0, 1) := by decide +kernel
theorem dX7_feed_85 : decode cX7_feed 85 = .ok (.dup, 1) := by decide +kernel
theorem dX7_feed_86 : decode cX7_feed 86 = .ok (.getfield 184, 3) := by decide +kernel
theorem dX7_feed_89 : decode cX7_feed 89 = .ok (.bipush 12, 2) := by decide +kernel
theorem dX7_feed_91 : decode cX7_feed 91 = .ok (.iadd, 1) := by decide +kernel
theorem dX7_feed_92 : decode cX7_feed 92 = .ok (.putfield 184, 3) := by decide +kernel
theorem dX7_feed_95 : decode cX7_feed 95 = .ok (.aload_n 0, 1) := by decide +kernel
theorem dX7_feed_96 : decode cX7_feed 96 = .ok (.getfield 184, 3) := by decide +kernel
theorem dX7_feed_99 : decode cX7_feed 99 = .ok (.ireturn, 1) := by decide +kernel
set_option maxRecDepth 20000 in
theorem ggX7_trim_X7_in : GoodIn wsX7_trim wsX7_in := goodIn_r _ [6] (by decide +kernel) (by decide +kernel)
set_option maxRecDepth 20000 in
theorem gX7_trim_X7_in : GoodIn wsX7_trim (va_wsS RX7 85 yX7_in wsX7_in) := goodIn_app (goodIn_of _ (by decide +kernel)) ggX7_trim_X7_in
theorem dX7_trim_0 : decode cX7_trim 0 = .ok (.iload_n 1, 1) := by decide +kernel
theorem dX7_trim_1 : decode cX7_trim 1 = .ok (.iconst 0, 1) := by decide +kernel
theorem dX7_trim_2 : decode cX7_trim 2 = .ok (.aload_n 0, 1) := by decide +kernel
theorem dX7_trim_3 : decode cX7_trim 3 = .ok (.getfield 184, 3) := by decide +kernel
theorem dX7_trim_6 : decode cX7_trim 6 = .ok (.invokestatic 85, 3) := by decide +kernel
theorem dX7_trim_9 : decode cX7_trim 9 = .ok (.ifCond .ne 6, 3) := by decide +kernel
theorem dX7_trim_12 : decode cX7_trim 12 = .ok (.ldc 89, 2) := by decide +kernel
theorem dX7_trim_14 : decode cX7_trim 14 = .ok (.ireturn, 1) := by decide +kernel
theorem dX7_trim_15 : decode cX7_trim 15 = .ok (.aload_n 0, 1) := by decide +kernel
theorem dX7_trim_16 : decode cX7_trim 16 = .ok (.iload_n 1, 1) := by decide +kernel
theorem dX7_trim_17 : decode cX7_trim 17 = .ok (.putfield 184, 3) := by decide +kernel
theorem dX7_trim_20 : decode cX7_trim 20 = .ok (.iload_n 1, 1) := by decide +kernel
theorem dX7_trim_21 : decode cX7_trim 21 = .ok (.ireturn, 1) := by decide +kernel
theorem dX7_isLetter_0 : decode cX7_isLetter 0 = .ok (.iload_n 1, 1) := by decide +kernel
theorem dX7_isLetter_1 : decode cX7_isLetter 1 = .ok (.aload_n 0, 1) := by decide +kernel
theorem dX7_isLetter_2 : decode cX7_isLetter 2 = .ok (.getfield 184, 3) := by decide +kernel
theorem dX7_isLetter_5 : decode cX7_isLetter 5 = .ok (.if_icmp .ge 29, 3) := by decide +kernel
theorem dX7_isLetter_8 : decode cX7_isLetter 8 = .ok (.aload_n 0, 1) := by decide +kernel
theorem dX7_isLetter_9 : decode cX7_isLetter 9 = .ok (.getfield 31, 3) := by decide +kernel
theorem dX7_isLetter_12 : decode cX7_isLetter 12 = .ok (.iload_n 1, 1) := by decide +kernel
theorem dX7_isLetter_13 : decode cX7_isLetter 13 = .ok (.iaload, 1) := by decide +kernel
theorem dX7_isLetter_14 : decode cX7_isLetter 14 = .ok (.bipush 97, 2) := by decide +kernel
theorem dX7_isLetter_16 : decode cX7_isLetter 16 = .ok (.if_icmp .lt 18, 3) := by decide +kernel
theorem dX7_isLetter_19 : decode cX7_isLetter 19 = .ok (.aload_n 0, 1) := by decide +kernel
theorem dX7_isLetter_20 : decode cX7_isLetter 20 = .ok (.getfield 31, 3) := by decide +kernel
theorem dX7_isLetter_23 : decode cX7_isLetter 23 = .ok (.iload_n 1, 1) := by decide +kernel
theorem dX7_isLetter_24 : decode cX7_isLetter 24 = .ok (.iaload, 1) := by decide +kernel
theorem dX7_isLetter_25 : decode cX7_isLetter 25 = .ok (.bipush 122, 2) := by decide +kernel
theorem dX7_isLetter_27 : decode cX7_isLetter 27 = .ok (.if_icmp .gt 7, 3) := by decide +kernel
theorem dX7_isLetter_30 : decode cX7_isLetter 30 = .ok (.iconst 1, 1) := by decide +kernel
theorem dX7_isLetter_31 : decode cX7_isLetter 31 = .ok (.goto 4, 3) := by decide +kernel
theorem dX7_isLetter_34 : decode cX7_isLetter 34 = .ok (.iconst 0, 1) := by decide +kernel
theorem dX7_isLetter_35 : decode cX7_isLetter 35 = .ok (.ireturn, 1) := by decide +kernel
theorem dX7_isFigure_0 : decode cX7_isFigure 0 = .ok (.iload_n 1, 1) := by decide +kernel
theorem dX7_isFigure_1 : decode cX7_isFigure 1 = .ok (.aload_n 0, 1) := by decide +kernel
theorem dX7_isFigure_2 : decode cX7_isFigure 2 = .ok (.getfield 184, 3) := by decide +kernel
theorem dX7_isFigure_5 : decode cX7_isFigure 5 = .ok (.if_icmp .ge 29, 3) := by decide +kernel
theorem dX7_isFigure_8 : decode cX7_isFigure 8 = .ok (.aload_n 0, 1) := by decide +kernel
theorem dX7_isFigure_9 : decode cX7_isFigure 9 = .ok (.getfield 31, 3) := by decide +kernel
theorem dX7_isFigure_12 : decode cX7_isFigure 12 = .ok (.iload_n 1, 1) := by decide +kernel
theorem dX7_isFigure_13 : decode cX7_isFigure 13 = .ok (.iaload, 1) := by decide +kernel
theorem dX7_isFigure_14 : decode cX7_isFigure 14 = .ok (.bipush 48, 2) := by decide +kernel
theorem dX7_isFigure_16 : decode cX7_isFigure 16 = .ok (.if_icmp .lt 18, 3) := by decide +kernel
theorem dX7_isFigure_19 : decode cX7_isFigure 19 = .ok (.aload_n 0, 1) := by decide +kernel
theorem dX7_isFigure_20 : decode cX7_isFigure 20 = .ok (.getfield 31, 3) := by decide +kernel
theorem dX7_isFigure_23 : decode cX7_isFigure 23 = .ok (.iload_n 1, 1) := by decide +kernel
theorem dX7_isFigure_24 : decode cX7_isFigure 24 = .ok (.iaload, 1) := by decide +kernel
theorem dX7_isFigure_25 : decode cX7_isFigure 25 = .ok (.bipush 57, 2) := by decide +kernel
theorem dX7_isFigure_27 : decode cX7_isFigure 27 = .ok (.if_icmp .gt 7, 3) := by decide +kernel
theorem dX7_isFigure_30 : decode cX7_isFigure 30 = .ok (.iconst 1, 1) := by decide +kernel
theorem dX7_isFigure_31 : decode cX7_isFigure 31 = .ok (.goto 4, 3) := by decide +kernel
theorem dX7_isFigure_34 : decode cX7_isFigure 34 = .ok (.iconst 0, 1) := by decide +kernel
theorem dX7_isFigure_35 : decode cX7_isFigure 35 = .ok (.ireturn, 1) := by decide +kernel
set_option maxRecDepth 20000 in
theorem ggX7_go_X7_isLetter : GoodIn wsX7_go wsX7_isLetter := goodIn_r _ [12, 2, 3, 17, 18, 19, 20, 21, 22, 23, 24, 25, 26, 27, 28, 29, 30, 31, 32, 33, 34, 35, 36, 37, 38, 39, 40, 41, 42, 43, 44, 45, 46, 47, 48, 49, 50, 51, 52, 53, 54, 55] (by decide +kernel) (by decide +kernel)
set_option maxRecDepth 20000 in
theorem gX7_go_X7_isLetter : GoodIn wsX7_go (wsV RX7 199 RX7 yX7_isLetter wsX7_isLetter) := goodIn_app (goodIn_of _ (by decide +kernel)) ggX7_go_X7_isLetter
set_option maxRecDepth 20000 in
theorem ggX7_go_X7_isFigure : GoodIn wsX7_go wsX7_isFigure := goodIn_r _ [16, 2, 3, 17, 18, 19, 20, 21, 22, 23, 24, 25, 26, 27, 28, 29, 30, 31, 32, 33, 34, 35, 36, 37, 38, 39, 40, 41, 42, 43, 44, 45, 46, 47, 48, 49, 50, 51, 52, 53, 54, 55] (by decide +kernel) (by decide +kernel)
set_option maxRecDepth 20000 in
theorem gX7_go_X7_isFigure : GoodIn wsX7_go (wsV RX7 205 RX7 yX7_isFigure wsX7_isFigure) := goodIn_app (goodIn_of _ (by decide +kernel)) ggX7_go_X7_isFigure
theorem dX7_go_0 : decode cX7_go 0 = .ok (.aload_n 0, 1) := by decide +kernel
theorem dX7_go_1 : decode cX7_go 1 = .ok (.getfield 187, 3) := by decide +kernel
theorem dX7_go_4 : decode cX7_go 4 = .ok (.aload_n 0, 1) := by decide +kernel
theorem dX7_go_5 : decode cX7_go 5 = .ok (.getfield 184, 3) := by decide +kernel
theorem dX7_go_8 : decode cX7_go 8 = .ok (.if_icmp .ge 30, 3) := by decide +kernel
theorem dX7_go_11 : decode cX7_go 11 = .ok (.aload_n 0, 1) := by decide +kernel
theorem dX7_go_12 : decode cX7_go 12 = .ok (.getfield 31, 3) := by decide +kernel
theorem dX7_go_15 : decode cX7_go 15 = .ok (.aload_n 0, 1) := by decide +kernel
theorem dX7_go_16 : decode cX7_go 16 = .ok (.getfield 187, 3) := by decide +kernel
theorem dX7_go_19 : decode cX7_go 19 = .ok (.iaload, 1) := by decide +kernel
theorem dX7_go_20 : decode cX7_go 20 = .ok (.bipush 32, 2) := by decide +kernel
theorem dX7_go_22 : decode cX7_go 22 = .ok (.if_icmp .ne 16, 3) := by decide +kernel
theorem dX7_go_25 : decode cX7_go 25 = .ok (.aload_n 0, 1) := by decide +kernel
theorem dX7_go_26 : decode cX7_go 26 = .ok (.dup, 1) := by decide +kernel
theorem dX7_go_27 : decode cX7_go 27 = .ok (.getfield 187, 3) := by decide +kernel
theorem dX7_go_30 : decode cX7_go 30 = .ok (.iconst 1, 1) := by decide +kernel
theorem dX7_go_31 : decode cX7_go 31 = .ok (.iadd, 1) := by decide +kernel
theorem dX7_go_32 : decode cX7_go 32 = .ok (.putfield 187, 3) := by decide +kernel
theorem dX7_go_35 : decode cX7_go 35 = .ok (.goto (-35), 3) := by decide +kernel
theorem dX7_go_38 : decode cX7_go 38 = .ok (.aload_n 0, 1) := by decide +kernel
theorem dX7_go_39 : decode cX7_go 39 = .ok (.aload_n 0, 1) := by decide +kernel
theorem dX7_go_40 : decode cX7_go 40 = .ok (.getfield 187, 3) := by decide +kernel
theorem dX7_go_43 : decode cX7_go 43 = .ok (.putfield 190, 3) := by decide +kernel
theorem dX7_go_46 : decode cX7_go 46 = .ok (.aload_n 0, 1) := by decide +kernel
theorem dX7_go_47 : decode cX7_go 47 = .ok (.getfield 190, 3) := by decide +kernel
theorem dX7_go_50 : decode cX7_go 50 = .ok (.aload_n 0, 1) := by decide +kernel
theorem dX7_go_51 : decode cX7_go 51 = .ok (.getfield 193, 3) := by decide +kernel
theorem dX7_go_54 : decode cX7_go 54 = .ok (.if_icmp .ne 7, 3) := by decide +kernel
theorem dX7_go_57 : decode cX7_go 57 = .ok (.iconst 1, 1) := by decide +kernel
theorem dX7_go_58 : decode cX7_go 58 = .ok (.goto 4, 3) := by decide +kernel
theorem dX7_go_61 : decode cX7_go 61 = .ok (.iconst 0, 1) := by decide +kernel
theorem dX7_go_62 : decode cX7_go 62 = .ok (.istore_n 1, 1) := by decide +kernel
theorem dX7_go_63 : decode cX7_go 63 = .ok (.aload_n 0, 1) := by decide +kernel
theorem dX7_go_64 : decode cX7_go 64 = .ok (.getfield 190, 3) := by decide +kernel
theorem dX7_go_67 : decode cX7_go 67 = .ok (.aload_n 0, 1) := by decide +kernel
theorem dX7_go_68 : decode cX7_go 68 = .ok (.getfield 184, 3) := by decide +kernel
theorem dX7_go_71 : decode cX7_go 71 = .ok (.if_icmp .ne 11, 3) := by decide +kernel
theorem dX7_go_74 : decode cX7_go 74 = .ok (.aload_n 0, 1) := by decide +kernel
theorem dX7_go_75 : decode cX7_go 75 = .ok (.iconst 0, 1) := by decide +kernel
theorem dX7_go_76 : decode cX7_go 76 = .ok (.putfield 196, 3) := by decide +kernel
theorem dX7_go_79 : decode cX7_go 79 = .ok (.goto 224, 3) := by decide +kernel
theorem dX7_go_82 : decode cX7_go 82 = .ok (.aload_n 0, 1) := by decide +kernel
theorem dX7_go_83 : decode cX7_go 83 = .ok (.aload_n 0, 1) := by decide +kernel
theorem dX7_go_84 : decode cX7_go 84 = .ok (.getfield 190, 3) := by decide +kernel
theorem dX7_go_87 : decode cX7_go 87 = .ok (.invokevirtual 199, 3) := by decide +kernel
theorem dX7_go_90 : decode cX7_go 90 = .ok (.ifCond .eq 64, 3) := by decide +kernel
theorem dX7_go_93 : decode cX7_go 93 = .ok (.aload_n 0, 1) := by decide +kernel
theorem dX7_go_94 : decode cX7_go 94 = .ok (.aload_n 0, 1) := by decide +kernel
theorem dX7_go_95 : decode cX7_go 95 = .ok (.getfield 187, 3) := by decide +kernel
theorem dX7_go_98 : decode cX7_go 98 = .ok (.invokevirtual 199, 3) := by decide +kernel
theorem dX7_go_101 : decode cX7_go 101 = .ok (.ifCond .eq 16, 3) := by decide +kernel
theorem dX7_go_104 : decode cX7_go 104 = .ok (.aload_n 0, 1) := by decide +kernel
theorem dX7_go_105 : decode cX7_go 105 = .ok (.dup, 1) := by decide +kernel
theorem dX7_go_106 : decode cX7_go 106 = .ok (.getfield 187, 3) := by decide +kernel
theorem dX7_go_109 : decode cX7_go 109 = .ok (.iconst 1, 1) := by decide +kernel
theorem dX7_go_110 : decode cX7_go 110 = .ok (.iadd, 1) := by decide +kernel
theorem dX7_go_111 : decode cX7_go 111 = .ok (.putfield 187, 3) := by decide +kernel
theorem dX7_go_114 : decode cX7_go 114 = .ok (.goto (-21), 3) := by decide +kernel
theorem dX7_go_117 : decode cX7_go 117 = .ok (.aload_n 0, 1) := by decide +kernel
theorem dX7_go_118 : decode cX7_go 118 = .ok (.iload_n 1, 1) := by decide +kernel
theorem dX7_go_119 : decode cX7_go 119 = .ok (.ifCond .eq 7, 3) := by decide +kernel
theorem dX7_go_122 : decode cX7_go 122 = .ok (.iconst 4, 1) := by decide +kernel
theorem dX7_go_123 : decode cX7_go 123 = .ok (.goto 4, 3) := by decide +kernel
theorem dX7_go_126 : decode cX7_go 126 = .ok (.iconst 1, 1) := by decide +kernel
theorem dX7_go_127 : decode cX7_go 127 = .ok (.putfield 196, 3) := by decide +kernel
theorem dX7_go_130 : decode cX7_go 130 = .ok (.aload_n 0, 1) := by decide +kernel
theorem dX7_go_131 : decode cX7_go 131 = .ok (.aload_n 0, 1) := by decide +kernel
theorem dX7_go_132 : decode cX7_go 132 = .ok (.getfield 31, 3) := by decide +kernel
theorem dX7_go_135 : decode cX7_go 135 = .ok (.aload_n 0, 1) := by decide +kernel
theorem dX7_go_136 : decode cX7_go 136 = .ok (.getfield 190, 3) := by decide +kernel
theorem dX7_go_139 : decode cX7_go 139 = .ok (.iaload, 1) := by decide +kernel
theorem dX7_go_140 : decode cX7_go 140 = .ok (.putfield 202, 3) := by decide +kernel
theorem dX7_go_143 : decode cX7_go 143 = .ok (.aload_n 0, 1) := by decide +kernel
theorem dX7_go_144 : decode cX7_go 144 = .ok (.aload_n 0, 1) := by decide +kernel
theorem dX7_go_145 : decode cX7_go 145 = .ok (.getfield 187, 3) := by decide +kernel
theorem dX7_go_148 : decode cX7_go 148 = .ok (.putfield 193, 3) := by decide +kernel
theorem dX7_go_151 : decode cX7_go 151 = .ok (.goto 152, 3) := by decide +kernel
theorem dX7_go_154 : decode cX7_go 154 = .ok (.aload_n 0, 1) := by decide +kernel
theorem dX7_go_155 : decode cX7_go 155 = .ok (.aload_n 0, 1) := by decide +kernel
theorem dX7_go_156 : decode cX7_go 156 = .ok (.getfield 190, 3) := by decide +kernel
theorem dX7_go_159 : decode cX7_go 159 = .ok (.invokevirtual 205, 3) := by decide +kernel
theorem dX7_go_162 : decode cX7_go 162 = .ok (.ifCond .eq 113, 3) := by decide +kernel
theorem dX7_go_165 : decode cX7_go 165 = .ok (.aload_n 0, 1) := by decide +kernel
theorem dX7_go_166 : decode cX7_go 166 = .ok (.iconst 0, 1) := by decide +kernel
theorem dX7_go_167 : decode cX7_go 167 = .ok (.putfield 202, 3) := by decide +kernel
theorem dX7_go_170 : decode cX7_go 170 = .ok (.aload_n 0, 1) := by decide +kernel
theorem dX7_go_171 : decode cX7_go 171 = .ok (.aload_n 0, 1) := by decide +kernel
theorem dX7_go_172 : decode cX7_go 172 = .ok (.getfield 187, 3) := by decide +kernel
theorem dX7_go_175 : decode cX7_go 175 = .ok (.invokevirtual 205, 3) := by decide +kernel
theorem dX7_go_178 : decode cX7_go 178 = .ok (.ifCond .eq 60, 3) := by decide +kernel
theorem dX7_go_181 : decode cX7_go 181 = .ok (.aload_n 0, 1) := by decide +kernel
theorem dX7_go_182 : decode cX7_go 182 = .ok (.aload_n 0, 1) := by decide +kernel
theorem dX7_go_183 : decode cX7_go 183 = .ok (.getfield 187, 3) := by decide +kernel
theorem dX7_go_186 : decode cX7_go 186 = .ok (.aload_n 0, 1) := by decide +kernel
theorem dX7_go_187 : decode cX7_go 187 = .ok (.getfield 190, 3) := by decide +kernel
theorem dX7_go_190 : decode cX7_go 190 = .ok (.isub, 1) := by decide +kernel
theorem dX7_go_191 : decode cX7_go 191 = .ok (.iconst 4, 1) := by decide +kernel
theorem dX7_go_192 : decode cX7_go 192 = .ok (.if_icmp .ge 26, 3) := by decide +kernel
theorem dX7_go_195 : decode cX7_go 195 = .ok (.bipush 10, 2) := by decide +kernel
theorem dX7_go_197 : decode cX7_go 197 = .ok (.aload_n 0, 1) := by decide +kernel
theorem dX7_go_198 : decode cX7_go 198 = .ok (.getfield 202, 3) := by decide +kernel
theorem dX7_go_201 : decode cX7_go 201 = .ok (.imul, 1) := by decide +kernel
theorem dX7_go_202 : decode cX7_go 202 = .ok (.aload_n 0, 1) := by decide +kernel
theorem dX7_go_203 : decode cX7_go 203 = .ok (.getfield 31, 3) := by decide +kernel
theorem dX7_go_206 : decode cX7_go 206 = .ok (.aload_n 0, 1) := by decide +kernel
theorem dX7_go_207 : decode cX7_go 207 = .ok (.getfield 187, 3) := by decide +kernel
theorem dX7_go_210 : decode cX7_go 210 = .ok (.iaload, 1) := by decide +kernel
theorem dX7_go_211 : decode cX7_go 211 = .ok (.iadd, 1) := by decide +kernel
theorem dX7_go_212 : decode cX7_go 212 = .ok (.bipush 48, 2) := by decide +kernel
theorem dX7_go_214 : decode cX7_go 214 = .ok (.isub, 1) := by decide +kernel
theorem dX7_go_215 : decode cX7_go 215 = .ok (.goto 7, 3) := by decide +kernel
theorem dX7_go_218 : decode cX7_go 218 = .ok (.aload_n 0, 1) := by decide +kernel
theorem dX7_go_219 : decode cX7_go 219 = .ok (.getfield 202, 3) := by decide +kernel
theorem dX7_go_222 : decode cX7_go 222 = .ok (.putfield 202, 3) := by decide +kernel
theorem dX7_go_225 : decode cX7_go 225 = .ok (.aload_n 0, 1) := by decide +kernel
theorem dX7_go_226 : decode cX7_go 226 = .ok (.dup, 1) := by decide +kernel
theorem dX7_go_227 : decode cX7_go 227 = .ok (.getfield 187, 3) := by decide +kernel
theorem dX7_go_230 : decode cX7_go 230 = .ok (.iconst 1, 1) := by decide +kernel
theorem dX7_go_231 : decode cX7_go 231 = .ok (.iadd, 1) := by decide +kernel
theorem dX7_go_232 : decode cX7_go 232 = .ok (.putfield 187, 3) := by decide +kernel
theorem dX7_go_235 : decode cX7_go 235 = .ok (.goto (-65), 3) := by decide +kernel
theorem dX7_go_238 : decode cX7_go 238 = .ok (.aload_n 0, 1) := by decide +kernel
theorem dX7_go_239 : decode cX7_go 239 = .ok (.iload_n 1, 1) := by decide +kernel
theorem dX7_go_240 : decode cX7_go 240 = .ok (.ifCond .ne 16, 3) := by decide +kernel
theorem dX7_go_243 : decode cX7_go 243 = .ok (.aload_n 0, 1) := by decide +kernel
theorem dX7_go_244 : decode cX7_go 244 = .ok (.getfield 187, 3) := by decide +kernel
theorem dX7_go_247 : decode cX7_go 247 = .ok (.aload_n 0, 1) := by decide +kernel
theorem dX7_go_248 : decode cX7_go 248 = .ok (.getfield 190, 3) := by decide +kernel
theorem dX7_go_251 : decode cX7_go 251 = .ok (.isub, 1) := by decide +kernel
theorem dX7_go_252 : decode cX7_go 252 = .ok (.iconst 4, 1) := by decide +kernel
theorem dX7_go_253 : decode cX7_go 253 = .ok (.if_icmp .le 7, 3) := by decide +kernel
theorem dX7_go_256 : decode cX7_go 256 = .ok (.iconst 4, 1) := by decide +kernel
theorem dX7_go_257 : decode cX7_go 257 = .ok (.goto 4, 3) := by decide +kernel
theorem dX7_go_260 : decode cX7_go 260 = .ok (.iconst 2, 1) := by decide +kernel
theorem dX7_go_261 : decode cX7_go 261 = .ok (.putfield 196, 3) := by decide +kernel
theorem dX7_go_264 : decode cX7_go 264 = .ok (.aload_n 0, 1) := by decide +kernel
theorem dX7_go_265 : decode cX7_go 265 = .ok (.aload_n 0, 1) := by decide +kernel
theorem dX7_go_266 : decode cX7_go 266 = .ok (.getfield 187, 3) := by decide +kernel
theorem dX7_go_269 : decode cX7_go 269 = .ok (.putfield 193, 3) := by decide +kernel
theorem dX7_go_272 : decode cX7_go 272 = .ok (.goto 31, 3) := by decide +kernel
theorem dX7_go_275 : decode cX7_go 275 = .ok (.aload_n 0, 1) := by decide +kernel
theorem dX7_go_276 : decode cX7_go 276 = .ok (.iconst 3, 1) := by decide +kernel
theorem dX7_go_277 : decode cX7_go 277 = .ok (.putfield 196, 3) := by decide +kernel
theorem dX7_go_280 : decode cX7_go 280 = .ok (.aload_n 0, 1) := by decide +kernel
theorem dX7_go_281 : decode cX7_go 281 = .ok (.aload_n 0, 1) := by decide +kernel
theorem dX7_go_282 : decode cX7_go 282 = .ok (.getfield 31, 3) := by decide +kernel
theorem dX7_go_285 : decode cX7_go 285 = .ok (.aload_n 0, 1) := by decide +kernel
theorem dX7_go_286 : decode cX7_go 286 = .ok (.getfield 190, 3) := by decide +kernel
theorem dX7_go_289 : decode cX7_go 289 = .ok (.iaload, 1) := by decide +kernel
theorem dX7_go_290 : decode cX7_go 290 = .ok (.putfield 202, 3) := by decide +kernel
theorem dX7_go_293 : decode cX7_go 293 = .ok (.aload_n 0, 1) := by decide +kernel
theorem dX7_go_294 : decode cX7_go 294 = .ok (.dup, 1) := by decide +kernel
theorem dX7_go_295 : decode cX7_go 295 = .ok (.getfield 187, 3) := by decide +kernel
theorem dX7_go_298 : decode cX7_go 298 = .ok (.iconst 1, 1) := by decide +kernel
theorem dX7_go_299 : decode cX7_go 299 = .ok (.iadd, 1) := by decide +kernel
theorem dX7_go_300 : decode cX7_go 300 = .ok (.putfield 187, 3) := by decide +kernel
theorem dX7_go_303 : decode cX7_go 303 = .ok (.return_, 1) := by decide +kernel
set_option maxRecDepth 20000 in
theorem ggX7_takesKey_X7_go : GoodIn wsX7_takesKey wsX7_go := goodIn_r _ [12, 3, 13, 5, 4, 14, 1, 15, 16, 17, 18, 11, 19, 20, 21, 22, 23, 24, 25, 26, 27, 28, 29, 30, 31, 32, 33, 34, 35, 36, 37, 38, 39, 40, 41, 42, 43, 44, 45, 46, 47, 48, 49, 50, 51, 52, 53, 54, 55, 56, 57, 58, 59, 60, 61, 62] (by decide +kernel) (by decide +kernel)
set_option maxRecDepth 20000 in
theorem gX7_takesKey_X7_go : GoodIn wsX7_takesKey (wsV RX7 211 RX7 yX7_go wsX7_go) := goodIn_app (goodIn_of _ (by decide +kernel)) ggX7_takesKey_X7_go
theorem dX7_takesKey_0 : decode cX7_takesKey 0 = .ok (.aload_n 0, 1) := by decide +kernel
theorem dX7_takesKey_1 : decode cX7_takesKey 1 = .ok (.getfield 196, 3) := by decide +kernel
theorem dX7_takesKey_4 : decode cX7_takesKey 4 = .ok (.iconst 1, 1) := by decide +kernel
theorem dX7_takesKey_5 : decode cX7_takesKey 5 = .ok (.if_icmp .eq 5, 3) := by decide +kernel
theorem dX7_takesKey_8 : decode cX7_takesKey 8 = .ok (.iconst 0, 1) := by decide +kernel
theorem dX7_takesKey_9 : decode cX7_takesKey 9 = .ok (.ireturn, 1) := by decide +kernel
theorem dX7_takesKey_10 : decode cX7_takesKey 10 = .ok (.iconst 0, 1) := by decide +kernel
theorem dX7_takesKey_11 : decode cX7_takesKey 11 = .ok (.istore_n 1, 1) := by decide +kernel
theorem dX7_takesKey_12 : decode cX7_takesKey 12 = .ok (.iload_n 1, 1) := by decide +kernel
theorem dX7_takesKey_13 : decode cX7_takesKey 13 = .ok (.iconst 3, 1) := by decide +kernel
theorem dX7_takesKey_14 : decode cX7_takesKey 14 = .ok (.if_icmp .ge 113, 3) := by decide +kernel
theorem dX7_takesKey_17 : decode cX7_takesKey 17 = .ok (.aload_n 0, 1) := by decide +kernel
theorem dX7_takesKey_18 : decode cX7_takesKey 18 = .ok (.getfield 38, 3) := by decide +kernel
theorem dX7_takesKey_21 : decode cX7_takesKey 21 = .ok (.iload_n 1, 1) := by decide +kernel
theorem dX7_takesKey_22 : decode cX7_takesKey 22 = .ok (.iconst 1, 1) := by decide +kernel
theorem dX7_takesKey_23 : decode cX7_takesKey 23 = .ok (.iadd, 1) := by decide +kernel
theorem dX7_takesKey_24 : decode cX7_takesKey 24 = .ok (.iaload, 1) := by decide +kernel
theorem dX7_takesKey_25 : decode cX7_takesKey 25 = .ok (.aload_n 0, 1) := by decide +kernel
theorem dX7_takesKey_26 : decode cX7_takesKey 26 = .ok (.getfield 38, 3) := by decide +kernel
theorem dX7_takesKey_29 : decode cX7_takesKey 29 = .ok (.iload_n 1, 1) := by decide +kernel
theorem dX7_takesKey_30 : decode cX7_takesKey 30 = .ok (.iaload, 1) := by decide +kernel
theorem dX7_takesKey_31 : decode cX7_takesKey 31 = .ok (.isub, 1) := by decide +kernel
theorem dX7_takesKey_32 : decode cX7_takesKey 32 = .ok (.istore_n 2, 1) := by decide +kernel
theorem dX7_takesKey_33 : decode cX7_takesKey 33 = .ok (.iload_n 2, 1) := by decide +kernel
theorem dX7_takesKey_34 : decode cX7_takesKey 34 = .ok (.aload_n 0, 1) := by decide +kernel
theorem dX7_takesKey_35 : decode cX7_takesKey 35 = .ok (.getfield 187, 3) := by decide +kernel
theorem dX7_takesKey_38 : decode cX7_takesKey 38 = .ok (.aload_n 0, 1) := by decide +kernel
theorem dX7_takesKey_39 : decode cX7_takesKey 39 = .ok (.getfield 190, 3) := by decide +kernel
theorem dX7_takesKey_42 : decode cX7_takesKey 42 = .ok (.isub, 1) := by decide +kernel
theorem dX7_takesKey_43 : decode cX7_takesKey 43 = .ok (.if_icmp .ne 7, 3) := by decide +kernel
theorem dX7_takesKey_46 : decode cX7_takesKey 46 = .ok (.iconst 1, 1) := by decide +kernel
theorem dX7_takesKey_47 : decode cX7_takesKey 47 = .ok (.goto 4, 3) := by decide +kernel
theorem dX7_takesKey_50 : decode cX7_takesKey 50 = .ok (.iconst 0, 1) := by decide +kernel
theorem dX7_takesKey_51 : decode cX7_takesKey 51 = .ok (.istore_n 3, 1) := by decide +kernel
theorem dX7_takesKey_52 : decode cX7_takesKey 52 = .ok (.iconst 0, 1) := by decide +kernel
theorem dX7_takesKey_53 : decode cX7_takesKey 53 = .ok (.istore 4, 2) := by decide +kernel
theorem dX7_takesKey_55 : decode cX7_takesKey 55 = .ok (.iload 4, 2) := by decide +kernel
theorem dX7_takesKey_57 : decode cX7_takesKey 57 = .ok (.iload_n 2, 1) := by decide +kernel
theorem dX7_takesKey_58 : decode cX7_takesKey 58 = .ok (.if_icmp .ge 48, 3) := by decide +kernel
theorem dX7_takesKey_61 : decode cX7_takesKey 61 = .ok (.iload_n 3, 1) := by decide +kernel
theorem dX7_takesKey_62 : decode cX7_takesKey 62 = .ok (.ifCond .eq 44, 3) := by decide +kernel
theorem dX7_takesKey_65 : decode cX7_takesKey 65 = .ok (.aload_n 0, 1) := by decide +kernel
theorem dX7_takesKey_66 : decode cX7_takesKey 66 = .ok (.getfield 31, 3) := by decide +kernel
theorem dX7_takesKey_69 : decode cX7_takesKey 69 = .ok (.aload_n 0, 1) := by decide +kernel
theorem dX7_takesKey_70 : decode cX7_takesKey 70 = .ok (.getfield 190, 3) := by decide +kernel
theorem dX7_takesKey_73 : decode cX7_takesKey 73 = .ok (.iload 4, 2) := by decide +kernel
theorem dX7_takesKey_75 : decode cX7_takesKey 75 = .ok (.iadd, 1) := by decide +kernel
theorem dX7_takesKey_76 : decode cX7_takesKey 76 = .ok (.iaload, 1) := by decide +kernel
theorem dX7_takesKey_77 : decode cX7_takesKey 77 = .ok (.aload_n 0, 1) := by decide +kernel
theorem dX7_takesKey_78 : decode cX7_takesKey 78 = .ok (.getfield 34, 3) := by decide +kernel
theorem dX7_takesKey_81 : decode cX7_takesKey 81 = .ok (.aload_n 0, 1) := by decide +kernel
theorem dX7_takesKey_82 : decode cX7_takesKey 82 = .ok (.getfield 38, 3) := by decide +kernel
theorem dX7_takesKey_85 : decode cX7_takesKey 85 = .ok (.iload_n 1, 1) := by decide +kernel
theorem dX7_takesKey_86 : decode cX7_takesKey 86 = .ok (.iaload, 1) := by decide +kernel
theorem dX7_takesKey_87 : decode cX7_takesKey 87 = .ok (.iload 4, 2) := by decide +kernel
theorem dX7_takesKey_89 : decode cX7_takesKey 89 = .ok (.iadd, 1) := by decide +kernel
theorem dX7_takesKey_90 : decode cX7_takesKey 90 = .ok (.caload, 1) := by decide +kernel
theorem dX7_takesKey_91 : decode cX7_takesKey 91 = .ok (.if_icmp .ne 7, 3) := by decide +kernel
theorem dX7_takesKey_94 : decode cX7_takesKey 94 = .ok (.iconst 1, 1) := by decide +kernel
theorem dX7_takesKey_95 : decode cX7_takesKey 95 = .ok (.goto 4, 3) := by decide +kernel
theorem dX7_takesKey_98 : decode cX7_takesKey 98 = .ok (.iconst 0, 1) := by decide +kernel
theorem dX7_takesKey_99 : decode cX7_takesKey 99 = .ok (.istore_n 3, 1) := by decide +kernel
theorem dX7_takesKey_100 : decode cX7_takesKey 100 = .ok (.iinc 4 1, 3) := by decide +kernel
theorem dX7_takesKey_103 : decode cX7_takesKey 103 = .ok (.goto (-48), 3) := by decide +kernel
theorem dX7_takesKey_106 : decode cX7_takesKey 106 = .ok (.iload_n 3, 1) := by decide +kernel
theorem dX7_takesKey_107 : decode cX7_takesKey 107 = .ok (.ifCond .eq 14, 3) := by decide +kernel
theorem dX7_takesKey_110 : decode cX7_takesKey 110 = .ok (.aload_n 0, 1) := by decide +kernel
theorem dX7_takesKey_111 : decode cX7_takesKey 111 = .ok (.iload_n 1, 1) := by decide +kernel
theorem dX7_takesKey_112 : decode cX7_takesKey 112 = .ok (.putfield 208, 3) := by decide +kernel
theorem dX7_takesKey_115 : decode cX7_takesKey 115 = .ok (.aload_n 0, 1) := by decide +kernel
theorem dX7_takesKey_116 : decode cX7_takesKey 116 = .ok (.invokevirtual 211, 3) := by decide +kernel
theorem dX7_takesKey_119 : decode cX7_takesKey 119 = .ok (.iconst 1, 1) := by decide +kernel
theorem dX7_takesKey_120 : decode cX7_takesKey 120 = .ok (.ireturn, 1) := by decide +kernel
theorem dX7_takesKey_121 : decode cX7_takesKey 121 = .ok (.iinc 1 1, 3) := by decide +kernel
theorem dX7_takesKey_124 : decode cX7_takesKey 124 = .ok (.goto (-112), 3) := by decide +kernel
theorem dX7_takesKey_127 : decode cX7_takesKey 127 = .ok (.iconst 0, 1) := by decide +kernel
theorem dX7_takesKey_128 : decode cX7_takesKey 128 = .ok (.ireturn, 1) := by decide +kernel
theorem dX7_nameOf_0 : decode cX7_nameOf 0 = .ok (.aload_n 0, 1) := by decide +kernel
theorem dX7_nameOf_1 : decode cX7_nameOf 1 = .ok (.getfield 208, 3) := by decide +kernel
theorem dX7_nameOf_4 : decode cX7_nameOf 4 = .ok (.lookupswitch 72 #[(0, 28), (1, 50)], 28) := by decide +kernel
theorem dX7_nameOf_32 : decode cX7_nameOf 32 = .ok (.iload_n 1, 1) := by decide +kernel
theorem dX7_nameOf_33 : decode cX7_nameOf 33 = .ok (.bipush 104, 2) := by decide +kernel
theorem dX7_nameOf_35 : decode cX7_nameOf 35 = .ok (.if_icmp .ne 7, 3) := by decide +kernel
theorem dX7_nameOf_38 : decode cX7_nameOf 38 = .ok (.iconst 0, 1) := by decide +kernel
theorem dX7_nameOf_39 : decode cX7_nameOf 39 = .ok (.goto 14, 3) := by decide +kernel
theorem dX7_nameOf_42 : decode cX7_nameOf 42 = .ok (.iload_n 1, 1) := by decide +kernel
theorem dX7_nameOf_43 : decode cX7_nameOf 43 = .ok (.bipush 110, 2) := by decide +kernel
theorem dX7_nameOf_45 : decode cX7_nameOf 45 = .ok (.if_icmp .ne 7, 3) := by decide +kernel
theorem dX7_nameOf_48 : decode cX7_nameOf 48 = .ok (.iconst 1, 1) := by decide +kernel
theorem dX7_nameOf_49 : decode cX7_nameOf 49 = .ok (.goto 4, 3) := by decide +kernel
theorem dX7_nameOf_52 : decode cX7_nameOf 52 = .ok (.iconst (-1), 1) := by decide +kernel
theorem dX7_nameOf_53 : decode cX7_nameOf 53 = .ok (.ireturn, 1) := by decide +kernel
theorem dX7_nameOf_54 : decode cX7_nameOf 54 = .ok (.iload_n 1, 1) := by decide +kernel
theorem dX7_nameOf_55 : decode cX7_nameOf 55 = .ok (.bipush 100, 2) := by decide +kernel
theorem dX7_nameOf_57 : decode cX7_nameOf 57 = .ok (.if_icmp .ne 7, 3) := by decide +kernel
theorem dX7_nameOf_60 : decode cX7_nameOf 60 = .ok (.iconst 0, 1) := by decide +kernel
theorem dX7_nameOf_61 : decode cX7_nameOf 61 = .ok (.goto 14, 3) := by decide +kernel
theorem dX7_nameOf_64 : decode cX7_nameOf 64 = .ok (.iload_n 1, 1) := by decide +kernel
theorem dX7_nameOf_65 : decode cX7_nameOf 65 = .ok (.bipush 109, 2) := by decide +kernel
theorem dX7_nameOf_67 : decode cX7_nameOf 67 = .ok (.if_icmp .ne 7, 3) := by decide +kernel
theorem dX7_nameOf_70 : decode cX7_nameOf 70 = .ok (.iconst 1, 1) := by decide +kernel
theorem dX7_nameOf_71 : decode cX7_nameOf 71 = .ok (.goto 4, 3) := by decide +kernel
theorem dX7_nameOf_74 : decode cX7_nameOf 74 = .ok (.iconst (-1), 1) := by decide +kernel
theorem dX7_nameOf_75 : decode cX7_nameOf 75 = .ok (.ireturn, 1) := by decide +kernel
theorem dX7_nameOf_76 : decode cX7_nameOf 76 = .ok (.iload_n 1, 1) := by decide +kernel
theorem dX7_nameOf_77 : decode cX7_nameOf 77 = .ok (.bipush 102, 2) := by decide +kernel
theorem dX7_nameOf_79 : decode cX7_nameOf 79 = .ok (.if_icmp .ne 7, 3) := by decide +kernel
theorem dX7_nameOf_82 : decode cX7_nameOf 82 = .ok (.iconst 0, 1) := by decide +kernel
theorem dX7_nameOf_83 : decode cX7_nameOf 83 = .ok (.goto 24, 3) := by decide +kernel
theorem dX7_nameOf_86 : decode cX7_nameOf 86 = .ok (.iload_n 1, 1) := by decide +kernel
theorem dX7_nameOf_87 : decode cX7_nameOf 87 = .ok (.bipush 110, 2) := by decide +kernel
theorem dX7_nameOf_89 : decode cX7_nameOf 89 = .ok (.if_icmp .ne 7, 3) := by decide +kernel
theorem dX7_nameOf_92 : decode cX7_nameOf 92 = .ok (.iconst 1, 1) := by decide +kernel
theorem dX7_nameOf_93 : decode cX7_nameOf 93 = .ok (.goto 14, 3) := by decide +kernel
theorem dX7_nameOf_96 : decode cX7_nameOf 96 = .ok (.iload_n 1, 1) := by decide +kernel
theorem dX7_nameOf_97 : decode cX7_nameOf 97 = .ok (.bipush 109, 2) := by decide +kernel
theorem dX7_nameOf_99 : decode cX7_nameOf 99 = .ok (.if_icmp .ne 7, 3) := by decide +kernel
theorem dX7_nameOf_102 : decode cX7_nameOf 102 = .ok (.iconst 2, 1) := by decide +kernel
theorem dX7_nameOf_103 : decode cX7_nameOf 103 = .ok (.goto 4, 3) := by decide +kernel
theorem dX7_nameOf_106 : decode cX7_nameOf 106 = .ok (.iconst (-1), 1) := by decide +kernel
