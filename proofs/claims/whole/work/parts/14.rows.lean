theorem dX6_count_68 : decode cX6_count 68 = .ok (.aload_n 0, 1) := by decide +kernel
theorem dX6_count_69 : decode cX6_count 69 = .ok (.getfield 10, 3) := by decide +kernel
theorem dX6_count_72 : decode cX6_count 72 = .ok (.getfield 131, 3) := by decide +kernel
theorem dX6_count_75 : decode cX6_count 75 = .ok (.ireturn, 1) := by decide +kernel
theorem dX6_count_76 : decode cX6_count 76 = .ok (.aload_n 0, 1) := by decide +kernel
theorem dX6_count_77 : decode cX6_count 77 = .ok (.getfield 10, 3) := by decide +kernel
theorem dX6_count_80 : decode cX6_count 80 = .ok (.getfield 138, 3) := by decide +kernel
theorem dX6_count_83 : decode cX6_count 83 = .ok (.ireturn, 1) := by decide +kernel
theorem dX6_count_84 : decode cX6_count 84 = .ok (.aload_n 0, 1) := by decide +kernel
theorem dX6_count_85 : decode cX6_count 85 = .ok (.getfield 10, 3) := by decide +kernel
theorem dX6_count_88 : decode cX6_count 88 = .ok (.getfield 115, 3) := by decide +kernel
theorem dX6_count_91 : decode cX6_count 91 = .ok (.ireturn, 1) := by decide +kernel
theorem dX6_count_92 : decode cX6_count 92 = .ok (.aload_n 0, 1) := by decide +kernel
theorem dX6_count_93 : decode cX6_count 93 = .ok (.getfield 10, 3) := by decide +kernel
theorem dX6_count_96 : decode cX6_count 96 = .ok (.getfield 118, 3) := by decide +kernel
theorem dX6_count_99 : decode cX6_count 99 = .ok (.ireturn, 1) := by decide +kernel
theorem dX6_count_100 : decode cX6_count 100 = .ok (.aload_n 0, 1) := by decide +kernel
theorem dX6_count_101 : decode cX6_count 101 = .ok (.getfield 10, 3) := by decide +kernel
theorem dX6_count_104 : decode cX6_count 104 = .ok (.getfield 303, 3) := by decide +kernel
theorem dX6_count_107 : decode cX6_count 107 = .ok (.ireturn, 1) := by decide +kernel
theorem dX6_count_108 : decode cX6_count 108 = .ok (.aload_n 0, 1) := by decide +kernel
theorem dX6_count_109 : decode cX6_count 109 = .ok (.getfield 10, 3) := by decide +kernel
theorem dX6_count_112 : decode cX6_count 112 = .ok (.getfield 309, 3) := by decide +kernel
theorem dX6_count_115 : decode cX6_count 115 = .ok (.ireturn, 1) := by decide +kernel
theorem dX6_count_116 : decode cX6_count 116 = .ok (.aload_n 0, 1) := by decide +kernel
theorem dX6_count_117 : decode cX6_count 117 = .ok (.getfield 10, 3) := by decide +kernel
theorem dX6_count_120 : decode cX6_count 120 = .ok (.getfield 215, 3) := by decide +kernel
theorem dX6_count_123 : decode cX6_count 123 = .ok (.ireturn, 1) := by decide +kernel
theorem dX6_count_124 : decode cX6_count 124 = .ok (.aload_n 0, 1) := by decide +kernel
theorem dX6_count_125 : decode cX6_count 125 = .ok (.getfield 52, 3) := by decide +kernel
theorem dX6_count_128 : decode cX6_count 128 = .ok (.ireturn, 1) := by decide +kernel
theorem dX6_count_129 : decode cX6_count 129 = .ok (.aload_n 0, 1) := by decide +kernel
theorem dX6_count_130 : decode cX6_count 130 = .ok (.getfield 32, 3) := by decide +kernel
theorem dX6_count_133 : decode cX6_count 133 = .ok (.getfield 202, 3) := by decide +kernel
theorem dX6_count_136 : decode cX6_count 136 = .ok (.ireturn, 1) := by decide +kernel
theorem dX6_count_137 : decode cX6_count 137 = .ok (.aload_n 0, 1) := by decide +kernel
theorem dX6_count_138 : decode cX6_count 138 = .ok (.getfield 10, 3) := by decide +kernel
theorem dX6_count_141 : decode cX6_count 141 = .ok (.getfield 112, 3) := by decide +kernel
theorem dX6_count_144 : decode cX6_count 144 = .ok (.ireturn, 1) := by decide +kernel
theorem dX6_count_145 : decode cX6_count 145 = .ok (.ldc 70, 2) := by decide +kernel
theorem dX6_count_147 : decode cX6_count 147 = .ok (.ireturn, 1) := by decide +kernel
set_option maxRecDepth 20000 in
theorem ggX6_passBestMinute_X1_has : GoodIn wsX6_passBestMinute wsX1_has := goodIn_r _ [7, 8, 115, 116, 117, 118, 119, 120, 121, 122, 123, 124, 125, 126, 127, 128, 129] (by decide +kernel) (by decide +kernel)
set_option maxRecDepth 20000 in
theorem gX6_passBestMinute_X1_has : GoodIn wsX6_passBestMinute (wsV RX6 79 RX1 yX1_has wsX1_has) := goodIn_app (goodIn_of _ (by decide +kernel)) ggX6_passBestMinute_X1_has
set_option maxRecDepth 20000 in
theorem ggX6_passBestMinute_X5_grow : GoodIn wsX6_passBestMinute wsX5_grow := goodIn_r _ [13, 14, 15, 16, 17, 18, 19, 20, 21, 22, 23, 24, 25, 26, 27, 28, 6, 29, 30, 31, 32, 33, 34, 35, 36, 37, 38, 39, 40, 41, 42, 43, 44, 45, 46, 47, 48, 49, 50, 51, 52, 53, 54, 55, 56, 57, 58, 59, 60, 61, 62, 63, 64, 65, 66, 67, 12, 68, 69, 70, 140, 141, 142, 115, 116, 117, 118, 119, 120, 121, 122, 123, 124, 125, 126, 127, 128, 129, 143, 144, 145] (by decide +kernel) (by decide +kernel)
set_option maxRecDepth 20000 in
theorem gX6_passBestMinute_X5_grow : GoodIn wsX6_passBestMinute (wsV RX6 151 RX5 yX5_grow wsX5_grow) := goodIn_app (goodIn_of _ (by decide +kernel)) ggX6_passBestMinute_X5_grow
set_option maxRecDepth 20000 in
theorem ggX6_passBestMinute_X5_bestStep : GoodIn wsX6_passBestMinute wsX5_bestStep := goodIn_r _ [74, 75, 76, 77, 6, 78, 79, 80, 4, 5, 7, 8, 81, 82, 83, 12, 84, 15, 85, 86, 87, 88, 89, 90, 115, 116, 117, 118, 119, 120, 121, 122, 123, 124, 125, 126, 127, 128, 129, 140, 141, 142] (by decide +kernel) (by decide +kernel)
set_option maxRecDepth 20000 in
theorem gX6_passBestMinute_X5_bestStep : GoodIn wsX6_passBestMinute (wsV RX6 158 RX5 yX5_bestStep wsX5_bestStep) := goodIn_app (goodIn_of _ (by decide +kernel)) ggX6_passBestMinute_X5_bestStep
set_option maxRecDepth 20000 in
theorem ggX6_passBestMinute_X1_passMinute : GoodIn wsX6_passBestMinute wsX1_passMinute := goodIn_r _ [94, 95, 96, 97, 34, 98, 80, 4, 5, 6, 7, 8, 99, 100, 101, 102, 103, 104, 46, 47, 48, 49, 50, 51, 52, 53, 54, 55, 56, 57, 58, 59, 60, 61, 62, 63, 64, 36, 37, 38, 39, 40, 41, 42, 43, 44, 45, 105, 106, 107, 27, 28, 29, 30, 31, 32, 33, 35, 108, 109, 110, 111, 112, 113, 114, 86, 87, 88, 89, 115, 116, 117, 118, 119, 120, 121, 122, 123, 124, 125, 126, 127, 128, 129, 143, 144, 145] (by decide +kernel) (by decide +kernel)
set_option maxRecDepth 20000 in
theorem gX6_passBestMinute_X1_passMinute : GoodIn wsX6_passBestMinute (wsV RX6 141 RX1 yX1_passMinute wsX1_passMinute) := goodIn_app (goodIn_of _ (by decide +kernel)) ggX6_passBestMinute_X1_passMinute
theorem dX6_passBestMinute_0 : decode cX6_passBestMinute 0 = .ok (.iconst 2, 1) := by decide +kernel
theorem dX6_passBestMinute_1 : decode cX6_passBestMinute 1 = .ok (.istore_n 2, 1) := by decide +kernel
theorem dX6_passBestMinute_2 : decode cX6_passBestMinute 2 = .ok (.aload_n 1, 1) := by decide +kernel
theorem dX6_passBestMinute_3 : decode cX6_passBestMinute 3 = .ok (.aload_n 1, 1) := by decide +kernel
theorem dX6_passBestMinute_4 : decode cX6_passBestMinute 4 = .ok (.getfield 131, 3) := by decide +kernel
theorem dX6_passBestMinute_7 : decode cX6_passBestMinute 7 = .ok (.invokevirtual 79, 3) := by decide +kernel
theorem dX6_passBestMinute_10 : decode cX6_passBestMinute 10 = .ok (.ifCond .eq 26, 3) := by decide +kernel
theorem dX6_passBestMinute_13 : decode cX6_passBestMinute 13 = .ok (.aload_n 0, 1) := by decide +kernel
theorem dX6_passBestMinute_14 : decode cX6_passBestMinute 14 = .ok (.getfield 25, 3) := by decide +kernel
theorem dX6_passBestMinute_17 : decode cX6_passBestMinute 17 = .ok (.aload_n 1, 1) := by decide +kernel
theorem dX6_passBestMinute_18 : decode cX6_passBestMinute 18 = .ok (.bipush 20, 2) := by decide +kernel
theorem dX6_passBestMinute_20 : decode cX6_passBestMinute 20 = .ok (.invokevirtual 151, 3) := by decide +kernel
theorem dX6_passBestMinute_23 : decode cX6_passBestMinute 23 = .ok (.aload_n 0, 1) := by decide +kernel
theorem dX6_passBestMinute_24 : decode cX6_passBestMinute 24 = .ok (.getfield 25, 3) := by decide +kernel
theorem dX6_passBestMinute_27 : decode cX6_passBestMinute 27 = .ok (.aload_n 1, 1) := by decide +kernel
theorem dX6_passBestMinute_28 : decode cX6_passBestMinute 28 = .ok (.aload_n 1, 1) := by decide +kernel
theorem dX6_passBestMinute_29 : decode cX6_passBestMinute 29 = .ok (.getfield 131, 3) := by decide +kernel
theorem dX6_passBestMinute_32 : decode cX6_passBestMinute 32 = .ok (.invokevirtual 158, 3) := by decide +kernel
theorem dX6_passBestMinute_35 : decode cX6_passBestMinute 35 = .ok (.istore_n 2, 1) := by decide +kernel
theorem dX6_passBestMinute_36 : decode cX6_passBestMinute 36 = .ok (.aload_n 1, 1) := by decide +kernel
theorem dX6_passBestMinute_37 : decode cX6_passBestMinute 37 = .ok (.iload_n 2, 1) := by decide +kernel
theorem dX6_passBestMinute_38 : decode cX6_passBestMinute 38 = .ok (.invokevirtual 141, 3) := by decide +kernel
theorem dX6_passBestMinute_41 : decode cX6_passBestMinute 41 = .ok (.pop, 1) := by decide +kernel
theorem dX6_passBestMinute_42 : decode cX6_passBestMinute 42 = .ok (.return_, 1) := by decide +kernel
theorem dX6_isWaiting_0 : decode cX6_isWaiting 0 = .ok (.iload_n 1, 1) := by decide +kernel
theorem dX6_isWaiting_1 : decode cX6_isWaiting 1 = .ok (.iload_n 2, 1) := by decide +kernel
theorem dX6_isWaiting_2 : decode cX6_isWaiting 2 = .ok (.if_icmp .ge 23, 3) := by decide +kernel
theorem dX6_isWaiting_5 : decode cX6_isWaiting 5 = .ok (.iload_n 1, 1) := by decide +kernel
theorem dX6_isWaiting_6 : decode cX6_isWaiting 6 = .ok (.bipush 60, 2) := by decide +kernel
theorem dX6_isWaiting_8 : decode cX6_isWaiting 8 = .ok (.if_icmp .ge 17, 3) := by decide +kernel
theorem dX6_isWaiting_11 : decode cX6_isWaiting 11 = .ok (.aload_n 0, 1) := by decide +kernel
theorem dX6_isWaiting_12 : decode cX6_isWaiting 12 = .ok (.getfield 48, 3) := by decide +kernel
theorem dX6_isWaiting_15 : decode cX6_isWaiting 15 = .ok (.iload_n 1, 1) := by decide +kernel
theorem dX6_isWaiting_16 : decode cX6_isWaiting 16 = .ok (.iaload, 1) := by decide +kernel
theorem dX6_isWaiting_17 : decode cX6_isWaiting 17 = .ok (.iload_n 3, 1) := by decide +kernel
theorem dX6_isWaiting_18 : decode cX6_isWaiting 18 = .ok (.if_icmp .ne 7, 3) := by decide +kernel
theorem dX6_isWaiting_21 : decode cX6_isWaiting 21 = .ok (.iconst 1, 1) := by decide +kernel
theorem dX6_isWaiting_22 : decode cX6_isWaiting 22 = .ok (.goto 4, 3) := by decide +kernel
theorem dX6_isWaiting_25 : decode cX6_isWaiting 25 = .ok (.iconst 0, 1) := by decide +kernel
theorem dX6_isWaiting_26 : decode cX6_isWaiting 26 = .ok (.ireturn, 1) := by decide +kernel
theorem dX6_within_0 : decode cX6_within 0 = .ok (.iload_n 0, 1) := by decide +kernel
theorem dX6_within_1 : decode cX6_within 1 = .ok (.iload_n 1, 1) := by decide +kernel
theorem dX6_within_2 : decode cX6_within 2 = .ok (.if_icmp .lt 12, 3) := by decide +kernel
theorem dX6_within_5 : decode cX6_within 5 = .ok (.iload_n 0, 1) := by decide +kernel
theorem dX6_within_6 : decode cX6_within 6 = .ok (.iload_n 2, 1) := by decide +kernel
theorem dX6_within_7 : decode cX6_within 7 = .ok (.if_icmp .gt 7, 3) := by decide +kernel
theorem dX6_within_10 : decode cX6_within 10 = .ok (.iconst 1, 1) := by decide +kernel
theorem dX6_within_11 : decode cX6_within 11 = .ok (.goto 4, 3) := by decide +kernel
theorem dX6_within_14 : decode cX6_within 14 = .ok (.iconst 0, 1) := by decide +kernel
theorem dX6_within_15 : decode cX6_within 15 = .ok (.ireturn, 1) := by decide +kernel
theorem dX6_held_0 : decode cX6_held 0 = .ok (.iload_n 1, 1) := by decide +kernel
theorem dX6_held_1 : decode cX6_held 1 = .ok (.iload_n 2, 1) := by decide +kernel
theorem dX6_held_2 : decode cX6_held 2 = .ok (.iload_n 0, 1) := by decide +kernel
theorem dX6_held_3 : decode cX6_held 3 = .ok (.invokestatic 104, 3) := by decide +kernel
theorem dX6_held_6 : decode cX6_held 6 = .ok (.invokestatic 165, 3) := by decide +kernel
theorem dX6_held_9 : decode cX6_held 9 = .ok (.ireturn, 1) := by decide +kernel
theorem dX6_isKind_0 : decode cX6_isKind 0 = .ok (.iload_n 0, 1) := by decide +kernel
theorem dX6_isKind_1 : decode cX6_isKind 1 = .ok (.ifCond .lt 15, 3) := by decide +kernel
theorem dX6_isKind_4 : decode cX6_isKind 4 = .ok (.iload_n 0, 1) := by decide +kernel
theorem dX6_isKind_5 : decode cX6_isKind 5 = .ok (.getstatic 312, 3) := by decide +kernel
theorem dX6_isKind_8 : decode cX6_isKind 8 = .ok (.arraylength, 1) := by decide +kernel
theorem dX6_isKind_9 : decode cX6_isKind 9 = .ok (.if_icmp .ge 7, 3) := by decide +kernel
theorem dX6_isKind_12 : decode cX6_isKind 12 = .ok (.iconst 1, 1) := by decide +kernel
theorem dX6_isKind_13 : decode cX6_isKind 13 = .ok (.goto 4, 3) := by decide +kernel
theorem dX6_isKind_16 : decode cX6_isKind 16 = .ok (.iconst 0, 1) := by decide +kernel
theorem dX6_isKind_17 : decode cX6_isKind 17 = .ok (.ireturn, 1) := by decide +kernel
theorem dX6_isSheet_0 : decode cX6_isSheet 0 = .ok (.iload_n 0, 1) := by decide +kernel
theorem dX6_isSheet_1 : decode cX6_isSheet 1 = .ok (.ifCond .lt 12, 3) := by decide +kernel
theorem dX6_isSheet_4 : decode cX6_isSheet 4 = .ok (.iload_n 0, 1) := by decide +kernel
theorem dX6_isSheet_5 : decode cX6_isSheet 5 = .ok (.iconst 4, 1) := by decide +kernel
theorem dX6_isSheet_6 : decode cX6_isSheet 6 = .ok (.if_icmp .ge 7, 3) := by decide +kernel
theorem dX6_isSheet_9 : decode cX6_isSheet 9 = .ok (.iconst 1, 1) := by decide +kernel
theorem dX6_isSheet_10 : decode cX6_isSheet 10 = .ok (.goto 4, 3) := by decide +kernel
theorem dX6_isSheet_13 : decode cX6_isSheet 13 = .ok (.iconst 0, 1) := by decide +kernel
theorem dX6_isSheet_14 : decode cX6_isSheet 14 = .ok (.ireturn, 1) := by decide +kernel
theorem dX6_isSlot_0 : decode cX6_isSlot 0 = .ok (.iload_n 0, 1) := by decide +kernel
theorem dX6_isSlot_1 : decode cX6_isSlot 1 = .ok (.ifCond .lt 12, 3) := by decide +kernel
theorem dX6_isSlot_4 : decode cX6_isSlot 4 = .ok (.iload_n 0, 1) := by decide +kernel
theorem dX6_isSlot_5 : decode cX6_isSlot 5 = .ok (.iconst 5, 1) := by decide +kernel
theorem dX6_isSlot_6 : decode cX6_isSlot 6 = .ok (.if_icmp .ge 7, 3) := by decide +kernel
theorem dX6_isSlot_9 : decode cX6_isSlot 9 = .ok (.iconst 1, 1) := by decide +kernel
theorem dX6_isSlot_10 : decode cX6_isSlot 10 = .ok (.goto 4, 3) := by decide +kernel
theorem dX6_isSlot_13 : decode cX6_isSlot 13 = .ok (.iconst 0, 1) := by decide +kernel
theorem dX6_isSlot_14 : decode cX6_isSlot 14 = .ok (.ireturn, 1) := by decide +kernel
set_option maxRecDepth 20000 in
theorem ggX6_isOfKind_X6_isKind : GoodIn wsX6_isOfKind wsX6_isKind := goodIn_r _ [5, 1] (by decide +kernel) (by decide +kernel)
set_option maxRecDepth 20000 in
theorem gX6_isOfKind_X6_isKind : GoodIn wsX6_isOfKind (va_wsS RX6 62 yX6_isKind wsX6_isKind) := goodIn_app (goodIn_of _ (by decide +kernel)) ggX6_isOfKind_X6_isKind
theorem dX6_isOfKind_0 : decode cX6_isOfKind 0 = .ok (.iload_n 0, 1) := by decide +kernel
theorem dX6_isOfKind_1 : decode cX6_isOfKind 1 = .ok (.istore_n 2, 1) := by decide +kernel
theorem dX6_isOfKind_2 : decode cX6_isOfKind 2 = .ok (.iconst 0, 1) := by decide +kernel
theorem dX6_isOfKind_3 : decode cX6_isOfKind 3 = .ok (.istore_n 3, 1) := by decide +kernel
theorem dX6_isOfKind_4 : decode cX6_isOfKind 4 = .ok (.iload_n 3, 1) := by decide +kernel
theorem dX6_isOfKind_5 : decode cX6_isOfKind 5 = .ok (.getstatic 312, 3) := by decide +kernel
theorem dX6_isOfKind_8 : decode cX6_isOfKind 8 = .ok (.arraylength, 1) := by decide +kernel
theorem dX6_isOfKind_9 : decode cX6_isOfKind 9 = .ok (.if_icmp .ge 29, 3) := by decide +kernel
theorem dX6_isOfKind_12 : decode cX6_isOfKind 12 = .ok (.iload_n 2, 1) := by decide +kernel
theorem dX6_isOfKind_13 : decode cX6_isOfKind 13 = .ok (.invokestatic 62, 3) := by decide +kernel
theorem dX6_isOfKind_16 : decode cX6_isOfKind 16 = .ok (.ifCond .eq 22, 3) := by decide +kernel
theorem dX6_isOfKind_19 : decode cX6_isOfKind 19 = .ok (.iload_n 2, 1) := by decide +kernel
theorem dX6_isOfKind_20 : decode cX6_isOfKind 20 = .ok (.iload_n 1, 1) := by decide +kernel
theorem dX6_isOfKind_21 : decode cX6_isOfKind 21 = .ok (.if_icmp .ne 5, 3) := by decide +kernel
theorem dX6_isOfKind_24 : decode cX6_isOfKind 24 = .ok (.iconst 1, 1) := by decide +kernel
theorem dX6_isOfKind_25 : decode cX6_isOfKind 25 = .ok (.ireturn, 1) := by decide +kernel
theorem dX6_isOfKind_26 : decode cX6_isOfKind 26 = .ok (.getstatic 312, 3) := by decide +kernel
theorem dX6_isOfKind_29 : decode cX6_isOfKind 29 = .ok (.iload_n 2, 1) := by decide +kernel
theorem dX6_isOfKind_30 : decode cX6_isOfKind 30 = .ok (.iaload, 1) := by decide +kernel
theorem dX6_isOfKind_31 : decode cX6_isOfKind 31 = .ok (.istore_n 2, 1) := by decide +kernel
theorem dX6_isOfKind_32 : decode cX6_isOfKind 32 = .ok (.iinc 3 1, 3) := by decide +kernel
theorem dX6_isOfKind_35 : decode cX6_isOfKind 35 = .ok (.goto (-31), 3) := by decide +kernel
theorem dX6_isOfKind_38 : decode cX6_isOfKind 38 = .ok (.iconst 0, 1) := by decide +kernel
theorem dX6_isOfKind_39 : decode cX6_isOfKind 39 = .ok (.ireturn, 1) := by decide +kernel
theorem dX6_worthOf_0 : decode cX6_worthOf 0 = .ok (.iload_n 0, 1) := by decide +kernel
theorem dX6_worthOf_1 : decode cX6_worthOf 1 = .ok (.tableswitch 64 1 5 #[35, 47, 40, 52, 60], 35) := by decide +kernel
theorem dX6_worthOf_36 : decode cX6_worthOf 36 = .ok (.iload_n 1, 1) := by decide +kernel
theorem dX6_worthOf_37 : decode cX6_worthOf 37 = .ok (.bipush 7, 2) := by decide +kernel
theorem dX6_worthOf_39 : decode cX6_worthOf 39 = .ok (.iadd, 1) := by decide +kernel
theorem dX6_worthOf_40 : decode cX6_worthOf 40 = .ok (.ireturn, 1) := by decide +kernel
theorem dX6_worthOf_41 : decode cX6_worthOf 41 = .ok (.iconst 2, 1) := by decide +kernel
theorem dX6_worthOf_42 : decode cX6_worthOf 42 = .ok (.iload_n 1, 1) := by decide +kernel
theorem dX6_worthOf_43 : decode cX6_worthOf 43 = .ok (.bipush 7, 2) := by decide +kernel
theorem dX6_worthOf_45 : decode cX6_worthOf 45 = .ok (.iadd, 1) := by decide +kernel
theorem dX6_worthOf_46 : decode cX6_worthOf 46 = .ok (.imul, 1) := by decide +kernel
theorem dX6_worthOf_47 : decode cX6_worthOf 47 = .ok (.ireturn, 1) := by decide +kernel
theorem dX6_worthOf_48 : decode cX6_worthOf 48 = .ok (.bipush 100, 2) := by decide +kernel
theorem dX6_worthOf_50 : decode cX6_worthOf 50 = .ok (.iload_n 1, 1) := by decide +kernel
theorem dX6_worthOf_51 : decode cX6_worthOf 51 = .ok (.isub, 1) := by decide +kernel
theorem dX6_worthOf_52 : decode cX6_worthOf 52 = .ok (.ireturn, 1) := by decide +kernel
theorem dX6_worthOf_53 : decode cX6_worthOf 53 = .ok (.bipush 100, 2) := by decide +kernel
theorem dX6_worthOf_55 : decode cX6_worthOf 55 = .ok (.iload_n 1, 1) := by decide +kernel
theorem dX6_worthOf_56 : decode cX6_worthOf 56 = .ok (.isub, 1) := by decide +kernel
theorem dX6_worthOf_57 : decode cX6_worthOf 57 = .ok (.bipush 20, 2) := by decide +kernel
theorem dX6_worthOf_59 : decode cX6_worthOf 59 = .ok (.isub, 1) := by decide +kernel
theorem dX6_worthOf_60 : decode cX6_worthOf 60 = .ok (.ireturn, 1) := by decide +kernel
theorem dX6_worthOf_61 : decode cX6_worthOf 61 = .ok (.iload_n 1, 1) := by decide +kernel
theorem dX6_worthOf_62 : decode cX6_worthOf 62 = .ok (.iconst 2, 1) := by decide +kernel
theorem dX6_worthOf_63 : decode cX6_worthOf 63 = .ok (.idiv, 1) := by decide +kernel
theorem dX6_worthOf_64 : decode cX6_worthOf 64 = .ok (.ireturn, 1) := by decide +kernel
theorem dX6_worthOf_65 : decode cX6_worthOf 65 = .ok (.iload_n 1, 1) := by decide +kernel
theorem dX6_worthOf_66 : decode cX6_worthOf 66 = .ok (.ireturn, 1) := by decide +kernel
theorem dX6_riskBy_0 : decode cX6_riskBy 0 = .ok (.iload_n 0, 1) := by decide +kernel
theorem dX6_riskBy_1 : decode cX6_riskBy 1 = .ok (.tableswitch 62 1 5 #[35, 47, 40, 51, 57], 35) := by decide +kernel
theorem dX6_riskBy_36 : decode cX6_riskBy 36 = .ok (.iload_n 1, 1) := by decide +kernel
theorem dX6_riskBy_37 : decode cX6_riskBy 37 = .ok (.bipush 10, 2) := by decide +kernel
theorem dX6_riskBy_39 : decode cX6_riskBy 39 = .ok (.iadd, 1) := by decide +kernel
theorem dX6_riskBy_40 : decode cX6_riskBy 40 = .ok (.ireturn, 1) := by decide +kernel
theorem dX6_riskBy_41 : decode cX6_riskBy 41 = .ok (.iconst 2, 1) := by decide +kernel
theorem dX6_riskBy_42 : decode cX6_riskBy 42 = .ok (.iload_n 1, 1) := by decide +kernel
theorem dX6_riskBy_43 : decode cX6_riskBy 43 = .ok (.bipush 10, 2) := by decide +kernel
theorem dX6_riskBy_45 : decode cX6_riskBy 45 = .ok (.iadd, 1) := by decide +kernel
theorem dX6_riskBy_46 : decode cX6_riskBy 46 = .ok (.imul, 1) := by decide +kernel
theorem dX6_riskBy_47 : decode cX6_riskBy 47 = .ok (.ireturn, 1) := by decide +kernel
theorem dX6_riskBy_48 : decode cX6_riskBy 48 = .ok (.iload_n 1, 1) := by decide +kernel
theorem dX6_riskBy_49 : decode cX6_riskBy 49 = .ok (.iconst 2, 1) := by decide +kernel
theorem dX6_riskBy_50 : decode cX6_riskBy 50 = .ok (.idiv, 1) := by decide +kernel
theorem dX6_riskBy_51 : decode cX6_riskBy 51 = .ok (.ireturn, 1) := by decide +kernel
theorem dX6_riskBy_52 : decode cX6_riskBy 52 = .ok (.iload_n 1, 1) := by decide +kernel
theorem dX6_riskBy_53 : decode cX6_riskBy 53 = .ok (.iconst 2, 1) := by decide +kernel
theorem dX6_riskBy_54 : decode cX6_riskBy 54 = .ok (.idiv, 1) := by decide +kernel
theorem dX6_riskBy_55 : decode cX6_riskBy 55 = .ok (.iconst 5, 1) := by decide +kernel
theorem dX6_riskBy_56 : decode cX6_riskBy 56 = .ok (.iadd, 1) := by decide +kernel
theorem dX6_riskBy_57 : decode cX6_riskBy 57 = .ok (.ireturn, 1) := by decide +kernel
theorem dX6_riskBy_58 : decode cX6_riskBy 58 = .ok (.iload_n 1, 1) := by decide +kernel
theorem dX6_riskBy_59 : decode cX6_riskBy 59 = .ok (.bipush 20, 2) := by decide +kernel
theorem dX6_riskBy_61 : decode cX6_riskBy 61 = .ok (.iadd, 1) := by decide +kernel
theorem dX6_riskBy_62 : decode cX6_riskBy 62 = .ok (.ireturn, 1) := by decide +kernel
theorem dX6_riskBy_63 : decode cX6_riskBy 63 = .ok (.iload_n 1, 1) := by decide +kernel
theorem dX6_riskBy_64 : decode cX6_riskBy 64 = .ok (.ireturn, 1) := by decide +kernel
theorem dX6_firstLeast_0 : decode cX6_firstLeast 0 = .ok (.iload_n 1, 1) := by decide +kernel
theorem dX6_firstLeast_1 : decode cX6_firstLeast 1 = .ok (.istore_n 3, 1) := by decide +kernel
theorem dX6_firstLeast_2 : decode cX6_firstLeast 2 = .ok (.iload_n 1, 1) := by decide +kernel
theorem dX6_firstLeast_3 : decode cX6_firstLeast 3 = .ok (.iconst 1, 1) := by decide +kernel
theorem dX6_firstLeast_4 : decode cX6_firstLeast 4 = .ok (.iadd, 1) := by decide +kernel
theorem dX6_firstLeast_5 : decode cX6_firstLeast 5 = .ok (.istore 4, 2) := by decide +kernel
theorem dX6_firstLeast_7 : decode cX6_firstLeast 7 = .ok (.iload 4, 2) := by decide +kernel
theorem dX6_firstLeast_9 : decode cX6_firstLeast 9 = .ok (.iload_n 2, 1) := by decide +kernel
theorem dX6_firstLeast_10 : decode cX6_firstLeast 10 = .ok (.if_icmp .gt 22, 3) := by decide +kernel
theorem dX6_firstLeast_13 : decode cX6_firstLeast 13 = .ok (.aload_n 0, 1) := by decide +kernel
theorem dX6_firstLeast_14 : decode cX6_firstLeast 14 = .ok (.iload 4, 2) := by decide +kernel
theorem dX6_firstLeast_16 : decode cX6_firstLeast 16 = .ok (.iaload, 1) := by decide +kernel
theorem dX6_firstLeast_17 : decode cX6_firstLeast 17 = .ok (.aload_n 0, 1) := by decide +kernel
theorem dX6_firstLeast_18 : decode cX6_firstLeast 18 = .ok (.iload_n 3, 1) := by decide +kernel
theorem dX6_firstLeast_19 : decode cX6_firstLeast 19 = .ok (.iaload, 1) := by decide +kernel
theorem dX6_firstLeast_20 : decode cX6_firstLeast 20 = .ok (.if_icmp .ge 6, 3) := by decide +kernel
theorem dX6_firstLeast_23 : decode cX6_firstLeast 23 = .ok (.iload 4, 2) := by decide +kernel
theorem dX6_firstLeast_25 : decode cX6_firstLeast 25 = .ok (.istore_n 3, 1) := by decide +kernel
theorem dX6_firstLeast_26 : decode cX6_firstLeast 26 = .ok (.iinc 4 1, 3) := by decide +kernel
theorem dX6_firstLeast_29 : decode cX6_firstLeast 29 = .ok (.goto (-22), 3) := by decide +kernel
theorem dX6_firstLeast_32 : decode cX6_firstLeast 32 = .ok (.iload_n 3, 1) := by decide +kernel
theorem dX6_firstLeast_33 : decode cX6_firstLeast 33 = .ok (.ireturn, 1) := by decide +kernel
theorem dX7_init_0 : decode cX7_init 0 = .ok (.aload_n 0, 1) := by decide +kernel
theorem dX7_init_1 : decode cX7_init 1 = .ok (.invokespecial 1, 3) := by decide +kernel
theorem dX7_init_4 : decode cX7_init 4 = .ok (.aload_n 0, 1) := by decide +kernel
theorem dX7_init_5 : decode cX7_init 5 = .ok (.sipush 1453, 3) := by decide +kernel
theorem dX7_init_8 : decode cX7_init 8 = .ok (.newarray .int, 2) := by decide +kernel
theorem dX7_init_10 : decode cX7_init 10 = .ok (.putfield 9, 3) := by decide +kernel
theorem dX7_init_13 : decode cX7_init 13 = .ok (.aload_n 0, 1) := by decide +kernel
theorem dX7_init_14 : decode cX7_init 14 = .ok (.sipush 1453, 3) := by decide +kernel
theorem dX7_init_17 : decode cX7_init 17 = .ok (.newarray .int, 2) := by decide +kernel
theorem dX7_init_19 : decode cX7_init 19 = .ok (.putfield 13, 3) := by decide +kernel
theorem dX7_init_22 : decode cX7_init 22 = .ok (.aload_n 0, 1) := by decide +kernel
theorem dX7_init_23 : decode cX7_init 23 = .ok (.sipush 1453, 3) := by decide +kernel
theorem dX7_init_26 : decode cX7_init 26 = .ok (.newarray .int, 2) := by decide +kernel
theorem dX7_init_28 : decode cX7_init 28 = .ok (.putfield 16, 3) := by decide +kernel
theorem dX7_init_31 : decode cX7_init 31 = .ok (.aload_n 0, 1) := by decide +kernel
theorem dX7_init_32 : decode cX7_init 32 = .ok (.bipush 24, 2) := by decide +kernel
theorem dX7_init_34 : decode cX7_init 34 = .ok (.newarray .int, 2) := by decide +kernel
theorem dX7_init_36 : decode cX7_init 36 = .ok (.putfield 19, 3) := by decide +kernel
theorem dX7_init_39 : decode cX7_init 39 = .ok (.aload_n 0, 1) := by decide +kernel
theorem dX7_init_40 : decode cX7_init 40 = .ok (.bipush 24, 2) := by decide +kernel
theorem dX7_init_42 : decode cX7_init 42 = .ok (.newarray .int, 2) := by decide +kernel
theorem dX7_init_44 : decode cX7_init 44 = .ok (.putfield 22, 3) := by decide +kernel
theorem dX7_init_47 : decode cX7_init 47 = .ok (.aload_n 0, 1) := by decide +kernel
theorem dX7_init_48 : decode cX7_init 48 = .ok (.bipush 24, 2) := by decide +kernel
theorem dX7_init_50 : decode cX7_init 50 = .ok (.newarray .int, 2) := by decide +kernel
theorem dX7_init_52 : decode cX7_init 52 = .ok (.putfield 25, 3) := by decide +kernel
theorem dX7_init_55 : decode cX7_init 55 = .ok (.aload_n 0, 1) := by decide +kernel
theorem dX7_init_56 : decode cX7_init 56 = .ok (.bipush 24, 2) := by decide +kernel
theorem dX7_init_58 : decode cX7_init 58 = .ok (.newarray .int, 2) := by decide +kernel
theorem dX7_init_60 : decode cX7_init 60 = .ok (.putfield 28, 3) := by decide +kernel
theorem dX7_init_63 : decode cX7_init 63 = .ok (.aload_n 0, 1) := by decide +kernel
theorem dX7_init_64 : decode cX7_init 64 = .ok (.bipush 96, 2) := by decide +kernel
theorem dX7_init_66 : decode cX7_init 66 = .ok (.newarray .int, 2) := by decide +kernel
theorem dX7_init_68 : decode cX7_init 68 = .ok (.putfield 31, 3) := by decide +kernel
theorem dX7_init_71 : decode cX7_init 71 = .ok (.aload_n 0, 1) := by decide +kernel
theorem dX7_init_72 : decode cX7_init 72 = .ok (.bipush 12, 2) := by decide +kernel
theorem dX7_init_74 : decode cX7_init 74 = .ok (.newarray .char, 2) := by decide +kernel
theorem dX7_init_76 : decode cX7_init 76 = .ok (.dup, 1) := by decide +kernel
theorem dX7_init_77 : decode cX7_init 77 = .ok (.iconst 0, 1) := by decide +kernel
theorem dX7_init_78 : decode cX7_init 78 = .ok (.bipush 114, 2) := by decide +kernel
theorem dX7_init_80 : decode cX7_init 80 = .ok (.castore, 1) := by decide +kernel
theorem dX7_init_81 : decode cX7_init 81 = .ok (.dup, 1) := by decide +kernel
theorem dX7_init_82 : decode cX7_init 82 = .ok (.iconst 1, 1) := by decide +kernel
theorem dX7_init_83 : decode cX7_init 83 = .ok (.bipush 105, 2) := by decide +kernel
theorem dX7_init_85 : decode cX7_init 85 = .ok (.castore, 1) := by decide +kernel
theorem dX7_init_86 : decode cX7_init 86 = .ok (.dup, 1) := by decide +kernel
theorem dX7_init_87 : decode cX7_init 87 = .ok (.iconst 2, 1) := by decide +kernel
theorem dX7_init_88 : decode cX7_init 88 = .ok (.bipush 115, 2) := by decide +kernel
theorem dX7_init_90 : decode cX7_init 90 = .ok (.castore, 1) := by decide +kernel
theorem dX7_init_91 : decode cX7_init 91 = .ok (.dup, 1) := by decide +kernel
theorem dX7_init_92 : decode cX7_init 92 = .ok (.iconst 3, 1) := by decide +kernel
theorem dX7_init_93 : decode cX7_init 93 = .ok (.bipush 107, 2) := by decide +kernel
theorem dX7_init_95 : decode cX7_init 95 = .ok (.castore, 1) := by decide +kernel
theorem dX7_init_96 : decode cX7_init 96 = .ok (.dup, 1) := by decide +kernel
theorem dX7_init_97 : decode cX7_init 97 = .ok (.iconst 4, 1) := by decide +kernel
theorem dX7_init_98 : decode cX7_init 98 = .ok (.bipush 111, 2) := by decide +kernel
theorem dX7_init_100 : decode cX7_init 100 = .ok (.castore, 1) := by decide +kernel
theorem dX7_init_101 : decode cX7_init 101 = .ok (.dup, 1) := by decide +kernel
theorem dX7_init_102 : decode cX7_init 102 = .ok (.iconst 5, 1) := by decide +kernel
theorem dX7_init_103 : decode cX7_init 103 = .ok (.bipush 100, 2) := by decide +kernel
theorem dX7_init_105 : decode cX7_init 105 = .ok (.castore, 1) := by decide +kernel
theorem dX7_init_106 : decode cX7_init 106 = .ok (.dup, 1) := by decide +kernel
theorem dX7_init_107 : decode cX7_init 107 = .ok (.bipush 6, 2) := by decide +kernel
theorem dX7_init_109 : decode cX7_init 109 = .ok (.bipush 100, 2) := by decide +kernel
theorem dX7_init_111 : decode cX7_init 111 = .ok (.castore, 1) := by decide +kernel
theorem dX7_init_112 : decode cX7_init 112 = .ok (.dup, 1) := by decide +kernel
theorem dX7_init_113 : decode cX7_init 113 = .ok (.bipush 7, 2) := by decide +kernel
theorem dX7_init_115 : decode cX7_init 115 = .ok (.bipush 115, 2) := by decide +kernel
theorem dX7_init_117 : decode cX7_init 117 = .ok (.castore, 1) := by decide +kernel
theorem dX7_init_118 : decode cX7_init 118 = .ok (.dup, 1) := by decide +kernel
theorem dX7_init_119 : decode cX7_init 119 = .ok (.bipush 8, 2) := by decide +kernel
theorem dX7_init_121 : decode cX7_init 121 = .ok (.bipush 116, 2) := by decide +kernel
theorem dX7_init_123 : decode cX7_init 123 = .ok (.castore, 1) := by decide +kernel
theorem dX7_init_124 : decode cX7_init 124 = .ok (.dup, 1) := by decide +kernel
theorem dX7_init_125 : decode cX7_init 125 = .ok (.bipush 9, 2) := by decide +kernel
theorem dX7_init_127 : decode cX7_init 127 = .ok (.bipush 117, 2) := by decide +kernel
theorem dX7_init_129 : decode cX7_init 129 = .ok (.castore, 1) := by decide +kernel
theorem dX7_init_130 : decode cX7_init 130 = .ok (.dup, 1) := by decide +kernel
theorem dX7_init_131 : decode cX7_init 131 = .ok (.bipush 10, 2) := by decide +kernel
theorem dX7_init_133 : decode cX7_init 133 = .ok (.bipush 114, 2) := by decide +kernel
theorem dX7_init_135 : decode cX7_init 135 = .ok (.castore, 1) := by decide +kernel
theorem dX7_init_136 : decode cX7_init 136 = .ok (.dup, 1) := by decide +kernel
theorem dX7_init_137 : decode cX7_init 137 = .ok (.bipush 11, 2) := by decide +kernel
theorem dX7_init_139 : decode cX7_init 139 = .ok (.bipush 110, 2) := by decide +kernel
theorem dX7_init_141 : decode cX7_init 141 = .ok (.castore, 1) := by decide +kernel
theorem dX7_init_142 : decode cX7_init 142 = .ok (.putfield 34, 3) := by decide +kernel
theorem dX7_init_145 : decode cX7_init 145 = .ok (.aload_n 0, 1) := by decide +kernel
theorem dX7_init_146 : decode cX7_init 146 = .ok (.iconst 4, 1) := by decide +kernel
theorem dX7_init_147 : decode cX7_init 147 = .ok (.newarray .int, 2) := by decide +kernel
theorem dX7_init_149 : decode cX7_init 149 = .ok (.dup, 1) := by decide +kernel
theorem dX7_init_150 : decode cX7_init 150 = .ok (.iconst 0, 1) := by decide +kernel
theorem dX7_init_151 : decode cX7_init 151 = .ok (.iconst 0, 1) := by decide +kernel
theorem dX7_init_152 : decode cX7_init 152 = .ok (.iastore, 1) := by decide +kernel
theorem dX7_init_153 : decode cX7_init 153 = .ok (.dup, 1) := by decide +kernel
theorem dX7_init_154 : decode cX7_init 154 = .ok (.iconst 1, 1) := by decide +kernel
theorem dX7_init_155 : decode cX7_init 155 = .ok (.iconst 4, 1) := by decide +kernel
theorem dX7_init_156 : decode cX7_init 156 = .ok (.iastore, 1) := by decide +kernel
theorem dX7_init_157 : decode cX7_init 157 = .ok (.dup, 1) := by decide +kernel
theorem dX7_init_158 : decode cX7_init 158 = .ok (.iconst 2, 1) := by decide +kernel
theorem dX7_init_159 : decode cX7_init 159 = .ok (.bipush 8, 2) := by decide +kernel
theorem dX7_init_161 : decode cX7_init 161 = .ok (.iastore, 1) := by decide +kernel
theorem dX7_init_162 : decode cX7_init 162 = .ok (.dup, 1) := by decide +kernel
theorem dX7_init_163 : decode cX7_init 163 = .ok (.iconst 3, 1) := by decide +kernel
theorem dX7_init_164 : decode cX7_init 164 = .ok (.bipush 12, 2) := by decide +kernel
theorem dX7_init_166 : decode cX7_init 166 = .ok (.iastore, 1) := by decide +kernel
theorem dX7_init_167 : decode cX7_init 167 = .ok (.putfield 38, 3) := by decide +kernel
theorem dX7_init_170 : decode cX7_init 170 = .ok (.aload_n 0, 1) := by decide +kernel
theorem dX7_init_171 : decode cX7_init 171 = .ok (.bipush 96, 2) := by decide +kernel
theorem dX7_init_173 : decode cX7_init 173 = .ok (.newarray .int, 2) := by decide +kernel
theorem dX7_init_175 : decode cX7_init 175 = .ok (.putfield 41, 3) := by decide +kernel
theorem dX7_init_178 : decode cX7_init 178 = .ok (.aload_n 0, 1) := by decide +kernel
theorem dX7_init_179 : decode cX7_init 179 = .ok (.bipush 96, 2) := by decide +kernel
theorem dX7_init_181 : decode cX7_init 181 = .ok (.newarray .int, 2) := by decide +kernel
theorem dX7_init_183 : decode cX7_init 183 = .ok (.putfield 44, 3) := by decide +kernel
theorem dX7_init_186 : decode cX7_init 186 = .ok (.aload_n 0, 1) := by decide +kernel
theorem dX7_init_187 : decode cX7_init 187 = .ok (.bipush 10, 2) := by decide +kernel
theorem dX7_init_189 : decode cX7_init 189 = .ok (.newarray .boolean, 2) := by decide +kernel
theorem dX7_init_191 : decode cX7_init 191 = .ok (.putfield 47, 3) := by decide +kernel
theorem dX7_init_194 : decode cX7_init 194 = .ok (.aload_n 0, 1) := by decide +kernel
theorem dX7_init_195 : decode cX7_init 195 = .ok (.bipush 96, 2) := by decide +kernel
theorem dX7_init_197 : decode cX7_init 197 = .ok (.newarray .int, 2) := by decide +kernel
theorem dX7_init_199 : decode cX7_init 199 = .ok (.putfield 51, 3) := by decide +kernel
theorem dX7_init_202 : decode cX7_init 202 = .ok (.aload_n 0, 1) := by decide +kernel
theorem dX7_init_203 : decode cX7_init 203 = .ok (.iconst 4, 1) := by decide +kernel
theorem dX7_init_204 : decode cX7_init 204 = .ok (.newarray .int, 2) := by decide +kernel
theorem dX7_init_206 : decode cX7_init 206 = .ok (.putfield 54, 3) := by decide +kernel
theorem dX7_init_209 : decode cX7_init 209 = .ok (.aload_n 0, 1) := by decide +kernel
theorem dX7_init_210 : decode cX7_init 210 = .ok (.iconst 4, 1) := by decide +kernel
theorem dX7_init_211 : decode cX7_init 211 = .ok (.newarray .int, 2) := by decide +kernel
theorem dX7_init_213 : decode cX7_init 213 = .ok (.dup, 1) := by decide +kernel
theorem dX7_init_214 : decode cX7_init 214 = .ok (.iconst 0, 1) := by decide +kernel
theorem dX7_init_215 : decode cX7_init 215 = .ok (.iconst (-1), 1) := by decide +kernel
theorem dX7_init_216 : decode cX7_init 216 = .ok (.iastore, 1) := by decide +kernel
theorem dX7_init_217 : decode cX7_init 217 = .ok (.dup, 1) := by decide +kernel
theorem dX7_init_218 : decode cX7_init 218 = .ok (.iconst 1, 1) := by decide +kernel
theorem dX7_init_219 : decode cX7_init 219 = .ok (.iconst (-1), 1) := by decide +kernel
theorem dX7_init_220 : decode cX7_init 220 = .ok (.iastore, 1) := by decide +kernel
theorem dX7_init_221 : decode cX7_init 221 = .ok (.dup, 1) := by decide +kernel
theorem dX7_init_222 : decode cX7_init 222 = .ok (.iconst 2, 1) := by decide +kernel
theorem dX7_init_223 : decode cX7_init 223 = .ok (.iconst (-1), 1) := by decide +kernel
theorem dX7_init_224 : decode cX7_init 224 = .ok (.iastore, 1) := by decide +kernel
theorem dX7_init_225 : decode cX7_init 225 = .ok (.dup, 1) := by decide +kernel
theorem dX7_init_226 : decode cX7_init 226 = .ok (.iconst 3, 1) := by decide +kernel
theorem dX7_init_227 : decode cX7_init 227 = .ok (.iconst (-1), 1) := by decide +kernel
theorem dX7_init_228 : decode cX7_init 228 = .ok (.iastore, 1) := by decide +kernel
theorem dX7_init_229 : decode cX7_init 229 = .ok (.putfield 57, 3) := by decide +kernel
theorem dX7_init_232 : decode cX7_init 232 = .ok (.aload_n 0, 1) := by decide +kernel
theorem dX7_init_233 : decode cX7_init 233 = .ok (.iconst 4, 1) := by decide +kernel
theorem dX7_init_234 : decode cX7_init 234 = .ok (.newarray .int, 2) := by decide +kernel
theorem dX7_init_236 : decode cX7_init 236 = .ok (.putfield 60, 3) := by decide +kernel
theorem dX7_init_239 : decode cX7_init 239 = .ok (.aload_n 0, 1) := by decide +kernel
theorem dX7_init_240 : decode cX7_init 240 = .ok (.bipush 96, 2) := by decide +kernel
theorem dX7_init_242 : decode cX7_init 242 = .ok (.newarray .int, 2) := by decide +kernel
theorem dX7_init_244 : decode cX7_init 244 = .ok (.putfield 63, 3) := by decide +kernel
theorem dX7_init_247 : decode cX7_init 247 = .ok (.aload_n 0, 1) := by decide +kernel
theorem dX7_init_248 : decode cX7_init 248 = .ok (.iconst 5, 1) := by decide +kernel
theorem dX7_init_249 : decode cX7_init 249 = .ok (.newarray .int, 2) := by decide +kernel
theorem dX7_init_251 : decode cX7_init 251 = .ok (.putfield 66, 3) := by decide +kernel
theorem dX7_init_254 : decode cX7_init 254 = .ok (.aload_n 0, 1) := by decide +kernel
theorem dX7_init_255 : decode cX7_init 255 = .ok (.iconst 5, 1) := by decide +kernel
theorem dX7_init_256 : decode cX7_init 256 = .ok (.newarray .int, 2) := by decide +kernel
theorem dX7_init_258 : decode cX7_init 258 = .ok (.putfield 69, 3) := by decide +kernel
theorem dX7_init_261 : decode cX7_init 261 = .ok (.aload_n 0, 1) := by decide +kernel
theorem dX7_init_262 : decode cX7_init 262 = .ok (.iconst 5, 1) := by decide +kernel
theorem dX7_init_263 : decode cX7_init 263 = .ok (.newarray .int, 2) := by decide +kernel
theorem dX7_init_265 : decode cX7_init 265 = .ok (.putfield 72, 3) := by decide +kernel
theorem dX7_init_268 : decode cX7_init 268 = .ok (.aload_n 0, 1) := by decide +kernel
theorem dX7_init_269 : decode cX7_init 269 = .ok (.bipush 120, 2) := by decide +kernel
theorem dX7_init_271 : decode cX7_init 271 = .ok (.newarray .int, 2) := by decide +kernel
theorem dX7_init_273 : decode cX7_init 273 = .ok (.putfield 75, 3) := by decide +kernel
theorem dX7_init_276 : decode cX7_init 276 = .ok (.aload_n 0, 1) := by decide +kernel
theorem dX7_init_277 : decode cX7_init 277 = .ok (.bipush 24, 2) := by decide +kernel
theorem dX7_init_279 : decode cX7_init 279 = .ok (.newarray .int, 2) := by decide +kernel
theorem dX7_init_281 : decode cX7_init 281 = .ok (.putfield 78, 3) := by decide +kernel
theorem dX7_init_284 : decode cX7_init 284 = .ok (.aload_n 0, 1) := by decide +kernel
theorem dX7_init_285 : decode cX7_init 285 = .ok (.bipush 60, 2) := by decide +kernel
theorem dX7_init_287 : decode cX7_init 287 = .ok (.newarray .int, 2) := by decide +kernel
theorem dX7_init_289 : decode cX7_init 289 = .ok (.putfield 81, 3) := by decide +kernel
theorem dX7_init_292 : decode cX7_init 292 = .ok (.aload_n 0, 1) := by decide +kernel
theorem dX7_init_293 : decode cX7_init 293 = .ok (.getfield 9, 3) := by decide +kernel
theorem dX7_init_296 : decode cX7_init 296 = .ok (.iconst 0, 1) := by decide +kernel
theorem dX7_init_297 : decode cX7_init 297 = .ok (.iconst 1, 1) := by decide +kernel
theorem dX7_init_298 : decode cX7_init 298 = .ok (.iastore, 1) := by decide +kernel
theorem dX7_init_299 : decode cX7_init 299 = .ok (.aload_n 0, 1) := by decide +kernel
theorem dX7_init_300 : decode cX7_init 300 = .ok (.getfield 9, 3) := by decide +kernel
theorem dX7_init_303 : decode cX7_init 303 = .ok (.iconst 2, 1) := by decide +kernel
theorem dX7_init_304 : decode cX7_init 304 = .ok (.iconst (-1), 1) := by decide +kernel
theorem dX7_init_305 : decode cX7_init 305 = .ok (.iastore, 1) := by decide +kernel
theorem dX7_init_306 : decode cX7_init 306 = .ok (.aload_n 0, 1) := by decide +kernel
theorem dX7_init_307 : decode cX7_init 307 = .ok (.getfield 9, 3) := by decide +kernel
theorem dX7_init_310 : decode cX7_init 310 = .ok (.iconst 4, 1) := by decide +kernel
theorem dX7_init_311 : decode cX7_init 311 = .ok (.bipush 60, 2) := by decide +kernel
theorem dX7_init_313 : decode cX7_init 313 = .ok (.iastore, 1) := by decide +kernel
theorem dX7_init_314 : decode cX7_init 314 = .ok (.aload_n 0, 1) := by decide +kernel
theorem dX7_init_315 : decode cX7_init 315 = .ok (.getfield 9, 3) := by decide +kernel
theorem dX7_init_318 : decode cX7_init 318 = .ok (.iconst 5, 1) := by decide +kernel
theorem dX7_init_319 : decode cX7_init 319 = .ok (.iconst 2, 1) := by decide +kernel
theorem dX7_init_320 : decode cX7_init 320 = .ok (.iastore, 1) := by decide +kernel
theorem dX7_init_321 : decode cX7_init 321 = .ok (.return_, 1) := by decide +kernel
theorem dX7_in_0 : decode cX7_in 0 = .ok (.iload_n 0, 1) := by decide +kernel
theorem dX7_in_1 : decode cX7_in 1 = .ok (.iload_n 1, 1) := by decide +kernel
theorem dX7_in_2 : decode cX7_in 2 = .ok (.if_icmp .lt 12, 3) := by decide +kernel
theorem dX7_in_5 : decode cX7_in 5 = .ok (.iload_n 0, 1) := by decide +kernel
theorem dX7_in_6 : decode cX7_in 6 = .ok (.iload_n 2, 1) := by decide +kernel
theorem dX7_in_7 : decode cX7_in 7 = .ok (.if_icmp .gt 7, 3) := by decide +kernel
theorem dX7_in_10 : decode cX7_in 10 = .ok (.iconst 1, 1) := by decide +kernel
theorem dX7_in_11 : decode cX7_in 11 = .ok (.goto 4, 3) := by decide +kernel
theorem dX7_in_14 : decode cX7_in 14 = .ok (.iconst 0, 1) := by decide +kernel
theorem dX7_in_15 : decode cX7_in 15 = .ok (.ireturn, 1) := by decide +kernel
theorem dX7_within_0 : decode cX7_within 0 = .ok (.iload_n 0, 1) := by decide +kernel
theorem dX7_within_1 : decode cX7_within 1 = .ok (.iload_n 1, 1) := by decide +kernel
theorem dX7_within_2 : decode cX7_within 2 = .ok (.if_icmp .ge 7, 3) := by decide +kernel
theorem dX7_within_5 : decode cX7_within 5 = .ok (.iload_n 1, 1) := by decide +kernel
theorem dX7_within_6 : decode cX7_within 6 = .ok (.goto 13, 3) := by decide +kernel
theorem dX7_within_9 : decode cX7_within 9 = .ok (.iload_n 0, 1) := by decide +kernel
theorem dX7_within_10 : decode cX7_within 10 = .ok (.iload_n 2, 1) := by decide +kernel
theorem dX7_within_11 : decode cX7_within 11 = .ok (.if_icmp .le 7, 3) := by decide +kernel
theorem dX7_within_14 : decode cX7_within 14 = .ok (.iload_n 2, 1) := by decide +kernel
theorem dX7_within_15 : decode cX7_within 15 = .ok (.goto 4, 3) := by decide +kernel
theorem dX7_within_18 : decode cX7_within 18 = .ok (.iload_n 0, 1) := by decide +kernel
theorem dX7_within_19 : decode cX7_within 19 = .ok (.ireturn, 1) := by decide +kernel
theorem dX7_copyAll_0 : decode cX7_copyAll 0 = .ok (.iconst 0, 1) := by decide +kernel
theorem dX7_copyAll_1 : decode cX7_copyAll 1 = .ok (.istore_n 2, 1) := by decide +kernel
theorem dX7_copyAll_2 : decode cX7_copyAll 2 = .ok (.iload_n 2, 1) := by decide +kernel
theorem dX7_copyAll_3 : decode cX7_copyAll 3 = .ok (.sipush 1453, 3) := by decide +kernel
theorem dX7_copyAll_6 : decode cX7_copyAll 6 = .ok (.if_icmp .ge 15, 3) := by decide +kernel
theorem dX7_copyAll_9 : decode cX7_copyAll 9 = .ok (.aload_n 1, 1) := by decide +kernel
theorem dX7_copyAll_10 : decode cX7_copyAll 10 = .ok (.iload_n 2, 1) := by decide +kernel
theorem dX7_copyAll_11 : decode cX7_copyAll 11 = .ok (.aload_n 0, 1) := by decide +kernel
theorem dX7_copyAll_12 : decode cX7_copyAll 12 = .ok (.iload_n 2, 1) := by decide +kernel
theorem dX7_copyAll_13 : decode cX7_copyAll 13 = .ok (.iaload, 1) := by decide +kernel
theorem dX7_copyAll_14 : decode cX7_copyAll 14 = .ok (.iastore, 1) := by decide +kernel
theorem dX7_copyAll_15 : decode cX7_copyAll 15 = .ok (.iinc 2 1, 3) := by decide +kernel
theorem dX7_copyAll_18 : decode cX7_copyAll 18 = .ok (.goto (-16), 3) := by decide +kernel
theorem dX7_copyAll_21 : decode cX7_copyAll 21 = .ok (.return_, 1) := by decide +kernel
theorem dX7_told0_0 : decode cX7_told0 0 = .ok (.iload_n 0, 1) := by decide +kernel
theorem dX7_told0_1 : decode cX7_told0 1 = .ok (.ifCond .ge 8, 3) := by decide +kernel
theorem dX7_told0_4 : decode cX7_told0 4 = .ok (.ldc 84, 2) := by decide +kernel
theorem dX7_told0_6 : decode cX7_told0 6 = .ok (.goto 4, 3) := by decide +kernel
theorem dX7_told0_9 : decode cX7_told0 9 = .ok (.iload_n 0, 1) := by decide +kernel
theorem dX7_told0_10 : decode cX7_told0 10 = .ok (.ireturn, 1) := by decide +kernel
set_option maxRecDepth 20000 in
theorem ggX7_isPlace_X7_in : GoodIn wsX7_isPlace wsX7_in := goodIn_r _ [5] (by decide +kernel) (by decide +kernel)
set_option maxRecDepth 20000 in
theorem gX7_isPlace_X7_in : GoodIn wsX7_isPlace (va_wsS RX7 85 yX7_in wsX7_in) := goodIn_app (goodIn_of _ (by decide +kernel)) ggX7_isPlace_X7_in
theorem dX7_isPlace_0 : decode cX7_isPlace 0 = .ok (.iload_n 1, 1) := by decide +kernel
theorem dX7_isPlace_1 : decode cX7_isPlace 1 = .ok (.iconst 0, 1) := by decide +kernel
theorem dX7_isPlace_2 : decode cX7_isPlace 2 = .ok (.aload_n 0, 1) := by decide +kernel
theorem dX7_isPlace_3 : decode cX7_isPlace 3 = .ok (.getfield 9, 3) := by decide +kernel
theorem dX7_isPlace_6 : decode cX7_isPlace 6 = .ok (.iconst 1, 1) := by decide +kernel
theorem dX7_isPlace_7 : decode cX7_isPlace 7 = .ok (.iaload, 1) := by decide +kernel
theorem dX7_isPlace_8 : decode cX7_isPlace 8 = .ok (.iconst 1, 1) := by decide +kernel
theorem dX7_isPlace_9 : decode cX7_isPlace 9 = .ok (.isub, 1) := by decide +kernel
theorem dX7_isPlace_10 : decode cX7_isPlace 10 = .ok (.invokestatic 85, 3) := by decide +kernel
theorem dX7_isPlace_13 : decode cX7_isPlace 13 = .ok (.ireturn, 1) := by decide +kernel
theorem dX7_of_0 : decode cX7_of 0 = .ok (.aload_n 0, 1) := by decide +kernel
theorem dX7_of_1 : decode cX7_of 1 = .ok (.getfield 9, 3) := by decide +kernel
theorem dX7_of_4 : decode cX7_of 4 = .ok (.bipush 9, 2) := by decide +kernel
theorem dX7_of_6 : decode cX7_of 6 = .ok (.iconst 3, 1) := by decide +kernel
theorem dX7_of_7 : decode cX7_of 7 = .ok (.iload_n 1, 1) := by decide +kernel
theorem dX7_of_8 : decode cX7_of 8 = .ok (.imul, 1) := by decide +kernel
theorem dX7_of_9 : decode cX7_of 9 = .ok (.iadd, 1) := by decide +kernel
theorem dX7_of_10 : decode cX7_of 10 = .ok (.iload_n 2, 1) := by decide +kernel
theorem dX7_of_11 : decode cX7_of 11 = .ok (.iadd, 1) := by decide +kernel
theorem dX7_of_12 : decode cX7_of 12 = .ok (.iaload, 1) := by decide +kernel
theorem dX7_of_13 : decode cX7_of 13 = .ok (.ireturn, 1) := by decide +kernel
theorem dX7_becomes_0 : decode cX7_becomes 0 = .ok (.aload_n 0, 1) := by decide +kernel
theorem dX7_becomes_1 : decode cX7_becomes 1 = .ok (.getfield 9, 3) := by decide +kernel
theorem dX7_becomes_4 : decode cX7_becomes 4 = .ok (.iload_n 1, 1) := by decide +kernel
theorem dX7_becomes_5 : decode cX7_becomes 5 = .ok (.iaload, 1) := by decide +kernel
theorem dX7_becomes_6 : decode cX7_becomes 6 = .ok (.istore_n 3, 1) := by decide +kernel
theorem dX7_becomes_7 : decode cX7_becomes 7 = .ok (.aload_n 0, 1) := by decide +kernel
theorem dX7_becomes_8 : decode cX7_becomes 8 = .ok (.getfield 9, 3) := by decide +kernel
theorem dX7_becomes_11 : decode cX7_becomes 11 = .ok (.iload_n 1, 1) := by decide +kernel
theorem dX7_becomes_12 : decode cX7_becomes 12 = .ok (.iload_n 2, 1) := by decide +kernel
theorem dX7_becomes_13 : decode cX7_becomes 13 = .ok (.iastore, 1) := by decide +kernel
theorem dX7_becomes_14 : decode cX7_becomes 14 = .ok (.iload_n 3, 1) := by decide +kernel
theorem dX7_becomes_15 : decode cX7_becomes 15 = .ok (.ireturn, 1) := by decide +kernel
theorem dX7_comes_0 : decode cX7_comes 0 = .ok (.bipush 9, 2) := by decide +kernel
theorem dX7_comes_2 : decode cX7_comes 2 = .ok (.iconst 3, 1) := by decide +kernel
theorem dX7_comes_3 : decode cX7_comes 3 = .ok (.aload_n 0, 1) := by decide +kernel
theorem dX7_comes_4 : decode cX7_comes 4 = .ok (.getfield 9, 3) := by decide +kernel
theorem dX7_comes_7 : decode cX7_comes 7 = .ok (.iconst 1, 1) := by decide +kernel
theorem dX7_comes_8 : decode cX7_comes 8 = .ok (.iaload, 1) := by decide +kernel
theorem dX7_comes_9 : decode cX7_comes 9 = .ok (.imul, 1) := by decide +kernel
theorem dX7_comes_10 : decode cX7_comes 10 = .ok (.iadd, 1) := by decide +kernel
theorem dX7_comes_11 : decode cX7_comes 11 = .ok (.istore 4, 2) := by decide +kernel
theorem dX7_comes_13 : decode cX7_comes 13 = .ok (.aload_n 0, 1) := by decide +kernel
theorem dX7_comes_14 : decode cX7_comes 14 = .ok (.getfield 9, 3) := by decide +kernel
theorem dX7_comes_17 : decode cX7_comes 17 = .ok (.iload 4, 2) := by decide +kernel
theorem dX7_comes_19 : decode cX7_comes 19 = .ok (.iload_n 1, 1) := by decide +kernel
theorem dX7_comes_20 : decode cX7_comes 20 = .ok (.iastore, 1) := by decide +kernel
theorem dX7_comes_21 : decode cX7_comes 21 = .ok (.aload_n 0, 1) := by decide +kernel
theorem dX7_comes_22 : decode cX7_comes 22 = .ok (.getfield 9, 3) := by decide +kernel
theorem dX7_comes_25 : decode cX7_comes 25 = .ok (.iload 4, 2) := by decide +kernel
theorem dX7_comes_27 : decode cX7_comes 27 = .ok (.iconst 1, 1) := by decide +kernel
theorem dX7_comes_28 : decode cX7_comes 28 = .ok (.iadd, 1) := by decide +kernel
theorem dX7_comes_29 : decode cX7_comes 29 = .ok (.iload_n 2, 1) := by decide +kernel
theorem dX7_comes_30 : decode cX7_comes 30 = .ok (.iastore, 1) := by decide +kernel
theorem dX7_comes_31 : decode cX7_comes 31 = .ok (.aload_n 0, 1) := by decide +kernel
theorem dX7_comes_32 : decode cX7_comes 32 = .ok (.getfield 9, 3) := by decide +kernel
theorem dX7_comes_35 : decode cX7_comes 35 = .ok (.iload 4, 2) := by decide +kernel
theorem dX7_comes_37 : decode cX7_comes 37 = .ok (.iconst 2, 1) := by decide +kernel
theorem dX7_comes_38 : decode cX7_comes 38 = .ok (.iadd, 1) := by decide +kernel
theorem dX7_comes_39 : decode cX7_comes 39 = .ok (.iload_n 3, 1) := by decide +kernel
theorem dX7_comes_40 : decode cX7_comes 40 = .ok (.iastore, 1) := by decide +kernel
theorem dX7_comes_41 : decode cX7_comes 41 = .ok (.aload_n 0, 1) := by decide +kernel
theorem dX7_comes_42 : decode cX7_comes 42 = .ok (.getfield 9, 3) := by decide +kernel
theorem dX7_comes_45 : decode cX7_comes 45 = .ok (.iconst 1, 1) := by decide +kernel
theorem dX7_comes_46 : decode cX7_comes 46 = .ok (.dup2, 1) := by decide +kernel
theorem dX7_comes_47 : decode cX7_comes 47 = .ok (.iaload, 1) := by decide +kernel
theorem dX7_comes_48 : decode cX7_comes 48 = .ok (.iconst 1, 1) := by decide +kernel
theorem dX7_comes_49 : decode cX7_comes 49 = .ok (.iadd, 1) := by decide +kernel
theorem dX7_comes_50 : decode cX7_comes 50 = .ok (.iastore, 1) := by decide +kernel
theorem dX7_comes_51 : decode cX7_comes 51 = .ok (.aload_n 0, 1) := by decide +kernel
theorem dX7_comes_52 : decode cX7_comes 52 = .ok (.getfield 9, 3) := by decide +kernel
theorem dX7_comes_55 : decode cX7_comes 55 = .ok (.iconst 1, 1) := by decide +kernel
theorem dX7_comes_56 : decode cX7_comes 56 = .ok (.iaload, 1) := by decide +kernel
theorem dX7_comes_57 : decode cX7_comes 57 = .ok (.iconst 1, 1) := by decide +kernel
theorem dX7_comes_58 : decode cX7_comes 58 = .ok (.isub, 1) := by decide +kernel
theorem dX7_comes_59 : decode cX7_comes 59 = .ok (.ireturn, 1) := by decide +kernel
set_option maxRecDepth 20000 in
theorem ggX7_place_X7_in : GoodIn wsX7_place wsX7_in := goodIn_r _ [7] (by decide +kernel) (by decide +kernel)
set_option maxRecDepth 20000 in
theorem gX7_place_X7_in : GoodIn wsX7_place (va_wsS RX7 85 yX7_in wsX7_in) := goodIn_app (goodIn_of _ (by decide +kernel)) ggX7_place_X7_in
set_option maxRecDepth 20000 in
theorem ggX7_place_X7_comes : GoodIn wsX7_place wsX7_comes := goodIn_r _ [11, 2, 12, 13, 14, 15, 16, 17, 18, 19, 20, 21, 22, 23, 24, 25, 26, 27, 28, 29, 30, 31, 32, 33, 34, 35, 36, 37, 38, 39, 40, 41, 42, 43, 44, 45, 46, 47, 48, 49, 50] (by decide +kernel) (by decide +kernel)
set_option maxRecDepth 20000 in
theorem gX7_place_X7_comes : GoodIn wsX7_place (wsV RX7 91 RX7 yX7_comes wsX7_comes) := goodIn_app (goodIn_of _ (by decide +kernel)) ggX7_place_X7_comes
theorem dX7_place_0 : decode cX7_place 0 = .ok (.iload_n 1, 1) := by decide +kernel
theorem dX7_place_1 : decode cX7_place 1 = .ok (.iconst 0, 1) := by decide +kernel
theorem dX7_place_2 : decode cX7_place 2 = .ok (.iconst 5, 1) := by decide +kernel
theorem dX7_place_3 : decode cX7_place 3 = .ok (.invokestatic 85, 3) := by decide +kernel
theorem dX7_place_6 : decode cX7_place 6 = .ok (.ifCond .eq 13, 3) := by decide +kernel
theorem dX7_place_9 : decode cX7_place 9 = .ok (.iload_n 2, 1) := by decide +kernel
theorem dX7_place_10 : decode cX7_place 10 = .ok (.iconst 0, 1) := by decide +kernel
theorem dX7_place_11 : decode cX7_place 11 = .ok (.bipush 99, 2) := by decide +kernel
theorem dX7_place_13 : decode cX7_place 13 = .ok (.invokestatic 85, 3) := by decide +kernel
theorem dX7_place_16 : decode cX7_place 16 = .ok (.ifCond .ne 6, 3) := by decide +kernel
theorem dX7_place_19 : decode cX7_place 19 = .ok (.ldc 89, 2) := by decide +kernel
theorem dX7_place_21 : decode cX7_place 21 = .ok (.ireturn, 1) := by decide +kernel
theorem dX7_place_22 : decode cX7_place 22 = .ok (.aload_n 0, 1) := by decide +kernel
theorem dX7_place_23 : decode cX7_place 23 = .ok (.getfield 9, 3) := by decide +kernel
theorem dX7_place_26 : decode cX7_place 26 = .ok (.iconst 1, 1) := by decide +kernel
theorem dX7_place_27 : decode cX7_place 27 = .ok (.iaload, 1) := by decide +kernel
theorem dX7_place_28 : decode cX7_place 28 = .ok (.bipush 24, 2) := by decide +kernel
theorem dX7_place_30 : decode cX7_place 30 = .ok (.if_icmp .ne 8, 3) := by decide +kernel
theorem dX7_place_33 : decode cX7_place 33 = .ok (.ldc 90, 2) := by decide +kernel
theorem dX7_place_35 : decode cX7_place 35 = .ok (.goto 10, 3) := by decide +kernel
theorem dX7_place_38 : decode cX7_place 38 = .ok (.aload_n 0, 1) := by decide +kernel
theorem dX7_place_39 : decode cX7_place 39 = .ok (.iload_n 1, 1) := by decide +kernel
theorem dX7_place_40 : decode cX7_place 40 = .ok (.iload_n 2, 1) := by decide +kernel
theorem dX7_place_41 : decode cX7_place 41 = .ok (.iconst 0, 1) := by decide +kernel
theorem dX7_place_42 : decode cX7_place 42 = .ok (.invokevirtual 91, 3) := by decide +kernel
theorem dX7_place_45 : decode cX7_place 45 = .ok (.ireturn, 1) := by decide +kernel
set_option maxRecDepth 20000 in
theorem ggX7_riskOf_X7_counts : GoodIn wsX7_riskOf wsX7_counts := goodIn_r _ [6, 7, 23, 24, 25, 26, 27, 28, 29, 30, 31, 32, 33, 34, 35, 36, 37, 38, 39, 40, 41, 42, 43, 44, 45, 46, 47, 48, 49, 50, 51, 52, 53, 54, 55, 56, 57, 58, 59, 60, 61] (by decide +kernel) (by decide +kernel)
set_option maxRecDepth 20000 in
theorem gX7_riskOf_X7_counts : GoodIn wsX7_riskOf (wsV RX7 95 RX7 yX7_counts wsX7_counts) := goodIn_app (goodIn_of _ (by decide +kernel)) ggX7_riskOf_X7_counts
set_option maxRecDepth 20000 in
theorem ggX7_riskOf_X7_of : GoodIn wsX7_riskOf wsX7_of := goodIn_r _ [11, 7, 23, 24, 25, 26, 27, 28, 29, 30, 31, 32, 33, 34, 35, 36, 37, 38, 39, 40, 41, 42, 43, 44, 45, 46, 47, 48, 49, 50, 51, 52, 53, 54, 55, 56, 57, 58, 59, 60, 61] (by decide +kernel) (by decide +kernel)
set_option maxRecDepth 20000 in
theorem gX7_riskOf_X7_of : GoodIn wsX7_riskOf (wsV RX7 99 RX7 yX7_of wsX7_of) := goodIn_app (goodIn_of _ (by decide +kernel)) ggX7_riskOf_X7_of
set_option maxRecDepth 20000 in
theorem ggX7_riskOf_X7_worksOut : GoodIn wsX7_riskOf wsX7_worksOut := goodIn_r _ [15, 7, 16, 1, 17, 18, 5, 19, 23, 24, 25, 26, 27, 28, 29, 30, 31, 32, 33, 34, 35, 36, 37, 38, 39, 40, 41, 42, 43, 44, 45, 46, 47, 48, 49, 50, 51, 52, 53, 54, 55, 56, 57, 58, 59, 60, 61] (by decide +kernel) (by decide +kernel)
set_option maxRecDepth 20000 in
theorem gX7_riskOf_X7_worksOut : GoodIn wsX7_riskOf (wsV RX7 103 RX7 yX7_worksOut wsX7_worksOut) := goodIn_app (goodIn_of _ (by decide +kernel)) ggX7_riskOf_X7_worksOut
set_option maxRecDepth 20000 in
theorem ggX7_riskOf_X7_within : GoodIn wsX7_riskOf wsX7_within := goodIn_r _ [22] (by decide +kernel) (by decide +kernel)
set_option maxRecDepth 20000 in
theorem gX7_riskOf_X7_within : GoodIn wsX7_riskOf (va_wsS RX7 106 yX7_within wsX7_within) := goodIn_app (goodIn_of _ (by decide +kernel)) ggX7_riskOf_X7_within
theorem dX7_riskOf_0 : decode cX7_riskOf 0 = .ok (.aload_n 0, 1) := by decide +kernel
theorem dX7_riskOf_1 : decode cX7_riskOf 1 = .ok (.iconst 0, 1) := by decide +kernel
theorem dX7_riskOf_2 : decode cX7_riskOf 2 = .ok (.invokevirtual 95, 3) := by decide +kernel
theorem dX7_riskOf_5 : decode cX7_riskOf 5 = .ok (.istore_n 2, 1) := by decide +kernel
theorem dX7_riskOf_6 : decode cX7_riskOf 6 = .ok (.aload_n 0, 1) := by decide +kernel
theorem dX7_riskOf_7 : decode cX7_riskOf 7 = .ok (.getfield 54, 3) := by decide +kernel
theorem dX7_riskOf_10 : decode cX7_riskOf 10 = .ok (.iconst 0, 1) := by decide +kernel
theorem dX7_riskOf_11 : decode cX7_riskOf 11 = .ok (.aload_n 0, 1) := by decide +kernel
theorem dX7_riskOf_12 : decode cX7_riskOf 12 = .ok (.iload_n 1, 1) := by decide +kernel
theorem dX7_riskOf_13 : decode cX7_riskOf 13 = .ok (.iconst 1, 1) := by decide +kernel
theorem dX7_riskOf_14 : decode cX7_riskOf 14 = .ok (.invokevirtual 99, 3) := by decide +kernel
theorem dX7_riskOf_17 : decode cX7_riskOf 17 = .ok (.iastore, 1) := by decide +kernel
theorem dX7_riskOf_18 : decode cX7_riskOf 18 = .ok (.aload_n 0, 1) := by decide +kernel
theorem dX7_riskOf_19 : decode cX7_riskOf 19 = .ok (.getfield 54, 3) := by decide +kernel
theorem dX7_riskOf_22 : decode cX7_riskOf 22 = .ok (.iconst 1, 1) := by decide +kernel
theorem dX7_riskOf_23 : decode cX7_riskOf 23 = .ok (.iload_n 1, 1) := by decide +kernel
theorem dX7_riskOf_24 : decode cX7_riskOf 24 = .ok (.iastore, 1) := by decide +kernel
theorem dX7_riskOf_25 : decode cX7_riskOf 25 = .ok (.iload_n 2, 1) := by decide +kernel
theorem dX7_riskOf_26 : decode cX7_riskOf 26 = .ok (.ifCond .ge 15, 3) := by decide +kernel
theorem dX7_riskOf_29 : decode cX7_riskOf 29 = .ok (.aload_n 0, 1) := by decide +kernel
theorem dX7_riskOf_30 : decode cX7_riskOf 30 = .ok (.iload_n 1, 1) := by decide +kernel
theorem dX7_riskOf_31 : decode cX7_riskOf 31 = .ok (.iconst 1, 1) := by decide +kernel
theorem dX7_riskOf_32 : decode cX7_riskOf 32 = .ok (.invokevirtual 99, 3) := by decide +kernel
theorem dX7_riskOf_35 : decode cX7_riskOf 35 = .ok (.bipush 10, 2) := by decide +kernel
theorem dX7_riskOf_37 : decode cX7_riskOf 37 = .ok (.idiv, 1) := by decide +kernel
theorem dX7_riskOf_38 : decode cX7_riskOf 38 = .ok (.goto 14, 3) := by decide +kernel
theorem dX7_riskOf_41 : decode cX7_riskOf 41 = .ok (.aload_n 0, 1) := by decide +kernel
theorem dX7_riskOf_42 : decode cX7_riskOf 42 = .ok (.iload_n 2, 1) := by decide +kernel
theorem dX7_riskOf_43 : decode cX7_riskOf 43 = .ok (.invokevirtual 103, 3) := by decide +kernel
theorem dX7_riskOf_46 : decode cX7_riskOf 46 = .ok (.iconst 0, 1) := by decide +kernel
theorem dX7_riskOf_47 : decode cX7_riskOf 47 = .ok (.bipush 99, 2) := by decide +kernel
theorem dX7_riskOf_49 : decode cX7_riskOf 49 = .ok (.invokestatic 106, 3) := by decide +kernel
theorem dX7_riskOf_52 : decode cX7_riskOf 52 = .ok (.istore_n 3, 1) := by decide +kernel
theorem dX7_riskOf_53 : decode cX7_riskOf 53 = .ok (.aload_n 0, 1) := by decide +kernel
theorem dX7_riskOf_54 : decode cX7_riskOf 54 = .ok (.iload_n 1, 1) := by decide +kernel
theorem dX7_riskOf_55 : decode cX7_riskOf 55 = .ok (.iconst 0, 1) := by decide +kernel
theorem dX7_riskOf_56 : decode cX7_riskOf 56 = .ok (.invokevirtual 99, 3) := by decide +kernel
theorem dX7_riskOf_59 : decode cX7_riskOf 59 = .ok (.tableswitch 60 1 5 #[33, 38, 42, 49, 55], 33) := by decide +kernel
theorem dX7_riskOf_92 : decode cX7_riskOf 92 = .ok (.iload_n 3, 1) := by decide +kernel
theorem dX7_riskOf_93 : decode cX7_riskOf 93 = .ok (.bipush 10, 2) := by decide +kernel
theorem dX7_riskOf_95 : decode cX7_riskOf 95 = .ok (.iadd, 1) := by decide +kernel
theorem dX7_riskOf_96 : decode cX7_riskOf 96 = .ok (.ireturn, 1) := by decide +kernel
theorem dX7_riskOf_97 : decode cX7_riskOf 97 = .ok (.iload_n 3, 1) := by decide +kernel
theorem dX7_riskOf_98 : decode cX7_riskOf 98 = .ok (.iconst 2, 1) := by decide +kernel
theorem dX7_riskOf_99 : decode cX7_riskOf 99 = .ok (.idiv, 1) := by decide +kernel
theorem dX7_riskOf_100 : decode cX7_riskOf 100 = .ok (.ireturn, 1) := by decide +kernel
theorem dX7_riskOf_101 : decode cX7_riskOf 101 = .ok (.iconst 2, 1) := by decide +kernel
theorem dX7_riskOf_102 : decode cX7_riskOf 102 = .ok (.iload_n 3, 1) := by decide +kernel
theorem dX7_riskOf_103 : decode cX7_riskOf 103 = .ok (.bipush 10, 2) := by decide +kernel
theorem dX7_riskOf_105 : decode cX7_riskOf 105 = .ok (.iadd, 1) := by decide +kernel
theorem dX7_riskOf_106 : decode cX7_riskOf 106 = .ok (.imul, 1) := by decide +kernel
theorem dX7_riskOf_107 : decode cX7_riskOf 107 = .ok (.ireturn, 1) := by decide +kernel
theorem dX7_riskOf_108 : decode cX7_riskOf 108 = .ok (.iload_n 3, 1) := by decide +kernel
theorem dX7_riskOf_109 : decode cX7_riskOf 109 = .ok (.iconst 2, 1) := by decide +kernel
theorem dX7_riskOf_110 : decode cX7_riskOf 110 = .ok (.idiv, 1) := by decide +kernel
theorem dX7_riskOf_111 : decode cX7_riskOf 111 = .ok (.iconst 5, 1) := by decide +kernel
theorem dX7_riskOf_112 : decode cX7_riskOf 112 = .ok (.iadd, 1) := by decide +kernel
theorem dX7_riskOf_113 : decode cX7_riskOf 113 = .ok (.ireturn, 1) := by decide +kernel
theorem dX7_riskOf_114 : decode cX7_riskOf 114 = .ok (.iload_n 3, 1) := by decide +kernel
theorem dX7_riskOf_115 : decode cX7_riskOf 115 = .ok (.bipush 20, 2) := by decide +kernel
theorem dX7_riskOf_117 : decode cX7_riskOf 117 = .ok (.iadd, 1) := by decide +kernel
theorem dX7_riskOf_118 : decode cX7_riskOf 118 = .ok (.ireturn, 1) := by decide +kernel
theorem dX7_riskOf_119 : decode cX7_riskOf 119 = .ok (.iload_n 3, 1) := by decide +kernel
theorem dX7_riskOf_120 : decode cX7_riskOf 120 = .ok (.ireturn, 1) := by decide +kernel
set_option maxRecDepth 20000 in
theorem ggX7_worthOf_X7_of : GoodIn wsX7_worthOf wsX7_of := goodIn_r _ [5, 6, 7, 8, 9, 10, 11, 12, 13, 14, 15, 16, 17, 18, 19, 20, 21, 22, 23, 24, 25, 26, 27, 28, 29, 30, 31, 32, 33, 34, 35, 36, 37, 38, 39, 40, 41, 42, 43, 44, 45] (by decide +kernel) (by decide +kernel)
set_option maxRecDepth 20000 in
theorem gX7_worthOf_X7_of : GoodIn wsX7_worthOf (wsV RX7 99 RX7 yX7_of wsX7_of) := goodIn_app (goodIn_of _ (by decide +kernel)) ggX7_worthOf_X7_of
theorem dX7_worthOf_0 : decode cX7_worthOf 0 = .ok (.aload_n 0, 1) := by decide +kernel
theorem dX7_worthOf_1 : decode cX7_worthOf 1 = .ok (.iload_n 1, 1) := by decide +kernel
theorem dX7_worthOf_2 : decode cX7_worthOf 2 = .ok (.iconst 1, 1) := by decide +kernel
theorem dX7_worthOf_3 : decode cX7_worthOf 3 = .ok (.invokevirtual 99, 3) := by decide +kernel
theorem dX7_worthOf_6 : decode cX7_worthOf 6 = .ok (.istore_n 2, 1) := by decide +kernel
theorem dX7_worthOf_7 : decode cX7_worthOf 7 = .ok (.aload_n 0, 1) := by decide +kernel
theorem dX7_worthOf_8 : decode cX7_worthOf 8 = .ok (.iload_n 1, 1) := by decide +kernel
theorem dX7_worthOf_9 : decode cX7_worthOf 9 = .ok (.iconst 0, 1) := by decide +kernel
theorem dX7_worthOf_10 : decode cX7_worthOf 10 = .ok (.invokevirtual 99, 3) := by decide +kernel
theorem dX7_worthOf_13 : decode cX7_worthOf 13 = .ok (.tableswitch 61 1 5 #[35, 40, 45, 52, 57], 35) := by decide +kernel
theorem dX7_worthOf_48 : decode cX7_worthOf 48 = .ok (.iload_n 2, 1) := by decide +kernel
theorem dX7_worthOf_49 : decode cX7_worthOf 49 = .ok (.bipush 7, 2) := by decide +kernel
theorem dX7_worthOf_51 : decode cX7_worthOf 51 = .ok (.iadd, 1) := by decide +kernel
theorem dX7_worthOf_52 : decode cX7_worthOf 52 = .ok (.ireturn, 1) := by decide +kernel
theorem dX7_worthOf_53 : decode cX7_worthOf 53 = .ok (.bipush 100, 2) := by decide +kernel
theorem dX7_worthOf_55 : decode cX7_worthOf 55 = .ok (.iload_n 2, 1) := by decide +kernel
theorem dX7_worthOf_56 : decode cX7_worthOf 56 = .ok (.isub, 1) := by decide +kernel
theorem dX7_worthOf_57 : decode cX7_worthOf 57 = .ok (.ireturn, 1) := by decide +kernel
theorem dX7_worthOf_58 : decode cX7_worthOf 58 = .ok (.iconst 2, 1) := by decide +kernel
theorem dX7_worthOf_59 : decode cX7_worthOf 59 = .ok (.iload_n 2, 1) := by decide +kernel
theorem dX7_worthOf_60 : decode cX7_worthOf 60 = .ok (.bipush 7, 2) := by decide +kernel
theorem dX7_worthOf_62 : decode cX7_worthOf 62 = .ok (.iadd, 1) := by decide +kernel
theorem dX7_worthOf_63 : decode cX7_worthOf 63 = .ok (.imul, 1) := by decide +kernel
theorem dX7_worthOf_64 : decode cX7_worthOf 64 = .ok (.ireturn, 1) := by decide +kernel
theorem dX7_worthOf_65 : decode cX7_worthOf 65 = .ok (.bipush 80, 2) := by decide +kernel
theorem dX7_worthOf_67 : decode cX7_worthOf 67 = .ok (.iload_n 2, 1) := by decide +kernel
theorem dX7_worthOf_68 : decode cX7_worthOf 68 = .ok (.isub, 1) := by decide +kernel
theorem dX7_worthOf_69 : decode cX7_worthOf 69 = .ok (.ireturn, 1) := by decide +kernel
theorem dX7_worthOf_70 : decode cX7_worthOf 70 = .ok (.iload_n 2, 1) := by decide +kernel
theorem dX7_worthOf_71 : decode cX7_worthOf 71 = .ok (.iconst 2, 1) := by decide +kernel
theorem dX7_worthOf_72 : decode cX7_worthOf 72 = .ok (.idiv, 1) := by decide +kernel
theorem dX7_worthOf_73 : decode cX7_worthOf 73 = .ok (.ireturn, 1) := by decide +kernel
theorem dX7_worthOf_74 : decode cX7_worthOf 74 = .ok (.iload_n 2, 1) := by decide +kernel
theorem dX7_worthOf_75 : decode cX7_worthOf 75 = .ok (.ireturn, 1) := by decide +kernel
set_option maxRecDepth 20000 in
theorem ggX7_told_X7_isPlace : GoodIn wsX7_told wsX7_isPlace := goodIn_r _ [6, 7, 8, 9, 5, 10, 39, 40, 41, 42, 43, 44, 45, 46, 47, 48, 49, 50, 51, 52, 53, 54, 55, 56, 57, 58, 59, 60, 61, 62, 63, 64, 65, 66, 67, 68, 69, 70, 71, 72, 73, 74, 75, 76, 77] (by decide +kernel) (by decide +kernel)
set_option maxRecDepth 20000 in
theorem gX7_told_X7_isPlace : GoodIn wsX7_told (wsV RX7 109 RX7 yX7_isPlace wsX7_isPlace) := goodIn_app (goodIn_of _ (by decide +kernel)) ggX7_told_X7_isPlace
set_option maxRecDepth 20000 in
theorem ggX7_told_X7_in : GoodIn wsX7_told wsX7_in := goodIn_r _ [10] (by decide +kernel) (by decide +kernel)
set_option maxRecDepth 20000 in
theorem gX7_told_X7_in : GoodIn wsX7_told (va_wsS RX7 85 yX7_in wsX7_in) := goodIn_app (goodIn_of _ (by decide +kernel)) ggX7_told_X7_in
set_option maxRecDepth 20000 in
theorem ggX7_told_X7_of : GoodIn wsX7_told wsX7_of := goodIn_r _ [14, 7, 39, 40, 41, 42, 43, 44, 45, 46, 47, 48, 49, 50, 51, 52, 53, 54, 55, 56, 57, 58, 59, 60, 61, 62, 63, 64, 65, 66, 67, 68, 69, 70, 71, 72, 73, 74, 75, 76, 77] (by decide +kernel) (by decide +kernel)
set_option maxRecDepth 20000 in
theorem gX7_told_X7_of : GoodIn wsX7_told (wsV RX7 99 RX7 yX7_of wsX7_of) := goodIn_app (goodIn_of _ (by decide +kernel)) ggX7_told_X7_of
set_option maxRecDepth 20000 in
theorem ggX7_told_X7_riskOf : GoodIn wsX7_told wsX7_riskOf := goodIn_r _ [18, 19, 20, 21, 22, 5, 23, 7, 11, 12, 13, 14, 24, 25, 26, 27, 28, 29, 30, 31, 32, 33, 34, 39, 40, 41, 42, 43, 44, 45, 46, 47, 48, 49, 50, 51, 52, 53, 54, 55, 56, 57, 58, 59, 60, 61, 62, 63, 64, 65, 66, 67, 68, 69, 70, 71, 72, 73, 74, 75, 76, 77] (by decide +kernel) (by decide +kernel)
set_option maxRecDepth 20000 in
theorem gX7_told_X7_riskOf : GoodIn wsX7_told (wsV RX7 113 RX7 yX7_riskOf wsX7_riskOf) := goodIn_app (goodIn_of _ (by decide +kernel)) ggX7_told_X7_riskOf
set_option maxRecDepth 20000 in
theorem ggX7_told_X7_worthOf : GoodIn wsX7_told wsX7_worthOf := goodIn_r _ [38, 11, 12, 13, 5, 14, 7, 39, 40, 41, 42, 43, 44, 45, 46, 47, 48, 49, 50, 51, 52, 53, 54, 55, 56, 57, 58, 59, 60, 61, 62, 63, 64, 65, 66, 67, 68, 69, 70, 71, 72, 73, 74, 75, 76, 77] (by decide +kernel) (by decide +kernel)
set_option maxRecDepth 20000 in
theorem gX7_told_X7_worthOf : GoodIn wsX7_told (wsV RX7 116 RX7 yX7_worthOf wsX7_worthOf) := goodIn_app (goodIn_of _ (by decide +kernel)) ggX7_told_X7_worthOf
theorem dX7_told_0 : decode cX7_told 0 = .ok (.aload_n 0, 1) := by decide +kernel
theorem dX7_told_1 : decode cX7_told 1 = .ok (.iload_n 1, 1) := by decide +kernel
theorem dX7_told_2 : decode cX7_told 2 = .ok (.invokevirtual 109, 3) := by decide +kernel
theorem dX7_told_5 : decode cX7_told 5 = .ok (.ifCond .eq 12, 3) := by decide +kernel
theorem dX7_told_8 : decode cX7_told 8 = .ok (.iload_n 2, 1) := by decide +kernel
theorem dX7_told_9 : decode cX7_told 9 = .ok (.iconst 0, 1) := by decide +kernel
theorem dX7_told_10 : decode cX7_told 10 = .ok (.iconst 4, 1) := by decide +kernel
theorem dX7_told_11 : decode cX7_told 11 = .ok (.invokestatic 85, 3) := by decide +kernel
theorem dX7_told_14 : decode cX7_told 14 = .ok (.ifCond .ne 6, 3) := by decide +kernel
theorem dX7_told_17 : decode cX7_told 17 = .ok (.ldc 89, 2) := by decide +kernel
theorem dX7_told_19 : decode cX7_told 19 = .ok (.ireturn, 1) := by decide +kernel
theorem dX7_told_20 : decode cX7_told 20 = .ok (.iload_n 2, 1) := by decide +kernel
theorem dX7_told_21 : decode cX7_told 21 = .ok (.iconst 3, 1) := by decide +kernel
theorem dX7_told_22 : decode cX7_told 22 = .ok (.if_icmp .ge 12, 3) := by decide +kernel
theorem dX7_told_25 : decode cX7_told 25 = .ok (.aload_n 0, 1) := by decide +kernel
theorem dX7_told_26 : decode cX7_told 26 = .ok (.iload_n 1, 1) := by decide +kernel
theorem dX7_told_27 : decode cX7_told 27 = .ok (.iload_n 2, 1) := by decide +kernel
theorem dX7_told_28 : decode cX7_told 28 = .ok (.invokevirtual 99, 3) := by decide +kernel
theorem dX7_told_31 : decode cX7_told 31 = .ok (.goto 21, 3) := by decide +kernel
theorem dX7_told_34 : decode cX7_told 34 = .ok (.iload_n 2, 1) := by decide +kernel
theorem dX7_told_35 : decode cX7_told 35 = .ok (.iconst 3, 1) := by decide +kernel
theorem dX7_told_36 : decode cX7_told 36 = .ok (.if_icmp .ne 11, 3) := by decide +kernel
theorem dX7_told_39 : decode cX7_told 39 = .ok (.aload_n 0, 1) := by decide +kernel
theorem dX7_told_40 : decode cX7_told 40 = .ok (.iload_n 1, 1) := by decide +kernel
theorem dX7_told_41 : decode cX7_told 41 = .ok (.invokevirtual 113, 3) := by decide +kernel
theorem dX7_told_44 : decode cX7_told 44 = .ok (.goto 8, 3) := by decide +kernel
theorem dX7_told_47 : decode cX7_told 47 = .ok (.aload_n 0, 1) := by decide +kernel
theorem dX7_told_48 : decode cX7_told 48 = .ok (.iload_n 1, 1) := by decide +kernel
theorem dX7_told_49 : decode cX7_told 49 = .ok (.invokevirtual 116, 3) := by decide +kernel
theorem dX7_told_52 : decode cX7_told 52 = .ok (.ireturn, 1) := by decide +kernel
theorem dX7_isUnder_0 : decode cX7_isUnder 0 = .ok (.iload_n 1, 1) := by decide +kernel
theorem dX7_isUnder_1 : decode cX7_isUnder 1 = .ok (.ifCond .eq 28, 3) := by decide +kernel
theorem dX7_isUnder_4 : decode cX7_isUnder 4 = .ok (.iload_n 0, 1) := by decide +kernel
theorem dX7_isUnder_5 : decode cX7_isUnder 5 = .ok (.iload_n 1, 1) := by decide +kernel
theorem dX7_isUnder_6 : decode cX7_isUnder 6 = .ok (.if_icmp .eq 23, 3) := by decide +kernel
theorem dX7_isUnder_9 : decode cX7_isUnder 9 = .ok (.iload_n 1, 1) := by decide +kernel
theorem dX7_isUnder_10 : decode cX7_isUnder 10 = .ok (.iconst 1, 1) := by decide +kernel
theorem dX7_isUnder_11 : decode cX7_isUnder 11 = .ok (.if_icmp .ne 8, 3) := by decide +kernel
theorem dX7_isUnder_14 : decode cX7_isUnder 14 = .ok (.iload_n 0, 1) := by decide +kernel
theorem dX7_isUnder_15 : decode cX7_isUnder 15 = .ok (.iconst 3, 1) := by decide +kernel
theorem dX7_isUnder_16 : decode cX7_isUnder 16 = .ok (.if_icmp .eq 13, 3) := by decide +kernel
theorem dX7_isUnder_19 : decode cX7_isUnder 19 = .ok (.iload_n 1, 1) := by decide +kernel
theorem dX7_isUnder_20 : decode cX7_isUnder 20 = .ok (.iconst 2, 1) := by decide +kernel
theorem dX7_isUnder_21 : decode cX7_isUnder 21 = .ok (.if_icmp .ne 12, 3) := by decide +kernel
theorem dX7_isUnder_24 : decode cX7_isUnder 24 = .ok (.iload_n 0, 1) := by decide +kernel
theorem dX7_isUnder_25 : decode cX7_isUnder 25 = .ok (.iconst 4, 1) := by decide +kernel
theorem dX7_isUnder_26 : decode cX7_isUnder 26 = .ok (.if_icmp .ne 7, 3) := by decide +kernel
theorem dX7_isUnder_29 : decode cX7_isUnder 29 = .ok (.iconst 1, 1) := by decide +kernel
theorem dX7_isUnder_30 : decode cX7_isUnder 30 = .ok (.goto 4, 3) := by decide +kernel
theorem dX7_isUnder_33 : decode cX7_isUnder 33 = .ok (.iconst 0, 1) := by decide +kernel
theorem dX7_isUnder_34 : decode cX7_isUnder 34 = .ok (.ireturn, 1) := by decide +kernel
set_option maxRecDepth 20000 in
theorem ggX7_as_X7_isPlace : GoodIn wsX7_as wsX7_isPlace := goodIn_r _ [7, 8, 9, 10, 6, 11, 19, 20, 21, 22, 23, 24, 25, 26, 27, 28, 29, 30, 31, 32, 33, 34, 35, 36, 37, 38, 39, 40, 41, 42, 43, 44, 45, 46, 47, 48, 49, 50, 51, 52, 53, 54, 55, 56, 57] (by decide +kernel) (by decide +kernel)
set_option maxRecDepth 20000 in
theorem gX7_as_X7_isPlace : GoodIn wsX7_as (wsV RX7 109 RX7 yX7_isPlace wsX7_isPlace) := goodIn_app (goodIn_of _ (by decide +kernel)) ggX7_as_X7_isPlace
set_option maxRecDepth 20000 in
theorem ggX7_as_X7_in : GoodIn wsX7_as wsX7_in := goodIn_r _ [11] (by decide +kernel) (by decide +kernel)
set_option maxRecDepth 20000 in
theorem gX7_as_X7_in : GoodIn wsX7_as (va_wsS RX7 85 yX7_in wsX7_in) := goodIn_app (goodIn_of _ (by decide +kernel)) ggX7_as_X7_in
set_option maxRecDepth 20000 in
theorem ggX7_as_X7_of : GoodIn wsX7_as wsX7_of := goodIn_r _ [15, 8, 19, 20, 21, 22, 23, 24, 25, 26, 27, 28, 29, 30, 31, 32, 33, 34, 35, 36, 37, 38, 39, 40, 41, 42, 43, 44, 45, 46, 47, 48, 49, 50, 51, 52, 53, 54, 55, 56, 57] (by decide +kernel) (by decide +kernel)
set_option maxRecDepth 20000 in
theorem gX7_as_X7_of : GoodIn wsX7_as (wsV RX7 99 RX7 yX7_of wsX7_of) := goodIn_app (goodIn_of _ (by decide +kernel)) ggX7_as_X7_of
set_option maxRecDepth 20000 in
theorem ggX7_as_X7_isUnder : GoodIn wsX7_as wsX7_isUnder := goodIn_r _ [18] (by decide +kernel) (by decide +kernel)
set_option maxRecDepth 20000 in
theorem gX7_as_X7_isUnder : GoodIn wsX7_as (va_wsS RX7 119 yX7_isUnder wsX7_isUnder) := goodIn_app (goodIn_of _ (by decide +kernel)) ggX7_as_X7_isUnder
theorem dX7_as_0 : decode cX7_as 0 = .ok (.aload_n 0, 1) := by decide +kernel
theorem dX7_as_1 : decode cX7_as 1 = .ok (.iload_n 1, 1) := by decide +kernel
theorem dX7_as_2 : decode cX7_as 2 = .ok (.invokevirtual 109, 3) := by decide +kernel
theorem dX7_as_5 : decode cX7_as 5 = .ok (.ifCond .eq 12, 3) := by decide +kernel
theorem dX7_as_8 : decode cX7_as 8 = .ok (.iload_n 2, 1) := by decide +kernel
theorem dX7_as_9 : decode cX7_as 9 = .ok (.iconst 0, 1) := by decide +kernel
theorem dX7_as_10 : decode cX7_as 10 = .ok (.iconst 5, 1) := by decide +kernel
theorem dX7_as_11 : decode cX7_as 11 = .ok (.invokestatic 85, 3) := by decide +kernel
theorem dX7_as_14 : decode cX7_as 14 = .ok (.ifCond .ne 6, 3) := by decide +kernel
theorem dX7_as_17 : decode cX7_as 17 = .ok (.ldc 89, 2) := by decide +kernel
theorem dX7_as_19 : decode cX7_as 19 = .ok (.ireturn, 1) := by decide +kernel
theorem dX7_as_20 : decode cX7_as 20 = .ok (.aload_n 0, 1) := by decide +kernel
theorem dX7_as_21 : decode cX7_as 21 = .ok (.iload_n 1, 1) := by decide +kernel
theorem dX7_as_22 : decode cX7_as 22 = .ok (.iconst 0, 1) := by decide +kernel
theorem dX7_as_23 : decode cX7_as 23 = .ok (.invokevirtual 99, 3) := by decide +kernel
theorem dX7_as_26 : decode cX7_as 26 = .ok (.iload_n 2, 1) := by decide +kernel
theorem dX7_as_27 : decode cX7_as 27 = .ok (.invokestatic 119, 3) := by decide +kernel
theorem dX7_as_30 : decode cX7_as 30 = .ok (.ifCond .eq 12, 3) := by decide +kernel
theorem dX7_as_33 : decode cX7_as 33 = .ok (.aload_n 0, 1) := by decide +kernel
theorem dX7_as_34 : decode cX7_as 34 = .ok (.iload_n 1, 1) := by decide +kernel
theorem dX7_as_35 : decode cX7_as 35 = .ok (.iconst 1, 1) := by decide +kernel
theorem dX7_as_36 : decode cX7_as 36 = .ok (.invokevirtual 99, 3) := by decide +kernel
theorem dX7_as_39 : decode cX7_as 39 = .ok (.goto 5, 3) := by decide +kernel
theorem dX7_as_42 : decode cX7_as 42 = .ok (.ldc 123, 2) := by decide +kernel
theorem dX7_as_44 : decode cX7_as 44 = .ok (.ireturn, 1) := by decide +kernel
set_option maxRecDepth 20000 in
theorem ggX7_turns_X7_isPlace : GoodIn wsX7_turns wsX7_isPlace := goodIn_r _ [6, 7, 8, 9, 5, 10, 15, 16, 17, 18, 19, 20, 21, 22, 23, 24, 25, 26, 27, 28, 29, 30, 31, 32, 33, 34, 35, 36, 37, 38, 39, 40, 41, 42, 43, 44, 45, 46, 47, 48, 49, 50, 51, 52, 53] (by decide +kernel) (by decide +kernel)
set_option maxRecDepth 20000 in
theorem gX7_turns_X7_isPlace : GoodIn wsX7_turns (wsV RX7 109 RX7 yX7_isPlace wsX7_isPlace) := goodIn_app (goodIn_of _ (by decide +kernel)) ggX7_turns_X7_isPlace
set_option maxRecDepth 20000 in
theorem ggX7_turns_X7_in : GoodIn wsX7_turns wsX7_in := goodIn_r _ [10] (by decide +kernel) (by decide +kernel)
set_option maxRecDepth 20000 in
theorem gX7_turns_X7_in : GoodIn wsX7_turns (va_wsS RX7 85 yX7_in wsX7_in) := goodIn_app (goodIn_of _ (by decide +kernel)) ggX7_turns_X7_in
set_option maxRecDepth 20000 in
theorem ggX7_turns_X7_becomes : GoodIn wsX7_turns wsX7_becomes := goodIn_r _ [14, 7, 15, 16, 17, 18, 19, 20, 21, 22, 23, 24, 25, 26, 27, 28, 29, 30, 31, 32, 33, 34, 35, 36, 37, 38, 39, 40, 41, 42, 43, 44, 45, 46, 47, 48, 49, 50, 51, 52, 53] (by decide +kernel) (by decide +kernel)
set_option maxRecDepth 20000 in
theorem gX7_turns_X7_becomes : GoodIn wsX7_turns (wsV RX7 124 RX7 yX7_becomes wsX7_becomes) := goodIn_app (goodIn_of _ (by decide +kernel)) ggX7_turns_X7_becomes
theorem dX7_turns_0 : decode cX7_turns 0 = .ok (.aload_n 0, 1) := by decide +kernel
theorem dX7_turns_1 : decode cX7_turns 1 = .ok (.iload_n 1, 1) := by decide +kernel
theorem dX7_turns_2 : decode cX7_turns 2 = .ok (.invokevirtual 109, 3) := by decide +kernel
theorem dX7_turns_5 : decode cX7_turns 5 = .ok (.ifCond .eq 26, 3) := by decide +kernel
theorem dX7_turns_8 : decode cX7_turns 8 = .ok (.iload_n 2, 1) := by decide +kernel
theorem dX7_turns_9 : decode cX7_turns 9 = .ok (.iconst 0, 1) := by decide +kernel
theorem dX7_turns_10 : decode cX7_turns 10 = .ok (.iconst 5, 1) := by decide +kernel
theorem dX7_turns_11 : decode cX7_turns 11 = .ok (.invokestatic 85, 3) := by decide +kernel
theorem dX7_turns_14 : decode cX7_turns 14 = .ok (.ifCond .eq 17, 3) := by decide +kernel
theorem dX7_turns_17 : decode cX7_turns 17 = .ok (.aload_n 0, 1) := by decide +kernel
theorem dX7_turns_18 : decode cX7_turns 18 = .ok (.bipush 9, 2) := by decide +kernel
theorem dX7_turns_20 : decode cX7_turns 20 = .ok (.iconst 3, 1) := by decide +kernel
theorem dX7_turns_21 : decode cX7_turns 21 = .ok (.iload_n 1, 1) := by decide +kernel
theorem dX7_turns_22 : decode cX7_turns 22 = .ok (.imul, 1) := by decide +kernel
theorem dX7_turns_23 : decode cX7_turns 23 = .ok (.iadd, 1) := by decide +kernel
theorem dX7_turns_24 : decode cX7_turns 24 = .ok (.iload_n 2, 1) := by decide +kernel
theorem dX7_turns_25 : decode cX7_turns 25 = .ok (.invokevirtual 124, 3) := by decide +kernel
theorem dX7_turns_28 : decode cX7_turns 28 = .ok (.goto 5, 3) := by decide +kernel
theorem dX7_turns_31 : decode cX7_turns 31 = .ok (.ldc 89, 2) := by decide +kernel
theorem dX7_turns_33 : decode cX7_turns 33 = .ok (.ireturn, 1) := by decide +kernel
set_option maxRecDepth 20000 in
theorem ggX7_set_X7_isPlace : GoodIn wsX7_set wsX7_isPlace := goodIn_r _ [6, 7, 8, 9, 5, 10, 15, 16, 17, 18, 19, 20, 21, 22, 23, 24, 25, 26, 27, 28, 29, 30, 31, 32, 33, 34, 35, 36, 37, 38, 39, 40, 41, 42, 43, 44, 45, 46, 47, 48, 49, 50, 51, 52, 53] (by decide +kernel) (by decide +kernel)
set_option maxRecDepth 20000 in
theorem gX7_set_X7_isPlace : GoodIn wsX7_set (wsV RX7 109 RX7 yX7_isPlace wsX7_isPlace) := goodIn_app (goodIn_of _ (by decide +kernel)) ggX7_set_X7_isPlace
set_option maxRecDepth 20000 in
theorem ggX7_set_X7_in : GoodIn wsX7_set wsX7_in := goodIn_r _ [10] (by decide +kernel) (by decide +kernel)
set_option maxRecDepth 20000 in
theorem gX7_set_X7_in : GoodIn wsX7_set (va_wsS RX7 85 yX7_in wsX7_in) := goodIn_app (goodIn_of _ (by decide +kernel)) ggX7_set_X7_in
set_option maxRecDepth 20000 in
theorem ggX7_set_X7_becomes : GoodIn wsX7_set wsX7_becomes := goodIn_r _ [14, 7, 15, 16, 17, 18, 19, 20, 21, 22, 23, 24, 25, 26, 27, 28, 29, 30, 31, 32, 33, 34, 35, 36, 37, 38, 39, 40, 41, 42, 43, 44, 45, 46, 47, 48, 49, 50, 51, 52, 53] (by decide +kernel) (by decide +kernel)
set_option maxRecDepth 20000 in
theorem gX7_set_X7_becomes : GoodIn wsX7_set (wsV RX7 124 RX7 yX7_becomes wsX7_becomes) := goodIn_app (goodIn_of _ (by decide +kernel)) ggX7_set_X7_becomes
theorem dX7_set_0 : decode cX7_set 0 = .ok (.aload_n 0, 1) := by decide +kernel
theorem dX7_set_1 : decode cX7_set 1 = .ok (.iload_n 1, 1) := by decide +kernel
theorem dX7_set_2 : decode cX7_set 2 = .ok (.invokevirtual 109, 3) := by decide +kernel
theorem dX7_set_5 : decode cX7_set 5 = .ok (.ifCond .eq 47, 3) := by decide +kernel
theorem dX7_set_8 : decode cX7_set 8 = .ok (.iload_n 2, 1) := by decide +kernel
theorem dX7_set_9 : decode cX7_set 9 = .ok (.iconst 1, 1) := by decide +kernel
theorem dX7_set_10 : decode cX7_set 10 = .ok (.iconst 2, 1) := by decide +kernel
theorem dX7_set_11 : decode cX7_set 11 = .ok (.invokestatic 85, 3) := by decide +kernel
theorem dX7_set_14 : decode cX7_set 14 = .ok (.ifCond .eq 38, 3) := by decide +kernel
theorem dX7_set_17 : decode cX7_set 17 = .ok (.iload_n 3, 1) := by decide +kernel
theorem dX7_set_18 : decode cX7_set 18 = .ok (.iconst 0, 1) := by decide +kernel
theorem dX7_set_19 : decode cX7_set 19 = .ok (.iload_n 2, 1) := by decide +kernel
theorem dX7_set_20 : decode cX7_set 20 = .ok (.iconst 1, 1) := by decide +kernel
theorem dX7_set_21 : decode cX7_set 21 = .ok (.if_icmp .ne 8, 3) := by decide +kernel
theorem dX7_set_24 : decode cX7_set 24 = .ok (.bipush 99, 2) := by decide +kernel
theorem dX7_set_26 : decode cX7_set 26 = .ok (.goto 4, 3) := by decide +kernel
theorem dX7_set_29 : decode cX7_set 29 = .ok (.iconst 1, 1) := by decide +kernel
theorem dX7_set_30 : decode cX7_set 30 = .ok (.invokestatic 85, 3) := by decide +kernel
theorem dX7_set_33 : decode cX7_set 33 = .ok (.ifCond .eq 19, 3) := by decide +kernel
theorem dX7_set_36 : decode cX7_set 36 = .ok (.aload_n 0, 1) := by decide +kernel
theorem dX7_set_37 : decode cX7_set 37 = .ok (.bipush 9, 2) := by decide +kernel
theorem dX7_set_39 : decode cX7_set 39 = .ok (.iconst 3, 1) := by decide +kernel
theorem dX7_set_40 : decode cX7_set 40 = .ok (.iload_n 1, 1) := by decide +kernel
theorem dX7_set_41 : decode cX7_set 41 = .ok (.imul, 1) := by decide +kernel
theorem dX7_set_42 : decode cX7_set 42 = .ok (.iadd, 1) := by decide +kernel
theorem dX7_set_43 : decode cX7_set 43 = .ok (.iload_n 2, 1) := by decide +kernel
theorem dX7_set_44 : decode cX7_set 44 = .ok (.iadd, 1) := by decide +kernel
theorem dX7_set_45 : decode cX7_set 45 = .ok (.iload_n 3, 1) := by decide +kernel
theorem dX7_set_46 : decode cX7_set 46 = .ok (.invokevirtual 124, 3) := by decide +kernel
theorem dX7_set_49 : decode cX7_set 49 = .ok (.goto 5, 3) := by decide +kernel
theorem dX7_set_52 : decode cX7_set 52 = .ok (.ldc 89, 2) := by decide +kernel
theorem dX7_set_54 : decode cX7_set 54 = .ok (.ireturn, 1) := by decide +kernel
theorem dX7_draw_0 : decode cX7_draw 0 = .ok (.aload_n 0, 1) := by decide +kernel
theorem dX7_draw_1 : decode cX7_draw 1 = .ok (.getfield 9, 3) := by decide +kernel
theorem dX7_draw_4 : decode cX7_draw 4 = .ok (.iconst 0, 1) := by decide +kernel
theorem dX7_draw_5 : decode cX7_draw 5 = .ok (.aload_n 0, 1) := by decide +kernel
theorem dX7_draw_6 : decode cX7_draw 6 = .ok (.getfield 9, 3) := by decide +kernel
theorem dX7_draw_9 : decode cX7_draw 9 = .ok (.iconst 0, 1) := by decide +kernel
theorem dX7_draw_10 : decode cX7_draw 10 = .ok (.iaload, 1) := by decide +kernel
theorem dX7_draw_11 : decode cX7_draw 11 = .ok (.ldc 127, 2) := by decide +kernel
theorem dX7_draw_13 : decode cX7_draw 13 = .ok (.imul, 1) := by decide +kernel
theorem dX7_draw_14 : decode cX7_draw 14 = .ok (.sipush 12345, 3) := by decide +kernel
theorem dX7_draw_17 : decode cX7_draw 17 = .ok (.iadd, 1) := by decide +kernel
theorem dX7_draw_18 : decode cX7_draw 18 = .ok (.iastore, 1) := by decide +kernel
theorem dX7_draw_19 : decode cX7_draw 19 = .ok (.aload_n 0, 1) := by decide +kernel
theorem dX7_draw_20 : decode cX7_draw 20 = .ok (.getfield 9, 3) := by decide +kernel
theorem dX7_draw_23 : decode cX7_draw 23 = .ok (.iconst 0, 1) := by decide +kernel
theorem dX7_draw_24 : decode cX7_draw 24 = .ok (.iaload, 1) := by decide +kernel
theorem dX7_draw_25 : decode cX7_draw 25 = .ok (.bipush 8, 2) := by decide +kernel
theorem dX7_draw_27 : decode cX7_draw 27 = .ok (.iushr, 1) := by decide +kernel
theorem dX7_draw_28 : decode cX7_draw 28 = .ok (.ireturn, 1) := by decide +kernel
set_option maxRecDepth 20000 in
theorem ggX7_deal_X7_in : GoodIn wsX7_deal wsX7_in := goodIn_r _ [6] (by decide +kernel) (by decide +kernel)
set_option maxRecDepth 20000 in
theorem gX7_deal_X7_in : GoodIn wsX7_deal (va_wsS RX7 85 yX7_in wsX7_in) := goodIn_app (goodIn_of _ (by decide +kernel)) ggX7_deal_X7_in
set_option maxRecDepth 20000 in
theorem ggX7_deal_X7_draw : GoodIn wsX7_deal wsX7_draw := goodIn_r _ [10, 2, 11, 16, 17, 18, 19, 20, 21, 22, 23, 24, 25, 26, 27, 28, 29, 30, 31, 32, 33, 34, 35, 36, 37, 38, 39, 40, 41, 42, 43, 44, 45, 46, 47, 48, 49, 50, 51, 52, 53, 54] (by decide +kernel) (by decide +kernel)
set_option maxRecDepth 20000 in
theorem gX7_deal_X7_draw : GoodIn wsX7_deal (wsV RX7 128 RX7 yX7_draw wsX7_draw) := goodIn_app (goodIn_of _ (by decide +kernel)) ggX7_deal_X7_draw
set_option maxRecDepth 20000 in
theorem ggX7_deal_X7_comes : GoodIn wsX7_deal wsX7_comes := goodIn_r _ [15, 2, 16, 17, 18, 19, 20, 21, 22, 23, 24, 25, 26, 27, 28, 29, 30, 31, 32, 33, 34, 35, 36, 37, 38, 39, 40, 41, 42, 43, 44, 45, 46, 47, 48, 49, 50, 51, 52, 53, 54] (by decide +kernel) (by decide +kernel)
set_option maxRecDepth 20000 in
theorem gX7_deal_X7_comes : GoodIn wsX7_deal (wsV RX7 91 RX7 yX7_comes wsX7_comes) := goodIn_app (goodIn_of _ (by decide +kernel)) ggX7_deal_X7_comes
theorem dX7_deal_0 : decode cX7_deal 0 = .ok (.iload_n 1, 1) := by decide +kernel
theorem dX7_deal_1 : decode cX7_deal 1 = .ok (.iconst 1, 1) := by decide +kernel
theorem dX7_deal_2 : decode cX7_deal 2 = .ok (.bipush 24, 2) := by decide +kernel
theorem dX7_deal_4 : decode cX7_deal 4 = .ok (.invokestatic 85, 3) := by decide +kernel
theorem dX7_deal_7 : decode cX7_deal 7 = .ok (.ifCond .ne 6, 3) := by decide +kernel
theorem dX7_deal_10 : decode cX7_deal 10 = .ok (.ldc 89, 2) := by decide +kernel
theorem dX7_deal_12 : decode cX7_deal 12 = .ok (.ireturn, 1) := by decide +kernel
theorem dX7_deal_13 : decode cX7_deal 13 = .ok (.iconst 0, 1) := by decide +kernel
theorem dX7_deal_14 : decode cX7_deal 14 = .ok (.istore_n 2, 1) := by decide +kernel
theorem dX7_deal_15 : decode cX7_deal 15 = .ok (.iload_n 2, 1) := by decide +kernel
theorem dX7_deal_16 : decode cX7_deal 16 = .ok (.iload_n 1, 1) := by decide +kernel
theorem dX7_deal_17 : decode cX7_deal 17 = .ok (.if_icmp .ge 59, 3) := by decide +kernel
theorem dX7_deal_20 : decode cX7_deal 20 = .ok (.aload_n 0, 1) := by decide +kernel
theorem dX7_deal_21 : decode cX7_deal 21 = .ok (.getfield 9, 3) := by decide +kernel
theorem dX7_deal_24 : decode cX7_deal 24 = .ok (.iconst 1, 1) := by decide +kernel
theorem dX7_deal_25 : decode cX7_deal 25 = .ok (.iaload, 1) := by decide +kernel
theorem dX7_deal_26 : decode cX7_deal 26 = .ok (.bipush 24, 2) := by decide +kernel
theorem dX7_deal_28 : decode cX7_deal 28 = .ok (.if_icmp .ge 48, 3) := by decide +kernel
theorem dX7_deal_31 : decode cX7_deal 31 = .ok (.aload_n 0, 1) := by decide +kernel
theorem dX7_deal_32 : decode cX7_deal 32 = .ok (.invokevirtual 128, 3) := by decide +kernel
theorem dX7_deal_35 : decode cX7_deal 35 = .ok (.iconst 5, 1) := by decide +kernel
theorem dX7_deal_36 : decode cX7_deal 36 = .ok (.irem, 1) := by decide +kernel
theorem dX7_deal_37 : decode cX7_deal 37 = .ok (.istore_n 3, 1) := by decide +kernel
theorem dX7_deal_38 : decode cX7_deal 38 = .ok (.aload_n 0, 1) := by decide +kernel
theorem dX7_deal_39 : decode cX7_deal 39 = .ok (.invokevirtual 128, 3) := by decide +kernel
theorem dX7_deal_42 : decode cX7_deal 42 = .ok (.bipush 100, 2) := by decide +kernel
theorem dX7_deal_44 : decode cX7_deal 44 = .ok (.irem, 1) := by decide +kernel
theorem dX7_deal_45 : decode cX7_deal 45 = .ok (.istore 4, 2) := by decide +kernel
theorem dX7_deal_47 : decode cX7_deal 47 = .ok (.aload_n 0, 1) := by decide +kernel
theorem dX7_deal_48 : decode cX7_deal 48 = .ok (.iload_n 3, 1) := by decide +kernel
theorem dX7_deal_49 : decode cX7_deal 49 = .ok (.iload 4, 2) := by decide +kernel
theorem dX7_deal_51 : decode cX7_deal 51 = .ok (.aload_n 0, 1) := by decide +kernel
theorem dX7_deal_52 : decode cX7_deal 52 = .ok (.invokevirtual 128, 3) := by decide +kernel
theorem dX7_deal_55 : decode cX7_deal 55 = .ok (.iconst 4, 1) := by decide +kernel
theorem dX7_deal_56 : decode cX7_deal 56 = .ok (.irem, 1) := by decide +kernel
theorem dX7_deal_57 : decode cX7_deal 57 = .ok (.ifCond .ne 7, 3) := by decide +kernel
theorem dX7_deal_60 : decode cX7_deal 60 = .ok (.iconst 1, 1) := by decide +kernel
theorem dX7_deal_61 : decode cX7_deal 61 = .ok (.goto 4, 3) := by decide +kernel
theorem dX7_deal_64 : decode cX7_deal 64 = .ok (.iconst 0, 1) := by decide +kernel
theorem dX7_deal_65 : decode cX7_deal 65 = .ok (.invokevirtual 91, 3) := by decide +kernel
theorem dX7_deal_68 : decode cX7_deal 68 = .ok (.istore 5, 2) := by decide +kernel
theorem dX7_deal_70 : decode cX7_deal 70 = .ok (.iinc 2 1, 3) := by decide +kernel
theorem dX7_deal_73 : decode cX7_deal 73 = .ok (.goto (-58), 3) := by decide +kernel
theorem dX7_deal_76 : decode cX7_deal 76 = .ok (.iload_n 2, 1) := by decide +kernel
theorem dX7_deal_77 : decode cX7_deal 77 = .ok (.ireturn, 1) := by decide +kernel
set_option maxRecDepth 20000 in
theorem ggX7_seed_X7_becomes : GoodIn wsX7_seed wsX7_becomes := goodIn_r _ [5, 6, 7, 8, 9, 10, 11, 12, 13, 14, 15, 16, 17, 18, 19, 20, 21, 22, 23, 24, 25, 26, 27, 28, 29, 30, 31, 32, 33, 34, 35, 36, 37, 38, 39, 40, 41, 42, 43, 44, 45] (by decide +kernel) (by decide +kernel)
set_option maxRecDepth 20000 in
theorem gX7_seed_X7_becomes : GoodIn wsX7_seed (wsV RX7 124 RX7 yX7_becomes wsX7_becomes) := goodIn_app (goodIn_of _ (by decide +kernel)) ggX7_seed_X7_becomes
theorem dX7_seed_0 : decode cX7_seed 0 = .ok (.aload_n 0, 1) := by decide +kernel
theorem dX7_seed_1 : decode cX7_seed 1 = .ok (.iconst 0, 1) := by decide +kernel
theorem dX7_seed_2 : decode cX7_seed 2 = .ok (.iload_n 1, 1) := by decide +kernel
theorem dX7_seed_3 : decode cX7_seed 3 = .ok (.invokevirtual 124, 3) := by decide +kernel
theorem dX7_seed_6 : decode cX7_seed 6 = .ok (.ireturn, 1) := by decide +kernel
set_option maxRecDepth 20000 in
theorem ggX7_storm_X7_in : GoodIn wsX7_storm wsX7_in := goodIn_r _ [5] (by decide +kernel) (by decide +kernel)
set_option maxRecDepth 20000 in
theorem gX7_storm_X7_in : GoodIn wsX7_storm (va_wsS RX7 85 yX7_in wsX7_in) := goodIn_app (goodIn_of _ (by decide +kernel)) ggX7_storm_X7_in
set_option maxRecDepth 20000 in
theorem ggX7_storm_X7_becomes : GoodIn wsX7_storm wsX7_becomes := goodIn_r _ [9, 10, 11, 12, 13, 14, 15, 16, 17, 18, 19, 20, 21, 22, 23, 24, 25, 26, 27, 28, 29, 30, 31, 32, 33, 34, 35, 36, 37, 38, 39, 40, 41, 42, 43, 44, 45, 46, 47, 48, 49] (by decide +kernel) (by decide +kernel)
set_option maxRecDepth 20000 in
theorem gX7_storm_X7_becomes : GoodIn wsX7_storm (wsV RX7 124 RX7 yX7_becomes wsX7_becomes) := goodIn_app (goodIn_of _ (by decide +kernel)) ggX7_storm_X7_becomes
theorem dX7_storm_0 : decode cX7_storm 0 = .ok (.iload_n 1, 1) := by decide +kernel
theorem dX7_storm_1 : decode cX7_storm 1 = .ok (.iconst 0, 1) := by decide +kernel
theorem dX7_storm_2 : decode cX7_storm 2 = .ok (.iconst 1, 1) := by decide +kernel
theorem dX7_storm_3 : decode cX7_storm 3 = .ok (.invokestatic 85, 3) := by decide +kernel
theorem dX7_storm_6 : decode cX7_storm 6 = .ok (.ifCond .eq 31, 3) := by decide +kernel
theorem dX7_storm_9 : decode cX7_storm 9 = .ok (.iload_n 2, 1) := by decide +kernel
theorem dX7_storm_10 : decode cX7_storm 10 = .ok (.iload_n 1, 1) := by decide +kernel
theorem dX7_storm_11 : decode cX7_storm 11 = .ok (.ifCond .ne 7, 3) := by decide +kernel
theorem dX7_storm_14 : decode cX7_storm 14 = .ok (.iconst 0, 1) := by decide +kernel
theorem dX7_storm_15 : decode cX7_storm 15 = .ok (.goto 5, 3) := by decide +kernel
theorem dX7_storm_18 : decode cX7_storm 18 = .ok (.bipush (-9), 2) := by decide +kernel
theorem dX7_storm_20 : decode cX7_storm 20 = .ok (.iload_n 1, 1) := by decide +kernel
theorem dX7_storm_21 : decode cX7_storm 21 = .ok (.ifCond .ne 8, 3) := by decide +kernel
theorem dX7_storm_24 : decode cX7_storm 24 = .ok (.bipush 99, 2) := by decide +kernel
theorem dX7_storm_26 : decode cX7_storm 26 = .ok (.goto 5, 3) := by decide +kernel
theorem dX7_storm_29 : decode cX7_storm 29 = .ok (.bipush 9, 2) := by decide +kernel
theorem dX7_storm_31 : decode cX7_storm 31 = .ok (.invokestatic 85, 3) := by decide +kernel
theorem dX7_storm_34 : decode cX7_storm 34 = .ok (.ifCond .ne 6, 3) := by decide +kernel
theorem dX7_storm_37 : decode cX7_storm 37 = .ok (.ldc 89, 2) := by decide +kernel
theorem dX7_storm_39 : decode cX7_storm 39 = .ok (.ireturn, 1) := by decide +kernel
theorem dX7_storm_40 : decode cX7_storm 40 = .ok (.aload_n 0, 1) := by decide +kernel
theorem dX7_storm_41 : decode cX7_storm 41 = .ok (.iconst 4, 1) := by decide +kernel
theorem dX7_storm_42 : decode cX7_storm 42 = .ok (.iload_n 1, 1) := by decide +kernel
theorem dX7_storm_43 : decode cX7_storm 43 = .ok (.iadd, 1) := by decide +kernel
theorem dX7_storm_44 : decode cX7_storm 44 = .ok (.iload_n 2, 1) := by decide +kernel
theorem dX7_storm_45 : decode cX7_storm 45 = .ok (.invokevirtual 124, 3) := by decide +kernel
theorem dX7_storm_48 : decode cX7_storm 48 = .ok (.ireturn, 1) := by decide +kernel
set_option maxRecDepth 20000 in
theorem ggX7_farOn_X7_within : GoodIn wsX7_farOn wsX7_within := goodIn_r _ [5] (by decide +kernel) (by decide +kernel)
set_option maxRecDepth 20000 in
theorem gX7_farOn_X7_within : GoodIn wsX7_farOn (va_wsS RX7 106 yX7_within wsX7_within) := goodIn_app (goodIn_of _ (by decide +kernel)) ggX7_farOn_X7_within
theorem dX7_farOn_0 : decode cX7_farOn 0 = .ok (.aload_n 0, 1) := by decide +kernel
theorem dX7_farOn_1 : decode cX7_farOn 1 = .ok (.getfield 9, 3) := by decide +kernel
theorem dX7_farOn_4 : decode cX7_farOn 4 = .ok (.iconst 4, 1) := by decide +kernel
theorem dX7_farOn_5 : decode cX7_farOn 5 = .ok (.iaload, 1) := by decide +kernel
theorem dX7_farOn_6 : decode cX7_farOn 6 = .ok (.aload_n 0, 1) := by decide +kernel
theorem dX7_farOn_7 : decode cX7_farOn 7 = .ok (.getfield 9, 3) := by decide +kernel
theorem dX7_farOn_10 : decode cX7_farOn 10 = .ok (.iconst 5, 1) := by decide +kernel
theorem dX7_farOn_11 : decode cX7_farOn 11 = .ok (.iaload, 1) := by decide +kernel
theorem dX7_farOn_12 : decode cX7_farOn 12 = .ok (.iload_n 1, 1) := by decide +kernel
theorem dX7_farOn_13 : decode cX7_farOn 13 = .ok (.imul, 1) := by decide +kernel
theorem dX7_farOn_14 : decode cX7_farOn 14 = .ok (.isub, 1) := by decide +kernel
theorem dX7_farOn_15 : decode cX7_farOn 15 = .ok (.iconst 0, 1) := by decide +kernel
theorem dX7_farOn_16 : decode cX7_farOn 16 = .ok (.bipush 99, 2) := by decide +kernel
theorem dX7_farOn_18 : decode cX7_farOn 18 = .ok (.invokestatic 106, 3) := by decide +kernel
theorem dX7_farOn_21 : decode cX7_farOn 21 = .ok (.ireturn, 1) := by decide +kernel
set_option maxRecDepth 20000 in
theorem ggX7_oddsOn_X7_farOn : GoodIn wsX7_oddsOn wsX7_farOn := goodIn_r _ [6, 7, 8, 9, 5, 10, 23, 24, 25, 26, 27, 28, 29, 30, 31, 32, 33, 34, 35, 36, 37, 38, 39, 40, 41, 42, 43, 44, 45, 46, 47, 48, 49, 50, 51, 52, 53, 54, 55, 56, 57, 58, 59, 60, 61] (by decide +kernel) (by decide +kernel)
set_option maxRecDepth 20000 in
theorem gX7_oddsOn_X7_farOn : GoodIn wsX7_oddsOn (wsV RX7 132 RX7 yX7_farOn wsX7_farOn) := goodIn_app (goodIn_of _ (by decide +kernel)) ggX7_oddsOn_X7_farOn
set_option maxRecDepth 20000 in
theorem ggX7_oddsOn_X7_counts : GoodIn wsX7_oddsOn wsX7_counts := goodIn_r _ [14, 7, 23, 24, 25, 26, 27, 28, 29, 30, 31, 32, 33, 34, 35, 36, 37, 38, 39, 40, 41, 42, 43, 44, 45, 46, 47, 48, 49, 50, 51, 52, 53, 54, 55, 56, 57, 58, 59, 60, 61] (by decide +kernel) (by decide +kernel)
set_option maxRecDepth 20000 in
theorem gX7_oddsOn_X7_counts : GoodIn wsX7_oddsOn (wsV RX7 95 RX7 yX7_counts wsX7_counts) := goodIn_app (goodIn_of _ (by decide +kernel)) ggX7_oddsOn_X7_counts
set_option maxRecDepth 20000 in
theorem ggX7_oddsOn_X7_within : GoodIn wsX7_oddsOn wsX7_within := goodIn_r _ [10] (by decide +kernel) (by decide +kernel)
set_option maxRecDepth 20000 in
theorem gX7_oddsOn_X7_within : GoodIn wsX7_oddsOn (va_wsS RX7 106 yX7_within wsX7_within) := goodIn_app (goodIn_of _ (by decide +kernel)) ggX7_oddsOn_X7_within
set_option maxRecDepth 20000 in
theorem ggX7_oddsOn_X7_worksOut : GoodIn wsX7_oddsOn wsX7_worksOut := goodIn_r _ [18, 7, 19, 1, 20, 21, 5, 22, 23, 24, 25, 26, 27, 28, 29, 30, 31, 32, 33, 34, 35, 36, 37, 38, 39, 40, 41, 42, 43, 44, 45, 46, 47, 48, 49, 50, 51, 52, 53, 54, 55, 56, 57, 58, 59, 60, 61] (by decide +kernel) (by decide +kernel)
set_option maxRecDepth 20000 in
theorem gX7_oddsOn_X7_worksOut : GoodIn wsX7_oddsOn (wsV RX7 103 RX7 yX7_worksOut wsX7_worksOut) := goodIn_app (goodIn_of _ (by decide +kernel)) ggX7_oddsOn_X7_worksOut
theorem dX7_oddsOn_0 : decode cX7_oddsOn 0 = .ok (.aload_n 0, 1) := by decide +kernel
theorem dX7_oddsOn_1 : decode cX7_oddsOn 1 = .ok (.iload_n 1, 1) := by decide +kernel
theorem dX7_oddsOn_2 : decode cX7_oddsOn 2 = .ok (.invokevirtual 132, 3) := by decide +kernel
theorem dX7_oddsOn_5 : decode cX7_oddsOn 5 = .ok (.istore_n 2, 1) := by decide +kernel
theorem dX7_oddsOn_6 : decode cX7_oddsOn 6 = .ok (.aload_n 0, 1) := by decide +kernel
theorem dX7_oddsOn_7 : decode cX7_oddsOn 7 = .ok (.iconst 1, 1) := by decide +kernel
theorem dX7_oddsOn_8 : decode cX7_oddsOn 8 = .ok (.invokevirtual 95, 3) := by decide +kernel
theorem dX7_oddsOn_11 : decode cX7_oddsOn 11 = .ok (.istore_n 3, 1) := by decide +kernel
theorem dX7_oddsOn_12 : decode cX7_oddsOn 12 = .ok (.aload_n 0, 1) := by decide +kernel
theorem dX7_oddsOn_13 : decode cX7_oddsOn 13 = .ok (.getfield 54, 3) := by decide +kernel
theorem dX7_oddsOn_16 : decode cX7_oddsOn 16 = .ok (.iconst 0, 1) := by decide +kernel
theorem dX7_oddsOn_17 : decode cX7_oddsOn 17 = .ok (.iload_n 2, 1) := by decide +kernel
theorem dX7_oddsOn_18 : decode cX7_oddsOn 18 = .ok (.iastore, 1) := by decide +kernel
theorem dX7_oddsOn_19 : decode cX7_oddsOn 19 = .ok (.aload_n 0, 1) := by decide +kernel
theorem dX7_oddsOn_20 : decode cX7_oddsOn 20 = .ok (.getfield 54, 3) := by decide +kernel
theorem dX7_oddsOn_23 : decode cX7_oddsOn 23 = .ok (.iconst 1, 1) := by decide +kernel
theorem dX7_oddsOn_24 : decode cX7_oddsOn 24 = .ok (.iload_n 1, 1) := by decide +kernel
theorem dX7_oddsOn_25 : decode cX7_oddsOn 25 = .ok (.iastore, 1) := by decide +kernel
theorem dX7_oddsOn_26 : decode cX7_oddsOn 26 = .ok (.iload_n 3, 1) := by decide +kernel
theorem dX7_oddsOn_27 : decode cX7_oddsOn 27 = .ok (.ifCond .ge 18, 3) := by decide +kernel
theorem dX7_oddsOn_30 : decode cX7_oddsOn 30 = .ok (.bipush 100, 2) := by decide +kernel
theorem dX7_oddsOn_32 : decode cX7_oddsOn 32 = .ok (.iconst 3, 1) := by decide +kernel
theorem dX7_oddsOn_33 : decode cX7_oddsOn 33 = .ok (.iload_n 2, 1) := by decide +kernel
theorem dX7_oddsOn_34 : decode cX7_oddsOn 34 = .ok (.imul, 1) := by decide +kernel
theorem dX7_oddsOn_35 : decode cX7_oddsOn 35 = .ok (.isub, 1) := by decide +kernel
theorem dX7_oddsOn_36 : decode cX7_oddsOn 36 = .ok (.iconst 0, 1) := by decide +kernel
theorem dX7_oddsOn_37 : decode cX7_oddsOn 37 = .ok (.bipush 100, 2) := by decide +kernel
theorem dX7_oddsOn_39 : decode cX7_oddsOn 39 = .ok (.invokestatic 106, 3) := by decide +kernel
theorem dX7_oddsOn_42 : decode cX7_oddsOn 42 = .ok (.goto 14, 3) := by decide +kernel
theorem dX7_oddsOn_45 : decode cX7_oddsOn 45 = .ok (.aload_n 0, 1) := by decide +kernel
theorem dX7_oddsOn_46 : decode cX7_oddsOn 46 = .ok (.iload_n 3, 1) := by decide +kernel
theorem dX7_oddsOn_47 : decode cX7_oddsOn 47 = .ok (.invokevirtual 103, 3) := by decide +kernel
theorem dX7_oddsOn_50 : decode cX7_oddsOn 50 = .ok (.iconst 0, 1) := by decide +kernel
theorem dX7_oddsOn_51 : decode cX7_oddsOn 51 = .ok (.bipush 100, 2) := by decide +kernel
theorem dX7_oddsOn_53 : decode cX7_oddsOn 53 = .ok (.invokestatic 106, 3) := by decide +kernel
theorem dX7_oddsOn_56 : decode cX7_oddsOn 56 = .ok (.ireturn, 1) := by decide +kernel
set_option maxRecDepth 20000 in
theorem ggX7_sky_X7_in : GoodIn wsX7_sky wsX7_in := goodIn_r _ [5] (by decide +kernel) (by decide +kernel)
set_option maxRecDepth 20000 in
theorem gX7_sky_X7_in : GoodIn wsX7_sky (va_wsS RX7 85 yX7_in wsX7_in) := goodIn_app (goodIn_of _ (by decide +kernel)) ggX7_sky_X7_in
set_option maxRecDepth 20000 in
theorem ggX7_sky_X7_farOn : GoodIn wsX7_sky wsX7_farOn := goodIn_r _ [9, 10, 11, 12, 4, 13, 31, 32, 33, 34, 35, 36, 37, 38, 39, 40, 41, 42, 43, 44, 45, 46, 47, 48, 49, 50, 51, 52, 53, 54, 55, 56, 57, 58, 59, 60, 61, 62, 63, 64, 65, 66, 67, 68, 69] (by decide +kernel) (by decide +kernel)
set_option maxRecDepth 20000 in
theorem gX7_sky_X7_farOn : GoodIn wsX7_sky (wsV RX7 132 RX7 yX7_farOn wsX7_farOn) := goodIn_app (goodIn_of _ (by decide +kernel)) ggX7_sky_X7_farOn
set_option maxRecDepth 20000 in
theorem ggX7_sky_X7_oddsOn : GoodIn wsX7_sky wsX7_oddsOn := goodIn_r _ [17, 18, 6, 7, 8, 4, 9, 10, 11, 12, 13, 19, 20, 21, 22, 23, 24, 25, 26, 27, 28, 29, 30, 31, 32, 33, 34, 35, 36, 37, 38, 39, 40, 41, 42, 43, 44, 45, 46, 47, 48, 49, 50, 51, 52, 53, 54, 55, 56, 57, 58, 59, 60, 61, 62, 63, 64, 65, 66, 67, 68, 69] (by decide +kernel) (by decide +kernel)
set_option maxRecDepth 20000 in
theorem gX7_sky_X7_oddsOn : GoodIn wsX7_sky (wsV RX7 135 RX7 yX7_oddsOn wsX7_oddsOn) := goodIn_app (goodIn_of _ (by decide +kernel)) ggX7_sky_X7_oddsOn
theorem dX7_sky_0 : decode cX7_sky 0 = .ok (.iload_n 1, 1) := by decide +kernel
theorem dX7_sky_1 : decode cX7_sky 1 = .ok (.iconst 0, 1) := by decide +kernel
theorem dX7_sky_2 : decode cX7_sky 2 = .ok (.bipush 60, 2) := by decide +kernel
theorem dX7_sky_4 : decode cX7_sky 4 = .ok (.invokestatic 85, 3) := by decide +kernel
theorem dX7_sky_7 : decode cX7_sky 7 = .ok (.ifCond .eq 12, 3) := by decide +kernel
theorem dX7_sky_10 : decode cX7_sky 10 = .ok (.iload_n 2, 1) := by decide +kernel
theorem dX7_sky_11 : decode cX7_sky 11 = .ok (.iconst 0, 1) := by decide +kernel
theorem dX7_sky_12 : decode cX7_sky 12 = .ok (.iconst 1, 1) := by decide +kernel
theorem dX7_sky_13 : decode cX7_sky 13 = .ok (.invokestatic 85, 3) := by decide +kernel
theorem dX7_sky_16 : decode cX7_sky 16 = .ok (.ifCond .ne 6, 3) := by decide +kernel
theorem dX7_sky_19 : decode cX7_sky 19 = .ok (.ldc 89, 2) := by decide +kernel
theorem dX7_sky_21 : decode cX7_sky 21 = .ok (.ireturn, 1) := by decide +kernel
theorem dX7_sky_22 : decode cX7_sky 22 = .ok (.iload_n 2, 1) := by decide +kernel
theorem dX7_sky_23 : decode cX7_sky 23 = .ok (.ifCond .ne 11, 3) := by decide +kernel
theorem dX7_sky_26 : decode cX7_sky 26 = .ok (.aload_n 0, 1) := by decide +kernel
theorem dX7_sky_27 : decode cX7_sky 27 = .ok (.iload_n 1, 1) := by decide +kernel
theorem dX7_sky_28 : decode cX7_sky 28 = .ok (.invokevirtual 132, 3) := by decide +kernel
theorem dX7_sky_31 : decode cX7_sky 31 = .ok (.goto 8, 3) := by decide +kernel
theorem dX7_sky_34 : decode cX7_sky 34 = .ok (.aload_n 0, 1) := by decide +kernel
theorem dX7_sky_35 : decode cX7_sky 35 = .ok (.iload_n 1, 1) := by decide +kernel
theorem dX7_sky_36 : decode cX7_sky 36 = .ok (.invokevirtual 135, 3) := by decide +kernel
theorem dX7_sky_39 : decode cX7_sky 39 = .ok (.ireturn, 1) := by decide +kernel
set_option maxRecDepth 20000 in
theorem ggX7_danger_X7_isPlace : GoodIn wsX7_danger wsX7_isPlace := goodIn_r _ [6, 7, 8, 9, 5, 10, 43, 44, 45, 46, 47, 48, 49, 50, 51, 52, 53, 54, 55, 56, 57, 58, 59, 60, 61, 62, 63, 64, 65, 66, 67, 68, 69, 70, 71, 72, 73, 74, 75, 76, 77, 78, 79, 80, 81] (by decide +kernel) (by decide +kernel)
set_option maxRecDepth 20000 in
theorem gX7_danger_X7_isPlace : GoodIn wsX7_danger (wsV RX7 109 RX7 yX7_isPlace wsX7_isPlace) := goodIn_app (goodIn_of _ (by decide +kernel)) ggX7_danger_X7_isPlace
set_option maxRecDepth 20000 in
theorem ggX7_danger_X7_in : GoodIn wsX7_danger wsX7_in := goodIn_r _ [10] (by decide +kernel) (by decide +kernel)
set_option maxRecDepth 20000 in
theorem gX7_danger_X7_in : GoodIn wsX7_danger (va_wsS RX7 85 yX7_in wsX7_in) := goodIn_app (goodIn_of _ (by decide +kernel)) ggX7_danger_X7_in
set_option maxRecDepth 20000 in
theorem ggX7_danger_X7_riskOf : GoodIn wsX7_danger wsX7_riskOf := goodIn_r _ [14, 15, 16, 17, 18, 5, 19, 7, 20, 21, 22, 23, 24, 25, 26, 27, 28, 29, 30, 31, 32, 33, 34, 43, 44, 45, 46, 47, 48, 49, 50, 51, 52, 53, 54, 55, 56, 57, 58, 59, 60, 61, 62, 63, 64, 65, 66, 67, 68, 69, 70, 71, 72, 73, 74, 75, 76, 77, 78, 79, 80, 81] (by decide +kernel) (by decide +kernel)
set_option maxRecDepth 20000 in
theorem gX7_danger_X7_riskOf : GoodIn wsX7_danger (wsV RX7 113 RX7 yX7_riskOf wsX7_riskOf) := goodIn_app (goodIn_of _ (by decide +kernel)) ggX7_danger_X7_riskOf
set_option maxRecDepth 20000 in
theorem ggX7_danger_X7_oddsOn : GoodIn wsX7_danger wsX7_oddsOn := goodIn_r _ [38, 15, 39, 40, 41, 5, 42, 7, 32, 33, 34, 16, 17, 18, 19, 24, 25, 26, 27, 28, 29, 30, 31, 43, 44, 45, 46, 47, 48, 49, 50, 51, 52, 53, 54, 55, 56, 57, 58, 59, 60, 61, 62, 63, 64, 65, 66, 67, 68, 69, 70, 71, 72, 73, 74, 75, 76, 77, 78, 79, 80, 81] (by decide +kernel) (by decide +kernel)
set_option maxRecDepth 20000 in
theorem gX7_danger_X7_oddsOn : GoodIn wsX7_danger (wsV RX7 135 RX7 yX7_oddsOn wsX7_oddsOn) := goodIn_app (goodIn_of _ (by decide +kernel)) ggX7_danger_X7_oddsOn
theorem dX7_danger_0 : decode cX7_danger 0 = .ok (.aload_n 0, 1) := by decide +kernel
theorem dX7_danger_1 : decode cX7_danger 1 = .ok (.iload_n 1, 1) := by decide +kernel
theorem dX7_danger_2 : decode cX7_danger 2 = .ok (.invokevirtual 109, 3) := by decide +kernel
theorem dX7_danger_5 : decode cX7_danger 5 = .ok (.ifCond .eq 27, 3) := by decide +kernel
theorem dX7_danger_8 : decode cX7_danger 8 = .ok (.iload_n 2, 1) := by decide +kernel
theorem dX7_danger_9 : decode cX7_danger 9 = .ok (.iconst 0, 1) := by decide +kernel
theorem dX7_danger_10 : decode cX7_danger 10 = .ok (.bipush 60, 2) := by decide +kernel
theorem dX7_danger_12 : decode cX7_danger 12 = .ok (.invokestatic 85, 3) := by decide +kernel
theorem dX7_danger_15 : decode cX7_danger 15 = .ok (.ifCond .eq 17, 3) := by decide +kernel
theorem dX7_danger_18 : decode cX7_danger 18 = .ok (.aload_n 0, 1) := by decide +kernel
theorem dX7_danger_19 : decode cX7_danger 19 = .ok (.iload_n 1, 1) := by decide +kernel
theorem dX7_danger_20 : decode cX7_danger 20 = .ok (.invokevirtual 113, 3) := by decide +kernel
theorem dX7_danger_23 : decode cX7_danger 23 = .ok (.aload_n 0, 1) := by decide +kernel
theorem dX7_danger_24 : decode cX7_danger 24 = .ok (.iload_n 2, 1) := by decide +kernel
theorem dX7_danger_25 : decode cX7_danger 25 = .ok (.invokevirtual 135, 3) := by decide +kernel
theorem dX7_danger_28 : decode cX7_danger 28 = .ok (.imul, 1) := by decide +kernel
theorem dX7_danger_29 : decode cX7_danger 29 = .ok (.goto 5, 3) := by decide +kernel
theorem dX7_danger_32 : decode cX7_danger 32 = .ok (.ldc 89, 2) := by decide +kernel
theorem dX7_danger_34 : decode cX7_danger 34 = .ok (.ireturn, 1) := by decide +kernel
set_option maxRecDepth 20000 in
theorem ggX7_come_X7_isPlace : GoodIn wsX7_come wsX7_isPlace := goodIn_r _ [7, 8, 9, 10, 6, 11, 19, 20, 21, 22, 23, 24, 25, 26, 27, 28, 29, 30, 31, 32, 33, 34, 35, 36, 37, 38, 39, 40, 41, 42, 43, 44, 45, 46, 47, 48, 49, 50, 51, 52, 53, 54, 55, 56, 57] (by decide +kernel) (by decide +kernel)
set_option maxRecDepth 20000 in
theorem gX7_come_X7_isPlace : GoodIn wsX7_come (wsV RX7 109 RX7 yX7_isPlace wsX7_isPlace) := goodIn_app (goodIn_of _ (by decide +kernel)) ggX7_come_X7_isPlace
set_option maxRecDepth 20000 in
theorem ggX7_come_X7_becomes : GoodIn wsX7_come wsX7_becomes := goodIn_r _ [15, 8, 19, 20, 21, 22, 23, 24, 25, 26, 27, 28, 29, 30, 31, 32, 33, 34, 35, 36, 37, 38, 39, 40, 41, 42, 43, 44, 45, 46, 47, 48, 49, 50, 51, 52, 53, 54, 55, 56, 57] (by decide +kernel) (by decide +kernel)
set_option maxRecDepth 20000 in
theorem gX7_come_X7_becomes : GoodIn wsX7_come (wsV RX7 124 RX7 yX7_becomes wsX7_becomes) := goodIn_app (goodIn_of _ (by decide +kernel)) ggX7_come_X7_becomes
set_option maxRecDepth 20000 in
theorem ggX7_come_X7_told0 : GoodIn wsX7_come wsX7_told0 := goodIn_r _ [18, 1] (by decide +kernel) (by decide +kernel)
set_option maxRecDepth 20000 in
theorem gX7_come_X7_told0 : GoodIn wsX7_come (va_wsS RX7 138 yX7_told0 wsX7_told0) := goodIn_app (goodIn_of _ (by decide +kernel)) ggX7_come_X7_told0
theorem dX7_come_0 : decode cX7_come 0 = .ok (.iload_n 1, 1) := by decide +kernel
theorem dX7_come_1 : decode cX7_come 1 = .ok (.ldc 84, 2) := by decide +kernel
theorem dX7_come_3 : decode cX7_come 3 = .ok (.if_icmp .eq 14, 3) := by decide +kernel
theorem dX7_come_6 : decode cX7_come 6 = .ok (.aload_n 0, 1) := by decide +kernel
theorem dX7_come_7 : decode cX7_come 7 = .ok (.iload_n 1, 1) := by decide +kernel
theorem dX7_come_8 : decode cX7_come 8 = .ok (.invokevirtual 109, 3) := by decide +kernel
theorem dX7_come_11 : decode cX7_come 11 = .ok (.ifCond .ne 6, 3) := by decide +kernel
theorem dX7_come_14 : decode cX7_come 14 = .ok (.ldc 89, 2) := by decide +kernel
theorem dX7_come_16 : decode cX7_come 16 = .ok (.ireturn, 1) := by decide +kernel
theorem dX7_come_17 : decode cX7_come 17 = .ok (.aload_n 0, 1) := by decide +kernel
theorem dX7_come_18 : decode cX7_come 18 = .ok (.iconst 2, 1) := by decide +kernel
theorem dX7_come_19 : decode cX7_come 19 = .ok (.iload_n 1, 1) := by decide +kernel
theorem dX7_come_20 : decode cX7_come 20 = .ok (.ldc 84, 2) := by decide +kernel
theorem dX7_come_22 : decode cX7_come 22 = .ok (.if_icmp .ne 7, 3) := by decide +kernel
theorem dX7_come_25 : decode cX7_come 25 = .ok (.iconst (-1), 1) := by decide +kernel
theorem dX7_come_26 : decode cX7_come 26 = .ok (.goto 4, 3) := by decide +kernel
theorem dX7_come_29 : decode cX7_come 29 = .ok (.iload_n 1, 1) := by decide +kernel
theorem dX7_come_30 : decode cX7_come 30 = .ok (.invokevirtual 124, 3) := by decide +kernel
theorem dX7_come_33 : decode cX7_come 33 = .ok (.invokestatic 138, 3) := by decide +kernel
theorem dX7_come_36 : decode cX7_come 36 = .ok (.ireturn, 1) := by decide +kernel
theorem dX7_goes_0 : decode cX7_goes 0 = .ok (.iload_n 2, 1) := by decide +kernel
theorem dX7_goes_1 : decode cX7_goes 1 = .ok (.ifCond .ne 25, 3) := by decide +kernel
theorem dX7_goes_4 : decode cX7_goes 4 = .ok (.iload_n 1, 1) := by decide +kernel
theorem dX7_goes_5 : decode cX7_goes 5 = .ok (.iconst 1, 1) := by decide +kernel
theorem dX7_goes_6 : decode cX7_goes 6 = .ok (.iadd, 1) := by decide +kernel
theorem dX7_goes_7 : decode cX7_goes 7 = .ok (.aload_n 0, 1) := by decide +kernel
theorem dX7_goes_8 : decode cX7_goes 8 = .ok (.getfield 9, 3) := by decide +kernel
theorem dX7_goes_11 : decode cX7_goes 11 = .ok (.iconst 1, 1) := by decide +kernel
theorem dX7_goes_12 : decode cX7_goes 12 = .ok (.iaload, 1) := by decide +kernel
theorem dX7_goes_13 : decode cX7_goes 13 = .ok (.if_icmp .ge 9, 3) := by decide +kernel
theorem dX7_goes_16 : decode cX7_goes 16 = .ok (.iload_n 1, 1) := by decide +kernel
theorem dX7_goes_17 : decode cX7_goes 17 = .ok (.iconst 1, 1) := by decide +kernel
theorem dX7_goes_18 : decode cX7_goes 18 = .ok (.iadd, 1) := by decide +kernel
theorem dX7_goes_19 : decode cX7_goes 19 = .ok (.goto 28, 3) := by decide +kernel
theorem dX7_goes_22 : decode cX7_goes 22 = .ok (.iconst (-1), 1) := by decide +kernel
theorem dX7_goes_23 : decode cX7_goes 23 = .ok (.goto 24, 3) := by decide +kernel
theorem dX7_goes_26 : decode cX7_goes 26 = .ok (.iload_n 2, 1) := by decide +kernel
theorem dX7_goes_27 : decode cX7_goes 27 = .ok (.iconst 1, 1) := by decide +kernel
theorem dX7_goes_28 : decode cX7_goes 28 = .ok (.if_icmp .ne 9, 3) := by decide +kernel
theorem dX7_goes_31 : decode cX7_goes 31 = .ok (.iload_n 1, 1) := by decide +kernel
theorem dX7_goes_32 : decode cX7_goes 32 = .ok (.iconst 1, 1) := by decide +kernel
theorem dX7_goes_33 : decode cX7_goes 33 = .ok (.isub, 1) := by decide +kernel
theorem dX7_goes_34 : decode cX7_goes 34 = .ok (.goto 13, 3) := by decide +kernel
theorem dX7_goes_37 : decode cX7_goes 37 = .ok (.iload_n 2, 1) := by decide +kernel
theorem dX7_goes_38 : decode cX7_goes 38 = .ok (.iconst 2, 1) := by decide +kernel
theorem dX7_goes_39 : decode cX7_goes 39 = .ok (.if_icmp .ne 7, 3) := by decide +kernel
theorem dX7_goes_42 : decode cX7_goes 42 = .ok (.iload_n 1, 1) := by decide +kernel
theorem dX7_goes_43 : decode cX7_goes 43 = .ok (.goto 4, 3) := by decide +kernel
theorem dX7_goes_46 : decode cX7_goes 46 = .ok (.iconst (-1), 1) := by decide +kernel
theorem dX7_goes_47 : decode cX7_goes 47 = .ok (.ireturn, 1) := by decide +kernel
set_option maxRecDepth 20000 in
theorem ggX7_may_X7_of : GoodIn wsX7_may wsX7_of := goodIn_r _ [5, 6, 7, 8, 9, 10, 11, 12, 13, 14, 15, 16, 17, 18, 19, 20, 21, 22, 23, 24, 25, 26, 27, 28, 29, 30, 31, 32, 33, 34, 35, 36, 37, 38, 39, 40, 41, 42, 43, 44, 45] (by decide +kernel) (by decide +kernel)
set_option maxRecDepth 20000 in
theorem gX7_may_X7_of : GoodIn wsX7_may (wsV RX7 99 RX7 yX7_of wsX7_of) := goodIn_app (goodIn_of _ (by decide +kernel)) ggX7_may_X7_of
theorem dX7_may_0 : decode cX7_may 0 = .ok (.iload_n 1, 1) := by decide +kernel
theorem dX7_may_1 : decode cX7_may 1 = .ok (.ifCond .ge 16, 3) := by decide +kernel
theorem dX7_may_4 : decode cX7_may 4 = .ok (.iload_n 2, 1) := by decide +kernel
theorem dX7_may_5 : decode cX7_may 5 = .ok (.iconst 2, 1) := by decide +kernel
theorem dX7_may_6 : decode cX7_may 6 = .ok (.if_icmp .ne 7, 3) := by decide +kernel
theorem dX7_may_9 : decode cX7_may 9 = .ok (.iconst 1, 1) := by decide +kernel
theorem dX7_may_10 : decode cX7_may 10 = .ok (.goto 27, 3) := by decide +kernel
theorem dX7_may_13 : decode cX7_may 13 = .ok (.iconst 0, 1) := by decide +kernel
theorem dX7_may_14 : decode cX7_may 14 = .ok (.goto 23, 3) := by decide +kernel
theorem dX7_may_17 : decode cX7_may 17 = .ok (.iload_n 2, 1) := by decide +kernel
theorem dX7_may_18 : decode cX7_may 18 = .ok (.iconst 3, 1) := by decide +kernel
theorem dX7_may_19 : decode cX7_may 19 = .ok (.if_icmp .ne 13, 3) := by decide +kernel
theorem dX7_may_22 : decode cX7_may 22 = .ok (.aload_n 0, 1) := by decide +kernel
theorem dX7_may_23 : decode cX7_may 23 = .ok (.iload_n 1, 1) := by decide +kernel
theorem dX7_may_24 : decode cX7_may 24 = .ok (.iconst 2, 1) := by decide +kernel
theorem dX7_may_25 : decode cX7_may 25 = .ok (.invokevirtual 99, 3) := by decide +kernel
theorem dX7_may_28 : decode cX7_may 28 = .ok (.iconst 1, 1) := by decide +kernel
theorem dX7_may_29 : decode cX7_may 29 = .ok (.if_icmp .ne 7, 3) := by decide +kernel
theorem dX7_may_32 : decode cX7_may 32 = .ok (.iconst 1, 1) := by decide +kernel
theorem dX7_may_33 : decode cX7_may 33 = .ok (.goto 4, 3) := by decide +kernel
theorem dX7_may_36 : decode cX7_may 36 = .ok (.iconst 0, 1) := by decide +kernel
theorem dX7_may_37 : decode cX7_may 37 = .ok (.ireturn, 1) := by decide +kernel
set_option maxRecDepth 20000 in
theorem ggX7_aMinute_X7_riskOf : GoodIn wsX7_aMinute wsX7_riskOf := goodIn_r _ [6, 7, 8, 9, 10, 5, 11, 1, 12, 13, 14, 15, 16, 17, 18, 19, 20, 21, 22, 23, 24, 25, 26, 44, 45, 46, 47, 48, 49, 50, 51, 52, 53, 54, 55, 56, 57, 58, 59, 60, 61, 62, 63, 64, 65, 66, 67, 68, 69, 70, 71, 72, 73, 74, 75, 76, 77, 78, 79, 80, 81, 82] (by decide +kernel) (by decide +kernel)
set_option maxRecDepth 20000 in
theorem gX7_aMinute_X7_riskOf : GoodIn wsX7_aMinute (wsV RX7 113 RX7 yX7_riskOf wsX7_riskOf) := goodIn_app (goodIn_of _ (by decide +kernel)) ggX7_aMinute_X7_riskOf
set_option maxRecDepth 20000 in
theorem ggX7_aMinute_X7_oddsOn : GoodIn wsX7_aMinute wsX7_oddsOn := goodIn_r _ [30, 7, 31, 32, 33, 5, 34, 1, 24, 25, 26, 8, 9, 10, 11, 16, 17, 18, 19, 20, 21, 22, 23, 44, 45, 46, 47, 48, 49, 50, 51, 52, 53, 54, 55, 56, 57, 58, 59, 60, 61, 62, 63, 64, 65, 66, 67, 68, 69, 70, 71, 72, 73, 74, 75, 76, 77, 78, 79, 80, 81, 82] (by decide +kernel) (by decide +kernel)
set_option maxRecDepth 20000 in
theorem gX7_aMinute_X7_oddsOn : GoodIn wsX7_aMinute (wsV RX7 135 RX7 yX7_oddsOn wsX7_oddsOn) := goodIn_app (goodIn_of _ (by decide +kernel)) ggX7_aMinute_X7_oddsOn
set_option maxRecDepth 20000 in
theorem ggX7_aMinute_X7_draw : GoodIn wsX7_aMinute wsX7_draw := goodIn_r _ [38, 1, 39, 44, 45, 46, 47, 48, 49, 50, 51, 52, 53, 54, 55, 56, 57, 58, 59, 60, 61, 62, 63, 64, 65, 66, 67, 68, 69, 70, 71, 72, 73, 74, 75, 76, 77, 78, 79, 80, 81, 82] (by decide +kernel) (by decide +kernel)
set_option maxRecDepth 20000 in
theorem gX7_aMinute_X7_draw : GoodIn wsX7_aMinute (wsV RX7 128 RX7 yX7_draw wsX7_draw) := goodIn_app (goodIn_of _ (by decide +kernel)) ggX7_aMinute_X7_draw
set_option maxRecDepth 20000 in
theorem ggX7_aMinute_X7_goes : GoodIn wsX7_aMinute wsX7_goes := goodIn_r _ [43, 1, 44, 45, 46, 47, 48, 49, 50, 51, 52, 53, 54, 55, 56, 57, 58, 59, 60, 61, 62, 63, 64, 65, 66, 67, 68, 69, 70, 71, 72, 73, 74, 75, 76, 77, 78, 79, 80, 81, 82] (by decide +kernel) (by decide +kernel)
set_option maxRecDepth 20000 in
theorem gX7_aMinute_X7_goes : GoodIn wsX7_aMinute (wsV RX7 141 RX7 yX7_goes wsX7_goes) := goodIn_app (goodIn_of _ (by decide +kernel)) ggX7_aMinute_X7_goes
set_option maxRecDepth 20000 in
theorem ggX7_aMinute_X7_farOn : GoodIn wsX7_aMinute wsX7_farOn := goodIn_r _ [34, 1, 24, 25, 5, 26, 44, 45, 46, 47, 48, 49, 50, 51, 52, 53, 54, 55, 56, 57, 58, 59, 60, 61, 62, 63, 64, 65, 66, 67, 68, 69, 70, 71, 72, 73, 74, 75, 76, 77, 78, 79, 80, 81, 82] (by decide +kernel) (by decide +kernel)
set_option maxRecDepth 20000 in
theorem gX7_aMinute_X7_farOn : GoodIn wsX7_aMinute (wsV RX7 132 RX7 yX7_farOn wsX7_farOn) := goodIn_app (goodIn_of _ (by decide +kernel)) ggX7_aMinute_X7_farOn
theorem dX7_aMinute_0 : decode cX7_aMinute 0 = .ok (.aload_n 0, 1) := by decide +kernel
theorem dX7_aMinute_1 : decode cX7_aMinute 1 = .ok (.getfield 9, 3) := by decide +kernel
theorem dX7_aMinute_4 : decode cX7_aMinute 4 = .ok (.iconst 2, 1) := by decide +kernel
theorem dX7_aMinute_5 : decode cX7_aMinute 5 = .ok (.iaload, 1) := by decide +kernel
theorem dX7_aMinute_6 : decode cX7_aMinute 6 = .ok (.istore_n 2, 1) := by decide +kernel
theorem dX7_aMinute_7 : decode cX7_aMinute 7 = .ok (.iload_n 2, 1) := by decide +kernel
theorem dX7_aMinute_8 : decode cX7_aMinute 8 = .ok (.ifCond .ge 7, 3) := by decide +kernel
theorem dX7_aMinute_11 : decode cX7_aMinute 11 = .ok (.iconst 0, 1) := by decide +kernel
theorem dX7_aMinute_12 : decode cX7_aMinute 12 = .ok (.goto 14, 3) := by decide +kernel
theorem dX7_aMinute_15 : decode cX7_aMinute 15 = .ok (.aload_n 0, 1) := by decide +kernel
theorem dX7_aMinute_16 : decode cX7_aMinute 16 = .ok (.iload_n 2, 1) := by decide +kernel
theorem dX7_aMinute_17 : decode cX7_aMinute 17 = .ok (.invokevirtual 113, 3) := by decide +kernel
theorem dX7_aMinute_20 : decode cX7_aMinute 20 = .ok (.aload_n 0, 1) := by decide +kernel
theorem dX7_aMinute_21 : decode cX7_aMinute 21 = .ok (.iconst 0, 1) := by decide +kernel
theorem dX7_aMinute_22 : decode cX7_aMinute 22 = .ok (.invokevirtual 135, 3) := by decide +kernel
theorem dX7_aMinute_25 : decode cX7_aMinute 25 = .ok (.imul, 1) := by decide +kernel
theorem dX7_aMinute_26 : decode cX7_aMinute 26 = .ok (.istore_n 3, 1) := by decide +kernel
theorem dX7_aMinute_27 : decode cX7_aMinute 27 = .ok (.iload_n 2, 1) := by decide +kernel
theorem dX7_aMinute_28 : decode cX7_aMinute 28 = .ok (.ifCond .lt 53, 3) := by decide +kernel
theorem dX7_aMinute_31 : decode cX7_aMinute 31 = .ok (.aload_n 0, 1) := by decide +kernel
theorem dX7_aMinute_32 : decode cX7_aMinute 32 = .ok (.getfield 9, 3) := by decide +kernel
theorem dX7_aMinute_35 : decode cX7_aMinute 35 = .ok (.bipush 6, 2) := by decide +kernel
theorem dX7_aMinute_37 : decode cX7_aMinute 37 = .ok (.dup2, 1) := by decide +kernel
theorem dX7_aMinute_38 : decode cX7_aMinute 38 = .ok (.iaload, 1) := by decide +kernel
