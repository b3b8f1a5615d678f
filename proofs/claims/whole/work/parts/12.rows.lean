theorem dX1_takeHeights_29 : decode cX1_takeHeights 29 = .ok (.getfield 123, 3) := by decide +kernel
theorem dX1_takeHeights_32 : decode cX1_takeHeights 32 = .ok (.iload_n 3, 1) := by decide +kernel
theorem dX1_takeHeights_33 : decode cX1_takeHeights 33 = .ok (.iaload, 1) := by decide +kernel
theorem dX1_takeHeights_34 : decode cX1_takeHeights 34 = .ok (.iconst 0, 1) := by decide +kernel
theorem dX1_takeHeights_35 : decode cX1_takeHeights 35 = .ok (.bipush 99, 2) := by decide +kernel
theorem dX1_takeHeights_37 : decode cX1_takeHeights 37 = .ok (.invokestatic 78, 3) := by decide +kernel
theorem dX1_takeHeights_40 : decode cX1_takeHeights 40 = .ok (.goto 9, 3) := by decide +kernel
theorem dX1_takeHeights_43 : decode cX1_takeHeights 43 = .ok (.aload_n 0, 1) := by decide +kernel
theorem dX1_takeHeights_44 : decode cX1_takeHeights 44 = .ok (.getfield 15, 3) := by decide +kernel
theorem dX1_takeHeights_47 : decode cX1_takeHeights 47 = .ok (.iload_n 3, 1) := by decide +kernel
theorem dX1_takeHeights_48 : decode cX1_takeHeights 48 = .ok (.iaload, 1) := by decide +kernel
theorem dX1_takeHeights_49 : decode cX1_takeHeights 49 = .ok (.istore 4, 2) := by decide +kernel
theorem dX1_takeHeights_51 : decode cX1_takeHeights 51 = .ok (.iload 4, 2) := by decide +kernel
theorem dX1_takeHeights_53 : decode cX1_takeHeights 53 = .ok (.aload_n 0, 1) := by decide +kernel
theorem dX1_takeHeights_54 : decode cX1_takeHeights 54 = .ok (.getfield 15, 3) := by decide +kernel
theorem dX1_takeHeights_57 : decode cX1_takeHeights 57 = .ok (.iload_n 3, 1) := by decide +kernel
theorem dX1_takeHeights_58 : decode cX1_takeHeights 58 = .ok (.iaload, 1) := by decide +kernel
theorem dX1_takeHeights_59 : decode cX1_takeHeights 59 = .ok (.if_icmp .eq 14, 3) := by decide +kernel
theorem dX1_takeHeights_62 : decode cX1_takeHeights 62 = .ok (.aload_n 0, 1) := by decide +kernel
theorem dX1_takeHeights_63 : decode cX1_takeHeights 63 = .ok (.getfield 15, 3) := by decide +kernel
theorem dX1_takeHeights_66 : decode cX1_takeHeights 66 = .ok (.iload_n 3, 1) := by decide +kernel
theorem dX1_takeHeights_67 : decode cX1_takeHeights 67 = .ok (.iload 4, 2) := by decide +kernel
theorem dX1_takeHeights_69 : decode cX1_takeHeights 69 = .ok (.iastore, 1) := by decide +kernel
theorem dX1_takeHeights_70 : decode cX1_takeHeights 70 = .ok (.iinc 2 1, 3) := by decide +kernel
theorem dX1_takeHeights_73 : decode cX1_takeHeights 73 = .ok (.iinc 3 1, 3) := by decide +kernel
theorem dX1_takeHeights_76 : decode cX1_takeHeights 76 = .ok (.goto (-72), 3) := by decide +kernel
theorem dX1_takeHeights_79 : decode cX1_takeHeights 79 = .ok (.iload_n 2, 1) := by decide +kernel
theorem dX1_takeHeights_80 : decode cX1_takeHeights 80 = .ok (.ireturn, 1) := by decide +kernel
set_option maxRecDepth 20000 in
theorem ggX1_firstNotRisk_X2_isNumber : GoodIn wsX1_firstNotRisk wsX2_isNumber := goodIn_r _ [8, 9, 10, 54, 55, 56] (by decide +kernel) (by decide +kernel)
set_option maxRecDepth 20000 in
theorem gX1_firstNotRisk_X2_isNumber : GoodIn wsX1_firstNotRisk (wsV RX1 120 RX2 yX2_isNumber wsX2_isNumber) := goodIn_app (goodIn_of _ (by decide +kernel)) ggX1_firstNotRisk_X2_isNumber
set_option maxRecDepth 20000 in
theorem ggX1_firstNotRisk_X1_has : GoodIn wsX1_firstNotRisk wsX1_has := goodIn_r _ [15, 16, 57, 58, 59, 60, 61, 62, 63, 64, 65, 66, 67, 68, 69, 70, 71] (by decide +kernel) (by decide +kernel)
set_option maxRecDepth 20000 in
theorem gX1_firstNotRisk_X1_has : GoodIn wsX1_firstNotRisk (wsV RX1 103 RX1 yX1_has wsX1_has) := goodIn_app (goodIn_of _ (by decide +kernel)) ggX1_firstNotRisk_X1_has
set_option maxRecDepth 20000 in
theorem ggX1_firstNotRisk_X1_riskOf : GoodIn wsX1_firstNotRisk wsX1_riskOf := goodIn_r _ [20, 21, 22, 23, 24, 25, 14, 26, 27, 28, 29, 30, 31, 32, 33, 34, 35, 36, 37, 38, 39, 40, 41, 42, 43, 44, 45, 46, 47, 48, 49, 50, 51, 52, 53, 57, 58, 59, 60, 61, 62, 63, 64, 65, 66, 67, 68, 69, 70, 71, 72, 73, 74] (by decide +kernel) (by decide +kernel)
set_option maxRecDepth 20000 in
theorem gX1_firstNotRisk_X1_riskOf : GoodIn wsX1_firstNotRisk (wsV RX1 93 RX1 yX1_riskOf wsX1_riskOf) := goodIn_app (goodIn_of _ (by decide +kernel)) ggX1_firstNotRisk_X1_riskOf
theorem dX1_firstNotRisk_0 : decode cX1_firstNotRisk 0 = .ok (.iconst 0, 1) := by decide +kernel
theorem dX1_firstNotRisk_1 : decode cX1_firstNotRisk 1 = .ok (.istore_n 2, 1) := by decide +kernel
theorem dX1_firstNotRisk_2 : decode cX1_firstNotRisk 2 = .ok (.iload_n 2, 1) := by decide +kernel
theorem dX1_firstNotRisk_3 : decode cX1_firstNotRisk 3 = .ok (.aload_n 1, 1) := by decide +kernel
theorem dX1_firstNotRisk_4 : decode cX1_firstNotRisk 4 = .ok (.getfield 117, 3) := by decide +kernel
theorem dX1_firstNotRisk_7 : decode cX1_firstNotRisk 7 = .ok (.if_icmp .ge 41, 3) := by decide +kernel
theorem dX1_firstNotRisk_10 : decode cX1_firstNotRisk 10 = .ok (.aload_n 1, 1) := by decide +kernel
theorem dX1_firstNotRisk_11 : decode cX1_firstNotRisk 11 = .ok (.iload_n 2, 1) := by decide +kernel
theorem dX1_firstNotRisk_12 : decode cX1_firstNotRisk 12 = .ok (.invokevirtual 120, 3) := by decide +kernel
theorem dX1_firstNotRisk_15 : decode cX1_firstNotRisk 15 = .ok (.ifCond .eq 27, 3) := by decide +kernel
theorem dX1_firstNotRisk_18 : decode cX1_firstNotRisk 18 = .ok (.aload_n 0, 1) := by decide +kernel
theorem dX1_firstNotRisk_19 : decode cX1_firstNotRisk 19 = .ok (.iload_n 2, 1) := by decide +kernel
theorem dX1_firstNotRisk_20 : decode cX1_firstNotRisk 20 = .ok (.invokevirtual 103, 3) := by decide +kernel
theorem dX1_firstNotRisk_23 : decode cX1_firstNotRisk 23 = .ok (.ifCond .eq 17, 3) := by decide +kernel
theorem dX1_firstNotRisk_26 : decode cX1_firstNotRisk 26 = .ok (.aload_n 1, 1) := by decide +kernel
theorem dX1_firstNotRisk_27 : decode cX1_firstNotRisk 27 = .ok (.getfield 123, 3) := by decide +kernel
theorem dX1_firstNotRisk_30 : decode cX1_firstNotRisk 30 = .ok (.iload_n 2, 1) := by decide +kernel
theorem dX1_firstNotRisk_31 : decode cX1_firstNotRisk 31 = .ok (.iaload, 1) := by decide +kernel
theorem dX1_firstNotRisk_32 : decode cX1_firstNotRisk 32 = .ok (.aload_n 0, 1) := by decide +kernel
theorem dX1_firstNotRisk_33 : decode cX1_firstNotRisk 33 = .ok (.iload_n 2, 1) := by decide +kernel
theorem dX1_firstNotRisk_34 : decode cX1_firstNotRisk 34 = .ok (.invokevirtual 93, 3) := by decide +kernel
theorem dX1_firstNotRisk_37 : decode cX1_firstNotRisk 37 = .ok (.if_icmp .eq 5, 3) := by decide +kernel
theorem dX1_firstNotRisk_40 : decode cX1_firstNotRisk 40 = .ok (.iload_n 2, 1) := by decide +kernel
theorem dX1_firstNotRisk_41 : decode cX1_firstNotRisk 41 = .ok (.ireturn, 1) := by decide +kernel
theorem dX1_firstNotRisk_42 : decode cX1_firstNotRisk 42 = .ok (.iinc 2 1, 3) := by decide +kernel
theorem dX1_firstNotRisk_45 : decode cX1_firstNotRisk 45 = .ok (.goto (-43), 3) := by decide +kernel
theorem dX1_firstNotRisk_48 : decode cX1_firstNotRisk 48 = .ok (.ldc 34, 2) := by decide +kernel
theorem dX1_firstNotRisk_50 : decode cX1_firstNotRisk 50 = .ok (.ireturn, 1) := by decide +kernel
theorem dX1_become_0 : decode cX1_become 0 = .ok (.aload_n 1, 1) := by decide +kernel
theorem dX1_become_1 : decode cX1_become 1 = .ok (.getfield 9, 3) := by decide +kernel
theorem dX1_become_4 : decode cX1_become 4 = .ok (.iconst 0, 1) := by decide +kernel
theorem dX1_become_5 : decode cX1_become 5 = .ok (.aload_n 0, 1) := by decide +kernel
theorem dX1_become_6 : decode cX1_become 6 = .ok (.getfield 9, 3) := by decide +kernel
theorem dX1_become_9 : decode cX1_become 9 = .ok (.iconst 0, 1) := by decide +kernel
theorem dX1_become_10 : decode cX1_become 10 = .ok (.bipush 24, 2) := by decide +kernel
theorem dX1_become_12 : decode cX1_become 12 = .ok (.invokestatic 126, 3) := by decide +kernel
theorem dX1_become_15 : decode cX1_become 15 = .ok (.aload_n 1, 1) := by decide +kernel
theorem dX1_become_16 : decode cX1_become 16 = .ok (.getfield 15, 3) := by decide +kernel
theorem dX1_become_19 : decode cX1_become 19 = .ok (.iconst 0, 1) := by decide +kernel
theorem dX1_become_20 : decode cX1_become 20 = .ok (.aload_n 0, 1) := by decide +kernel
theorem dX1_become_21 : decode cX1_become 21 = .ok (.getfield 15, 3) := by decide +kernel
theorem dX1_become_24 : decode cX1_become 24 = .ok (.iconst 0, 1) := by decide +kernel
theorem dX1_become_25 : decode cX1_become 25 = .ok (.bipush 24, 2) := by decide +kernel
theorem dX1_become_27 : decode cX1_become 27 = .ok (.invokestatic 126, 3) := by decide +kernel
theorem dX1_become_30 : decode cX1_become 30 = .ok (.aload_n 1, 1) := by decide +kernel
theorem dX1_become_31 : decode cX1_become 31 = .ok (.getfield 18, 3) := by decide +kernel
theorem dX1_become_34 : decode cX1_become 34 = .ok (.iconst 0, 1) := by decide +kernel
theorem dX1_become_35 : decode cX1_become 35 = .ok (.aload_n 0, 1) := by decide +kernel
theorem dX1_become_36 : decode cX1_become 36 = .ok (.getfield 18, 3) := by decide +kernel
theorem dX1_become_39 : decode cX1_become 39 = .ok (.iconst 0, 1) := by decide +kernel
theorem dX1_become_40 : decode cX1_become 40 = .ok (.bipush 24, 2) := by decide +kernel
theorem dX1_become_42 : decode cX1_become 42 = .ok (.invokestatic 126, 3) := by decide +kernel
theorem dX1_become_45 : decode cX1_become 45 = .ok (.aload_n 1, 1) := by decide +kernel
theorem dX1_become_46 : decode cX1_become 46 = .ok (.getfield 35, 3) := by decide +kernel
theorem dX1_become_49 : decode cX1_become 49 = .ok (.iconst 0, 1) := by decide +kernel
theorem dX1_become_50 : decode cX1_become 50 = .ok (.aload_n 0, 1) := by decide +kernel
theorem dX1_become_51 : decode cX1_become 51 = .ok (.getfield 35, 3) := by decide +kernel
theorem dX1_become_54 : decode cX1_become 54 = .ok (.iconst 0, 1) := by decide +kernel
theorem dX1_become_55 : decode cX1_become 55 = .ok (.iconst 3, 1) := by decide +kernel
theorem dX1_become_56 : decode cX1_become 56 = .ok (.invokestatic 126, 3) := by decide +kernel
theorem dX1_become_59 : decode cX1_become 59 = .ok (.iconst 0, 1) := by decide +kernel
theorem dX1_become_60 : decode cX1_become 60 = .ok (.istore_n 2, 1) := by decide +kernel
theorem dX1_become_61 : decode cX1_become 61 = .ok (.iload_n 2, 1) := by decide +kernel
theorem dX1_become_62 : decode cX1_become 62 = .ok (.bipush 14, 2) := by decide +kernel
theorem dX1_become_64 : decode cX1_become 64 = .ok (.if_icmp .ge 21, 3) := by decide +kernel
theorem dX1_become_67 : decode cX1_become 67 = .ok (.aload_n 0, 1) := by decide +kernel
theorem dX1_become_68 : decode cX1_become 68 = .ok (.getfield 27, 3) := by decide +kernel
theorem dX1_become_71 : decode cX1_become 71 = .ok (.iload_n 2, 1) := by decide +kernel
theorem dX1_become_72 : decode cX1_become 72 = .ok (.aload_n 1, 1) := by decide +kernel
theorem dX1_become_73 : decode cX1_become 73 = .ok (.getfield 27, 3) := by decide +kernel
theorem dX1_become_76 : decode cX1_become 76 = .ok (.iload_n 2, 1) := by decide +kernel
theorem dX1_become_77 : decode cX1_become 77 = .ok (.aaload, 1) := by decide +kernel
theorem dX1_become_78 : decode cX1_become 78 = .ok (.aastore, 1) := by decide +kernel
theorem dX1_become_79 : decode cX1_become 79 = .ok (.iinc 2 1, 3) := by decide +kernel
theorem dX1_become_82 : decode cX1_become 82 = .ok (.goto (-21), 3) := by decide +kernel
theorem dX1_become_85 : decode cX1_become 85 = .ok (.aload_n 0, 1) := by decide +kernel
theorem dX1_become_86 : decode cX1_become 86 = .ok (.aload_n 1, 1) := by decide +kernel
theorem dX1_become_87 : decode cX1_become 87 = .ok (.getfield 21, 3) := by decide +kernel
theorem dX1_become_90 : decode cX1_become 90 = .ok (.putfield 21, 3) := by decide +kernel
theorem dX1_become_93 : decode cX1_become 93 = .ok (.aload_n 0, 1) := by decide +kernel
theorem dX1_become_94 : decode cX1_become 94 = .ok (.aload_n 1, 1) := by decide +kernel
theorem dX1_become_95 : decode cX1_become 95 = .ok (.getfield 31, 3) := by decide +kernel
theorem dX1_become_98 : decode cX1_become 98 = .ok (.putfield 31, 3) := by decide +kernel
theorem dX1_become_101 : decode cX1_become 101 = .ok (.aload_n 0, 1) := by decide +kernel
theorem dX1_become_102 : decode cX1_become 102 = .ok (.aload_n 1, 1) := by decide +kernel
theorem dX1_become_103 : decode cX1_become 103 = .ok (.getfield 38, 3) := by decide +kernel
theorem dX1_become_106 : decode cX1_become 106 = .ok (.putfield 38, 3) := by decide +kernel
theorem dX1_become_109 : decode cX1_become 109 = .ok (.aload_n 0, 1) := by decide +kernel
theorem dX1_become_110 : decode cX1_become 110 = .ok (.aload_n 1, 1) := by decide +kernel
theorem dX1_become_111 : decode cX1_become 111 = .ok (.getfield 41, 3) := by decide +kernel
theorem dX1_become_114 : decode cX1_become 114 = .ok (.putfield 41, 3) := by decide +kernel
theorem dX1_become_117 : decode cX1_become 117 = .ok (.aload_n 0, 1) := by decide +kernel
theorem dX1_become_118 : decode cX1_become 118 = .ok (.aload_n 1, 1) := by decide +kernel
theorem dX1_become_119 : decode cX1_become 119 = .ok (.getfield 44, 3) := by decide +kernel
theorem dX1_become_122 : decode cX1_become 122 = .ok (.putfield 44, 3) := by decide +kernel
theorem dX1_become_125 : decode cX1_become 125 = .ok (.aload_n 0, 1) := by decide +kernel
theorem dX1_become_126 : decode cX1_become 126 = .ok (.aload_n 1, 1) := by decide +kernel
theorem dX1_become_127 : decode cX1_become 127 = .ok (.getfield 47, 3) := by decide +kernel
theorem dX1_become_130 : decode cX1_become 130 = .ok (.putfield 47, 3) := by decide +kernel
theorem dX1_become_133 : decode cX1_become 133 = .ok (.aload_n 0, 1) := by decide +kernel
theorem dX1_become_134 : decode cX1_become 134 = .ok (.aload_n 1, 1) := by decide +kernel
theorem dX1_become_135 : decode cX1_become 135 = .ok (.getfield 50, 3) := by decide +kernel
theorem dX1_become_138 : decode cX1_become 138 = .ok (.putfield 50, 3) := by decide +kernel
theorem dX1_become_141 : decode cX1_become 141 = .ok (.aload_n 0, 1) := by decide +kernel
theorem dX1_become_142 : decode cX1_become 142 = .ok (.aload_n 1, 1) := by decide +kernel
theorem dX1_become_143 : decode cX1_become 143 = .ok (.getfield 53, 3) := by decide +kernel
theorem dX1_become_146 : decode cX1_become 146 = .ok (.putfield 53, 3) := by decide +kernel
theorem dX1_become_149 : decode cX1_become 149 = .ok (.aload_n 0, 1) := by decide +kernel
theorem dX1_become_150 : decode cX1_become 150 = .ok (.aload_n 1, 1) := by decide +kernel
theorem dX1_become_151 : decode cX1_become 151 = .ok (.getfield 56, 3) := by decide +kernel
theorem dX1_become_154 : decode cX1_become 154 = .ok (.putfield 56, 3) := by decide +kernel
theorem dX1_become_157 : decode cX1_become 157 = .ok (.return_, 1) := by decide +kernel
theorem dX2_init_0 : decode cX2_init 0 = .ok (.aload_n 0, 1) := by decide +kernel
theorem dX2_init_1 : decode cX2_init 1 = .ok (.invokespecial 3, 3) := by decide +kernel
theorem dX2_init_4 : decode cX2_init 4 = .ok (.aload_n 0, 1) := by decide +kernel
theorem dX2_init_5 : decode cX2_init 5 = .ok (.iconst (-1), 1) := by decide +kernel
theorem dX2_init_6 : decode cX2_init 6 = .ok (.putfield 9, 3) := by decide +kernel
theorem dX2_init_9 : decode cX2_init 9 = .ok (.aload_n 0, 1) := by decide +kernel
theorem dX2_init_10 : decode cX2_init 10 = .ok (.iconst 0, 1) := by decide +kernel
theorem dX2_init_11 : decode cX2_init 11 = .ok (.putfield 15, 3) := by decide +kernel
theorem dX2_init_14 : decode cX2_init 14 = .ok (.aload_n 0, 1) := by decide +kernel
theorem dX2_init_15 : decode cX2_init 15 = .ok (.bipush 24, 2) := by decide +kernel
theorem dX2_init_17 : decode cX2_init 17 = .ok (.newarray .int, 2) := by decide +kernel
theorem dX2_init_19 : decode cX2_init 19 = .ok (.putfield 18, 3) := by decide +kernel
theorem dX2_init_22 : decode cX2_init 22 = .ok (.return_, 1) := by decide +kernel
theorem dX2_isMissing_0 : decode cX2_isMissing 0 = .ok (.aload_n 0, 1) := by decide +kernel
theorem dX2_isMissing_1 : decode cX2_isMissing 1 = .ok (.getfield 9, 3) := by decide +kernel
theorem dX2_isMissing_4 : decode cX2_isMissing 4 = .ok (.iconst (-1), 1) := by decide +kernel
theorem dX2_isMissing_5 : decode cX2_isMissing 5 = .ok (.if_icmp .ne 7, 3) := by decide +kernel
theorem dX2_isMissing_8 : decode cX2_isMissing 8 = .ok (.iconst 1, 1) := by decide +kernel
theorem dX2_isMissing_9 : decode cX2_isMissing 9 = .ok (.goto 4, 3) := by decide +kernel
theorem dX2_isMissing_12 : decode cX2_isMissing 12 = .ok (.iconst 0, 1) := by decide +kernel
theorem dX2_isMissing_13 : decode cX2_isMissing 13 = .ok (.ireturn, 1) := by decide +kernel
theorem dX2_has_0 : decode cX2_has 0 = .ok (.iload_n 1, 1) := by decide +kernel
theorem dX2_has_1 : decode cX2_has 1 = .ok (.ifCond .lt 15, 3) := by decide +kernel
theorem dX2_has_4 : decode cX2_has 4 = .ok (.iload_n 1, 1) := by decide +kernel
theorem dX2_has_5 : decode cX2_has 5 = .ok (.aload_n 0, 1) := by decide +kernel
theorem dX2_has_6 : decode cX2_has 6 = .ok (.getfield 15, 3) := by decide +kernel
theorem dX2_has_9 : decode cX2_has 9 = .ok (.if_icmp .ge 7, 3) := by decide +kernel
theorem dX2_has_12 : decode cX2_has 12 = .ok (.iconst 1, 1) := by decide +kernel
theorem dX2_has_13 : decode cX2_has 13 = .ok (.goto 4, 3) := by decide +kernel
theorem dX2_has_16 : decode cX2_has 16 = .ok (.iconst 0, 1) := by decide +kernel
theorem dX2_has_17 : decode cX2_has 17 = .ok (.ireturn, 1) := by decide +kernel
theorem dX2_hasStretch_0 : decode cX2_hasStretch 0 = .ok (.iload_n 2, 1) := by decide +kernel
theorem dX2_hasStretch_1 : decode cX2_hasStretch 1 = .ok (.ifCond .lt 29, 3) := by decide +kernel
theorem dX2_hasStretch_4 : decode cX2_hasStretch 4 = .ok (.iload_n 1, 1) := by decide +kernel
theorem dX2_hasStretch_5 : decode cX2_hasStretch 5 = .ok (.ifCond .lt 25, 3) := by decide +kernel
theorem dX2_hasStretch_8 : decode cX2_hasStretch 8 = .ok (.iload_n 1, 1) := by decide +kernel
theorem dX2_hasStretch_9 : decode cX2_hasStretch 9 = .ok (.aload_n 0, 1) := by decide +kernel
theorem dX2_hasStretch_10 : decode cX2_hasStretch 10 = .ok (.getfield 15, 3) := by decide +kernel
theorem dX2_hasStretch_13 : decode cX2_hasStretch 13 = .ok (.if_icmp .gt 17, 3) := by decide +kernel
theorem dX2_hasStretch_16 : decode cX2_hasStretch 16 = .ok (.iload_n 2, 1) := by decide +kernel
theorem dX2_hasStretch_17 : decode cX2_hasStretch 17 = .ok (.aload_n 0, 1) := by decide +kernel
theorem dX2_hasStretch_18 : decode cX2_hasStretch 18 = .ok (.getfield 15, 3) := by decide +kernel
theorem dX2_hasStretch_21 : decode cX2_hasStretch 21 = .ok (.iload_n 1, 1) := by decide +kernel
theorem dX2_hasStretch_22 : decode cX2_hasStretch 22 = .ok (.isub, 1) := by decide +kernel
theorem dX2_hasStretch_23 : decode cX2_hasStretch 23 = .ok (.if_icmp .gt 7, 3) := by decide +kernel
theorem dX2_hasStretch_26 : decode cX2_hasStretch 26 = .ok (.iconst 1, 1) := by decide +kernel
theorem dX2_hasStretch_27 : decode cX2_hasStretch 27 = .ok (.goto 4, 3) := by decide +kernel
theorem dX2_hasStretch_30 : decode cX2_hasStretch 30 = .ok (.iconst 0, 1) := by decide +kernel
theorem dX2_hasStretch_31 : decode cX2_hasStretch 31 = .ok (.ireturn, 1) := by decide +kernel
theorem dX2_isNumber_0 : decode cX2_isNumber 0 = .ok (.aload_n 0, 1) := by decide +kernel
theorem dX2_isNumber_1 : decode cX2_isNumber 1 = .ok (.getfield 18, 3) := by decide +kernel
theorem dX2_isNumber_4 : decode cX2_isNumber 4 = .ok (.iload_n 1, 1) := by decide +kernel
theorem dX2_isNumber_5 : decode cX2_isNumber 5 = .ok (.iaload, 1) := by decide +kernel
theorem dX2_isNumber_6 : decode cX2_isNumber 6 = .ok (.ldc 22, 2) := by decide +kernel
theorem dX2_isNumber_8 : decode cX2_isNumber 8 = .ok (.if_icmp .eq 7, 3) := by decide +kernel
theorem dX2_isNumber_11 : decode cX2_isNumber 11 = .ok (.iconst 1, 1) := by decide +kernel
theorem dX2_isNumber_12 : decode cX2_isNumber 12 = .ok (.goto 4, 3) := by decide +kernel
theorem dX2_isNumber_15 : decode cX2_isNumber 15 = .ok (.iconst 0, 1) := by decide +kernel
theorem dX2_isNumber_16 : decode cX2_isNumber 16 = .ok (.ireturn, 1) := by decide +kernel
set_option maxRecDepth 20000 in
theorem ggX2_beginAnew_J7_fill_53178 : GoodIn wsX2_beginAnew wsJ7_fill_53178 := goodIn_r _ [7] (by decide +kernel) (by decide +kernel)
set_option maxRecDepth 20000 in
theorem gX2_beginAnew_J7_fill_53178 : GoodIn wsX2_beginAnew (va_wsS RX2 23 yJ7_fill_53178 wsJ7_fill_53178) := goodIn_app (goodIn_of _ (by decide +kernel)) ggX2_beginAnew_J7_fill_53178
theorem dX2_beginAnew_0 : decode cX2_beginAnew 0 = .ok (.aload_n 0, 1) := by decide +kernel
theorem dX2_beginAnew_1 : decode cX2_beginAnew 1 = .ok (.iload_n 1, 1) := by decide +kernel
theorem dX2_beginAnew_2 : decode cX2_beginAnew 2 = .ok (.putfield 9, 3) := by decide +kernel
theorem dX2_beginAnew_5 : decode cX2_beginAnew 5 = .ok (.aload_n 0, 1) := by decide +kernel
theorem dX2_beginAnew_6 : decode cX2_beginAnew 6 = .ok (.iload_n 2, 1) := by decide +kernel
theorem dX2_beginAnew_7 : decode cX2_beginAnew 7 = .ok (.putfield 15, 3) := by decide +kernel
theorem dX2_beginAnew_10 : decode cX2_beginAnew 10 = .ok (.aload_n 0, 1) := by decide +kernel
theorem dX2_beginAnew_11 : decode cX2_beginAnew 11 = .ok (.getfield 18, 3) := by decide +kernel
theorem dX2_beginAnew_14 : decode cX2_beginAnew 14 = .ok (.iconst 0, 1) := by decide +kernel
theorem dX2_beginAnew_15 : decode cX2_beginAnew 15 = .ok (.invokestatic 23, 3) := by decide +kernel
theorem dX2_beginAnew_18 : decode cX2_beginAnew 18 = .ok (.return_, 1) := by decide +kernel
theorem dX2_become_0 : decode cX2_become 0 = .ok (.aload_n 0, 1) := by decide +kernel
theorem dX2_become_1 : decode cX2_become 1 = .ok (.aload_n 1, 1) := by decide +kernel
theorem dX2_become_2 : decode cX2_become 2 = .ok (.getfield 9, 3) := by decide +kernel
theorem dX2_become_5 : decode cX2_become 5 = .ok (.putfield 9, 3) := by decide +kernel
theorem dX2_become_8 : decode cX2_become 8 = .ok (.aload_n 0, 1) := by decide +kernel
theorem dX2_become_9 : decode cX2_become 9 = .ok (.aload_n 1, 1) := by decide +kernel
theorem dX2_become_10 : decode cX2_become 10 = .ok (.getfield 15, 3) := by decide +kernel
theorem dX2_become_13 : decode cX2_become 13 = .ok (.putfield 15, 3) := by decide +kernel
theorem dX2_become_16 : decode cX2_become 16 = .ok (.aload_n 1, 1) := by decide +kernel
theorem dX2_become_17 : decode cX2_become 17 = .ok (.getfield 18, 3) := by decide +kernel
theorem dX2_become_20 : decode cX2_become 20 = .ok (.iconst 0, 1) := by decide +kernel
theorem dX2_become_21 : decode cX2_become 21 = .ok (.aload_n 0, 1) := by decide +kernel
theorem dX2_become_22 : decode cX2_become 22 = .ok (.getfield 18, 3) := by decide +kernel
theorem dX2_become_25 : decode cX2_become 25 = .ok (.iconst 0, 1) := by decide +kernel
theorem dX2_become_26 : decode cX2_become 26 = .ok (.bipush 24, 2) := by decide +kernel
theorem dX2_become_28 : decode cX2_become 28 = .ok (.invokestatic 29, 3) := by decide +kernel
theorem dX2_become_31 : decode cX2_become 31 = .ok (.return_, 1) := by decide +kernel
set_option maxRecDepth 20000 in
theorem ggX2_firstNumber_X2_isNumber : GoodIn wsX2_firstNumber wsX2_isNumber := goodIn_r _ [7, 8, 2, 9, 10, 11] (by decide +kernel) (by decide +kernel)
set_option maxRecDepth 20000 in
theorem gX2_firstNumber_X2_isNumber : GoodIn wsX2_firstNumber (wsV RX2 35 RX2 yX2_isNumber wsX2_isNumber) := goodIn_app (goodIn_of _ (by decide +kernel)) ggX2_firstNumber_X2_isNumber
theorem dX2_firstNumber_0 : decode cX2_firstNumber 0 = .ok (.iconst 0, 1) := by decide +kernel
theorem dX2_firstNumber_1 : decode cX2_firstNumber 1 = .ok (.istore_n 1, 1) := by decide +kernel
theorem dX2_firstNumber_2 : decode cX2_firstNumber 2 = .ok (.iload_n 1, 1) := by decide +kernel
theorem dX2_firstNumber_3 : decode cX2_firstNumber 3 = .ok (.aload_n 0, 1) := by decide +kernel
theorem dX2_firstNumber_4 : decode cX2_firstNumber 4 = .ok (.getfield 15, 3) := by decide +kernel
theorem dX2_firstNumber_7 : decode cX2_firstNumber 7 = .ok (.if_icmp .ge 19, 3) := by decide +kernel
theorem dX2_firstNumber_10 : decode cX2_firstNumber 10 = .ok (.aload_n 0, 1) := by decide +kernel
theorem dX2_firstNumber_11 : decode cX2_firstNumber 11 = .ok (.iload_n 1, 1) := by decide +kernel
theorem dX2_firstNumber_12 : decode cX2_firstNumber 12 = .ok (.invokevirtual 35, 3) := by decide +kernel
theorem dX2_firstNumber_15 : decode cX2_firstNumber 15 = .ok (.ifCond .eq 5, 3) := by decide +kernel
theorem dX2_firstNumber_18 : decode cX2_firstNumber 18 = .ok (.iload_n 1, 1) := by decide +kernel
theorem dX2_firstNumber_19 : decode cX2_firstNumber 19 = .ok (.ireturn, 1) := by decide +kernel
theorem dX2_firstNumber_20 : decode cX2_firstNumber 20 = .ok (.iinc 1 1, 3) := by decide +kernel
theorem dX2_firstNumber_23 : decode cX2_firstNumber 23 = .ok (.goto (-21), 3) := by decide +kernel
theorem dX2_firstNumber_26 : decode cX2_firstNumber 26 = .ok (.ldc 22, 2) := by decide +kernel
theorem dX2_firstNumber_28 : decode cX2_firstNumber 28 = .ok (.ireturn, 1) := by decide +kernel
set_option maxRecDepth 20000 in
theorem ggX2_howFar_X2_isNumber : GoodIn wsX2_howFar wsX2_isNumber := goodIn_r _ [7, 2, 8, 9, 10, 11] (by decide +kernel) (by decide +kernel)
set_option maxRecDepth 20000 in
theorem gX2_howFar_X2_isNumber : GoodIn wsX2_howFar (wsV RX2 35 RX2 yX2_isNumber wsX2_isNumber) := goodIn_app (goodIn_of _ (by decide +kernel)) ggX2_howFar_X2_isNumber
theorem dX2_howFar_0 : decode cX2_howFar 0 = .ok (.iconst 0, 1) := by decide +kernel
theorem dX2_howFar_1 : decode cX2_howFar 1 = .ok (.istore_n 1, 1) := by decide +kernel
theorem dX2_howFar_2 : decode cX2_howFar 2 = .ok (.iconst 0, 1) := by decide +kernel
theorem dX2_howFar_3 : decode cX2_howFar 3 = .ok (.istore_n 2, 1) := by decide +kernel
theorem dX2_howFar_4 : decode cX2_howFar 4 = .ok (.iload_n 2, 1) := by decide +kernel
theorem dX2_howFar_5 : decode cX2_howFar 5 = .ok (.aload_n 0, 1) := by decide +kernel
theorem dX2_howFar_6 : decode cX2_howFar 6 = .ok (.getfield 15, 3) := by decide +kernel
theorem dX2_howFar_9 : decode cX2_howFar 9 = .ok (.if_icmp .ge 24, 3) := by decide +kernel
theorem dX2_howFar_12 : decode cX2_howFar 12 = .ok (.aload_n 0, 1) := by decide +kernel
theorem dX2_howFar_13 : decode cX2_howFar 13 = .ok (.iload_n 2, 1) := by decide +kernel
theorem dX2_howFar_14 : decode cX2_howFar 14 = .ok (.invokevirtual 35, 3) := by decide +kernel
theorem dX2_howFar_17 : decode cX2_howFar 17 = .ok (.ifCond .eq 10, 3) := by decide +kernel
theorem dX2_howFar_20 : decode cX2_howFar 20 = .ok (.aload_n 0, 1) := by decide +kernel
theorem dX2_howFar_21 : decode cX2_howFar 21 = .ok (.getfield 18, 3) := by decide +kernel
theorem dX2_howFar_24 : decode cX2_howFar 24 = .ok (.iload_n 2, 1) := by decide +kernel
theorem dX2_howFar_25 : decode cX2_howFar 25 = .ok (.iaload, 1) := by decide +kernel
theorem dX2_howFar_26 : decode cX2_howFar 26 = .ok (.istore_n 1, 1) := by decide +kernel
theorem dX2_howFar_27 : decode cX2_howFar 27 = .ok (.iinc 2 1, 3) := by decide +kernel
theorem dX2_howFar_30 : decode cX2_howFar 30 = .ok (.goto (-26), 3) := by decide +kernel
theorem dX2_howFar_33 : decode cX2_howFar 33 = .ok (.iload_n 1, 1) := by decide +kernel
theorem dX2_howFar_34 : decode cX2_howFar 34 = .ok (.iconst 3, 1) := by decide +kernel
theorem dX2_howFar_35 : decode cX2_howFar 35 = .ok (.idiv, 1) := by decide +kernel
theorem dX2_howFar_36 : decode cX2_howFar 36 = .ok (.ireturn, 1) := by decide +kernel
set_option maxRecDepth 20000 in
theorem ggX2_comes_X2_firstNumber : GoodIn wsX2_comes wsX2_firstNumber := goodIn_r _ [8, 3, 1, 9, 10, 11, 7, 12, 2, 13, 14, 15] (by decide +kernel) (by decide +kernel)
set_option maxRecDepth 20000 in
theorem gX2_comes_X2_firstNumber : GoodIn wsX2_comes (wsV RX2 39 RX2 yX2_firstNumber wsX2_firstNumber) := goodIn_app (goodIn_of _ (by decide +kernel)) ggX2_comes_X2_firstNumber
set_option maxRecDepth 20000 in
theorem ggX2_comes_X2_isNumber : GoodIn wsX2_comes wsX2_isNumber := goodIn_r _ [12, 2, 1, 13, 14, 15] (by decide +kernel) (by decide +kernel)
set_option maxRecDepth 20000 in
theorem gX2_comes_X2_isNumber : GoodIn wsX2_comes (wsV RX2 35 RX2 yX2_isNumber wsX2_isNumber) := goodIn_app (goodIn_of _ (by decide +kernel)) ggX2_comes_X2_isNumber
theorem dX2_comes_0 : decode cX2_comes 0 = .ok (.aload_n 0, 1) := by decide +kernel
theorem dX2_comes_1 : decode cX2_comes 1 = .ok (.invokevirtual 39, 3) := by decide +kernel
theorem dX2_comes_4 : decode cX2_comes 4 = .ok (.istore_n 1, 1) := by decide +kernel
theorem dX2_comes_5 : decode cX2_comes 5 = .ok (.iload_n 1, 1) := by decide +kernel
theorem dX2_comes_6 : decode cX2_comes 6 = .ok (.ldc 22, 2) := by decide +kernel
theorem dX2_comes_8 : decode cX2_comes 8 = .ok (.if_icmp .ne 5, 3) := by decide +kernel
theorem dX2_comes_11 : decode cX2_comes 11 = .ok (.iconst 0, 1) := by decide +kernel
theorem dX2_comes_12 : decode cX2_comes 12 = .ok (.ireturn, 1) := by decide +kernel
theorem dX2_comes_13 : decode cX2_comes 13 = .ok (.iconst 0, 1) := by decide +kernel
theorem dX2_comes_14 : decode cX2_comes 14 = .ok (.istore_n 2, 1) := by decide +kernel
theorem dX2_comes_15 : decode cX2_comes 15 = .ok (.aload_n 0, 1) := by decide +kernel
theorem dX2_comes_16 : decode cX2_comes 16 = .ok (.getfield 18, 3) := by decide +kernel
theorem dX2_comes_19 : decode cX2_comes 19 = .ok (.iload_n 1, 1) := by decide +kernel
theorem dX2_comes_20 : decode cX2_comes 20 = .ok (.iaload, 1) := by decide +kernel
theorem dX2_comes_21 : decode cX2_comes 21 = .ok (.istore_n 3, 1) := by decide +kernel
theorem dX2_comes_22 : decode cX2_comes 22 = .ok (.iload_n 1, 1) := by decide +kernel
theorem dX2_comes_23 : decode cX2_comes 23 = .ok (.iconst 1, 1) := by decide +kernel
theorem dX2_comes_24 : decode cX2_comes 24 = .ok (.iadd, 1) := by decide +kernel
theorem dX2_comes_25 : decode cX2_comes 25 = .ok (.istore 4, 2) := by decide +kernel
theorem dX2_comes_27 : decode cX2_comes 27 = .ok (.iload 4, 2) := by decide +kernel
theorem dX2_comes_29 : decode cX2_comes 29 = .ok (.aload_n 0, 1) := by decide +kernel
theorem dX2_comes_30 : decode cX2_comes 30 = .ok (.getfield 15, 3) := by decide +kernel
theorem dX2_comes_33 : decode cX2_comes 33 = .ok (.if_icmp .ge 57, 3) := by decide +kernel
theorem dX2_comes_36 : decode cX2_comes 36 = .ok (.aload_n 0, 1) := by decide +kernel
theorem dX2_comes_37 : decode cX2_comes 37 = .ok (.iload 4, 2) := by decide +kernel
theorem dX2_comes_39 : decode cX2_comes 39 = .ok (.invokevirtual 35, 3) := by decide +kernel
theorem dX2_comes_42 : decode cX2_comes 42 = .ok (.ifCond .eq 42, 3) := by decide +kernel
theorem dX2_comes_45 : decode cX2_comes 45 = .ok (.aload_n 0, 1) := by decide +kernel
theorem dX2_comes_46 : decode cX2_comes 46 = .ok (.getfield 18, 3) := by decide +kernel
theorem dX2_comes_49 : decode cX2_comes 49 = .ok (.iload 4, 2) := by decide +kernel
theorem dX2_comes_51 : decode cX2_comes 51 = .ok (.iaload, 1) := by decide +kernel
theorem dX2_comes_52 : decode cX2_comes 52 = .ok (.iload_n 3, 1) := by decide +kernel
theorem dX2_comes_53 : decode cX2_comes 53 = .ok (.if_icmp .ge 9, 3) := by decide +kernel
theorem dX2_comes_56 : decode cX2_comes 56 = .ok (.iinc 2 1, 3) := by decide +kernel
theorem dX2_comes_59 : decode cX2_comes 59 = .ok (.goto 17, 3) := by decide +kernel
theorem dX2_comes_62 : decode cX2_comes 62 = .ok (.aload_n 0, 1) := by decide +kernel
theorem dX2_comes_63 : decode cX2_comes 63 = .ok (.getfield 18, 3) := by decide +kernel
theorem dX2_comes_66 : decode cX2_comes 66 = .ok (.iload 4, 2) := by decide +kernel
theorem dX2_comes_68 : decode cX2_comes 68 = .ok (.iaload, 1) := by decide +kernel
theorem dX2_comes_69 : decode cX2_comes 69 = .ok (.iload_n 3, 1) := by decide +kernel
theorem dX2_comes_70 : decode cX2_comes 70 = .ok (.if_icmp .le 6, 3) := by decide +kernel
theorem dX2_comes_73 : decode cX2_comes 73 = .ok (.iinc 2 (-1), 3) := by decide +kernel
theorem dX2_comes_76 : decode cX2_comes 76 = .ok (.aload_n 0, 1) := by decide +kernel
theorem dX2_comes_77 : decode cX2_comes 77 = .ok (.getfield 18, 3) := by decide +kernel
theorem dX2_comes_80 : decode cX2_comes 80 = .ok (.iload 4, 2) := by decide +kernel
theorem dX2_comes_82 : decode cX2_comes 82 = .ok (.iaload, 1) := by decide +kernel
theorem dX2_comes_83 : decode cX2_comes 83 = .ok (.istore_n 3, 1) := by decide +kernel
theorem dX2_comes_84 : decode cX2_comes 84 = .ok (.iinc 4 1, 3) := by decide +kernel
theorem dX2_comes_87 : decode cX2_comes 87 = .ok (.goto (-60), 3) := by decide +kernel
theorem dX2_comes_90 : decode cX2_comes 90 = .ok (.iload_n 2, 1) := by decide +kernel
theorem dX2_comes_91 : decode cX2_comes 91 = .ok (.ireturn, 1) := by decide +kernel
set_option maxRecDepth 20000 in
theorem ggX2_explainingPace_X2_differences : GoodIn wsX2_explainingPace wsX2_differences := goodIn_r _ [5, 6, 7, 8, 9, 10, 11, 12, 13, 14, 15, 4, 16, 17, 18, 19, 20, 21, 22, 23, 24, 25, 26, 27, 28, 29, 30, 31, 32] (by decide +kernel) (by decide +kernel)
set_option maxRecDepth 20000 in
theorem gX2_explainingPace_X2_differences : GoodIn wsX2_explainingPace (wsV RX2 43 RX2 yX2_differences wsX2_differences) := goodIn_app (goodIn_of _ (by decide +kernel)) ggX2_explainingPace_X2_differences
theorem dX2_explainingPace_0 : decode cX2_explainingPace 0 = .ok (.bipush (-9), 2) := by decide +kernel
theorem dX2_explainingPace_2 : decode cX2_explainingPace 2 = .ok (.istore_n 1, 1) := by decide +kernel
theorem dX2_explainingPace_3 : decode cX2_explainingPace 3 = .ok (.aload_n 0, 1) := by decide +kernel
theorem dX2_explainingPace_4 : decode cX2_explainingPace 4 = .ok (.iload_n 1, 1) := by decide +kernel
theorem dX2_explainingPace_5 : decode cX2_explainingPace 5 = .ok (.invokevirtual 43, 3) := by decide +kernel
theorem dX2_explainingPace_8 : decode cX2_explainingPace 8 = .ok (.istore_n 2, 1) := by decide +kernel
theorem dX2_explainingPace_9 : decode cX2_explainingPace 9 = .ok (.bipush (-8), 2) := by decide +kernel
theorem dX2_explainingPace_11 : decode cX2_explainingPace 11 = .ok (.istore_n 3, 1) := by decide +kernel
theorem dX2_explainingPace_12 : decode cX2_explainingPace 12 = .ok (.iload_n 3, 1) := by decide +kernel
theorem dX2_explainingPace_13 : decode cX2_explainingPace 13 = .ok (.bipush 9, 2) := by decide +kernel
theorem dX2_explainingPace_15 : decode cX2_explainingPace 15 = .ok (.if_icmp .gt 27, 3) := by decide +kernel
theorem dX2_explainingPace_18 : decode cX2_explainingPace 18 = .ok (.aload_n 0, 1) := by decide +kernel
theorem dX2_explainingPace_19 : decode cX2_explainingPace 19 = .ok (.iload_n 3, 1) := by decide +kernel
theorem dX2_explainingPace_20 : decode cX2_explainingPace 20 = .ok (.invokevirtual 43, 3) := by decide +kernel
theorem dX2_explainingPace_23 : decode cX2_explainingPace 23 = .ok (.istore 4, 2) := by decide +kernel
theorem dX2_explainingPace_25 : decode cX2_explainingPace 25 = .ok (.iload 4, 2) := by decide +kernel
theorem dX2_explainingPace_27 : decode cX2_explainingPace 27 = .ok (.iload_n 2, 1) := by decide +kernel
theorem dX2_explainingPace_28 : decode cX2_explainingPace 28 = .ok (.if_icmp .ge 8, 3) := by decide +kernel
theorem dX2_explainingPace_31 : decode cX2_explainingPace 31 = .ok (.iload 4, 2) := by decide +kernel
theorem dX2_explainingPace_33 : decode cX2_explainingPace 33 = .ok (.istore_n 2, 1) := by decide +kernel
theorem dX2_explainingPace_34 : decode cX2_explainingPace 34 = .ok (.iload_n 3, 1) := by decide +kernel
theorem dX2_explainingPace_35 : decode cX2_explainingPace 35 = .ok (.istore_n 1, 1) := by decide +kernel
theorem dX2_explainingPace_36 : decode cX2_explainingPace 36 = .ok (.iinc 3 1, 3) := by decide +kernel
theorem dX2_explainingPace_39 : decode cX2_explainingPace 39 = .ok (.goto (-27), 3) := by decide +kernel
theorem dX2_explainingPace_42 : decode cX2_explainingPace 42 = .ok (.iload_n 1, 1) := by decide +kernel
theorem dX2_explainingPace_43 : decode cX2_explainingPace 43 = .ok (.ireturn, 1) := by decide +kernel
set_option maxRecDepth 20000 in
theorem ggX2_differences_X2_firstNumber : GoodIn wsX2_differences wsX2_firstNumber := goodIn_r _ [12, 3, 1, 13, 14, 15, 11, 16, 2, 26, 27, 28] (by decide +kernel) (by decide +kernel)
set_option maxRecDepth 20000 in
theorem gX2_differences_X2_firstNumber : GoodIn wsX2_differences (wsV RX2 39 RX2 yX2_firstNumber wsX2_firstNumber) := goodIn_app (goodIn_of _ (by decide +kernel)) ggX2_differences_X2_firstNumber
set_option maxRecDepth 20000 in
theorem ggX2_differences_X2_isNumber : GoodIn wsX2_differences wsX2_isNumber := goodIn_r _ [16, 2, 1, 26, 27, 28] (by decide +kernel) (by decide +kernel)
set_option maxRecDepth 20000 in
theorem gX2_differences_X2_isNumber : GoodIn wsX2_differences (wsV RX2 35 RX2 yX2_isNumber wsX2_isNumber) := goodIn_app (goodIn_of _ (by decide +kernel)) ggX2_differences_X2_isNumber
set_option maxRecDepth 20000 in
theorem ggX2_differences_X6_held : GoodIn wsX2_differences wsX6_held := goodIn_r _ [19, 20, 21, 6, 22, 23, 24, 25] (by decide +kernel) (by decide +kernel)
set_option maxRecDepth 20000 in
theorem gX2_differences_X6_held_n47 : GoodIn wsX2_differences (wsX6_held) := ggX2_differences_X6_held
theorem dX2_differences_0 : decode cX2_differences 0 = .ok (.aload_n 0, 1) := by decide +kernel
theorem dX2_differences_1 : decode cX2_differences 1 = .ok (.invokevirtual 39, 3) := by decide +kernel
theorem dX2_differences_4 : decode cX2_differences 4 = .ok (.istore_n 2, 1) := by decide +kernel
theorem dX2_differences_5 : decode cX2_differences 5 = .ok (.iload_n 2, 1) := by decide +kernel
theorem dX2_differences_6 : decode cX2_differences 6 = .ok (.ldc 22, 2) := by decide +kernel
theorem dX2_differences_8 : decode cX2_differences 8 = .ok (.if_icmp .ne 5, 3) := by decide +kernel
theorem dX2_differences_11 : decode cX2_differences 11 = .ok (.iconst 0, 1) := by decide +kernel
theorem dX2_differences_12 : decode cX2_differences 12 = .ok (.ireturn, 1) := by decide +kernel
theorem dX2_differences_13 : decode cX2_differences 13 = .ok (.aload_n 0, 1) := by decide +kernel
theorem dX2_differences_14 : decode cX2_differences 14 = .ok (.getfield 18, 3) := by decide +kernel
theorem dX2_differences_17 : decode cX2_differences 17 = .ok (.iload_n 2, 1) := by decide +kernel
theorem dX2_differences_18 : decode cX2_differences 18 = .ok (.iaload, 1) := by decide +kernel
theorem dX2_differences_19 : decode cX2_differences 19 = .ok (.iconst 3, 1) := by decide +kernel
theorem dX2_differences_20 : decode cX2_differences 20 = .ok (.idiv, 1) := by decide +kernel
theorem dX2_differences_21 : decode cX2_differences 21 = .ok (.istore_n 3, 1) := by decide +kernel
theorem dX2_differences_22 : decode cX2_differences 22 = .ok (.iconst 0, 1) := by decide +kernel
theorem dX2_differences_23 : decode cX2_differences 23 = .ok (.istore 4, 2) := by decide +kernel
theorem dX2_differences_25 : decode cX2_differences 25 = .ok (.iload_n 2, 1) := by decide +kernel
theorem dX2_differences_26 : decode cX2_differences 26 = .ok (.istore 5, 2) := by decide +kernel
theorem dX2_differences_28 : decode cX2_differences 28 = .ok (.iload 5, 2) := by decide +kernel
theorem dX2_differences_30 : decode cX2_differences 30 = .ok (.aload_n 0, 1) := by decide +kernel
theorem dX2_differences_31 : decode cX2_differences 31 = .ok (.getfield 15, 3) := by decide +kernel
theorem dX2_differences_34 : decode cX2_differences 34 = .ok (.if_icmp .ge 50, 3) := by decide +kernel
theorem dX2_differences_37 : decode cX2_differences 37 = .ok (.aload_n 0, 1) := by decide +kernel
theorem dX2_differences_38 : decode cX2_differences 38 = .ok (.iload 5, 2) := by decide +kernel
theorem dX2_differences_40 : decode cX2_differences 40 = .ok (.invokevirtual 35, 3) := by decide +kernel
theorem dX2_differences_43 : decode cX2_differences 43 = .ok (.ifCond .eq 35, 3) := by decide +kernel
theorem dX2_differences_46 : decode cX2_differences 46 = .ok (.iload 4, 2) := by decide +kernel
theorem dX2_differences_48 : decode cX2_differences 48 = .ok (.aload_n 0, 1) := by decide +kernel
theorem dX2_differences_49 : decode cX2_differences 49 = .ok (.getfield 18, 3) := by decide +kernel
theorem dX2_differences_52 : decode cX2_differences 52 = .ok (.iload 5, 2) := by decide +kernel
theorem dX2_differences_54 : decode cX2_differences 54 = .ok (.iaload, 1) := by decide +kernel
theorem dX2_differences_55 : decode cX2_differences 55 = .ok (.iconst 3, 1) := by decide +kernel
theorem dX2_differences_56 : decode cX2_differences 56 = .ok (.iload_n 3, 1) := by decide +kernel
theorem dX2_differences_57 : decode cX2_differences 57 = .ok (.iload_n 1, 1) := by decide +kernel
theorem dX2_differences_58 : decode cX2_differences 58 = .ok (.iload 5, 2) := by decide +kernel
theorem dX2_differences_60 : decode cX2_differences 60 = .ok (.iload_n 2, 1) := by decide +kernel
theorem dX2_differences_61 : decode cX2_differences 61 = .ok (.isub, 1) := by decide +kernel
theorem dX2_differences_62 : decode cX2_differences 62 = .ok (.imul, 1) := by decide +kernel
theorem dX2_differences_63 : decode cX2_differences 63 = .ok (.isub, 1) := by decide +kernel
theorem dX2_differences_64 : decode cX2_differences 64 = .ok (.iconst 0, 1) := by decide +kernel
theorem dX2_differences_65 : decode cX2_differences 65 = .ok (.bipush 99, 2) := by decide +kernel
theorem dX2_differences_67 : decode cX2_differences 67 = .ok (.invokestatic 47, 3) := by decide +kernel
theorem dX2_differences_70 : decode cX2_differences 70 = .ok (.imul, 1) := by decide +kernel
theorem dX2_differences_71 : decode cX2_differences 71 = .ok (.isub, 1) := by decide +kernel
theorem dX2_differences_72 : decode cX2_differences 72 = .ok (.invokestatic 51, 3) := by decide +kernel
theorem dX2_differences_75 : decode cX2_differences 75 = .ok (.iadd, 1) := by decide +kernel
theorem dX2_differences_76 : decode cX2_differences 76 = .ok (.istore 4, 2) := by decide +kernel
theorem dX2_differences_78 : decode cX2_differences 78 = .ok (.iinc 5 1, 3) := by decide +kernel
theorem dX2_differences_81 : decode cX2_differences 81 = .ok (.goto (-53), 3) := by decide +kernel
theorem dX2_differences_84 : decode cX2_differences 84 = .ok (.iload 4, 2) := by decide +kernel
theorem dX2_differences_86 : decode cX2_differences 86 = .ok (.ireturn, 1) := by decide +kernel
set_option maxRecDepth 20000 in
theorem ggX3_init_X2_init : GoodIn wsX3_init wsX2_init := goodIn_r _ [13, 14, 2, 3, 15, 16, 17, 18, 24, 25, 26] (by decide +kernel) (by decide +kernel)
set_option maxRecDepth 20000 in
theorem gX3_init_X2_init_n26 : GoodIn wsX3_init (wsX2_init) := ggX3_init_X2_init
theorem dX3_init_0 : decode cX3_init 0 = .ok (.aload_n 0, 1) := by decide +kernel
theorem dX3_init_1 : decode cX3_init 1 = .ok (.invokespecial 3, 3) := by decide +kernel
theorem dX3_init_4 : decode cX3_init 4 = .ok (.aload_n 0, 1) := by decide +kernel
theorem dX3_init_5 : decode cX3_init 5 = .ok (.iconst 0, 1) := by decide +kernel
theorem dX3_init_6 : decode cX3_init 6 = .ok (.putfield 9, 3) := by decide +kernel
theorem dX3_init_9 : decode cX3_init 9 = .ok (.aload_n 0, 1) := by decide +kernel
theorem dX3_init_10 : decode cX3_init 10 = .ok (.iconst 0, 1) := by decide +kernel
theorem dX3_init_11 : decode cX3_init 11 = .ok (.putfield 15, 3) := by decide +kernel
theorem dX3_init_14 : decode cX3_init 14 = .ok (.aload_n 0, 1) := by decide +kernel
theorem dX3_init_15 : decode cX3_init 15 = .ok (.iconst 0, 1) := by decide +kernel
theorem dX3_init_16 : decode cX3_init 16 = .ok (.putfield 18, 3) := by decide +kernel
theorem dX3_init_19 : decode cX3_init 19 = .ok (.aload_n 0, 1) := by decide +kernel
theorem dX3_init_20 : decode cX3_init 20 = .ok (.iconst 0, 1) := by decide +kernel
theorem dX3_init_21 : decode cX3_init 21 = .ok (.putfield 21, 3) := by decide +kernel
theorem dX3_init_24 : decode cX3_init 24 = .ok (.aload_n 0, 1) := by decide +kernel
theorem dX3_init_25 : decode cX3_init 25 = .ok (.new 24, 3) := by decide +kernel
theorem dX3_init_28 : decode cX3_init 28 = .ok (.dup, 1) := by decide +kernel
theorem dX3_init_29 : decode cX3_init 29 = .ok (.invokespecial 26, 3) := by decide +kernel
theorem dX3_init_32 : decode cX3_init 32 = .ok (.putfield 27, 3) := by decide +kernel
theorem dX3_init_35 : decode cX3_init 35 = .ok (.return_, 1) := by decide +kernel
theorem dX3_takePlace_0 : decode cX3_takePlace 0 = .ok (.aload_n 0, 1) := by decide +kernel
theorem dX3_takePlace_1 : decode cX3_takePlace 1 = .ok (.iload_n 1, 1) := by decide +kernel
theorem dX3_takePlace_2 : decode cX3_takePlace 2 = .ok (.putfield 15, 3) := by decide +kernel
theorem dX3_takePlace_5 : decode cX3_takePlace 5 = .ok (.aload_n 0, 1) := by decide +kernel
theorem dX3_takePlace_6 : decode cX3_takePlace 6 = .ok (.iload_n 2, 1) := by decide +kernel
theorem dX3_takePlace_7 : decode cX3_takePlace 7 = .ok (.putfield 18, 3) := by decide +kernel
theorem dX3_takePlace_10 : decode cX3_takePlace 10 = .ok (.return_, 1) := by decide +kernel
theorem dX4_init_0 : decode cX4_init 0 = .ok (.aload_n 0, 1) := by decide +kernel
theorem dX4_init_1 : decode cX4_init 1 = .ok (.invokespecial 1, 3) := by decide +kernel
theorem dX4_init_4 : decode cX4_init 4 = .ok (.aload_n 0, 1) := by decide +kernel
theorem dX4_init_5 : decode cX4_init 5 = .ok (.iload_n 1, 1) := by decide +kernel
theorem dX4_init_6 : decode cX4_init 6 = .ok (.putfield 7, 3) := by decide +kernel
theorem dX4_init_9 : decode cX4_init 9 = .ok (.aload_n 0, 1) := by decide +kernel
theorem dX4_init_10 : decode cX4_init 10 = .ok (.iload_n 2, 1) := by decide +kernel
theorem dX4_init_11 : decode cX4_init 11 = .ok (.putfield 13, 3) := by decide +kernel
theorem dX4_init_14 : decode cX4_init 14 = .ok (.aload_n 0, 1) := by decide +kernel
theorem dX4_init_15 : decode cX4_init 15 = .ok (.aload_n 3, 1) := by decide +kernel
theorem dX4_init_16 : decode cX4_init 16 = .ok (.putfield 16, 3) := by decide +kernel
theorem dX4_init_19 : decode cX4_init 19 = .ok (.return_, 1) := by decide +kernel
set_option maxRecDepth 20000 in
theorem ggX4_valueFor_X4_worked : GoodIn wsX4_valueFor wsX4_worked := goodIn_r _ [5] (by decide +kernel) (by decide +kernel)
set_option maxRecDepth 20000 in
theorem gX4_valueFor_X4_worked : GoodIn wsX4_valueFor (va_wsS RX4 20 yX4_worked wsX4_worked) := goodIn_app (goodIn_of _ (by decide +kernel)) ggX4_valueFor_X4_worked
set_option maxRecDepth 20000 in
theorem ggX4_valueFor_X4_named : GoodIn wsX4_valueFor wsX4_named := goodIn_r _ [8] (by decide +kernel) (by decide +kernel)
set_option maxRecDepth 20000 in
theorem gX4_valueFor_X4_named : GoodIn wsX4_valueFor (va_wsS RX4 24 yX4_named wsX4_named) := goodIn_app (goodIn_of _ (by decide +kernel)) ggX4_valueFor_X4_named
theorem dX4_valueFor_0 : decode cX4_valueFor 0 = .ok (.iconst 0, 1) := by decide +kernel
theorem dX4_valueFor_1 : decode cX4_valueFor 1 = .ok (.istore 5, 2) := by decide +kernel
theorem dX4_valueFor_3 : decode cX4_valueFor 3 = .ok (.iconst 0, 1) := by decide +kernel
theorem dX4_valueFor_4 : decode cX4_valueFor 4 = .ok (.istore 6, 2) := by decide +kernel
theorem dX4_valueFor_6 : decode cX4_valueFor 6 = .ok (.iload 6, 2) := by decide +kernel
theorem dX4_valueFor_8 : decode cX4_valueFor 8 = .ok (.aload_n 0, 1) := by decide +kernel
theorem dX4_valueFor_9 : decode cX4_valueFor 9 = .ok (.getfield 16, 3) := by decide +kernel
theorem dX4_valueFor_12 : decode cX4_valueFor 12 = .ok (.arraylength, 1) := by decide +kernel
theorem dX4_valueFor_13 : decode cX4_valueFor 13 = .ok (.if_icmp .ge 134, 3) := by decide +kernel
theorem dX4_valueFor_16 : decode cX4_valueFor 16 = .ok (.aload_n 0, 1) := by decide +kernel
theorem dX4_valueFor_17 : decode cX4_valueFor 17 = .ok (.getfield 16, 3) := by decide +kernel
theorem dX4_valueFor_20 : decode cX4_valueFor 20 = .ok (.iload 6, 2) := by decide +kernel
theorem dX4_valueFor_22 : decode cX4_valueFor 22 = .ok (.iaload, 1) := by decide +kernel
theorem dX4_valueFor_23 : decode cX4_valueFor 23 = .ok (.istore 7, 2) := by decide +kernel
theorem dX4_valueFor_25 : decode cX4_valueFor 25 = .ok (.iload 7, 2) := by decide +kernel
theorem dX4_valueFor_27 : decode cX4_valueFor 27 = .ok (.bipush (-33), 2) := by decide +kernel
theorem dX4_valueFor_29 : decode cX4_valueFor 29 = .ok (.if_icmp .ne 34, 3) := by decide +kernel
theorem dX4_valueFor_32 : decode cX4_valueFor 32 = .ok (.iload 5, 2) := by decide +kernel
theorem dX4_valueFor_34 : decode cX4_valueFor 34 = .ok (.iconst 1, 1) := by decide +kernel
theorem dX4_valueFor_35 : decode cX4_valueFor 35 = .ok (.if_icmp .lt 106, 3) := by decide +kernel
theorem dX4_valueFor_38 : decode cX4_valueFor 38 = .ok (.aload 4, 2) := by decide +kernel
theorem dX4_valueFor_40 : decode cX4_valueFor 40 = .ok (.iload 5, 2) := by decide +kernel
theorem dX4_valueFor_42 : decode cX4_valueFor 42 = .ok (.iconst 1, 1) := by decide +kernel
theorem dX4_valueFor_43 : decode cX4_valueFor 43 = .ok (.isub, 1) := by decide +kernel
theorem dX4_valueFor_44 : decode cX4_valueFor 44 = .ok (.aload 4, 2) := by decide +kernel
theorem dX4_valueFor_46 : decode cX4_valueFor 46 = .ok (.iload 5, 2) := by decide +kernel
theorem dX4_valueFor_48 : decode cX4_valueFor 48 = .ok (.iconst 1, 1) := by decide +kernel
theorem dX4_valueFor_49 : decode cX4_valueFor 49 = .ok (.isub, 1) := by decide +kernel
theorem dX4_valueFor_50 : decode cX4_valueFor 50 = .ok (.iaload, 1) := by decide +kernel
theorem dX4_valueFor_51 : decode cX4_valueFor 51 = .ok (.ifCond .ne 7, 3) := by decide +kernel
theorem dX4_valueFor_54 : decode cX4_valueFor 54 = .ok (.iconst 1, 1) := by decide +kernel
theorem dX4_valueFor_55 : decode cX4_valueFor 55 = .ok (.goto 4, 3) := by decide +kernel
theorem dX4_valueFor_58 : decode cX4_valueFor 58 = .ok (.iconst 0, 1) := by decide +kernel
theorem dX4_valueFor_59 : decode cX4_valueFor 59 = .ok (.iastore, 1) := by decide +kernel
theorem dX4_valueFor_60 : decode cX4_valueFor 60 = .ok (.goto 81, 3) := by decide +kernel
theorem dX4_valueFor_63 : decode cX4_valueFor 63 = .ok (.iload 7, 2) := by decide +kernel
theorem dX4_valueFor_65 : decode cX4_valueFor 65 = .ok (.bipush (-3), 2) := by decide +kernel
theorem dX4_valueFor_67 : decode cX4_valueFor 67 = .ok (.if_icmp .ge 40, 3) := by decide +kernel
theorem dX4_valueFor_70 : decode cX4_valueFor 70 = .ok (.iload 5, 2) := by decide +kernel
theorem dX4_valueFor_72 : decode cX4_valueFor 72 = .ok (.iconst 2, 1) := by decide +kernel
theorem dX4_valueFor_73 : decode cX4_valueFor 73 = .ok (.if_icmp .lt 68, 3) := by decide +kernel
theorem dX4_valueFor_76 : decode cX4_valueFor 76 = .ok (.iinc 5 (-1), 3) := by decide +kernel
theorem dX4_valueFor_79 : decode cX4_valueFor 79 = .ok (.aload 4, 2) := by decide +kernel
theorem dX4_valueFor_81 : decode cX4_valueFor 81 = .ok (.iload 5, 2) := by decide +kernel
theorem dX4_valueFor_83 : decode cX4_valueFor 83 = .ok (.iconst 1, 1) := by decide +kernel
theorem dX4_valueFor_84 : decode cX4_valueFor 84 = .ok (.isub, 1) := by decide +kernel
theorem dX4_valueFor_85 : decode cX4_valueFor 85 = .ok (.iload 7, 2) := by decide +kernel
theorem dX4_valueFor_87 : decode cX4_valueFor 87 = .ok (.ineg, 1) := by decide +kernel
theorem dX4_valueFor_88 : decode cX4_valueFor 88 = .ok (.aload 4, 2) := by decide +kernel
theorem dX4_valueFor_90 : decode cX4_valueFor 90 = .ok (.iload 5, 2) := by decide +kernel
theorem dX4_valueFor_92 : decode cX4_valueFor 92 = .ok (.iconst 1, 1) := by decide +kernel
theorem dX4_valueFor_93 : decode cX4_valueFor 93 = .ok (.isub, 1) := by decide +kernel
theorem dX4_valueFor_94 : decode cX4_valueFor 94 = .ok (.iaload, 1) := by decide +kernel
theorem dX4_valueFor_95 : decode cX4_valueFor 95 = .ok (.aload 4, 2) := by decide +kernel
theorem dX4_valueFor_97 : decode cX4_valueFor 97 = .ok (.iload 5, 2) := by decide +kernel
theorem dX4_valueFor_99 : decode cX4_valueFor 99 = .ok (.iaload, 1) := by decide +kernel
theorem dX4_valueFor_100 : decode cX4_valueFor 100 = .ok (.invokestatic 20, 3) := by decide +kernel
theorem dX4_valueFor_103 : decode cX4_valueFor 103 = .ok (.iastore, 1) := by decide +kernel
theorem dX4_valueFor_104 : decode cX4_valueFor 104 = .ok (.goto 37, 3) := by decide +kernel
theorem dX4_valueFor_107 : decode cX4_valueFor 107 = .ok (.iload 5, 2) := by decide +kernel
theorem dX4_valueFor_109 : decode cX4_valueFor 109 = .ok (.aload 4, 2) := by decide +kernel
theorem dX4_valueFor_111 : decode cX4_valueFor 111 = .ok (.arraylength, 1) := by decide +kernel
theorem dX4_valueFor_112 : decode cX4_valueFor 112 = .ok (.if_icmp .ge 29, 3) := by decide +kernel
theorem dX4_valueFor_115 : decode cX4_valueFor 115 = .ok (.aload 4, 2) := by decide +kernel
theorem dX4_valueFor_117 : decode cX4_valueFor 117 = .ok (.iload 5, 2) := by decide +kernel
theorem dX4_valueFor_119 : decode cX4_valueFor 119 = .ok (.iload 7, 2) := by decide +kernel
theorem dX4_valueFor_121 : decode cX4_valueFor 121 = .ok (.ifCond .lt 8, 3) := by decide +kernel
theorem dX4_valueFor_124 : decode cX4_valueFor 124 = .ok (.iload 7, 2) := by decide +kernel
theorem dX4_valueFor_126 : decode cX4_valueFor 126 = .ok (.goto 11, 3) := by decide +kernel
theorem dX4_valueFor_129 : decode cX4_valueFor 129 = .ok (.iload 7, 2) := by decide +kernel
theorem dX4_valueFor_131 : decode cX4_valueFor 131 = .ok (.iload_n 1, 1) := by decide +kernel
theorem dX4_valueFor_132 : decode cX4_valueFor 132 = .ok (.iload_n 2, 1) := by decide +kernel
theorem dX4_valueFor_133 : decode cX4_valueFor 133 = .ok (.iload_n 3, 1) := by decide +kernel
theorem dX4_valueFor_134 : decode cX4_valueFor 134 = .ok (.invokestatic 24, 3) := by decide +kernel
theorem dX4_valueFor_137 : decode cX4_valueFor 137 = .ok (.iastore, 1) := by decide +kernel
theorem dX4_valueFor_138 : decode cX4_valueFor 138 = .ok (.iinc 5 1, 3) := by decide +kernel
theorem dX4_valueFor_141 : decode cX4_valueFor 141 = .ok (.iinc 6 1, 3) := by decide +kernel
theorem dX4_valueFor_144 : decode cX4_valueFor 144 = .ok (.goto (-138), 3) := by decide +kernel
theorem dX4_valueFor_147 : decode cX4_valueFor 147 = .ok (.iload 5, 2) := by decide +kernel
theorem dX4_valueFor_149 : decode cX4_valueFor 149 = .ok (.iconst 1, 1) := by decide +kernel
theorem dX4_valueFor_150 : decode cX4_valueFor 150 = .ok (.if_icmp .lt 10, 3) := by decide +kernel
theorem dX4_valueFor_153 : decode cX4_valueFor 153 = .ok (.aload 4, 2) := by decide +kernel
theorem dX4_valueFor_155 : decode cX4_valueFor 155 = .ok (.iconst 0, 1) := by decide +kernel
theorem dX4_valueFor_156 : decode cX4_valueFor 156 = .ok (.iaload, 1) := by decide +kernel
theorem dX4_valueFor_157 : decode cX4_valueFor 157 = .ok (.goto 4, 3) := by decide +kernel
theorem dX4_valueFor_160 : decode cX4_valueFor 160 = .ok (.iconst 0, 1) := by decide +kernel
theorem dX4_valueFor_161 : decode cX4_valueFor 161 = .ok (.ireturn, 1) := by decide +kernel
theorem dX4_named_0 : decode cX4_named 0 = .ok (.iload_n 0, 1) := by decide +kernel
theorem dX4_named_1 : decode cX4_named 1 = .ok (.iconst (-1), 1) := by decide +kernel
theorem dX4_named_2 : decode cX4_named 2 = .ok (.if_icmp .ne 5, 3) := by decide +kernel
theorem dX4_named_5 : decode cX4_named 5 = .ok (.iload_n 1, 1) := by decide +kernel
theorem dX4_named_6 : decode cX4_named 6 = .ok (.ireturn, 1) := by decide +kernel
theorem dX4_named_7 : decode cX4_named 7 = .ok (.iload_n 0, 1) := by decide +kernel
theorem dX4_named_8 : decode cX4_named 8 = .ok (.bipush (-2), 2) := by decide +kernel
theorem dX4_named_10 : decode cX4_named 10 = .ok (.if_icmp .ne 7, 3) := by decide +kernel
theorem dX4_named_13 : decode cX4_named 13 = .ok (.iload_n 2, 1) := by decide +kernel
theorem dX4_named_14 : decode cX4_named 14 = .ok (.goto 4, 3) := by decide +kernel
theorem dX4_named_17 : decode cX4_named 17 = .ok (.iload_n 3, 1) := by decide +kernel
theorem dX4_named_18 : decode cX4_named 18 = .ok (.ireturn, 1) := by decide +kernel
theorem dX4_worked_0 : decode cX4_worked 0 = .ok (.iload_n 0, 1) := by decide +kernel
theorem dX4_worked_1 : decode cX4_worked 1 = .ok (.lookupswitch 148 #[(38, 89), (42, 144), (43, 136), (45, 140), (60, 103), (61, 114), (62, 125), (124, 75)], 75) := by decide +kernel
theorem dX4_worked_76 : decode cX4_worked 76 = .ok (.iload_n 1, 1) := by decide +kernel
theorem dX4_worked_77 : decode cX4_worked 77 = .ok (.ifCond .ne 7, 3) := by decide +kernel
theorem dX4_worked_80 : decode cX4_worked 80 = .ok (.iload_n 2, 1) := by decide +kernel
theorem dX4_worked_81 : decode cX4_worked 81 = .ok (.ifCond .eq 7, 3) := by decide +kernel
theorem dX4_worked_84 : decode cX4_worked 84 = .ok (.iconst 1, 1) := by decide +kernel
theorem dX4_worked_85 : decode cX4_worked 85 = .ok (.goto 4, 3) := by decide +kernel
theorem dX4_worked_88 : decode cX4_worked 88 = .ok (.iconst 0, 1) := by decide +kernel
theorem dX4_worked_89 : decode cX4_worked 89 = .ok (.ireturn, 1) := by decide +kernel
theorem dX4_worked_90 : decode cX4_worked 90 = .ok (.iload_n 1, 1) := by decide +kernel
theorem dX4_worked_91 : decode cX4_worked 91 = .ok (.ifCond .eq 11, 3) := by decide +kernel
theorem dX4_worked_94 : decode cX4_worked 94 = .ok (.iload_n 2, 1) := by decide +kernel
theorem dX4_worked_95 : decode cX4_worked 95 = .ok (.ifCond .eq 7, 3) := by decide +kernel
theorem dX4_worked_98 : decode cX4_worked 98 = .ok (.iconst 1, 1) := by decide +kernel
theorem dX4_worked_99 : decode cX4_worked 99 = .ok (.goto 4, 3) := by decide +kernel
theorem dX4_worked_102 : decode cX4_worked 102 = .ok (.iconst 0, 1) := by decide +kernel
theorem dX4_worked_103 : decode cX4_worked 103 = .ok (.ireturn, 1) := by decide +kernel
theorem dX4_worked_104 : decode cX4_worked 104 = .ok (.iload_n 1, 1) := by decide +kernel
theorem dX4_worked_105 : decode cX4_worked 105 = .ok (.iload_n 2, 1) := by decide +kernel
theorem dX4_worked_106 : decode cX4_worked 106 = .ok (.if_icmp .ge 7, 3) := by decide +kernel
theorem dX4_worked_109 : decode cX4_worked 109 = .ok (.iconst 1, 1) := by decide +kernel
theorem dX4_worked_110 : decode cX4_worked 110 = .ok (.goto 4, 3) := by decide +kernel
theorem dX4_worked_113 : decode cX4_worked 113 = .ok (.iconst 0, 1) := by decide +kernel
theorem dX4_worked_114 : decode cX4_worked 114 = .ok (.ireturn, 1) := by decide +kernel
theorem dX4_worked_115 : decode cX4_worked 115 = .ok (.iload_n 1, 1) := by decide +kernel
theorem dX4_worked_116 : decode cX4_worked 116 = .ok (.iload_n 2, 1) := by decide +kernel
theorem dX4_worked_117 : decode cX4_worked 117 = .ok (.if_icmp .ne 7, 3) := by decide +kernel
theorem dX4_worked_120 : decode cX4_worked 120 = .ok (.iconst 1, 1) := by decide +kernel
theorem dX4_worked_121 : decode cX4_worked 121 = .ok (.goto 4, 3) := by decide +kernel
theorem dX4_worked_124 : decode cX4_worked 124 = .ok (.iconst 0, 1) := by decide +kernel
theorem dX4_worked_125 : decode cX4_worked 125 = .ok (.ireturn, 1) := by decide +kernel
theorem dX4_worked_126 : decode cX4_worked 126 = .ok (.iload_n 1, 1) := by decide +kernel
theorem dX4_worked_127 : decode cX4_worked 127 = .ok (.iload_n 2, 1) := by decide +kernel
theorem dX4_worked_128 : decode cX4_worked 128 = .ok (.if_icmp .le 7, 3) := by decide +kernel
theorem dX4_worked_131 : decode cX4_worked 131 = .ok (.iconst 1, 1) := by decide +kernel
theorem dX4_worked_132 : decode cX4_worked 132 = .ok (.goto 4, 3) := by decide +kernel
theorem dX4_worked_135 : decode cX4_worked 135 = .ok (.iconst 0, 1) := by decide +kernel
theorem dX4_worked_136 : decode cX4_worked 136 = .ok (.ireturn, 1) := by decide +kernel
theorem dX4_worked_137 : decode cX4_worked 137 = .ok (.iload_n 1, 1) := by decide +kernel
theorem dX4_worked_138 : decode cX4_worked 138 = .ok (.iload_n 2, 1) := by decide +kernel
theorem dX4_worked_139 : decode cX4_worked 139 = .ok (.iadd, 1) := by decide +kernel
theorem dX4_worked_140 : decode cX4_worked 140 = .ok (.ireturn, 1) := by decide +kernel
theorem dX4_worked_141 : decode cX4_worked 141 = .ok (.iload_n 1, 1) := by decide +kernel
theorem dX4_worked_142 : decode cX4_worked 142 = .ok (.iload_n 2, 1) := by decide +kernel
theorem dX4_worked_143 : decode cX4_worked 143 = .ok (.isub, 1) := by decide +kernel
theorem dX4_worked_144 : decode cX4_worked 144 = .ok (.ireturn, 1) := by decide +kernel
theorem dX4_worked_145 : decode cX4_worked 145 = .ok (.iload_n 1, 1) := by decide +kernel
theorem dX4_worked_146 : decode cX4_worked 146 = .ok (.iload_n 2, 1) := by decide +kernel
theorem dX4_worked_147 : decode cX4_worked 147 = .ok (.imul, 1) := by decide +kernel
theorem dX4_worked_148 : decode cX4_worked 148 = .ok (.ireturn, 1) := by decide +kernel
theorem dX4_worked_149 : decode cX4_worked 149 = .ok (.iload_n 2, 1) := by decide +kernel
theorem dX4_worked_150 : decode cX4_worked 150 = .ok (.ifCond .ne 7, 3) := by decide +kernel
theorem dX4_worked_153 : decode cX4_worked 153 = .ok (.iconst 0, 1) := by decide +kernel
theorem dX4_worked_154 : decode cX4_worked 154 = .ok (.goto 6, 3) := by decide +kernel
theorem dX4_worked_157 : decode cX4_worked 157 = .ok (.iload_n 1, 1) := by decide +kernel
theorem dX4_worked_158 : decode cX4_worked 158 = .ok (.iload_n 2, 1) := by decide +kernel
theorem dX4_worked_159 : decode cX4_worked 159 = .ok (.idiv, 1) := by decide +kernel
theorem dX4_worked_160 : decode cX4_worked 160 = .ok (.ireturn, 1) := by decide +kernel
theorem dX5_init_0 : decode cX5_init 0 = .ok (.aload_n 0, 1) := by decide +kernel
theorem dX5_init_1 : decode cX5_init 1 = .ok (.invokespecial 3, 3) := by decide +kernel
theorem dX5_init_4 : decode cX5_init 4 = .ok (.aload_n 0, 1) := by decide +kernel
theorem dX5_init_5 : decode cX5_init 5 = .ok (.bipush 24, 2) := by decide +kernel
theorem dX5_init_7 : decode cX5_init 7 = .ok (.newarray .int, 2) := by decide +kernel
theorem dX5_init_9 : decode cX5_init 9 = .ok (.putfield 9, 3) := by decide +kernel
theorem dX5_init_12 : decode cX5_init 12 = .ok (.aload_n 0, 1) := by decide +kernel
theorem dX5_init_13 : decode cX5_init 13 = .ok (.bipush 24, 2) := by decide +kernel
theorem dX5_init_15 : decode cX5_init 15 = .ok (.newarray .int, 2) := by decide +kernel
theorem dX5_init_17 : decode cX5_init 17 = .ok (.putfield 15, 3) := by decide +kernel
theorem dX5_init_20 : decode cX5_init 20 = .ok (.aload_n 0, 1) := by decide +kernel
theorem dX5_init_21 : decode cX5_init 21 = .ok (.bipush 24, 2) := by decide +kernel
theorem dX5_init_23 : decode cX5_init 23 = .ok (.newarray .int, 2) := by decide +kernel
theorem dX5_init_25 : decode cX5_init 25 = .ok (.putfield 18, 3) := by decide +kernel
theorem dX5_init_28 : decode cX5_init 28 = .ok (.return_, 1) := by decide +kernel
set_option maxRecDepth 20000 in
theorem ggX5_weigh_X1_riskOf : GoodIn wsX5_weigh wsX1_riskOf := goodIn_r _ [7, 8, 9, 10, 11, 12, 6, 13, 14, 15, 16, 17, 18, 19, 20, 21, 22, 23, 24, 25, 26, 27, 28, 29, 30, 31, 32, 33, 34, 35, 36, 37, 38, 39, 40, 41, 42, 43, 44, 45, 46, 47, 48, 49, 50, 51, 52, 53, 54, 55, 59, 60, 61] (by decide +kernel) (by decide +kernel)
set_option maxRecDepth 20000 in
theorem gX5_weigh_X1_riskOf : GoodIn wsX5_weigh (wsV RX5 27 RX1 yX1_riskOf wsX1_riskOf) := goodIn_app (goodIn_of _ (by decide +kernel)) ggX5_weigh_X1_riskOf
theorem dX5_weigh_0 : decode cX5_weigh 0 = .ok (.iconst 0, 1) := by decide +kernel
theorem dX5_weigh_1 : decode cX5_weigh 1 = .ok (.istore_n 2, 1) := by decide +kernel
theorem dX5_weigh_2 : decode cX5_weigh 2 = .ok (.iload_n 2, 1) := by decide +kernel
theorem dX5_weigh_3 : decode cX5_weigh 3 = .ok (.aload_n 1, 1) := by decide +kernel
theorem dX5_weigh_4 : decode cX5_weigh 4 = .ok (.getfield 21, 3) := by decide +kernel
theorem dX5_weigh_7 : decode cX5_weigh 7 = .ok (.if_icmp .ge 20, 3) := by decide +kernel
theorem dX5_weigh_10 : decode cX5_weigh 10 = .ok (.aload_n 0, 1) := by decide +kernel
theorem dX5_weigh_11 : decode cX5_weigh 11 = .ok (.getfield 9, 3) := by decide +kernel
theorem dX5_weigh_14 : decode cX5_weigh 14 = .ok (.iload_n 2, 1) := by decide +kernel
theorem dX5_weigh_15 : decode cX5_weigh 15 = .ok (.aload_n 1, 1) := by decide +kernel
theorem dX5_weigh_16 : decode cX5_weigh 16 = .ok (.iload_n 2, 1) := by decide +kernel
theorem dX5_weigh_17 : decode cX5_weigh 17 = .ok (.invokevirtual 27, 3) := by decide +kernel
theorem dX5_weigh_20 : decode cX5_weigh 20 = .ok (.iastore, 1) := by decide +kernel
theorem dX5_weigh_21 : decode cX5_weigh 21 = .ok (.iinc 2 1, 3) := by decide +kernel
theorem dX5_weigh_24 : decode cX5_weigh 24 = .ok (.goto (-22), 3) := by decide +kernel
theorem dX5_weigh_27 : decode cX5_weigh 27 = .ok (.return_, 1) := by decide +kernel
set_option maxRecDepth 20000 in
theorem ggX5_grow_J7_fill_53178 : GoodIn wsX5_grow wsJ7_fill_53178 := goodIn_r _ [12] (by decide +kernel) (by decide +kernel)
set_option maxRecDepth 20000 in
theorem gX5_grow_J7_fill_53178 : GoodIn wsX5_grow (va_wsS RX5 31 yJ7_fill_53178 wsJ7_fill_53178) := goodIn_app (goodIn_of _ (by decide +kernel)) ggX5_grow_J7_fill_53178
set_option maxRecDepth 20000 in
theorem ggX5_grow_X1_oddsIn : GoodIn wsX5_grow wsX1_oddsIn := goodIn_r _ [17, 18, 19, 20, 16, 21, 22, 23, 24, 25, 26, 27, 28, 29, 30, 31, 32, 33, 34, 35, 36, 37, 38, 39, 40, 41, 42, 43, 44, 45, 46, 47, 48, 49, 50, 51, 52, 63, 64, 65, 66, 67, 68, 69, 70, 71, 72, 73, 74, 75, 76, 77, 78, 79, 80] (by decide +kernel) (by decide +kernel)
set_option maxRecDepth 20000 in
theorem gX5_grow_X1_oddsIn : GoodIn wsX5_grow (wsV RX5 43 RX1 yX1_oddsIn wsX1_oddsIn) := goodIn_app (goodIn_of _ (by decide +kernel)) ggX5_grow_X1_oddsIn
set_option maxRecDepth 20000 in
theorem ggX5_grow_X5_leastLater : GoodIn wsX5_grow wsX5_leastLater := goodIn_r _ [57, 7, 58, 2, 59, 28, 29, 30, 63, 64, 65, 66, 67, 68, 69, 70, 71, 72, 73, 74, 75, 76, 77, 60, 61, 62] (by decide +kernel) (by decide +kernel)
set_option maxRecDepth 20000 in
theorem gX5_grow_X5_leastLater : GoodIn wsX5_grow (wsV RX5 46 RX5 yX5_leastLater wsX5_leastLater) := goodIn_app (goodIn_of _ (by decide +kernel)) ggX5_grow_X5_leastLater
theorem dX5_grow_0 : decode cX5_grow 0 = .ok (.aload_n 0, 1) := by decide +kernel
theorem dX5_grow_1 : decode cX5_grow 1 = .ok (.getfield 15, 3) := by decide +kernel
theorem dX5_grow_4 : decode cX5_grow 4 = .ok (.iconst 0, 1) := by decide +kernel
theorem dX5_grow_5 : decode cX5_grow 5 = .ok (.invokestatic 31, 3) := by decide +kernel
theorem dX5_grow_8 : decode cX5_grow 8 = .ok (.iload_n 2, 1) := by decide +kernel
theorem dX5_grow_9 : decode cX5_grow 9 = .ok (.iconst 1, 1) := by decide +kernel
theorem dX5_grow_10 : decode cX5_grow 10 = .ok (.isub, 1) := by decide +kernel
theorem dX5_grow_11 : decode cX5_grow 11 = .ok (.istore_n 3, 1) := by decide +kernel
theorem dX5_grow_12 : decode cX5_grow 12 = .ok (.iload_n 3, 1) := by decide +kernel
theorem dX5_grow_13 : decode cX5_grow 13 = .ok (.ifCond .lt 74, 3) := by decide +kernel
theorem dX5_grow_16 : decode cX5_grow 16 = .ok (.aload_n 0, 1) := by decide +kernel
theorem dX5_grow_17 : decode cX5_grow 17 = .ok (.getfield 15, 3) := by decide +kernel
theorem dX5_grow_20 : decode cX5_grow 20 = .ok (.iconst 0, 1) := by decide +kernel
theorem dX5_grow_21 : decode cX5_grow 21 = .ok (.aload_n 0, 1) := by decide +kernel
theorem dX5_grow_22 : decode cX5_grow 22 = .ok (.getfield 18, 3) := by decide +kernel
theorem dX5_grow_25 : decode cX5_grow 25 = .ok (.iconst 0, 1) := by decide +kernel
theorem dX5_grow_26 : decode cX5_grow 26 = .ok (.bipush 24, 2) := by decide +kernel
theorem dX5_grow_28 : decode cX5_grow 28 = .ok (.invokestatic 37, 3) := by decide +kernel
theorem dX5_grow_31 : decode cX5_grow 31 = .ok (.aload_n 1, 1) := by decide +kernel
theorem dX5_grow_32 : decode cX5_grow 32 = .ok (.iload_n 3, 1) := by decide +kernel
theorem dX5_grow_33 : decode cX5_grow 33 = .ok (.invokevirtual 43, 3) := by decide +kernel
theorem dX5_grow_36 : decode cX5_grow 36 = .ok (.istore 4, 2) := by decide +kernel
theorem dX5_grow_38 : decode cX5_grow 38 = .ok (.iconst 0, 1) := by decide +kernel
theorem dX5_grow_39 : decode cX5_grow 39 = .ok (.istore 5, 2) := by decide +kernel
theorem dX5_grow_41 : decode cX5_grow 41 = .ok (.iload 5, 2) := by decide +kernel
theorem dX5_grow_43 : decode cX5_grow 43 = .ok (.aload_n 1, 1) := by decide +kernel
theorem dX5_grow_44 : decode cX5_grow 44 = .ok (.getfield 21, 3) := by decide +kernel
theorem dX5_grow_47 : decode cX5_grow 47 = .ok (.if_icmp .ge 34, 3) := by decide +kernel
theorem dX5_grow_50 : decode cX5_grow 50 = .ok (.aload_n 0, 1) := by decide +kernel
theorem dX5_grow_51 : decode cX5_grow 51 = .ok (.getfield 15, 3) := by decide +kernel
theorem dX5_grow_54 : decode cX5_grow 54 = .ok (.iload 5, 2) := by decide +kernel
theorem dX5_grow_56 : decode cX5_grow 56 = .ok (.aload_n 0, 1) := by decide +kernel
theorem dX5_grow_57 : decode cX5_grow 57 = .ok (.getfield 9, 3) := by decide +kernel
theorem dX5_grow_60 : decode cX5_grow 60 = .ok (.iload 5, 2) := by decide +kernel
theorem dX5_grow_62 : decode cX5_grow 62 = .ok (.iaload, 1) := by decide +kernel
theorem dX5_grow_63 : decode cX5_grow 63 = .ok (.iload 4, 2) := by decide +kernel
theorem dX5_grow_65 : decode cX5_grow 65 = .ok (.imul, 1) := by decide +kernel
theorem dX5_grow_66 : decode cX5_grow 66 = .ok (.aload_n 0, 1) := by decide +kernel
theorem dX5_grow_67 : decode cX5_grow 67 = .ok (.aload_n 1, 1) := by decide +kernel
theorem dX5_grow_68 : decode cX5_grow 68 = .ok (.iload 5, 2) := by decide +kernel
theorem dX5_grow_70 : decode cX5_grow 70 = .ok (.invokevirtual 46, 3) := by decide +kernel
theorem dX5_grow_73 : decode cX5_grow 73 = .ok (.iadd, 1) := by decide +kernel
theorem dX5_grow_74 : decode cX5_grow 74 = .ok (.iastore, 1) := by decide +kernel
theorem dX5_grow_75 : decode cX5_grow 75 = .ok (.iinc 5 1, 3) := by decide +kernel
theorem dX5_grow_78 : decode cX5_grow 78 = .ok (.goto (-37), 3) := by decide +kernel
theorem dX5_grow_81 : decode cX5_grow 81 = .ok (.iinc 3 (-1), 3) := by decide +kernel
theorem dX5_grow_84 : decode cX5_grow 84 = .ok (.goto (-72), 3) := by decide +kernel
theorem dX5_grow_87 : decode cX5_grow 87 = .ok (.return_, 1) := by decide +kernel
set_option maxRecDepth 20000 in
theorem ggX5_bestStep_X1_mayStep : GoodIn wsX5_bestStep wsX1_mayStep := goodIn_r _ [5, 6, 7, 8, 9, 4, 10, 11, 24, 25, 26, 27, 28, 29, 30, 31, 32, 33, 34, 35, 36, 37, 38] (by decide +kernel) (by decide +kernel)
set_option maxRecDepth 20000 in
theorem gX5_bestStep_X1_mayStep : GoodIn wsX5_bestStep (wsV RX5 50 RX1 yX1_mayStep wsX1_mayStep) := goodIn_app (goodIn_of _ (by decide +kernel)) ggX5_bestStep_X1_mayStep
set_option maxRecDepth 20000 in
theorem ggX5_bestStep_X5_laterBehind : GoodIn wsX5_bestStep wsX5_laterBehind := goodIn_r _ [16, 17, 18, 19, 20, 4, 21, 11, 22, 23, 8, 9, 10, 39, 40, 41, 24, 25, 26, 27, 28, 29, 30, 31, 32, 33, 34, 35, 36, 37, 38] (by decide +kernel) (by decide +kernel)
set_option maxRecDepth 20000 in
theorem gX5_bestStep_X5_laterBehind : GoodIn wsX5_bestStep (wsV RX5 54 RX5 yX5_laterBehind wsX5_laterBehind) := goodIn_app (goodIn_of _ (by decide +kernel)) ggX5_bestStep_X5_laterBehind
theorem dX5_bestStep_0 : decode cX5_bestStep 0 = .ok (.iconst 0, 1) := by decide +kernel
theorem dX5_bestStep_1 : decode cX5_bestStep 1 = .ok (.istore_n 3, 1) := by decide +kernel
theorem dX5_bestStep_2 : decode cX5_bestStep 2 = .ok (.iconst 1, 1) := by decide +kernel
theorem dX5_bestStep_3 : decode cX5_bestStep 3 = .ok (.istore 4, 2) := by decide +kernel
theorem dX5_bestStep_5 : decode cX5_bestStep 5 = .ok (.iload 4, 2) := by decide +kernel
theorem dX5_bestStep_7 : decode cX5_bestStep 7 = .ok (.iconst 3, 1) := by decide +kernel
theorem dX5_bestStep_8 : decode cX5_bestStep 8 = .ok (.if_icmp .gt 40, 3) := by decide +kernel
theorem dX5_bestStep_11 : decode cX5_bestStep 11 = .ok (.aload_n 1, 1) := by decide +kernel
theorem dX5_bestStep_12 : decode cX5_bestStep 12 = .ok (.iload_n 2, 1) := by decide +kernel
theorem dX5_bestStep_13 : decode cX5_bestStep 13 = .ok (.iload 4, 2) := by decide +kernel
theorem dX5_bestStep_15 : decode cX5_bestStep 15 = .ok (.invokevirtual 50, 3) := by decide +kernel
theorem dX5_bestStep_18 : decode cX5_bestStep 18 = .ok (.ifCond .eq 24, 3) := by decide +kernel
theorem dX5_bestStep_21 : decode cX5_bestStep 21 = .ok (.aload_n 0, 1) := by decide +kernel
theorem dX5_bestStep_22 : decode cX5_bestStep 22 = .ok (.aload_n 1, 1) := by decide +kernel
theorem dX5_bestStep_23 : decode cX5_bestStep 23 = .ok (.iload_n 2, 1) := by decide +kernel
theorem dX5_bestStep_24 : decode cX5_bestStep 24 = .ok (.iload 4, 2) := by decide +kernel
theorem dX5_bestStep_26 : decode cX5_bestStep 26 = .ok (.invokevirtual 54, 3) := by decide +kernel
theorem dX5_bestStep_29 : decode cX5_bestStep 29 = .ok (.aload_n 0, 1) := by decide +kernel
theorem dX5_bestStep_30 : decode cX5_bestStep 30 = .ok (.aload_n 1, 1) := by decide +kernel
theorem dX5_bestStep_31 : decode cX5_bestStep 31 = .ok (.iload_n 2, 1) := by decide +kernel
theorem dX5_bestStep_32 : decode cX5_bestStep 32 = .ok (.iload_n 3, 1) := by decide +kernel
theorem dX5_bestStep_33 : decode cX5_bestStep 33 = .ok (.invokevirtual 54, 3) := by decide +kernel
theorem dX5_bestStep_36 : decode cX5_bestStep 36 = .ok (.if_icmp .ge 6, 3) := by decide +kernel
theorem dX5_bestStep_39 : decode cX5_bestStep 39 = .ok (.iload 4, 2) := by decide +kernel
theorem dX5_bestStep_41 : decode cX5_bestStep 41 = .ok (.istore_n 3, 1) := by decide +kernel
theorem dX5_bestStep_42 : decode cX5_bestStep 42 = .ok (.iinc 4 1, 3) := by decide +kernel
theorem dX5_bestStep_45 : decode cX5_bestStep 45 = .ok (.goto (-40), 3) := by decide +kernel
theorem dX5_bestStep_48 : decode cX5_bestStep 48 = .ok (.iload_n 3, 1) := by decide +kernel
theorem dX5_bestStep_49 : decode cX5_bestStep 49 = .ok (.ireturn, 1) := by decide +kernel
theorem dX5_leastLater_0 : decode cX5_leastLater 0 = .ok (.iload_n 2, 1) := by decide +kernel
theorem dX5_leastLater_1 : decode cX5_leastLater 1 = .ok (.iconst 1, 1) := by decide +kernel
theorem dX5_leastLater_2 : decode cX5_leastLater 2 = .ok (.if_icmp .lt 23, 3) := by decide +kernel
theorem dX5_leastLater_5 : decode cX5_leastLater 5 = .ok (.iload_n 2, 1) := by decide +kernel
theorem dX5_leastLater_6 : decode cX5_leastLater 6 = .ok (.iconst 1, 1) := by decide +kernel
theorem dX5_leastLater_7 : decode cX5_leastLater 7 = .ok (.iadd, 1) := by decide +kernel
theorem dX5_leastLater_8 : decode cX5_leastLater 8 = .ok (.aload_n 1, 1) := by decide +kernel
theorem dX5_leastLater_9 : decode cX5_leastLater 9 = .ok (.getfield 21, 3) := by decide +kernel
theorem dX5_leastLater_12 : decode cX5_leastLater 12 = .ok (.if_icmp .ge 13, 3) := by decide +kernel
theorem dX5_leastLater_15 : decode cX5_leastLater 15 = .ok (.aload_n 1, 1) := by decide +kernel
theorem dX5_leastLater_16 : decode cX5_leastLater 16 = .ok (.getfield 58, 3) := by decide +kernel
theorem dX5_leastLater_19 : decode cX5_leastLater 19 = .ok (.iload_n 2, 1) := by decide +kernel
theorem dX5_leastLater_20 : decode cX5_leastLater 20 = .ok (.iaload, 1) := by decide +kernel
theorem dX5_leastLater_21 : decode cX5_leastLater 21 = .ok (.iconst 1, 1) := by decide +kernel
theorem dX5_leastLater_22 : decode cX5_leastLater 22 = .ok (.if_icmp .ne 5, 3) := by decide +kernel
theorem dX5_leastLater_25 : decode cX5_leastLater 25 = .ok (.iconst 0, 1) := by decide +kernel
theorem dX5_leastLater_26 : decode cX5_leastLater 26 = .ok (.ireturn, 1) := by decide +kernel
theorem dX5_leastLater_27 : decode cX5_leastLater 27 = .ok (.aload_n 0, 1) := by decide +kernel
theorem dX5_leastLater_28 : decode cX5_leastLater 28 = .ok (.getfield 18, 3) := by decide +kernel
theorem dX5_leastLater_31 : decode cX5_leastLater 31 = .ok (.iload_n 2, 1) := by decide +kernel
theorem dX5_leastLater_32 : decode cX5_leastLater 32 = .ok (.iaload, 1) := by decide +kernel
theorem dX5_leastLater_33 : decode cX5_leastLater 33 = .ok (.aload_n 0, 1) := by decide +kernel
theorem dX5_leastLater_34 : decode cX5_leastLater 34 = .ok (.getfield 18, 3) := by decide +kernel
theorem dX5_leastLater_37 : decode cX5_leastLater 37 = .ok (.iload_n 2, 1) := by decide +kernel
theorem dX5_leastLater_38 : decode cX5_leastLater 38 = .ok (.iconst 1, 1) := by decide +kernel
theorem dX5_leastLater_39 : decode cX5_leastLater 39 = .ok (.isub, 1) := by decide +kernel
theorem dX5_leastLater_40 : decode cX5_leastLater 40 = .ok (.iaload, 1) := by decide +kernel
theorem dX5_leastLater_41 : decode cX5_leastLater 41 = .ok (.aload_n 0, 1) := by decide +kernel
theorem dX5_leastLater_42 : decode cX5_leastLater 42 = .ok (.getfield 18, 3) := by decide +kernel
theorem dX5_leastLater_45 : decode cX5_leastLater 45 = .ok (.iload_n 2, 1) := by decide +kernel
theorem dX5_leastLater_46 : decode cX5_leastLater 46 = .ok (.iconst 1, 1) := by decide +kernel
theorem dX5_leastLater_47 : decode cX5_leastLater 47 = .ok (.iadd, 1) := by decide +kernel
theorem dX5_leastLater_48 : decode cX5_leastLater 48 = .ok (.iaload, 1) := by decide +kernel
theorem dX5_leastLater_49 : decode cX5_leastLater 49 = .ok (.invokestatic 61, 3) := by decide +kernel
theorem dX5_leastLater_52 : decode cX5_leastLater 52 = .ok (.invokestatic 61, 3) := by decide +kernel
theorem dX5_leastLater_55 : decode cX5_leastLater 55 = .ok (.ireturn, 1) := by decide +kernel
set_option maxRecDepth 20000 in
theorem ggX5_laterBehind_X1_behindStep : GoodIn wsX5_laterBehind wsX1_behindStep := goodIn_r _ [6, 7, 8, 16, 17, 18, 19, 20, 21, 22, 23, 24, 25, 26, 27, 28, 29, 30] (by decide +kernel) (by decide +kernel)
set_option maxRecDepth 20000 in
theorem gX5_laterBehind_X1_behindStep : GoodIn wsX5_laterBehind (wsV RX5 67 RX1 yX1_behindStep wsX1_behindStep) := goodIn_app (goodIn_of _ (by decide +kernel)) ggX5_laterBehind_X1_behindStep
set_option maxRecDepth 20000 in
theorem ggX5_laterBehind_X1_has : GoodIn wsX5_laterBehind wsX1_has := goodIn_r _ [12, 7, 16, 17, 18, 19, 20, 21, 22, 23, 24, 25, 26, 27, 28, 29, 30] (by decide +kernel) (by decide +kernel)
set_option maxRecDepth 20000 in
theorem gX5_laterBehind_X1_has : GoodIn wsX5_laterBehind (wsV RX5 70 RX1 yX1_has wsX1_has) := goodIn_app (goodIn_of _ (by decide +kernel)) ggX5_laterBehind_X1_has
theorem dX5_laterBehind_0 : decode cX5_laterBehind 0 = .ok (.aload_n 1, 1) := by decide +kernel
theorem dX5_laterBehind_1 : decode cX5_laterBehind 1 = .ok (.iload_n 2, 1) := by decide +kernel
theorem dX5_laterBehind_2 : decode cX5_laterBehind 2 = .ok (.iload_n 3, 1) := by decide +kernel
theorem dX5_laterBehind_3 : decode cX5_laterBehind 3 = .ok (.invokevirtual 67, 3) := by decide +kernel
theorem dX5_laterBehind_6 : decode cX5_laterBehind 6 = .ok (.istore 4, 2) := by decide +kernel
theorem dX5_laterBehind_8 : decode cX5_laterBehind 8 = .ok (.aload_n 1, 1) := by decide +kernel
theorem dX5_laterBehind_9 : decode cX5_laterBehind 9 = .ok (.iload 4, 2) := by decide +kernel
theorem dX5_laterBehind_11 : decode cX5_laterBehind 11 = .ok (.invokevirtual 70, 3) := by decide +kernel
theorem dX5_laterBehind_14 : decode cX5_laterBehind 14 = .ok (.ifCond .eq 13, 3) := by decide +kernel
theorem dX5_laterBehind_17 : decode cX5_laterBehind 17 = .ok (.aload_n 0, 1) := by decide +kernel
theorem dX5_laterBehind_18 : decode cX5_laterBehind 18 = .ok (.getfield 18, 3) := by decide +kernel
theorem dX5_laterBehind_21 : decode cX5_laterBehind 21 = .ok (.iload 4, 2) := by decide +kernel
theorem dX5_laterBehind_23 : decode cX5_laterBehind 23 = .ok (.iaload, 1) := by decide +kernel
theorem dX5_laterBehind_24 : decode cX5_laterBehind 24 = .ok (.goto 4, 3) := by decide +kernel
theorem dX5_laterBehind_27 : decode cX5_laterBehind 27 = .ok (.iconst 0, 1) := by decide +kernel
theorem dX5_laterBehind_28 : decode cX5_laterBehind 28 = .ok (.ireturn, 1) := by decide +kernel
set_option maxRecDepth 20000 in
theorem ggX6_init_X1_init : GoodIn wsX6_init wsX1_init := goodIn_r _ [31, 32, 2, 3, 22, 33, 34, 35, 36, 37, 38, 39, 40, 41, 42, 43, 44, 45, 46, 47, 48, 49, 87, 88, 89, 90, 91, 92, 93, 94, 95, 96, 97, 98, 99, 100, 101] (by decide +kernel) (by decide +kernel)
set_option maxRecDepth 20000 in
theorem gX6_init_X1_init_n9 : GoodIn wsX6_init (wsX1_init) := ggX6_init_X1_init
set_option maxRecDepth 20000 in
theorem ggX6_init_X5_init : GoodIn wsX6_init wsX5_init := goodIn_r _ [51, 52, 2, 3, 22, 53, 54, 55, 112, 113, 114] (by decide +kernel) (by decide +kernel)
set_option maxRecDepth 20000 in
theorem gX6_init_X5_init_n24 : GoodIn wsX6_init (wsX5_init) := ggX6_init_X5_init
set_option maxRecDepth 20000 in
theorem ggX6_init_X0_init : GoodIn wsX6_init wsX0_init := goodIn_r _ [57, 58, 2, 3, 22, 59, 60, 61, 62, 63, 64, 65, 66, 67, 68, 69, 70, 71, 115, 116, 117, 118, 119, 120, 121, 122, 123, 124, 125, 126] (by decide +kernel) (by decide +kernel)
set_option maxRecDepth 20000 in
theorem gX6_init_X0_init_n31 : GoodIn wsX6_init (wsX0_init) := ggX6_init_X0_init
set_option maxRecDepth 20000 in
theorem ggX6_init_X2_init : GoodIn wsX6_init wsX2_init := goodIn_r _ [73, 74, 2, 3, 75, 76, 22, 77, 127, 128, 129] (by decide +kernel) (by decide +kernel)
set_option maxRecDepth 20000 in
theorem gX6_init_X2_init_n60 : GoodIn wsX6_init (wsX2_init) := ggX6_init_X2_init
set_option maxRecDepth 20000 in
theorem ggX6_init_X3_init : GoodIn wsX6_init wsX3_init := goodIn_r _ [79, 80, 2, 3, 81, 82, 83, 84, 85, 26, 27, 86, 72, 73, 74, 75, 76, 22, 77, 130, 131, 132, 133, 134, 127, 128, 129] (by decide +kernel) (by decide +kernel)
set_option maxRecDepth 20000 in
theorem gX6_init_X3_init_n61 : GoodIn wsX6_init (wsX3_init) := ggX6_init_X3_init
theorem dX6_init_0 : decode cX6_init 0 = .ok (.aload_n 0, 1) := by decide +kernel
theorem dX6_init_1 : decode cX6_init 1 = .ok (.invokespecial 1, 3) := by decide +kernel
theorem dX6_init_4 : decode cX6_init 4 = .ok (.aload_n 0, 1) := by decide +kernel
theorem dX6_init_5 : decode cX6_init 5 = .ok (.new 7, 3) := by decide +kernel
theorem dX6_init_8 : decode cX6_init 8 = .ok (.dup, 1) := by decide +kernel
theorem dX6_init_9 : decode cX6_init 9 = .ok (.invokespecial 9, 3) := by decide +kernel
theorem dX6_init_12 : decode cX6_init 12 = .ok (.putfield 10, 3) := by decide +kernel
theorem dX6_init_15 : decode cX6_init 15 = .ok (.aload_n 0, 1) := by decide +kernel
theorem dX6_init_16 : decode cX6_init 16 = .ok (.new 7, 3) := by decide +kernel
theorem dX6_init_19 : decode cX6_init 19 = .ok (.dup, 1) := by decide +kernel
theorem dX6_init_20 : decode cX6_init 20 = .ok (.invokespecial 9, 3) := by decide +kernel
theorem dX6_init_23 : decode cX6_init 23 = .ok (.putfield 16, 3) := by decide +kernel
theorem dX6_init_26 : decode cX6_init 26 = .ok (.aload_n 0, 1) := by decide +kernel
theorem dX6_init_27 : decode cX6_init 27 = .ok (.new 7, 3) := by decide +kernel
theorem dX6_init_30 : decode cX6_init 30 = .ok (.dup, 1) := by decide +kernel
theorem dX6_init_31 : decode cX6_init 31 = .ok (.invokespecial 9, 3) := by decide +kernel
theorem dX6_init_34 : decode cX6_init 34 = .ok (.putfield 19, 3) := by decide +kernel
theorem dX6_init_37 : decode cX6_init 37 = .ok (.aload_n 0, 1) := by decide +kernel
theorem dX6_init_38 : decode cX6_init 38 = .ok (.new 22, 3) := by decide +kernel
theorem dX6_init_41 : decode cX6_init 41 = .ok (.dup, 1) := by decide +kernel
theorem dX6_init_42 : decode cX6_init 42 = .ok (.invokespecial 24, 3) := by decide +kernel
theorem dX6_init_45 : decode cX6_init 45 = .ok (.putfield 25, 3) := by decide +kernel
theorem dX6_init_48 : decode cX6_init 48 = .ok (.aload_n 0, 1) := by decide +kernel
theorem dX6_init_49 : decode cX6_init 49 = .ok (.new 29, 3) := by decide +kernel
theorem dX6_init_52 : decode cX6_init 52 = .ok (.dup, 1) := by decide +kernel
theorem dX6_init_53 : decode cX6_init 53 = .ok (.invokespecial 31, 3) := by decide +kernel
theorem dX6_init_56 : decode cX6_init 56 = .ok (.putfield 32, 3) := by decide +kernel
theorem dX6_init_59 : decode cX6_init 59 = .ok (.aload_n 0, 1) := by decide +kernel
theorem dX6_init_60 : decode cX6_init 60 = .ok (.iconst 4, 1) := by decide +kernel
theorem dX6_init_61 : decode cX6_init 61 = .ok (.anewarray 36, 3) := by decide +kernel
theorem dX6_init_64 : decode cX6_init 64 = .ok (.putfield 38, 3) := by decide +kernel
theorem dX6_init_67 : decode cX6_init 67 = .ok (.aload_n 0, 1) := by decide +kernel
theorem dX6_init_68 : decode cX6_init 68 = .ok (.iconst 5, 1) := by decide +kernel
theorem dX6_init_69 : decode cX6_init 69 = .ok (.anewarray 42, 3) := by decide +kernel
theorem dX6_init_72 : decode cX6_init 72 = .ok (.putfield 44, 3) := by decide +kernel
theorem dX6_init_75 : decode cX6_init 75 = .ok (.aload_n 0, 1) := by decide +kernel
theorem dX6_init_76 : decode cX6_init 76 = .ok (.bipush 60, 2) := by decide +kernel
theorem dX6_init_78 : decode cX6_init 78 = .ok (.newarray .int, 2) := by decide +kernel
theorem dX6_init_80 : decode cX6_init 80 = .ok (.putfield 48, 3) := by decide +kernel
theorem dX6_init_83 : decode cX6_init 83 = .ok (.aload_n 0, 1) := by decide +kernel
theorem dX6_init_84 : decode cX6_init 84 = .ok (.iconst 0, 1) := by decide +kernel
theorem dX6_init_85 : decode cX6_init 85 = .ok (.putfield 52, 3) := by decide +kernel
theorem dX6_init_88 : decode cX6_init 88 = .ok (.aload_n 0, 1) := by decide +kernel
theorem dX6_init_89 : decode cX6_init 89 = .ok (.iconst 0, 1) := by decide +kernel
theorem dX6_init_90 : decode cX6_init 90 = .ok (.putfield 56, 3) := by decide +kernel
theorem dX6_init_93 : decode cX6_init 93 = .ok (.iconst 0, 1) := by decide +kernel
theorem dX6_init_94 : decode cX6_init 94 = .ok (.istore_n 1, 1) := by decide +kernel
theorem dX6_init_95 : decode cX6_init 95 = .ok (.iload_n 1, 1) := by decide +kernel
theorem dX6_init_96 : decode cX6_init 96 = .ok (.iconst 4, 1) := by decide +kernel
theorem dX6_init_97 : decode cX6_init 97 = .ok (.if_icmp .ge 22, 3) := by decide +kernel
theorem dX6_init_100 : decode cX6_init 100 = .ok (.aload_n 0, 1) := by decide +kernel
theorem dX6_init_101 : decode cX6_init 101 = .ok (.getfield 38, 3) := by decide +kernel
theorem dX6_init_104 : decode cX6_init 104 = .ok (.iload_n 1, 1) := by decide +kernel
theorem dX6_init_105 : decode cX6_init 105 = .ok (.new 36, 3) := by decide +kernel
theorem dX6_init_108 : decode cX6_init 108 = .ok (.dup, 1) := by decide +kernel
theorem dX6_init_109 : decode cX6_init 109 = .ok (.invokespecial 60, 3) := by decide +kernel
theorem dX6_init_112 : decode cX6_init 112 = .ok (.aastore, 1) := by decide +kernel
theorem dX6_init_113 : decode cX6_init 113 = .ok (.iinc 1 1, 3) := by decide +kernel
theorem dX6_init_116 : decode cX6_init 116 = .ok (.goto (-21), 3) := by decide +kernel
theorem dX6_init_119 : decode cX6_init 119 = .ok (.iconst 0, 1) := by decide +kernel
theorem dX6_init_120 : decode cX6_init 120 = .ok (.istore_n 1, 1) := by decide +kernel
theorem dX6_init_121 : decode cX6_init 121 = .ok (.iload_n 1, 1) := by decide +kernel
theorem dX6_init_122 : decode cX6_init 122 = .ok (.iconst 5, 1) := by decide +kernel
theorem dX6_init_123 : decode cX6_init 123 = .ok (.if_icmp .ge 22, 3) := by decide +kernel
theorem dX6_init_126 : decode cX6_init 126 = .ok (.aload_n 0, 1) := by decide +kernel
theorem dX6_init_127 : decode cX6_init 127 = .ok (.getfield 44, 3) := by decide +kernel
theorem dX6_init_130 : decode cX6_init 130 = .ok (.iload_n 1, 1) := by decide +kernel
theorem dX6_init_131 : decode cX6_init 131 = .ok (.new 42, 3) := by decide +kernel
theorem dX6_init_134 : decode cX6_init 134 = .ok (.dup, 1) := by decide +kernel
theorem dX6_init_135 : decode cX6_init 135 = .ok (.invokespecial 61, 3) := by decide +kernel
theorem dX6_init_138 : decode cX6_init 138 = .ok (.aastore, 1) := by decide +kernel
theorem dX6_init_139 : decode cX6_init 139 = .ok (.iinc 1 1, 3) := by decide +kernel
theorem dX6_init_142 : decode cX6_init 142 = .ok (.goto (-21), 3) := by decide +kernel
theorem dX6_init_145 : decode cX6_init 145 = .ok (.return_, 1) := by decide +kernel
set_option maxRecDepth 20000 in
theorem ggX6_place_X6_isKind : GoodIn wsX6_place wsX6_isKind := goodIn_r _ [8, 9] (by decide +kernel) (by decide +kernel)
set_option maxRecDepth 20000 in
theorem gX6_place_X6_isKind : GoodIn wsX6_place (va_wsS RX6 62 yX6_isKind wsX6_isKind) := goodIn_app (goodIn_of _ (by decide +kernel)) ggX6_place_X6_isKind
set_option maxRecDepth 20000 in
theorem ggX6_place_X6_within : GoodIn wsX6_place wsX6_within := goodIn_r _ [12] (by decide +kernel) (by decide +kernel)
set_option maxRecDepth 20000 in
theorem gX6_place_X6_within : GoodIn wsX6_place (va_wsS RX6 66 yX6_within wsX6_within) := goodIn_app (goodIn_of _ (by decide +kernel)) ggX6_place_X6_within
set_option maxRecDepth 20000 in
theorem ggX6_place_X1_append : GoodIn wsX6_place wsX1_append := goodIn_r _ [17, 18, 19, 20, 21, 32, 33, 34, 35, 36, 37, 38, 39, 40, 41, 42, 43, 44, 45, 46] (by decide +kernel) (by decide +kernel)
set_option maxRecDepth 20000 in
theorem gX6_place_X1_append : GoodIn wsX6_place (wsV RX6 75 RX1 yX1_append wsX1_append) := goodIn_app (goodIn_of _ (by decide +kernel)) ggX6_place_X1_append
theorem dX6_place_0 : decode cX6_place 0 = .ok (.iload_n 1, 1) := by decide +kernel
theorem dX6_place_1 : decode cX6_place 1 = .ok (.invokestatic 62, 3) := by decide +kernel
theorem dX6_place_4 : decode cX6_place 4 = .ok (.ifCond .eq 13, 3) := by decide +kernel
theorem dX6_place_7 : decode cX6_place 7 = .ok (.iload_n 2, 1) := by decide +kernel
theorem dX6_place_8 : decode cX6_place 8 = .ok (.iconst 0, 1) := by decide +kernel
theorem dX6_place_9 : decode cX6_place 9 = .ok (.bipush 99, 2) := by decide +kernel
theorem dX6_place_11 : decode cX6_place 11 = .ok (.invokestatic 66, 3) := by decide +kernel
theorem dX6_place_14 : decode cX6_place 14 = .ok (.ifCond .ne 6, 3) := by decide +kernel
theorem dX6_place_17 : decode cX6_place 17 = .ok (.ldc 70, 2) := by decide +kernel
theorem dX6_place_19 : decode cX6_place 19 = .ok (.ireturn, 1) := by decide +kernel
theorem dX6_place_20 : decode cX6_place 20 = .ok (.aload_n 0, 1) := by decide +kernel
theorem dX6_place_21 : decode cX6_place 21 = .ok (.getfield 10, 3) := by decide +kernel
theorem dX6_place_24 : decode cX6_place 24 = .ok (.getfield 71, 3) := by decide +kernel
theorem dX6_place_27 : decode cX6_place 27 = .ok (.bipush 24, 2) := by decide +kernel
theorem dX6_place_29 : decode cX6_place 29 = .ok (.if_icmp .lt 6, 3) := by decide +kernel
theorem dX6_place_32 : decode cX6_place 32 = .ok (.ldc 74, 2) := by decide +kernel
theorem dX6_place_34 : decode cX6_place 34 = .ok (.ireturn, 1) := by decide +kernel
theorem dX6_place_35 : decode cX6_place 35 = .ok (.aload_n 0, 1) := by decide +kernel
theorem dX6_place_36 : decode cX6_place 36 = .ok (.getfield 10, 3) := by decide +kernel
theorem dX6_place_39 : decode cX6_place 39 = .ok (.iload_n 1, 1) := by decide +kernel
theorem dX6_place_40 : decode cX6_place 40 = .ok (.iload_n 2, 1) := by decide +kernel
theorem dX6_place_41 : decode cX6_place 41 = .ok (.iconst 0, 1) := by decide +kernel
theorem dX6_place_42 : decode cX6_place 42 = .ok (.invokevirtual 75, 3) := by decide +kernel
theorem dX6_place_45 : decode cX6_place 45 = .ok (.ireturn, 1) := by decide +kernel
set_option maxRecDepth 20000 in
theorem ggX6_told_X1_has : GoodIn wsX6_told wsX1_has := goodIn_r _ [10, 11, 62, 63, 64, 65, 66, 67, 68, 69, 70, 71, 72, 73, 74, 75, 76] (by decide +kernel) (by decide +kernel)
set_option maxRecDepth 20000 in
theorem gX6_told_X1_has : GoodIn wsX6_told (wsV RX6 79 RX1 yX1_has wsX1_has) := goodIn_app (goodIn_of _ (by decide +kernel)) ggX6_told_X1_has
set_option maxRecDepth 20000 in
theorem ggX6_told_X1_riskOf : GoodIn wsX6_told wsX1_riskOf := goodIn_r _ [15, 16, 17, 18, 19, 20, 9, 21, 22, 23, 24, 25, 26, 27, 28, 29, 30, 31, 32, 33, 34, 35, 36, 37, 38, 39, 40, 41, 42, 43, 44, 45, 46, 47, 48, 62, 63, 64, 65, 66, 67, 68, 69, 70, 71, 72, 73, 74, 75, 76, 77, 78, 79] (by decide +kernel) (by decide +kernel)
set_option maxRecDepth 20000 in
theorem gX6_told_X1_riskOf : GoodIn wsX6_told (wsV RX6 91 RX1 yX1_riskOf wsX1_riskOf) := goodIn_app (goodIn_of _ (by decide +kernel)) ggX6_told_X1_riskOf
set_option maxRecDepth 20000 in
theorem ggX6_told_X6_worthOf : GoodIn wsX6_told wsX6_worthOf := goodIn_r _ [51] (by decide +kernel) (by decide +kernel)
set_option maxRecDepth 20000 in
theorem gX6_told_X6_worthOf : GoodIn wsX6_told (va_wsS RX6 95 yX6_worthOf wsX6_worthOf) := goodIn_app (goodIn_of _ (by decide +kernel)) ggX6_told_X6_worthOf
theorem dX6_told_0 : decode cX6_told 0 = .ok (.aload_n 0, 1) := by decide +kernel
theorem dX6_told_1 : decode cX6_told 1 = .ok (.getfield 10, 3) := by decide +kernel
theorem dX6_told_4 : decode cX6_told 4 = .ok (.iload_n 1, 1) := by decide +kernel
theorem dX6_told_5 : decode cX6_told 5 = .ok (.invokevirtual 79, 3) := by decide +kernel
theorem dX6_told_8 : decode cX6_told 8 = .ok (.ifCond .ne 6, 3) := by decide +kernel
theorem dX6_told_11 : decode cX6_told 11 = .ok (.ldc 70, 2) := by decide +kernel
theorem dX6_told_13 : decode cX6_told 13 = .ok (.ireturn, 1) := by decide +kernel
theorem dX6_told_14 : decode cX6_told 14 = .ok (.iload_n 2, 1) := by decide +kernel
theorem dX6_told_15 : decode cX6_told 15 = .ok (.tableswitch 94 0 4 #[33, 43, 53, 63, 72], 33) := by decide +kernel
theorem dX6_told_48 : decode cX6_told 48 = .ok (.aload_n 0, 1) := by decide +kernel
theorem dX6_told_49 : decode cX6_told 49 = .ok (.getfield 10, 3) := by decide +kernel
theorem dX6_told_52 : decode cX6_told 52 = .ok (.getfield 82, 3) := by decide +kernel
theorem dX6_told_55 : decode cX6_told 55 = .ok (.iload_n 1, 1) := by decide +kernel
theorem dX6_told_56 : decode cX6_told 56 = .ok (.iaload, 1) := by decide +kernel
theorem dX6_told_57 : decode cX6_told 57 = .ok (.ireturn, 1) := by decide +kernel
theorem dX6_told_58 : decode cX6_told 58 = .ok (.aload_n 0, 1) := by decide +kernel
theorem dX6_told_59 : decode cX6_told 59 = .ok (.getfield 10, 3) := by decide +kernel
theorem dX6_told_62 : decode cX6_told 62 = .ok (.getfield 85, 3) := by decide +kernel
theorem dX6_told_65 : decode cX6_told 65 = .ok (.iload_n 1, 1) := by decide +kernel
theorem dX6_told_66 : decode cX6_told 66 = .ok (.iaload, 1) := by decide +kernel
theorem dX6_told_67 : decode cX6_told 67 = .ok (.ireturn, 1) := by decide +kernel
theorem dX6_told_68 : decode cX6_told 68 = .ok (.aload_n 0, 1) := by decide +kernel
theorem dX6_told_69 : decode cX6_told 69 = .ok (.getfield 10, 3) := by decide +kernel
theorem dX6_told_72 : decode cX6_told 72 = .ok (.getfield 88, 3) := by decide +kernel
theorem dX6_told_75 : decode cX6_told 75 = .ok (.iload_n 1, 1) := by decide +kernel
theorem dX6_told_76 : decode cX6_told 76 = .ok (.iaload, 1) := by decide +kernel
theorem dX6_told_77 : decode cX6_told 77 = .ok (.ireturn, 1) := by decide +kernel
theorem dX6_told_78 : decode cX6_told 78 = .ok (.aload_n 0, 1) := by decide +kernel
theorem dX6_told_79 : decode cX6_told 79 = .ok (.getfield 10, 3) := by decide +kernel
theorem dX6_told_82 : decode cX6_told 82 = .ok (.iload_n 1, 1) := by decide +kernel
theorem dX6_told_83 : decode cX6_told 83 = .ok (.invokevirtual 91, 3) := by decide +kernel
theorem dX6_told_86 : decode cX6_told 86 = .ok (.ireturn, 1) := by decide +kernel
theorem dX6_told_87 : decode cX6_told 87 = .ok (.aload_n 0, 1) := by decide +kernel
theorem dX6_told_88 : decode cX6_told 88 = .ok (.getfield 10, 3) := by decide +kernel
theorem dX6_told_91 : decode cX6_told 91 = .ok (.getfield 82, 3) := by decide +kernel
theorem dX6_told_94 : decode cX6_told 94 = .ok (.iload_n 1, 1) := by decide +kernel
theorem dX6_told_95 : decode cX6_told 95 = .ok (.iaload, 1) := by decide +kernel
theorem dX6_told_96 : decode cX6_told 96 = .ok (.aload_n 0, 1) := by decide +kernel
theorem dX6_told_97 : decode cX6_told 97 = .ok (.getfield 10, 3) := by decide +kernel
theorem dX6_told_100 : decode cX6_told 100 = .ok (.getfield 85, 3) := by decide +kernel
theorem dX6_told_103 : decode cX6_told 103 = .ok (.iload_n 1, 1) := by decide +kernel
theorem dX6_told_104 : decode cX6_told 104 = .ok (.iaload, 1) := by decide +kernel
theorem dX6_told_105 : decode cX6_told 105 = .ok (.invokestatic 95, 3) := by decide +kernel
theorem dX6_told_108 : decode cX6_told 108 = .ok (.ireturn, 1) := by decide +kernel
theorem dX6_told_109 : decode cX6_told 109 = .ok (.ldc 70, 2) := by decide +kernel
theorem dX6_told_111 : decode cX6_told 111 = .ok (.ireturn, 1) := by decide +kernel
set_option maxRecDepth 20000 in
theorem ggX6_as_X1_has : GoodIn wsX6_as wsX1_has := goodIn_r _ [10, 11, 30, 31, 32, 33, 34, 35, 36, 37, 38, 39, 40, 41, 42, 43, 44] (by decide +kernel) (by decide +kernel)
set_option maxRecDepth 20000 in
theorem gX6_as_X1_has : GoodIn wsX6_as (wsV RX6 79 RX1 yX1_has wsX1_has) := goodIn_app (goodIn_of _ (by decide +kernel)) ggX6_as_X1_has
set_option maxRecDepth 20000 in
theorem ggX6_as_X6_isKind : GoodIn wsX6_as wsX6_isKind := goodIn_r _ [15, 16] (by decide +kernel) (by decide +kernel)
set_option maxRecDepth 20000 in
theorem gX6_as_X6_isKind : GoodIn wsX6_as (va_wsS RX6 62 yX6_isKind wsX6_isKind) := goodIn_app (goodIn_of _ (by decide +kernel)) ggX6_as_X6_isKind
set_option maxRecDepth 20000 in
theorem ggX6_as_X6_isOfKind : GoodIn wsX6_as wsX6_isOfKind := goodIn_r _ [19, 16, 12, 13, 14, 15] (by decide +kernel) (by decide +kernel)
set_option maxRecDepth 20000 in
theorem gX6_as_X6_isOfKind : GoodIn wsX6_as (va_wsS RX6 99 yX6_isOfKind wsX6_isOfKind) := goodIn_app (goodIn_of _ (by decide +kernel)) ggX6_as_X6_isOfKind
theorem dX6_as_0 : decode cX6_as 0 = .ok (.aload_n 0, 1) := by decide +kernel
theorem dX6_as_1 : decode cX6_as 1 = .ok (.getfield 10, 3) := by decide +kernel
theorem dX6_as_4 : decode cX6_as 4 = .ok (.iload_n 1, 1) := by decide +kernel
theorem dX6_as_5 : decode cX6_as 5 = .ok (.invokevirtual 79, 3) := by decide +kernel
theorem dX6_as_8 : decode cX6_as 8 = .ok (.ifCond .eq 10, 3) := by decide +kernel
theorem dX6_as_11 : decode cX6_as 11 = .ok (.iload_n 2, 1) := by decide +kernel
theorem dX6_as_12 : decode cX6_as 12 = .ok (.invokestatic 62, 3) := by decide +kernel
theorem dX6_as_15 : decode cX6_as 15 = .ok (.ifCond .ne 6, 3) := by decide +kernel
theorem dX6_as_18 : decode cX6_as 18 = .ok (.ldc 70, 2) := by decide +kernel
theorem dX6_as_20 : decode cX6_as 20 = .ok (.ireturn, 1) := by decide +kernel
theorem dX6_as_21 : decode cX6_as 21 = .ok (.aload_n 0, 1) := by decide +kernel
theorem dX6_as_22 : decode cX6_as 22 = .ok (.getfield 10, 3) := by decide +kernel
theorem dX6_as_25 : decode cX6_as 25 = .ok (.getfield 82, 3) := by decide +kernel
theorem dX6_as_28 : decode cX6_as 28 = .ok (.iload_n 1, 1) := by decide +kernel
theorem dX6_as_29 : decode cX6_as 29 = .ok (.iaload, 1) := by decide +kernel
theorem dX6_as_30 : decode cX6_as 30 = .ok (.iload_n 2, 1) := by decide +kernel
theorem dX6_as_31 : decode cX6_as 31 = .ok (.invokestatic 99, 3) := by decide +kernel
theorem dX6_as_34 : decode cX6_as 34 = .ok (.ifCond .eq 15, 3) := by decide +kernel
theorem dX6_as_37 : decode cX6_as 37 = .ok (.aload_n 0, 1) := by decide +kernel
theorem dX6_as_38 : decode cX6_as 38 = .ok (.getfield 10, 3) := by decide +kernel
theorem dX6_as_41 : decode cX6_as 41 = .ok (.getfield 85, 3) := by decide +kernel
theorem dX6_as_44 : decode cX6_as 44 = .ok (.iload_n 1, 1) := by decide +kernel
theorem dX6_as_45 : decode cX6_as 45 = .ok (.iaload, 1) := by decide +kernel
theorem dX6_as_46 : decode cX6_as 46 = .ok (.goto 5, 3) := by decide +kernel
theorem dX6_as_49 : decode cX6_as 49 = .ok (.ldc 103, 2) := by decide +kernel
theorem dX6_as_51 : decode cX6_as 51 = .ok (.ireturn, 1) := by decide +kernel
set_option maxRecDepth 20000 in
theorem ggX6_turns_X1_has : GoodIn wsX6_turns wsX1_has := goodIn_r _ [8, 9, 25, 26, 27, 28, 29, 30, 31, 32, 33, 34, 35, 36, 37, 38, 39] (by decide +kernel) (by decide +kernel)
set_option maxRecDepth 20000 in
theorem gX6_turns_X1_has : GoodIn wsX6_turns (wsV RX6 79 RX1 yX1_has wsX1_has) := goodIn_app (goodIn_of _ (by decide +kernel)) ggX6_turns_X1_has
set_option maxRecDepth 20000 in
theorem ggX6_turns_X6_isKind : GoodIn wsX6_turns wsX6_isKind := goodIn_r _ [13, 14] (by decide +kernel) (by decide +kernel)
set_option maxRecDepth 20000 in
theorem gX6_turns_X6_isKind : GoodIn wsX6_turns (va_wsS RX6 62 yX6_isKind wsX6_isKind) := goodIn_app (goodIn_of _ (by decide +kernel)) ggX6_turns_X6_isKind
theorem dX6_turns_0 : decode cX6_turns 0 = .ok (.aload_n 0, 1) := by decide +kernel
theorem dX6_turns_1 : decode cX6_turns 1 = .ok (.getfield 10, 3) := by decide +kernel
theorem dX6_turns_4 : decode cX6_turns 4 = .ok (.iload_n 1, 1) := by decide +kernel
theorem dX6_turns_5 : decode cX6_turns 5 = .ok (.invokevirtual 79, 3) := by decide +kernel
theorem dX6_turns_8 : decode cX6_turns 8 = .ok (.ifCond .eq 10, 3) := by decide +kernel
theorem dX6_turns_11 : decode cX6_turns 11 = .ok (.iload_n 2, 1) := by decide +kernel
theorem dX6_turns_12 : decode cX6_turns 12 = .ok (.invokestatic 62, 3) := by decide +kernel
theorem dX6_turns_15 : decode cX6_turns 15 = .ok (.ifCond .ne 6, 3) := by decide +kernel
theorem dX6_turns_18 : decode cX6_turns 18 = .ok (.ldc 70, 2) := by decide +kernel
theorem dX6_turns_20 : decode cX6_turns 20 = .ok (.ireturn, 1) := by decide +kernel
theorem dX6_turns_21 : decode cX6_turns 21 = .ok (.aload_n 0, 1) := by decide +kernel
theorem dX6_turns_22 : decode cX6_turns 22 = .ok (.getfield 10, 3) := by decide +kernel
theorem dX6_turns_25 : decode cX6_turns 25 = .ok (.getfield 82, 3) := by decide +kernel
theorem dX6_turns_28 : decode cX6_turns 28 = .ok (.iload_n 1, 1) := by decide +kernel
theorem dX6_turns_29 : decode cX6_turns 29 = .ok (.iaload, 1) := by decide +kernel
theorem dX6_turns_30 : decode cX6_turns 30 = .ok (.istore_n 3, 1) := by decide +kernel
theorem dX6_turns_31 : decode cX6_turns 31 = .ok (.aload_n 0, 1) := by decide +kernel
theorem dX6_turns_32 : decode cX6_turns 32 = .ok (.getfield 10, 3) := by decide +kernel
theorem dX6_turns_35 : decode cX6_turns 35 = .ok (.getfield 82, 3) := by decide +kernel
theorem dX6_turns_38 : decode cX6_turns 38 = .ok (.iload_n 1, 1) := by decide +kernel
theorem dX6_turns_39 : decode cX6_turns 39 = .ok (.iload_n 2, 1) := by decide +kernel
theorem dX6_turns_40 : decode cX6_turns 40 = .ok (.iastore, 1) := by decide +kernel
theorem dX6_turns_41 : decode cX6_turns 41 = .ok (.iload_n 3, 1) := by decide +kernel
theorem dX6_turns_42 : decode cX6_turns 42 = .ok (.ireturn, 1) := by decide +kernel
set_option maxRecDepth 20000 in
theorem ggX6_set_X1_has : GoodIn wsX6_set wsX1_has := goodIn_r _ [9, 10, 25, 26, 27, 28, 29, 30, 31, 32, 33, 34, 35, 36, 37, 38, 39] (by decide +kernel) (by decide +kernel)
set_option maxRecDepth 20000 in
theorem gX6_set_X1_has : GoodIn wsX6_set (wsV RX6 79 RX1 yX1_has wsX1_has) := goodIn_app (goodIn_of _ (by decide +kernel)) ggX6_set_X1_has
set_option maxRecDepth 20000 in
theorem ggX6_set_X6_within : GoodIn wsX6_set wsX6_within := goodIn_r _ [14] (by decide +kernel) (by decide +kernel)
set_option maxRecDepth 20000 in
theorem gX6_set_X6_within : GoodIn wsX6_set (va_wsS RX6 66 yX6_within wsX6_within) := goodIn_app (goodIn_of _ (by decide +kernel)) ggX6_set_X6_within
theorem dX6_set_0 : decode cX6_set 0 = .ok (.aload_n 0, 1) := by decide +kernel
theorem dX6_set_1 : decode cX6_set 1 = .ok (.getfield 10, 3) := by decide +kernel
theorem dX6_set_4 : decode cX6_set 4 = .ok (.iload_n 1, 1) := by decide +kernel
theorem dX6_set_5 : decode cX6_set 5 = .ok (.invokevirtual 79, 3) := by decide +kernel
theorem dX6_set_8 : decode cX6_set 8 = .ok (.ifCond .ne 6, 3) := by decide +kernel
theorem dX6_set_11 : decode cX6_set 11 = .ok (.ldc 70, 2) := by decide +kernel
theorem dX6_set_13 : decode cX6_set 13 = .ok (.ireturn, 1) := by decide +kernel
theorem dX6_set_14 : decode cX6_set 14 = .ok (.iload_n 2, 1) := by decide +kernel
theorem dX6_set_15 : decode cX6_set 15 = .ok (.iconst 1, 1) := by decide +kernel
theorem dX6_set_16 : decode cX6_set 16 = .ok (.if_icmp .ne 37, 3) := by decide +kernel
theorem dX6_set_19 : decode cX6_set 19 = .ok (.iload_n 3, 1) := by decide +kernel
theorem dX6_set_20 : decode cX6_set 20 = .ok (.iconst 0, 1) := by decide +kernel
theorem dX6_set_21 : decode cX6_set 21 = .ok (.bipush 99, 2) := by decide +kernel
theorem dX6_set_23 : decode cX6_set 23 = .ok (.invokestatic 66, 3) := by decide +kernel
theorem dX6_set_26 : decode cX6_set 26 = .ok (.ifCond .eq 27, 3) := by decide +kernel
theorem dX6_set_29 : decode cX6_set 29 = .ok (.aload_n 0, 1) := by decide +kernel
theorem dX6_set_30 : decode cX6_set 30 = .ok (.getfield 10, 3) := by decide +kernel
theorem dX6_set_33 : decode cX6_set 33 = .ok (.getfield 85, 3) := by decide +kernel
theorem dX6_set_36 : decode cX6_set 36 = .ok (.iload_n 1, 1) := by decide +kernel
theorem dX6_set_37 : decode cX6_set 37 = .ok (.iaload, 1) := by decide +kernel
theorem dX6_set_38 : decode cX6_set 38 = .ok (.istore 4, 2) := by decide +kernel
theorem dX6_set_40 : decode cX6_set 40 = .ok (.aload_n 0, 1) := by decide +kernel
theorem dX6_set_41 : decode cX6_set 41 = .ok (.getfield 10, 3) := by decide +kernel
theorem dX6_set_44 : decode cX6_set 44 = .ok (.getfield 85, 3) := by decide +kernel
theorem dX6_set_47 : decode cX6_set 47 = .ok (.iload_n 1, 1) := by decide +kernel
theorem dX6_set_48 : decode cX6_set 48 = .ok (.iload_n 3, 1) := by decide +kernel
theorem dX6_set_49 : decode cX6_set 49 = .ok (.iastore, 1) := by decide +kernel
theorem dX6_set_50 : decode cX6_set 50 = .ok (.iload 4, 2) := by decide +kernel
theorem dX6_set_52 : decode cX6_set 52 = .ok (.ireturn, 1) := by decide +kernel
theorem dX6_set_53 : decode cX6_set 53 = .ok (.iload_n 2, 1) := by decide +kernel
theorem dX6_set_54 : decode cX6_set 54 = .ok (.iconst 2, 1) := by decide +kernel
theorem dX6_set_55 : decode cX6_set 55 = .ok (.if_icmp .ne 36, 3) := by decide +kernel
theorem dX6_set_58 : decode cX6_set 58 = .ok (.iload_n 3, 1) := by decide +kernel
theorem dX6_set_59 : decode cX6_set 59 = .ok (.iconst 0, 1) := by decide +kernel
theorem dX6_set_60 : decode cX6_set 60 = .ok (.iconst 1, 1) := by decide +kernel
theorem dX6_set_61 : decode cX6_set 61 = .ok (.invokestatic 66, 3) := by decide +kernel
theorem dX6_set_64 : decode cX6_set 64 = .ok (.ifCond .eq 27, 3) := by decide +kernel
theorem dX6_set_67 : decode cX6_set 67 = .ok (.aload_n 0, 1) := by decide +kernel
theorem dX6_set_68 : decode cX6_set 68 = .ok (.getfield 10, 3) := by decide +kernel
theorem dX6_set_71 : decode cX6_set 71 = .ok (.getfield 88, 3) := by decide +kernel
theorem dX6_set_74 : decode cX6_set 74 = .ok (.iload_n 1, 1) := by decide +kernel
theorem dX6_set_75 : decode cX6_set 75 = .ok (.iaload, 1) := by decide +kernel
theorem dX6_set_76 : decode cX6_set 76 = .ok (.istore 4, 2) := by decide +kernel
theorem dX6_set_78 : decode cX6_set 78 = .ok (.aload_n 0, 1) := by decide +kernel
theorem dX6_set_79 : decode cX6_set 79 = .ok (.getfield 10, 3) := by decide +kernel
theorem dX6_set_82 : decode cX6_set 82 = .ok (.getfield 88, 3) := by decide +kernel
theorem dX6_set_85 : decode cX6_set 85 = .ok (.iload_n 1, 1) := by decide +kernel
theorem dX6_set_86 : decode cX6_set 86 = .ok (.iload_n 3, 1) := by decide +kernel
theorem dX6_set_87 : decode cX6_set 87 = .ok (.iastore, 1) := by decide +kernel
theorem dX6_set_88 : decode cX6_set 88 = .ok (.iload 4, 2) := by decide +kernel
theorem dX6_set_90 : decode cX6_set 90 = .ok (.ireturn, 1) := by decide +kernel
theorem dX6_set_91 : decode cX6_set 91 = .ok (.ldc 70, 2) := by decide +kernel
theorem dX6_set_93 : decode cX6_set 93 = .ok (.ireturn, 1) := by decide +kernel
set_option maxRecDepth 20000 in
theorem ggX6_deal_X6_within : GoodIn wsX6_deal wsX6_within := goodIn_r _ [11] (by decide +kernel) (by decide +kernel)
set_option maxRecDepth 20000 in
theorem gX6_deal_X6_within : GoodIn wsX6_deal (va_wsS RX6 66 yX6_within wsX6_within) := goodIn_app (goodIn_of _ (by decide +kernel)) ggX6_deal_X6_within
set_option maxRecDepth 20000 in
theorem ggX6_deal_X1_appendDrawn : GoodIn wsX6_deal wsX1_appendDrawn := goodIn_r _ [16, 17, 18, 19, 15, 20, 21, 22, 23, 24, 25, 26, 27, 28, 29, 30, 41, 42, 43, 44, 45, 46, 47, 48, 49, 50, 51, 52, 53, 54, 55] (by decide +kernel) (by decide +kernel)
set_option maxRecDepth 20000 in
theorem gX6_deal_X1_appendDrawn : GoodIn wsX6_deal (wsV RX6 109 RX1 yX1_appendDrawn wsX1_appendDrawn) := goodIn_app (goodIn_of _ (by decide +kernel)) ggX6_deal_X1_appendDrawn
theorem dX6_deal_0 : decode cX6_deal 0 = .ok (.iload_n 1, 1) := by decide +kernel
theorem dX6_deal_1 : decode cX6_deal 1 = .ok (.iconst 1, 1) := by decide +kernel
theorem dX6_deal_2 : decode cX6_deal 2 = .ok (.bipush 24, 2) := by decide +kernel
theorem dX6_deal_4 : decode cX6_deal 4 = .ok (.invokestatic 66, 3) := by decide +kernel
theorem dX6_deal_7 : decode cX6_deal 7 = .ok (.ifCond .ne 6, 3) := by decide +kernel
theorem dX6_deal_10 : decode cX6_deal 10 = .ok (.ldc 70, 2) := by decide +kernel
theorem dX6_deal_12 : decode cX6_deal 12 = .ok (.ireturn, 1) := by decide +kernel
theorem dX6_deal_13 : decode cX6_deal 13 = .ok (.iload_n 1, 1) := by decide +kernel
theorem dX6_deal_14 : decode cX6_deal 14 = .ok (.bipush 24, 2) := by decide +kernel
theorem dX6_deal_16 : decode cX6_deal 16 = .ok (.aload_n 0, 1) := by decide +kernel
theorem dX6_deal_17 : decode cX6_deal 17 = .ok (.getfield 10, 3) := by decide +kernel
theorem dX6_deal_20 : decode cX6_deal 20 = .ok (.getfield 71, 3) := by decide +kernel
theorem dX6_deal_23 : decode cX6_deal 23 = .ok (.isub, 1) := by decide +kernel
theorem dX6_deal_24 : decode cX6_deal 24 = .ok (.invokestatic 104, 3) := by decide +kernel
theorem dX6_deal_27 : decode cX6_deal 27 = .ok (.istore_n 2, 1) := by decide +kernel
theorem dX6_deal_28 : decode cX6_deal 28 = .ok (.iconst 0, 1) := by decide +kernel
theorem dX6_deal_29 : decode cX6_deal 29 = .ok (.istore_n 3, 1) := by decide +kernel
theorem dX6_deal_30 : decode cX6_deal 30 = .ok (.iload_n 3, 1) := by decide +kernel
theorem dX6_deal_31 : decode cX6_deal 31 = .ok (.iload_n 2, 1) := by decide +kernel
theorem dX6_deal_32 : decode cX6_deal 32 = .ok (.if_icmp .ge 16, 3) := by decide +kernel
theorem dX6_deal_35 : decode cX6_deal 35 = .ok (.aload_n 0, 1) := by decide +kernel
theorem dX6_deal_36 : decode cX6_deal 36 = .ok (.getfield 10, 3) := by decide +kernel
theorem dX6_deal_39 : decode cX6_deal 39 = .ok (.invokevirtual 109, 3) := by decide +kernel
theorem dX6_deal_42 : decode cX6_deal 42 = .ok (.iinc 3 1, 3) := by decide +kernel
theorem dX6_deal_45 : decode cX6_deal 45 = .ok (.goto (-15), 3) := by decide +kernel
theorem dX6_deal_48 : decode cX6_deal 48 = .ok (.iload_n 2, 1) := by decide +kernel
theorem dX6_deal_49 : decode cX6_deal 49 = .ok (.ireturn, 1) := by decide +kernel
theorem dX6_seed_0 : decode cX6_seed 0 = .ok (.aload_n 0, 1) := by decide +kernel
theorem dX6_seed_1 : decode cX6_seed 1 = .ok (.getfield 10, 3) := by decide +kernel
theorem dX6_seed_4 : decode cX6_seed 4 = .ok (.getfield 112, 3) := by decide +kernel
theorem dX6_seed_7 : decode cX6_seed 7 = .ok (.istore_n 2, 1) := by decide +kernel
theorem dX6_seed_8 : decode cX6_seed 8 = .ok (.aload_n 0, 1) := by decide +kernel
theorem dX6_seed_9 : decode cX6_seed 9 = .ok (.getfield 10, 3) := by decide +kernel
theorem dX6_seed_12 : decode cX6_seed 12 = .ok (.iload_n 1, 1) := by decide +kernel
theorem dX6_seed_13 : decode cX6_seed 13 = .ok (.putfield 112, 3) := by decide +kernel
theorem dX6_seed_16 : decode cX6_seed 16 = .ok (.iload_n 2, 1) := by decide +kernel
theorem dX6_seed_17 : decode cX6_seed 17 = .ok (.ireturn, 1) := by decide +kernel
set_option maxRecDepth 20000 in
theorem ggX6_storm_X6_within : GoodIn wsX6_storm wsX6_within := goodIn_r _ [8] (by decide +kernel) (by decide +kernel)
set_option maxRecDepth 20000 in
theorem gX6_storm_X6_within : GoodIn wsX6_storm (va_wsS RX6 66 yX6_within wsX6_within) := goodIn_app (goodIn_of _ (by decide +kernel)) ggX6_storm_X6_within
theorem dX6_storm_0 : decode cX6_storm 0 = .ok (.iload_n 1, 1) := by decide +kernel
theorem dX6_storm_1 : decode cX6_storm 1 = .ok (.ifCond .ne 31, 3) := by decide +kernel
theorem dX6_storm_4 : decode cX6_storm 4 = .ok (.iload_n 2, 1) := by decide +kernel
theorem dX6_storm_5 : decode cX6_storm 5 = .ok (.iconst 0, 1) := by decide +kernel
theorem dX6_storm_6 : decode cX6_storm 6 = .ok (.bipush 99, 2) := by decide +kernel
theorem dX6_storm_8 : decode cX6_storm 8 = .ok (.invokestatic 66, 3) := by decide +kernel
theorem dX6_storm_11 : decode cX6_storm 11 = .ok (.ifCond .eq 21, 3) := by decide +kernel
theorem dX6_storm_14 : decode cX6_storm 14 = .ok (.aload_n 0, 1) := by decide +kernel
theorem dX6_storm_15 : decode cX6_storm 15 = .ok (.getfield 10, 3) := by decide +kernel
theorem dX6_storm_18 : decode cX6_storm 18 = .ok (.getfield 115, 3) := by decide +kernel
theorem dX6_storm_21 : decode cX6_storm 21 = .ok (.istore_n 3, 1) := by decide +kernel
theorem dX6_storm_22 : decode cX6_storm 22 = .ok (.aload_n 0, 1) := by decide +kernel
theorem dX6_storm_23 : decode cX6_storm 23 = .ok (.getfield 10, 3) := by decide +kernel
theorem dX6_storm_26 : decode cX6_storm 26 = .ok (.iload_n 2, 1) := by decide +kernel
theorem dX6_storm_27 : decode cX6_storm 27 = .ok (.putfield 115, 3) := by decide +kernel
theorem dX6_storm_30 : decode cX6_storm 30 = .ok (.iload_n 3, 1) := by decide +kernel
theorem dX6_storm_31 : decode cX6_storm 31 = .ok (.ireturn, 1) := by decide +kernel
theorem dX6_storm_32 : decode cX6_storm 32 = .ok (.iload_n 1, 1) := by decide +kernel
theorem dX6_storm_33 : decode cX6_storm 33 = .ok (.iconst 1, 1) := by decide +kernel
theorem dX6_storm_34 : decode cX6_storm 34 = .ok (.if_icmp .ne 32, 3) := by decide +kernel
theorem dX6_storm_37 : decode cX6_storm 37 = .ok (.iload_n 2, 1) := by decide +kernel
theorem dX6_storm_38 : decode cX6_storm 38 = .ok (.bipush (-9), 2) := by decide +kernel
theorem dX6_storm_40 : decode cX6_storm 40 = .ok (.bipush 9, 2) := by decide +kernel
theorem dX6_storm_42 : decode cX6_storm 42 = .ok (.invokestatic 66, 3) := by decide +kernel
theorem dX6_storm_45 : decode cX6_storm 45 = .ok (.ifCond .eq 21, 3) := by decide +kernel
theorem dX6_storm_48 : decode cX6_storm 48 = .ok (.aload_n 0, 1) := by decide +kernel
theorem dX6_storm_49 : decode cX6_storm 49 = .ok (.getfield 10, 3) := by decide +kernel
theorem dX6_storm_52 : decode cX6_storm 52 = .ok (.getfield 118, 3) := by decide +kernel
theorem dX6_storm_55 : decode cX6_storm 55 = .ok (.istore_n 3, 1) := by decide +kernel
theorem dX6_storm_56 : decode cX6_storm 56 = .ok (.aload_n 0, 1) := by decide +kernel
theorem dX6_storm_57 : decode cX6_storm 57 = .ok (.getfield 10, 3) := by decide +kernel
theorem dX6_storm_60 : decode cX6_storm 60 = .ok (.iload_n 2, 1) := by decide +kernel
theorem dX6_storm_61 : decode cX6_storm 61 = .ok (.putfield 118, 3) := by decide +kernel
theorem dX6_storm_64 : decode cX6_storm 64 = .ok (.iload_n 3, 1) := by decide +kernel
theorem dX6_storm_65 : decode cX6_storm 65 = .ok (.ireturn, 1) := by decide +kernel
theorem dX6_storm_66 : decode cX6_storm 66 = .ok (.ldc 70, 2) := by decide +kernel
theorem dX6_storm_68 : decode cX6_storm 68 = .ok (.ireturn, 1) := by decide +kernel
set_option maxRecDepth 20000 in
theorem ggX6_sky_X6_within : GoodIn wsX6_sky wsX6_within := goodIn_r _ [6] (by decide +kernel) (by decide +kernel)
set_option maxRecDepth 20000 in
theorem gX6_sky_X6_within : GoodIn wsX6_sky (va_wsS RX6 66 yX6_within wsX6_within) := goodIn_app (goodIn_of _ (by decide +kernel)) ggX6_sky_X6_within
set_option maxRecDepth 20000 in
theorem ggX6_sky_X1_farIn : GoodIn wsX6_sky wsX1_farIn := goodIn_r _ [11, 12, 13, 14, 5, 15, 16, 17, 18, 19, 20, 21, 22, 57, 58, 59, 60, 61, 62, 63, 64, 65, 66, 67, 68, 69, 70, 71] (by decide +kernel) (by decide +kernel)
set_option maxRecDepth 20000 in
theorem gX6_sky_X1_farIn : GoodIn wsX6_sky (wsV RX6 121 RX1 yX1_farIn wsX1_farIn) := goodIn_app (goodIn_of _ (by decide +kernel)) ggX6_sky_X1_farIn
set_option maxRecDepth 20000 in
theorem ggX6_sky_X1_oddsIn : GoodIn wsX6_sky wsX1_oddsIn := goodIn_r _ [26, 27, 8, 9, 10, 11, 12, 13, 14, 5, 15, 16, 17, 18, 19, 20, 21, 22, 28, 29, 30, 31, 32, 33, 34, 35, 36, 37, 38, 39, 40, 41, 42, 43, 44, 45, 46, 57, 58, 59, 60, 61, 62, 63, 64, 65, 66, 67, 68, 69, 70, 71, 72, 73, 74] (by decide +kernel) (by decide +kernel)
set_option maxRecDepth 20000 in
theorem gX6_sky_X1_oddsIn : GoodIn wsX6_sky (wsV RX6 124 RX1 yX1_oddsIn wsX1_oddsIn) := goodIn_app (goodIn_of _ (by decide +kernel)) ggX6_sky_X1_oddsIn
theorem dX6_sky_0 : decode cX6_sky 0 = .ok (.iload_n 1, 1) := by decide +kernel
theorem dX6_sky_1 : decode cX6_sky 1 = .ok (.iconst 0, 1) := by decide +kernel
theorem dX6_sky_2 : decode cX6_sky 2 = .ok (.bipush 60, 2) := by decide +kernel
theorem dX6_sky_4 : decode cX6_sky 4 = .ok (.invokestatic 66, 3) := by decide +kernel
theorem dX6_sky_7 : decode cX6_sky 7 = .ok (.ifCond .eq 12, 3) := by decide +kernel
theorem dX6_sky_10 : decode cX6_sky 10 = .ok (.iload_n 2, 1) := by decide +kernel
theorem dX6_sky_11 : decode cX6_sky 11 = .ok (.iconst 0, 1) := by decide +kernel
theorem dX6_sky_12 : decode cX6_sky 12 = .ok (.iconst 1, 1) := by decide +kernel
theorem dX6_sky_13 : decode cX6_sky 13 = .ok (.invokestatic 66, 3) := by decide +kernel
theorem dX6_sky_16 : decode cX6_sky 16 = .ok (.ifCond .ne 6, 3) := by decide +kernel
theorem dX6_sky_19 : decode cX6_sky 19 = .ok (.ldc 70, 2) := by decide +kernel
theorem dX6_sky_21 : decode cX6_sky 21 = .ok (.ireturn, 1) := by decide +kernel
theorem dX6_sky_22 : decode cX6_sky 22 = .ok (.iload_n 2, 1) := by decide +kernel
theorem dX6_sky_23 : decode cX6_sky 23 = .ok (.ifCond .ne 14, 3) := by decide +kernel
theorem dX6_sky_26 : decode cX6_sky 26 = .ok (.aload_n 0, 1) := by decide +kernel
theorem dX6_sky_27 : decode cX6_sky 27 = .ok (.getfield 10, 3) := by decide +kernel
theorem dX6_sky_30 : decode cX6_sky 30 = .ok (.iload_n 1, 1) := by decide +kernel
theorem dX6_sky_31 : decode cX6_sky 31 = .ok (.invokevirtual 121, 3) := by decide +kernel
theorem dX6_sky_34 : decode cX6_sky 34 = .ok (.goto 11, 3) := by decide +kernel
theorem dX6_sky_37 : decode cX6_sky 37 = .ok (.aload_n 0, 1) := by decide +kernel
theorem dX6_sky_38 : decode cX6_sky 38 = .ok (.getfield 10, 3) := by decide +kernel
theorem dX6_sky_41 : decode cX6_sky 41 = .ok (.iload_n 1, 1) := by decide +kernel
theorem dX6_sky_42 : decode cX6_sky 42 = .ok (.invokevirtual 124, 3) := by decide +kernel
theorem dX6_sky_45 : decode cX6_sky 45 = .ok (.ireturn, 1) := by decide +kernel
set_option maxRecDepth 20000 in
theorem ggX6_danger_X1_has : GoodIn wsX6_danger wsX1_has := goodIn_r _ [7, 8, 73, 74, 75, 76, 77, 78, 79, 80, 81, 82, 83, 84, 85, 86, 87] (by decide +kernel) (by decide +kernel)
set_option maxRecDepth 20000 in
theorem gX6_danger_X1_has : GoodIn wsX6_danger (wsV RX6 79 RX1 yX1_has wsX1_has) := goodIn_app (goodIn_of _ (by decide +kernel)) ggX6_danger_X1_has
set_option maxRecDepth 20000 in
theorem ggX6_danger_X6_within : GoodIn wsX6_danger wsX6_within := goodIn_r _ [12] (by decide +kernel) (by decide +kernel)
set_option maxRecDepth 20000 in
theorem gX6_danger_X6_within : GoodIn wsX6_danger (va_wsS RX6 66 yX6_within wsX6_within) := goodIn_app (goodIn_of _ (by decide +kernel)) ggX6_danger_X6_within
set_option maxRecDepth 20000 in
theorem ggX6_danger_X1_dangerOf : GoodIn wsX6_danger wsX1_dangerOf := goodIn_r _ [16, 17, 18, 19, 6, 20, 21, 22, 23, 24, 25, 26, 27, 28, 29, 30, 31, 32, 33, 34, 35, 36, 37, 38, 39, 40, 41, 42, 11, 43, 44, 45, 46, 47, 48, 49, 50, 51, 52, 53, 54, 55, 56, 57, 58, 59, 60, 61, 62, 73, 74, 75, 76, 77, 78, 79, 80, 81, 82, 83, 84, 85, 86, 87, 88, 89, 90] (by decide +kernel) (by decide +kernel)
set_option maxRecDepth 20000 in
theorem gX6_danger_X1_dangerOf : GoodIn wsX6_danger (wsV RX6 127 RX1 yX1_dangerOf wsX1_dangerOf) := goodIn_app (goodIn_of _ (by decide +kernel)) ggX6_danger_X1_dangerOf
theorem dX6_danger_0 : decode cX6_danger 0 = .ok (.aload_n 0, 1) := by decide +kernel
theorem dX6_danger_1 : decode cX6_danger 1 = .ok (.getfield 10, 3) := by decide +kernel
theorem dX6_danger_4 : decode cX6_danger 4 = .ok (.iload_n 1, 1) := by decide +kernel
