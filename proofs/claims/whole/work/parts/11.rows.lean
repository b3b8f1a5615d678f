theorem dX0_init_0 : decode cX0_init 0 = .ok (.aload_n 0, 1) := by decide +kernel
theorem dX0_init_1 : decode cX0_init 1 = .ok (.invokespecial 3, 3) := by decide +kernel
theorem dX0_init_4 : decode cX0_init 4 = .ok (.aload_n 0, 1) := by decide +kernel
theorem dX0_init_5 : decode cX0_init 5 = .ok (.bipush 96, 2) := by decide +kernel
theorem dX0_init_7 : decode cX0_init 7 = .ok (.newarray .int, 2) := by decide +kernel
theorem dX0_init_9 : decode cX0_init 9 = .ok (.putfield 9, 3) := by decide +kernel
theorem dX0_init_12 : decode cX0_init 12 = .ok (.aload_n 0, 1) := by decide +kernel
theorem dX0_init_13 : decode cX0_init 13 = .ok (.iconst 0, 1) := by decide +kernel
theorem dX0_init_14 : decode cX0_init 14 = .ok (.putfield 15, 3) := by decide +kernel
theorem dX0_init_17 : decode cX0_init 17 = .ok (.aload_n 0, 1) := by decide +kernel
theorem dX0_init_18 : decode cX0_init 18 = .ok (.ldc 19, 2) := by decide +kernel
theorem dX0_init_20 : decode cX0_init 20 = .ok (.putfield 20, 3) := by decide +kernel
theorem dX0_init_23 : decode cX0_init 23 = .ok (.aload_n 0, 1) := by decide +kernel
theorem dX0_init_24 : decode cX0_init 24 = .ok (.bipush 96, 2) := by decide +kernel
theorem dX0_init_26 : decode cX0_init 26 = .ok (.newarray .int, 2) := by decide +kernel
theorem dX0_init_28 : decode cX0_init 28 = .ok (.putfield 23, 3) := by decide +kernel
theorem dX0_init_31 : decode cX0_init 31 = .ok (.aload_n 0, 1) := by decide +kernel
theorem dX0_init_32 : decode cX0_init 32 = .ok (.iconst 0, 1) := by decide +kernel
theorem dX0_init_33 : decode cX0_init 33 = .ok (.putfield 26, 3) := by decide +kernel
theorem dX0_init_36 : decode cX0_init 36 = .ok (.aload_n 0, 1) := by decide +kernel
theorem dX0_init_37 : decode cX0_init 37 = .ok (.iconst 0, 1) := by decide +kernel
theorem dX0_init_38 : decode cX0_init 38 = .ok (.putfield 29, 3) := by decide +kernel
theorem dX0_init_41 : decode cX0_init 41 = .ok (.aload_n 0, 1) := by decide +kernel
theorem dX0_init_42 : decode cX0_init 42 = .ok (.iconst 0, 1) := by decide +kernel
theorem dX0_init_43 : decode cX0_init 43 = .ok (.putfield 32, 3) := by decide +kernel
theorem dX0_init_46 : decode cX0_init 46 = .ok (.aload_n 0, 1) := by decide +kernel
theorem dX0_init_47 : decode cX0_init 47 = .ok (.iconst 0, 1) := by decide +kernel
theorem dX0_init_48 : decode cX0_init 48 = .ok (.putfield 35, 3) := by decide +kernel
theorem dX0_init_51 : decode cX0_init 51 = .ok (.aload_n 0, 1) := by decide +kernel
theorem dX0_init_52 : decode cX0_init 52 = .ok (.iconst 0, 1) := by decide +kernel
theorem dX0_init_53 : decode cX0_init 53 = .ok (.putfield 38, 3) := by decide +kernel
theorem dX0_init_56 : decode cX0_init 56 = .ok (.aload_n 0, 1) := by decide +kernel
theorem dX0_init_57 : decode cX0_init 57 = .ok (.iconst 0, 1) := by decide +kernel
theorem dX0_init_58 : decode cX0_init 58 = .ok (.putfield 41, 3) := by decide +kernel
theorem dX0_init_61 : decode cX0_init 61 = .ok (.aload_n 0, 1) := by decide +kernel
theorem dX0_init_62 : decode cX0_init 62 = .ok (.iconst 0, 1) := by decide +kernel
theorem dX0_init_63 : decode cX0_init 63 = .ok (.putfield 44, 3) := by decide +kernel
theorem dX0_init_66 : decode cX0_init 66 = .ok (.aload_n 0, 1) := by decide +kernel
theorem dX0_init_67 : decode cX0_init 67 = .ok (.iconst 3, 1) := by decide +kernel
theorem dX0_init_68 : decode cX0_init 68 = .ok (.putfield 47, 3) := by decide +kernel
theorem dX0_init_71 : decode cX0_init 71 = .ok (.return_, 1) := by decide +kernel
theorem dX0_takeBytes_0 : decode cX0_takeBytes 0 = .ok (.bipush 24, 2) := by decide +kernel
theorem dX0_takeBytes_2 : decode cX0_takeBytes 2 = .ok (.istore_n 2, 1) := by decide +kernel
theorem dX0_takeBytes_3 : decode cX0_takeBytes 3 = .ok (.iload_n 2, 1) := by decide +kernel
theorem dX0_takeBytes_4 : decode cX0_takeBytes 4 = .ok (.ifCond .lt 44, 3) := by decide +kernel
theorem dX0_takeBytes_7 : decode cX0_takeBytes 7 = .ok (.aload_n 0, 1) := by decide +kernel
theorem dX0_takeBytes_8 : decode cX0_takeBytes 8 = .ok (.getfield 15, 3) := by decide +kernel
theorem dX0_takeBytes_11 : decode cX0_takeBytes 11 = .ok (.bipush 96, 2) := by decide +kernel
theorem dX0_takeBytes_13 : decode cX0_takeBytes 13 = .ok (.if_icmp .ge 35, 3) := by decide +kernel
theorem dX0_takeBytes_16 : decode cX0_takeBytes 16 = .ok (.aload_n 0, 1) := by decide +kernel
theorem dX0_takeBytes_17 : decode cX0_takeBytes 17 = .ok (.getfield 9, 3) := by decide +kernel
theorem dX0_takeBytes_20 : decode cX0_takeBytes 20 = .ok (.aload_n 0, 1) := by decide +kernel
theorem dX0_takeBytes_21 : decode cX0_takeBytes 21 = .ok (.getfield 15, 3) := by decide +kernel
theorem dX0_takeBytes_24 : decode cX0_takeBytes 24 = .ok (.iload_n 1, 1) := by decide +kernel
theorem dX0_takeBytes_25 : decode cX0_takeBytes 25 = .ok (.iload_n 2, 1) := by decide +kernel
theorem dX0_takeBytes_26 : decode cX0_takeBytes 26 = .ok (.iushr, 1) := by decide +kernel
theorem dX0_takeBytes_27 : decode cX0_takeBytes 27 = .ok (.sipush 255, 3) := by decide +kernel
theorem dX0_takeBytes_30 : decode cX0_takeBytes 30 = .ok (.iand, 1) := by decide +kernel
theorem dX0_takeBytes_31 : decode cX0_takeBytes 31 = .ok (.iastore, 1) := by decide +kernel
theorem dX0_takeBytes_32 : decode cX0_takeBytes 32 = .ok (.aload_n 0, 1) := by decide +kernel
theorem dX0_takeBytes_33 : decode cX0_takeBytes 33 = .ok (.dup, 1) := by decide +kernel
theorem dX0_takeBytes_34 : decode cX0_takeBytes 34 = .ok (.getfield 15, 3) := by decide +kernel
theorem dX0_takeBytes_37 : decode cX0_takeBytes 37 = .ok (.iconst 1, 1) := by decide +kernel
theorem dX0_takeBytes_38 : decode cX0_takeBytes 38 = .ok (.iadd, 1) := by decide +kernel
theorem dX0_takeBytes_39 : decode cX0_takeBytes 39 = .ok (.putfield 15, 3) := by decide +kernel
theorem dX0_takeBytes_42 : decode cX0_takeBytes 42 = .ok (.iinc 2 (-8), 3) := by decide +kernel
theorem dX0_takeBytes_45 : decode cX0_takeBytes 45 = .ok (.goto (-42), 3) := by decide +kernel
theorem dX0_takeBytes_48 : decode cX0_takeBytes 48 = .ok (.return_, 1) := by decide +kernel
set_option maxRecDepth 20000 in
theorem ggX0_readTape_X0_moveOn : GoodIn wsX0_readTape wsX0_moveOn := goodIn_r _ [13, 7, 14, 15, 16, 8, 17, 18, 12, 19, 186, 187, 188, 189, 190, 191, 192, 193, 194, 195, 196, 197] (by decide +kernel) (by decide +kernel)
set_option maxRecDepth 20000 in
theorem gX0_readTape_X0_moveOn : GoodIn wsX0_readTape (wsV RX0 50 RX0 yX0_moveOn wsX0_moveOn) := goodIn_app (goodIn_of _ (by decide +kernel)) ggX0_readTape_X0_moveOn
set_option maxRecDepth 20000 in
theorem ggX0_readTape_X0_readKey : GoodIn wsX0_readTape wsX0_readKey := goodIn_r _ [23, 24, 25, 26, 27, 12, 28, 8, 7, 14, 16, 29, 30, 31, 32, 33, 34, 35, 36, 37, 38, 39, 40, 41, 42, 43, 44, 45, 46, 47, 48, 49, 50, 51, 52, 53, 54, 55, 56, 57, 58, 59, 60, 61, 62, 63, 64, 65, 66, 67, 68, 69, 70, 71, 72, 73, 74, 75, 76, 77, 78, 79, 80, 81, 2, 1, 9, 10, 11, 13, 15, 17, 18, 19, 186, 187, 188, 189, 190, 191, 192, 193, 194, 195, 196, 197] (by decide +kernel) (by decide +kernel)
set_option maxRecDepth 20000 in
theorem gX0_readTape_X0_readKey : GoodIn wsX0_readTape (wsV RX0 53 RX0 yX0_readKey wsX0_readKey) := goodIn_app (goodIn_of _ (by decide +kernel)) ggX0_readTape_X0_readKey
set_option maxRecDepth 20000 in
theorem ggX0_readTape_X0_readLevel : GoodIn wsX0_readTape wsX0_readLevel := goodIn_r _ [85, 2, 1, 86, 87, 88, 12, 82, 83, 84, 89, 90, 91, 92, 8, 16, 14, 93, 94, 95, 9, 10, 11, 13, 7, 15, 17, 18, 19, 96, 97, 98, 99, 3, 100, 101, 5, 78, 79, 80, 81, 102, 6, 103, 104, 105, 106, 107, 4, 108, 109, 110, 111, 112, 113, 114, 115, 24, 116, 117, 118, 119, 120, 121, 32, 122, 123, 124, 125, 126, 34, 45, 46, 47, 48, 39, 40, 127, 30, 31, 33, 35, 36, 37, 38, 128, 129, 51, 130, 131, 132, 133, 134, 135, 136, 137, 138, 139, 140, 141, 142, 143, 144, 145, 63, 146, 147, 148, 149, 150, 151, 152, 153, 154, 155, 68, 69, 70, 156, 157, 158, 56, 159, 160, 59, 161, 162, 163, 164, 72, 73, 74, 75, 76, 77, 165, 166, 167, 168, 169, 170, 171, 172, 173, 174, 175, 176, 177, 178, 179, 180, 181, 182, 183, 184, 185, 186, 187, 188, 189, 190, 191, 192, 193, 194, 195, 196, 197] (by decide +kernel) (by decide +kernel)
set_option maxRecDepth 20000 in
theorem gX0_readTape_X0_readLevel : GoodIn wsX0_readTape (wsV RX0 56 RX0 yX0_readLevel wsX0_readLevel) := goodIn_app (goodIn_of _ (by decide +kernel)) ggX0_readTape_X0_readLevel
set_option maxRecDepth 20000 in
theorem ggX0_readTape_X0_setFault : GoodIn wsX0_readTape wsX0_setFault := goodIn_r _ [81, 2, 1, 14, 186, 187, 188, 189, 190, 191, 192, 193, 194, 195, 196, 197] (by decide +kernel) (by decide +kernel)
set_option maxRecDepth 20000 in
theorem gX0_readTape_X0_setFault : GoodIn wsX0_readTape (wsV RX0 60 RX0 yX0_setFault wsX0_setFault) := goodIn_app (goodIn_of _ (by decide +kernel)) ggX0_readTape_X0_setFault
theorem dX0_readTape_0 : decode cX0_readTape 0 = .ok (.aload_n 0, 1) := by decide +kernel
theorem dX0_readTape_1 : decode cX0_readTape 1 = .ok (.ldc 19, 2) := by decide +kernel
theorem dX0_readTape_3 : decode cX0_readTape 3 = .ok (.putfield 20, 3) := by decide +kernel
theorem dX0_readTape_6 : decode cX0_readTape 6 = .ok (.aload_n 0, 1) := by decide +kernel
theorem dX0_readTape_7 : decode cX0_readTape 7 = .ok (.iconst 0, 1) := by decide +kernel
theorem dX0_readTape_8 : decode cX0_readTape 8 = .ok (.putfield 26, 3) := by decide +kernel
theorem dX0_readTape_11 : decode cX0_readTape 11 = .ok (.aload_n 0, 1) := by decide +kernel
theorem dX0_readTape_12 : decode cX0_readTape 12 = .ok (.iconst 0, 1) := by decide +kernel
theorem dX0_readTape_13 : decode cX0_readTape 13 = .ok (.putfield 32, 3) := by decide +kernel
theorem dX0_readTape_16 : decode cX0_readTape 16 = .ok (.aload_n 0, 1) := by decide +kernel
theorem dX0_readTape_17 : decode cX0_readTape 17 = .ok (.iconst 0, 1) := by decide +kernel
theorem dX0_readTape_18 : decode cX0_readTape 18 = .ok (.putfield 35, 3) := by decide +kernel
theorem dX0_readTape_21 : decode cX0_readTape 21 = .ok (.aload_n 0, 1) := by decide +kernel
theorem dX0_readTape_22 : decode cX0_readTape 22 = .ok (.iconst 0, 1) := by decide +kernel
theorem dX0_readTape_23 : decode cX0_readTape 23 = .ok (.putfield 38, 3) := by decide +kernel
theorem dX0_readTape_26 : decode cX0_readTape 26 = .ok (.aload_n 0, 1) := by decide +kernel
theorem dX0_readTape_27 : decode cX0_readTape 27 = .ok (.iconst 0, 1) := by decide +kernel
theorem dX0_readTape_28 : decode cX0_readTape 28 = .ok (.putfield 44, 3) := by decide +kernel
theorem dX0_readTape_31 : decode cX0_readTape 31 = .ok (.aload_n 0, 1) := by decide +kernel
theorem dX0_readTape_32 : decode cX0_readTape 32 = .ok (.invokevirtual 50, 3) := by decide +kernel
theorem dX0_readTape_35 : decode cX0_readTape 35 = .ok (.aload_n 0, 1) := by decide +kernel
theorem dX0_readTape_36 : decode cX0_readTape 36 = .ok (.invokevirtual 53, 3) := by decide +kernel
theorem dX0_readTape_39 : decode cX0_readTape 39 = .ok (.aload_n 0, 1) := by decide +kernel
theorem dX0_readTape_40 : decode cX0_readTape 40 = .ok (.getfield 20, 3) := by decide +kernel
theorem dX0_readTape_43 : decode cX0_readTape 43 = .ok (.ldc 19, 2) := by decide +kernel
theorem dX0_readTape_45 : decode cX0_readTape 45 = .ok (.if_icmp .ne 8, 3) := by decide +kernel
theorem dX0_readTape_48 : decode cX0_readTape 48 = .ok (.aload_n 0, 1) := by decide +kernel
theorem dX0_readTape_49 : decode cX0_readTape 49 = .ok (.iconst 0, 1) := by decide +kernel
theorem dX0_readTape_50 : decode cX0_readTape 50 = .ok (.invokevirtual 56, 3) := by decide +kernel
theorem dX0_readTape_53 : decode cX0_readTape 53 = .ok (.aload_n 0, 1) := by decide +kernel
theorem dX0_readTape_54 : decode cX0_readTape 54 = .ok (.getfield 20, 3) := by decide +kernel
theorem dX0_readTape_57 : decode cX0_readTape 57 = .ok (.ldc 19, 2) := by decide +kernel
theorem dX0_readTape_59 : decode cX0_readTape 59 = .ok (.if_icmp .ne 15, 3) := by decide +kernel
theorem dX0_readTape_62 : decode cX0_readTape 62 = .ok (.aload_n 0, 1) := by decide +kernel
theorem dX0_readTape_63 : decode cX0_readTape 63 = .ok (.getfield 47, 3) := by decide +kernel
theorem dX0_readTape_66 : decode cX0_readTape 66 = .ok (.iconst 3, 1) := by decide +kernel
theorem dX0_readTape_67 : decode cX0_readTape 67 = .ok (.if_icmp .eq 7, 3) := by decide +kernel
theorem dX0_readTape_70 : decode cX0_readTape 70 = .ok (.aload_n 0, 1) := by decide +kernel
theorem dX0_readTape_71 : decode cX0_readTape 71 = .ok (.invokevirtual 60, 3) := by decide +kernel
theorem dX0_readTape_74 : decode cX0_readTape 74 = .ok (.return_, 1) := by decide +kernel
set_option maxRecDepth 20000 in
theorem ggX0_textRead_J7_copyOf_59c91 : GoodIn wsX0_textRead wsJ7_copyOf_59c91 := goodIn_r _ [11, 12, 13, 14, 15, 16, 17, 18, 19, 20, 21, 22, 23, 24, 25, 26] (by decide +kernel) (by decide +kernel)
set_option maxRecDepth 20000 in
theorem gX0_textRead_J7_copyOf_59c91 : GoodIn wsX0_textRead (va_wsS RX0 65 yJ7_copyOf_59c91 wsJ7_copyOf_59c91) := goodIn_app (goodIn_of _ (by decide +kernel)) ggX0_textRead_J7_copyOf_59c91
set_option maxRecDepth 20000 in
theorem ggX0_textRead_X4_init : GoodIn wsX0_textRead wsX4_init := goodIn_r _ [29, 30, 31, 32, 33, 34, 35, 36, 37, 38] (by decide +kernel) (by decide +kernel)
set_option maxRecDepth 20000 in
theorem gX0_textRead_X4_init : GoodIn wsX0_textRead (wsX4_init) := ggX0_textRead_X4_init
theorem dX0_textRead_0 : decode cX0_textRead 0 = .ok (.new 63, 3) := by decide +kernel
theorem dX0_textRead_3 : decode cX0_textRead 3 = .ok (.dup, 1) := by decide +kernel
theorem dX0_textRead_4 : decode cX0_textRead 4 = .ok (.aload_n 0, 1) := by decide +kernel
theorem dX0_textRead_5 : decode cX0_textRead 5 = .ok (.getfield 29, 3) := by decide +kernel
theorem dX0_textRead_8 : decode cX0_textRead 8 = .ok (.aload_n 0, 1) := by decide +kernel
theorem dX0_textRead_9 : decode cX0_textRead 9 = .ok (.getfield 32, 3) := by decide +kernel
theorem dX0_textRead_12 : decode cX0_textRead 12 = .ok (.aload_n 0, 1) := by decide +kernel
theorem dX0_textRead_13 : decode cX0_textRead 13 = .ok (.getfield 23, 3) := by decide +kernel
theorem dX0_textRead_16 : decode cX0_textRead 16 = .ok (.aload_n 0, 1) := by decide +kernel
theorem dX0_textRead_17 : decode cX0_textRead 17 = .ok (.getfield 26, 3) := by decide +kernel
theorem dX0_textRead_20 : decode cX0_textRead 20 = .ok (.invokestatic 65, 3) := by decide +kernel
theorem dX0_textRead_23 : decode cX0_textRead 23 = .ok (.invokespecial 71, 3) := by decide +kernel
theorem dX0_textRead_26 : decode cX0_textRead 26 = .ok (.areturn, 1) := by decide +kernel
set_option maxRecDepth 20000 in
theorem ggX0_readKey_X0_isWord : GoodIn wsX0_readKey wsX0_isWord := goodIn_r _ [6, 7, 8, 9, 10, 11, 12, 13, 14, 15, 16, 17, 18, 19, 20, 21, 22, 23, 24, 25, 26, 27, 28, 29, 30, 31, 32, 33, 34, 35, 36, 37, 38, 39, 40, 41, 42, 43, 44, 45, 46, 47, 48, 49, 50, 51, 52, 53, 54, 55, 56, 57, 58, 59, 74, 75, 76, 77, 78, 79, 80, 81, 82, 83, 84, 85] (by decide +kernel) (by decide +kernel)
set_option maxRecDepth 20000 in
theorem gX0_readKey_X0_isWord : GoodIn wsX0_readKey (wsV RX0 76 RX0 yX0_isWord wsX0_isWord) := goodIn_app (goodIn_of _ (by decide +kernel)) ggX0_readKey_X0_isWord
set_option maxRecDepth 20000 in
theorem ggX0_readKey_X0_setFault : GoodIn wsX0_readKey wsX0_setFault := goodIn_r _ [63, 64, 65, 9, 74, 75, 76, 77, 78, 79, 80, 81, 82, 83, 84, 85] (by decide +kernel) (by decide +kernel)
set_option maxRecDepth 20000 in
theorem gX0_readKey_X0_setFault : GoodIn wsX0_readKey (wsV RX0 60 RX0 yX0_setFault wsX0_setFault) := goodIn_app (goodIn_of _ (by decide +kernel)) ggX0_readKey_X0_setFault
set_option maxRecDepth 20000 in
theorem ggX0_readKey_X0_moveOn : GoodIn wsX0_readKey wsX0_moveOn := goodIn_r _ [69, 8, 9, 70, 10, 7, 71, 72, 5, 73, 74, 75, 76, 77, 78, 79, 80, 81, 82, 83, 84, 85] (by decide +kernel) (by decide +kernel)
set_option maxRecDepth 20000 in
theorem gX0_readKey_X0_moveOn : GoodIn wsX0_readKey (wsV RX0 50 RX0 yX0_moveOn wsX0_moveOn) := goodIn_app (goodIn_of _ (by decide +kernel)) ggX0_readKey_X0_moveOn
theorem dX0_readKey_0 : decode cX0_readKey 0 = .ok (.aload_n 0, 1) := by decide +kernel
theorem dX0_readKey_1 : decode cX0_readKey 1 = .ok (.ldc 74, 2) := by decide +kernel
theorem dX0_readKey_3 : decode cX0_readKey 3 = .ok (.invokevirtual 76, 3) := by decide +kernel
theorem dX0_readKey_6 : decode cX0_readKey 6 = .ok (.ifCond .eq 11, 3) := by decide +kernel
theorem dX0_readKey_9 : decode cX0_readKey 9 = .ok (.aload_n 0, 1) := by decide +kernel
theorem dX0_readKey_10 : decode cX0_readKey 10 = .ok (.iconst 0, 1) := by decide +kernel
theorem dX0_readKey_11 : decode cX0_readKey 11 = .ok (.putfield 29, 3) := by decide +kernel
theorem dX0_readKey_14 : decode cX0_readKey 14 = .ok (.goto 42, 3) := by decide +kernel
theorem dX0_readKey_17 : decode cX0_readKey 17 = .ok (.aload_n 0, 1) := by decide +kernel
theorem dX0_readKey_18 : decode cX0_readKey 18 = .ok (.ldc 80, 2) := by decide +kernel
theorem dX0_readKey_20 : decode cX0_readKey 20 = .ok (.invokevirtual 76, 3) := by decide +kernel
theorem dX0_readKey_23 : decode cX0_readKey 23 = .ok (.ifCond .eq 11, 3) := by decide +kernel
theorem dX0_readKey_26 : decode cX0_readKey 26 = .ok (.aload_n 0, 1) := by decide +kernel
theorem dX0_readKey_27 : decode cX0_readKey 27 = .ok (.iconst 1, 1) := by decide +kernel
theorem dX0_readKey_28 : decode cX0_readKey 28 = .ok (.putfield 29, 3) := by decide +kernel
theorem dX0_readKey_31 : decode cX0_readKey 31 = .ok (.goto 25, 3) := by decide +kernel
theorem dX0_readKey_34 : decode cX0_readKey 34 = .ok (.aload_n 0, 1) := by decide +kernel
theorem dX0_readKey_35 : decode cX0_readKey 35 = .ok (.ldc 82, 2) := by decide +kernel
theorem dX0_readKey_37 : decode cX0_readKey 37 = .ok (.invokevirtual 76, 3) := by decide +kernel
theorem dX0_readKey_40 : decode cX0_readKey 40 = .ok (.ifCond .eq 11, 3) := by decide +kernel
theorem dX0_readKey_43 : decode cX0_readKey 43 = .ok (.aload_n 0, 1) := by decide +kernel
theorem dX0_readKey_44 : decode cX0_readKey 44 = .ok (.iconst 2, 1) := by decide +kernel
theorem dX0_readKey_45 : decode cX0_readKey 45 = .ok (.putfield 29, 3) := by decide +kernel
theorem dX0_readKey_48 : decode cX0_readKey 48 = .ok (.goto 8, 3) := by decide +kernel
theorem dX0_readKey_51 : decode cX0_readKey 51 = .ok (.aload_n 0, 1) := by decide +kernel
theorem dX0_readKey_52 : decode cX0_readKey 52 = .ok (.invokevirtual 60, 3) := by decide +kernel
theorem dX0_readKey_55 : decode cX0_readKey 55 = .ok (.return_, 1) := by decide +kernel
theorem dX0_readKey_56 : decode cX0_readKey 56 = .ok (.aload_n 0, 1) := by decide +kernel
theorem dX0_readKey_57 : decode cX0_readKey 57 = .ok (.invokevirtual 50, 3) := by decide +kernel
theorem dX0_readKey_60 : decode cX0_readKey 60 = .ok (.return_, 1) := by decide +kernel
set_option maxRecDepth 20000 in
theorem ggX0_readLevel_X0_readPiece : GoodIn wsX0_readLevel wsX0_readPiece := goodIn_r _ [43, 14, 44, 45, 46, 6, 47, 2, 48, 49, 50, 51, 52, 24, 16, 15, 53, 54, 55, 56, 57, 58, 59, 60, 61, 62, 63, 64, 65, 66, 67, 68, 69, 70, 71, 72, 73, 74, 75, 76, 77, 78, 79, 80, 81, 82, 83, 84, 85, 86, 87, 88, 89, 90, 91, 92, 93, 94, 95, 96, 97, 98, 99, 100, 101, 102, 103, 104, 105, 106, 107, 108, 109, 110, 111, 112, 113, 114, 115, 116, 117, 118, 119, 120, 121, 122, 123, 124, 125, 126, 127, 128, 129, 130, 131, 132, 133, 134, 135, 136, 137, 138, 139, 140, 141, 142, 143, 144, 145, 146, 147, 148, 149, 37, 38, 39, 40, 1, 29, 30, 31, 32, 33, 34, 20, 21, 22, 23, 25, 26, 27, 28, 10, 11, 12, 13, 150, 151, 152, 153, 154, 155, 35, 36, 7, 8, 9, 0, 3, 4, 5, 17, 18, 19, 41, 42, 156, 157, 158, 159, 160, 161, 162, 163, 164, 165, 166, 167] (by decide +kernel) (by decide +kernel)
set_option maxRecDepth 20000 in
theorem gX0_readLevel_X0_readPiece : GoodIn wsX0_readLevel (wsV RX0 84 RX0 yX0_readPiece wsX0_readPiece) := goodIn_app (goodIn_of _ (by decide +kernel)) ggX0_readLevel_X0_readPiece
set_option maxRecDepth 20000 in
theorem ggX0_readLevel_X0_readLevel : GoodIn wsX0_readLevel wsX0_readLevel := goodIn_r _ [0, 1, 2, 3, 4, 5, 6, 7, 8, 9, 10, 11, 12, 13, 14, 15, 16, 17, 18, 19, 20, 21, 22, 23, 24, 25, 26, 27, 28, 29, 30, 31, 32, 33, 34, 35, 36, 37, 38, 39, 40, 41, 42, 43, 44, 45, 46, 47, 48, 49, 50, 51, 52, 53, 54, 55, 56, 57, 58, 59, 60, 61, 62, 63, 64, 65, 66, 67, 68, 69, 70, 71, 72, 73, 74, 75, 76, 77, 78, 79, 80, 81, 82, 83, 84, 85, 86, 87, 88, 89, 90, 91, 92, 93, 94, 95, 96, 97, 98, 99, 100, 101, 102, 103, 104, 105, 106, 107, 108, 109, 110, 111, 112, 113, 114, 115, 116, 117, 118, 119, 120, 121, 122, 123, 124, 125, 126, 127, 128, 129, 130, 131, 132, 133, 134, 135, 136, 137, 138, 139, 140, 141, 142, 143, 144, 145, 146, 147, 148, 149, 150, 151, 152, 153, 154, 155, 156, 157, 158, 159, 160, 161, 162, 163, 164, 165, 166, 167] (by decide +kernel) (by decide +kernel)
set_option maxRecDepth 20000 in
theorem gX0_readLevel_X0_readLevel : GoodIn wsX0_readLevel (wsV RX0 56 RX0 yX0_readLevel wsX0_readLevel) := goodIn_app (goodIn_of _ (by decide +kernel)) ggX0_readLevel_X0_readLevel
set_option maxRecDepth 20000 in
theorem ggX0_readLevel_X0_signHere : GoodIn wsX0_readLevel wsX0_signHere := goodIn_r _ [13, 14, 15, 16, 2, 156, 157, 158, 159, 160, 161, 162, 163, 164, 165, 166, 167] (by decide +kernel) (by decide +kernel)
set_option maxRecDepth 20000 in
theorem gX0_readLevel_X0_signHere : GoodIn wsX0_readLevel (wsV RX0 87 RX0 yX0_signHere wsX0_signHere) := goodIn_app (goodIn_of _ (by decide +kernel)) ggX0_readLevel_X0_signHere
set_option maxRecDepth 20000 in
theorem ggX0_readLevel_X0_levelOf : GoodIn wsX0_readLevel wsX0_levelOf := goodIn_r _ [19, 2] (by decide +kernel) (by decide +kernel)
set_option maxRecDepth 20000 in
theorem gX0_readLevel_X0_levelOf : GoodIn wsX0_readLevel (va_wsS RX0 91 yX0_levelOf wsX0_levelOf) := goodIn_app (goodIn_of _ (by decide +kernel)) ggX0_readLevel_X0_levelOf
set_option maxRecDepth 20000 in
theorem ggX0_readLevel_X0_moveOn : GoodIn wsX0_readLevel wsX0_moveOn := goodIn_r _ [23, 24, 16, 25, 15, 14, 26, 27, 6, 28, 156, 157, 158, 159, 160, 161, 162, 163, 164, 165, 166, 167] (by decide +kernel) (by decide +kernel)
set_option maxRecDepth 20000 in
theorem gX0_readLevel_X0_moveOn : GoodIn wsX0_readLevel (wsV RX0 50 RX0 yX0_moveOn wsX0_moveOn) := goodIn_app (goodIn_of _ (by decide +kernel)) ggX0_readLevel_X0_moveOn
set_option maxRecDepth 20000 in
theorem ggX0_readLevel_X0_putCode : GoodIn wsX0_readLevel wsX0_putCode := goodIn_r _ [32, 33, 34, 156, 157, 158, 159, 160, 161, 162, 163, 164, 165, 166, 167] (by decide +kernel) (by decide +kernel)
set_option maxRecDepth 20000 in
theorem gX0_readLevel_X0_putCode : GoodIn wsX0_readLevel (wsV RX0 95 RX0 yX0_putCode wsX0_putCode) := goodIn_app (goodIn_of _ (by decide +kernel)) ggX0_readLevel_X0_putCode
theorem dX0_readLevel_0 : decode cX0_readLevel 0 = .ok (.iload_n 1, 1) := by decide +kernel
theorem dX0_readLevel_1 : decode cX0_readLevel 1 = .ok (.iconst 5, 1) := by decide +kernel
theorem dX0_readLevel_2 : decode cX0_readLevel 2 = .ok (.if_icmp .lt 8, 3) := by decide +kernel
theorem dX0_readLevel_5 : decode cX0_readLevel 5 = .ok (.aload_n 0, 1) := by decide +kernel
theorem dX0_readLevel_6 : decode cX0_readLevel 6 = .ok (.invokevirtual 84, 3) := by decide +kernel
theorem dX0_readLevel_9 : decode cX0_readLevel 9 = .ok (.return_, 1) := by decide +kernel
theorem dX0_readLevel_10 : decode cX0_readLevel 10 = .ok (.aload_n 0, 1) := by decide +kernel
theorem dX0_readLevel_11 : decode cX0_readLevel 11 = .ok (.iload_n 1, 1) := by decide +kernel
theorem dX0_readLevel_12 : decode cX0_readLevel 12 = .ok (.iconst 1, 1) := by decide +kernel
theorem dX0_readLevel_13 : decode cX0_readLevel 13 = .ok (.iadd, 1) := by decide +kernel
theorem dX0_readLevel_14 : decode cX0_readLevel 14 = .ok (.invokevirtual 56, 3) := by decide +kernel
theorem dX0_readLevel_17 : decode cX0_readLevel 17 = .ok (.iload_n 1, 1) := by decide +kernel
theorem dX0_readLevel_18 : decode cX0_readLevel 18 = .ok (.iconst 2, 1) := by decide +kernel
theorem dX0_readLevel_19 : decode cX0_readLevel 19 = .ok (.if_icmp .ne 7, 3) := by decide +kernel
theorem dX0_readLevel_22 : decode cX0_readLevel 22 = .ok (.iconst 1, 1) := by decide +kernel
theorem dX0_readLevel_23 : decode cX0_readLevel 23 = .ok (.goto 5, 3) := by decide +kernel
theorem dX0_readLevel_26 : decode cX0_readLevel 26 = .ok (.bipush 96, 2) := by decide +kernel
theorem dX0_readLevel_28 : decode cX0_readLevel 28 = .ok (.istore_n 2, 1) := by decide +kernel
theorem dX0_readLevel_29 : decode cX0_readLevel 29 = .ok (.iconst 0, 1) := by decide +kernel
theorem dX0_readLevel_30 : decode cX0_readLevel 30 = .ok (.istore_n 3, 1) := by decide +kernel
theorem dX0_readLevel_31 : decode cX0_readLevel 31 = .ok (.iload_n 3, 1) := by decide +kernel
theorem dX0_readLevel_32 : decode cX0_readLevel 32 = .ok (.iload_n 2, 1) := by decide +kernel
theorem dX0_readLevel_33 : decode cX0_readLevel 33 = .ok (.if_icmp .ge 53, 3) := by decide +kernel
theorem dX0_readLevel_36 : decode cX0_readLevel 36 = .ok (.aload_n 0, 1) := by decide +kernel
theorem dX0_readLevel_37 : decode cX0_readLevel 37 = .ok (.getfield 20, 3) := by decide +kernel
theorem dX0_readLevel_40 : decode cX0_readLevel 40 = .ok (.ldc 19, 2) := by decide +kernel
theorem dX0_readLevel_42 : decode cX0_readLevel 42 = .ok (.if_icmp .ne 44, 3) := by decide +kernel
theorem dX0_readLevel_45 : decode cX0_readLevel 45 = .ok (.aload_n 0, 1) := by decide +kernel
theorem dX0_readLevel_46 : decode cX0_readLevel 46 = .ok (.invokevirtual 87, 3) := by decide +kernel
theorem dX0_readLevel_49 : decode cX0_readLevel 49 = .ok (.invokestatic 91, 3) := by decide +kernel
theorem dX0_readLevel_52 : decode cX0_readLevel 52 = .ok (.iload_n 1, 1) := by decide +kernel
theorem dX0_readLevel_53 : decode cX0_readLevel 53 = .ok (.if_icmp .ne 33, 3) := by decide +kernel
theorem dX0_readLevel_56 : decode cX0_readLevel 56 = .ok (.aload_n 0, 1) := by decide +kernel
theorem dX0_readLevel_57 : decode cX0_readLevel 57 = .ok (.invokevirtual 87, 3) := by decide +kernel
theorem dX0_readLevel_60 : decode cX0_readLevel 60 = .ok (.istore 4, 2) := by decide +kernel
theorem dX0_readLevel_62 : decode cX0_readLevel 62 = .ok (.aload_n 0, 1) := by decide +kernel
theorem dX0_readLevel_63 : decode cX0_readLevel 63 = .ok (.invokevirtual 50, 3) := by decide +kernel
theorem dX0_readLevel_66 : decode cX0_readLevel 66 = .ok (.aload_n 0, 1) := by decide +kernel
theorem dX0_readLevel_67 : decode cX0_readLevel 67 = .ok (.iload_n 1, 1) := by decide +kernel
theorem dX0_readLevel_68 : decode cX0_readLevel 68 = .ok (.iconst 1, 1) := by decide +kernel
theorem dX0_readLevel_69 : decode cX0_readLevel 69 = .ok (.iadd, 1) := by decide +kernel
theorem dX0_readLevel_70 : decode cX0_readLevel 70 = .ok (.invokevirtual 56, 3) := by decide +kernel
theorem dX0_readLevel_73 : decode cX0_readLevel 73 = .ok (.aload_n 0, 1) := by decide +kernel
theorem dX0_readLevel_74 : decode cX0_readLevel 74 = .ok (.iload 4, 2) := by decide +kernel
theorem dX0_readLevel_76 : decode cX0_readLevel 76 = .ok (.ineg, 1) := by decide +kernel
theorem dX0_readLevel_77 : decode cX0_readLevel 77 = .ok (.invokevirtual 95, 3) := by decide +kernel
theorem dX0_readLevel_80 : decode cX0_readLevel 80 = .ok (.iinc 3 1, 3) := by decide +kernel
theorem dX0_readLevel_83 : decode cX0_readLevel 83 = .ok (.goto (-52), 3) := by decide +kernel
theorem dX0_readLevel_86 : decode cX0_readLevel 86 = .ok (.return_, 1) := by decide +kernel
set_option maxRecDepth 20000 in
theorem ggX0_readPiece_X0_readLeaf : GoodIn wsX0_readPiece wsX0_readLeaf := goodIn_r _ [6, 1, 7, 8, 9, 10, 11, 5, 12, 13, 14, 15, 16, 17, 18, 19, 20, 21, 22, 23, 24, 25, 26, 27, 28, 29, 30, 31, 32, 33, 34, 35, 36, 37, 38, 39, 40, 41, 42, 43, 44, 45, 46, 47, 48, 49, 50, 51, 52, 53, 54, 55, 56, 57, 58, 59, 60, 61, 62, 63, 64, 65, 66, 67, 68, 69, 70, 71, 72, 73, 74, 75, 76, 77, 78, 79, 80, 81, 82, 83, 84, 85, 86, 87, 88, 89, 90, 91, 92, 93, 94, 95, 96, 97, 98, 99, 100, 101, 102, 103, 104, 105, 106, 107, 108, 109, 110, 111, 112, 113, 114, 115, 116, 117, 118, 119, 120, 121, 122, 123, 124, 125, 126, 127, 128, 129, 130, 131, 156, 157, 158, 159, 160, 161, 162, 163, 164, 165, 166, 167] (by decide +kernel) (by decide +kernel)
set_option maxRecDepth 20000 in
theorem gX0_readPiece_X0_readLeaf : GoodIn wsX0_readPiece (wsV RX0 98 RX0 yX0_readLeaf wsX0_readLeaf) := goodIn_app (goodIn_of _ (by decide +kernel)) ggX0_readPiece_X0_readLeaf
set_option maxRecDepth 20000 in
theorem ggX0_readPiece_X0_signHere : GoodIn wsX0_readPiece wsX0_signHere := goodIn_r _ [135, 1, 15, 14, 7, 156, 157, 158, 159, 160, 161, 162, 163, 164, 165, 166, 167] (by decide +kernel) (by decide +kernel)
set_option maxRecDepth 20000 in
theorem gX0_readPiece_X0_signHere : GoodIn wsX0_readPiece (wsV RX0 87 RX0 yX0_signHere wsX0_signHere) := goodIn_app (goodIn_of _ (by decide +kernel)) ggX0_readPiece_X0_signHere
set_option maxRecDepth 20000 in
theorem ggX0_readPiece_X0_readNot : GoodIn wsX0_readPiece wsX0_readNot := goodIn_r _ [154, 155, 113, 114, 115, 5, 116, 117, 7, 14, 124, 125, 126, 127, 13, 128, 15, 1, 129, 130, 131, 148, 149, 150, 118, 119, 120, 121, 122, 123, 142, 143, 144, 145, 146, 132, 133, 134, 135, 147, 151, 152, 153, 0, 2, 3, 4, 6, 8, 9, 10, 11, 12, 16, 17, 18, 19, 20, 21, 22, 23, 24, 25, 26, 27, 28, 29, 30, 31, 32, 33, 34, 35, 36, 37, 38, 39, 40, 41, 42, 43, 44, 45, 46, 47, 48, 49, 50, 51, 52, 53, 54, 55, 56, 57, 58, 59, 60, 61, 62, 63, 64, 65, 66, 67, 68, 69, 70, 71, 72, 73, 74, 75, 76, 77, 78, 79, 80, 81, 82, 83, 84, 85, 86, 87, 88, 89, 90, 91, 92, 93, 94, 95, 96, 97, 98, 99, 100, 101, 102, 103, 104, 105, 106, 107, 108, 109, 110, 111, 112, 136, 137, 138, 139, 140, 141, 156, 157, 158, 159, 160, 161, 162, 163, 164, 165, 166, 167] (by decide +kernel) (by decide +kernel)
set_option maxRecDepth 20000 in
theorem gX0_readPiece_X0_readNot : GoodIn wsX0_readPiece (wsV RX0 101 RX0 yX0_readNot wsX0_readNot) := goodIn_app (goodIn_of _ (by decide +kernel)) ggX0_readPiece_X0_readNot
set_option maxRecDepth 20000 in
theorem ggX0_readPiece_X0_readBracket : GoodIn wsX0_readPiece wsX0_readBracket := goodIn_r _ [142, 143, 117, 7, 113, 114, 115, 5, 116, 14, 124, 125, 126, 127, 13, 128, 15, 1, 129, 130, 131, 144, 145, 146, 132, 133, 134, 135, 147, 148, 149, 150, 151, 152, 153, 118, 119, 120, 121, 122, 123, 154, 155, 0, 2, 3, 4, 6, 8, 9, 10, 11, 12, 16, 17, 18, 19, 20, 21, 22, 23, 24, 25, 26, 27, 28, 29, 30, 31, 32, 33, 34, 35, 36, 37, 38, 39, 40, 41, 42, 43, 44, 45, 46, 47, 48, 49, 50, 51, 52, 53, 54, 55, 56, 57, 58, 59, 60, 61, 62, 63, 64, 65, 66, 67, 68, 69, 70, 71, 72, 73, 74, 75, 76, 77, 78, 79, 80, 81, 82, 83, 84, 85, 86, 87, 88, 89, 90, 91, 92, 93, 94, 95, 96, 97, 98, 99, 100, 101, 102, 103, 104, 105, 106, 107, 108, 109, 110, 111, 112, 136, 137, 138, 139, 140, 141, 156, 157, 158, 159, 160, 161, 162, 163, 164, 165, 166, 167] (by decide +kernel) (by decide +kernel)
set_option maxRecDepth 20000 in
theorem gX0_readPiece_X0_readBracket : GoodIn wsX0_readPiece (wsV RX0 104 RX0 yX0_readBracket wsX0_readBracket) := goodIn_app (goodIn_of _ (by decide +kernel)) ggX0_readPiece_X0_readBracket
set_option maxRecDepth 20000 in
theorem ggX0_readPiece_X0_setFault : GoodIn wsX0_readPiece wsX0_setFault := goodIn_r _ [116, 117, 7, 14, 156, 157, 158, 159, 160, 161, 162, 163, 164, 165, 166, 167] (by decide +kernel) (by decide +kernel)
set_option maxRecDepth 20000 in
theorem gX0_readPiece_X0_setFault : GoodIn wsX0_readPiece (wsV RX0 60 RX0 yX0_setFault wsX0_setFault) := goodIn_app (goodIn_of _ (by decide +kernel)) ggX0_readPiece_X0_setFault
theorem dX0_readPiece_0 : decode cX0_readPiece 0 = .ok (.aload_n 0, 1) := by decide +kernel
theorem dX0_readPiece_1 : decode cX0_readPiece 1 = .ok (.getfield 47, 3) := by decide +kernel
theorem dX0_readPiece_4 : decode cX0_readPiece 4 = .ok (.iconst 1, 1) := by decide +kernel
theorem dX0_readPiece_5 : decode cX0_readPiece 5 = .ok (.if_icmp .eq 10, 3) := by decide +kernel
theorem dX0_readPiece_8 : decode cX0_readPiece 8 = .ok (.aload_n 0, 1) := by decide +kernel
theorem dX0_readPiece_9 : decode cX0_readPiece 9 = .ok (.getfield 47, 3) := by decide +kernel
theorem dX0_readPiece_12 : decode cX0_readPiece 12 = .ok (.ifCond .ne 10, 3) := by decide +kernel
theorem dX0_readPiece_15 : decode cX0_readPiece 15 = .ok (.aload_n 0, 1) := by decide +kernel
theorem dX0_readPiece_16 : decode cX0_readPiece 16 = .ok (.invokevirtual 98, 3) := by decide +kernel
theorem dX0_readPiece_19 : decode cX0_readPiece 19 = .ok (.goto 39, 3) := by decide +kernel
theorem dX0_readPiece_22 : decode cX0_readPiece 22 = .ok (.aload_n 0, 1) := by decide +kernel
theorem dX0_readPiece_23 : decode cX0_readPiece 23 = .ok (.invokevirtual 87, 3) := by decide +kernel
theorem dX0_readPiece_26 : decode cX0_readPiece 26 = .ok (.bipush 33, 2) := by decide +kernel
theorem dX0_readPiece_28 : decode cX0_readPiece 28 = .ok (.if_icmp .ne 10, 3) := by decide +kernel
theorem dX0_readPiece_31 : decode cX0_readPiece 31 = .ok (.aload_n 0, 1) := by decide +kernel
theorem dX0_readPiece_32 : decode cX0_readPiece 32 = .ok (.invokevirtual 101, 3) := by decide +kernel
theorem dX0_readPiece_35 : decode cX0_readPiece 35 = .ok (.goto 23, 3) := by decide +kernel
theorem dX0_readPiece_38 : decode cX0_readPiece 38 = .ok (.aload_n 0, 1) := by decide +kernel
theorem dX0_readPiece_39 : decode cX0_readPiece 39 = .ok (.invokevirtual 87, 3) := by decide +kernel
theorem dX0_readPiece_42 : decode cX0_readPiece 42 = .ok (.bipush 40, 2) := by decide +kernel
theorem dX0_readPiece_44 : decode cX0_readPiece 44 = .ok (.if_icmp .ne 10, 3) := by decide +kernel
theorem dX0_readPiece_47 : decode cX0_readPiece 47 = .ok (.aload_n 0, 1) := by decide +kernel
theorem dX0_readPiece_48 : decode cX0_readPiece 48 = .ok (.invokevirtual 104, 3) := by decide +kernel
theorem dX0_readPiece_51 : decode cX0_readPiece 51 = .ok (.goto 7, 3) := by decide +kernel
theorem dX0_readPiece_54 : decode cX0_readPiece 54 = .ok (.aload_n 0, 1) := by decide +kernel
theorem dX0_readPiece_55 : decode cX0_readPiece 55 = .ok (.invokevirtual 60, 3) := by decide +kernel
theorem dX0_readPiece_58 : decode cX0_readPiece 58 = .ok (.return_, 1) := by decide +kernel
set_option maxRecDepth 20000 in
theorem ggX0_readLeaf_X0_numberHere : GoodIn wsX0_readLeaf wsX0_numberHere := goodIn_r _ [8, 9, 10, 2, 11, 128, 129, 130, 131, 132, 133, 134, 135, 136, 137, 138, 139] (by decide +kernel) (by decide +kernel)
set_option maxRecDepth 20000 in
theorem gX0_readLeaf_X0_numberHere : GoodIn wsX0_readLeaf (wsV RX0 107 RX0 yX0_numberHere wsX0_numberHere) := goodIn_app (goodIn_of _ (by decide +kernel)) ggX0_readLeaf_X0_numberHere
set_option maxRecDepth 20000 in
theorem ggX0_readLeaf_X0_nameHere : GoodIn wsX0_readLeaf wsX0_nameHere := goodIn_r _ [15, 9, 10, 16, 11, 2, 17, 18, 7, 19, 20, 21, 22, 23, 24, 25, 26, 27, 28, 29, 30, 31, 32, 33, 34, 35, 36, 37, 38, 39, 40, 41, 42, 43, 44, 45, 46, 47, 48, 49, 50, 51, 52, 53, 54, 55, 56, 57, 58, 59, 60, 61, 62, 63, 64, 65, 66, 67, 68, 69, 70, 71, 72, 73, 74, 75, 76, 77, 78, 79, 80, 81, 82, 83, 84, 85, 86, 87, 88, 89, 90, 91, 92, 93, 94, 95, 96, 97, 98, 99, 100, 101, 102, 103, 104, 105, 106, 107, 108, 128, 129, 130, 131, 132, 133, 134, 135, 136, 137, 138, 139] (by decide +kernel) (by decide +kernel)
set_option maxRecDepth 20000 in
theorem gX0_readLeaf_X0_nameHere : GoodIn wsX0_readLeaf (wsV RX0 110 RX0 yX0_nameHere wsX0_nameHere) := goodIn_app (goodIn_of _ (by decide +kernel)) ggX0_readLeaf_X0_nameHere
set_option maxRecDepth 20000 in
theorem ggX0_readLeaf_X0_setFault : GoodIn wsX0_readLeaf wsX0_setFault := goodIn_r _ [112, 113, 2, 10, 128, 129, 130, 131, 132, 133, 134, 135, 136, 137, 138, 139] (by decide +kernel) (by decide +kernel)
set_option maxRecDepth 20000 in
theorem gX0_readLeaf_X0_setFault : GoodIn wsX0_readLeaf (wsV RX0 60 RX0 yX0_setFault wsX0_setFault) := goodIn_app (goodIn_of _ (by decide +kernel)) ggX0_readLeaf_X0_setFault
set_option maxRecDepth 20000 in
theorem ggX0_readLeaf_X0_putCode : GoodIn wsX0_readLeaf wsX0_putCode := goodIn_r _ [117, 118, 119, 128, 129, 130, 131, 132, 133, 134, 135, 136, 137, 138, 139] (by decide +kernel) (by decide +kernel)
set_option maxRecDepth 20000 in
theorem gX0_readLeaf_X0_putCode : GoodIn wsX0_readLeaf (wsV RX0 95 RX0 yX0_putCode wsX0_putCode) := goodIn_app (goodIn_of _ (by decide +kernel)) ggX0_readLeaf_X0_putCode
set_option maxRecDepth 20000 in
theorem ggX0_readLeaf_X0_moveOn : GoodIn wsX0_readLeaf wsX0_moveOn := goodIn_r _ [123, 9, 10, 124, 11, 1, 125, 126, 7, 127, 128, 129, 130, 131, 132, 133, 134, 135, 136, 137, 138, 139] (by decide +kernel) (by decide +kernel)
set_option maxRecDepth 20000 in
theorem gX0_readLeaf_X0_moveOn : GoodIn wsX0_readLeaf (wsV RX0 50 RX0 yX0_moveOn wsX0_moveOn) := goodIn_app (goodIn_of _ (by decide +kernel)) ggX0_readLeaf_X0_moveOn
theorem dX0_readLeaf_0 : decode cX0_readLeaf 0 = .ok (.aload_n 0, 1) := by decide +kernel
theorem dX0_readLeaf_1 : decode cX0_readLeaf 1 = .ok (.getfield 47, 3) := by decide +kernel
theorem dX0_readLeaf_4 : decode cX0_readLeaf 4 = .ok (.iconst 1, 1) := by decide +kernel
theorem dX0_readLeaf_5 : decode cX0_readLeaf 5 = .ok (.if_icmp .ne 10, 3) := by decide +kernel
theorem dX0_readLeaf_8 : decode cX0_readLeaf 8 = .ok (.aload_n 0, 1) := by decide +kernel
theorem dX0_readLeaf_9 : decode cX0_readLeaf 9 = .ok (.invokevirtual 107, 3) := by decide +kernel
theorem dX0_readLeaf_12 : decode cX0_readLeaf 12 = .ok (.goto 7, 3) := by decide +kernel
theorem dX0_readLeaf_15 : decode cX0_readLeaf 15 = .ok (.aload_n 0, 1) := by decide +kernel
theorem dX0_readLeaf_16 : decode cX0_readLeaf 16 = .ok (.invokevirtual 110, 3) := by decide +kernel
theorem dX0_readLeaf_19 : decode cX0_readLeaf 19 = .ok (.istore_n 1, 1) := by decide +kernel
theorem dX0_readLeaf_20 : decode cX0_readLeaf 20 = .ok (.iload_n 1, 1) := by decide +kernel
theorem dX0_readLeaf_21 : decode cX0_readLeaf 21 = .ok (.ldc 19, 2) := by decide +kernel
theorem dX0_readLeaf_23 : decode cX0_readLeaf 23 = .ok (.if_icmp .ne 8, 3) := by decide +kernel
theorem dX0_readLeaf_26 : decode cX0_readLeaf 26 = .ok (.aload_n 0, 1) := by decide +kernel
theorem dX0_readLeaf_27 : decode cX0_readLeaf 27 = .ok (.invokevirtual 60, 3) := by decide +kernel
theorem dX0_readLeaf_30 : decode cX0_readLeaf 30 = .ok (.return_, 1) := by decide +kernel
theorem dX0_readLeaf_31 : decode cX0_readLeaf 31 = .ok (.aload_n 0, 1) := by decide +kernel
theorem dX0_readLeaf_32 : decode cX0_readLeaf 32 = .ok (.dup, 1) := by decide +kernel
theorem dX0_readLeaf_33 : decode cX0_readLeaf 33 = .ok (.getfield 32, 3) := by decide +kernel
theorem dX0_readLeaf_36 : decode cX0_readLeaf 36 = .ok (.iconst 1, 1) := by decide +kernel
theorem dX0_readLeaf_37 : decode cX0_readLeaf 37 = .ok (.iadd, 1) := by decide +kernel
theorem dX0_readLeaf_38 : decode cX0_readLeaf 38 = .ok (.putfield 32, 3) := by decide +kernel
theorem dX0_readLeaf_41 : decode cX0_readLeaf 41 = .ok (.aload_n 0, 1) := by decide +kernel
theorem dX0_readLeaf_42 : decode cX0_readLeaf 42 = .ok (.iload_n 1, 1) := by decide +kernel
theorem dX0_readLeaf_43 : decode cX0_readLeaf 43 = .ok (.invokevirtual 95, 3) := by decide +kernel
theorem dX0_readLeaf_46 : decode cX0_readLeaf 46 = .ok (.aload_n 0, 1) := by decide +kernel
theorem dX0_readLeaf_47 : decode cX0_readLeaf 47 = .ok (.invokevirtual 50, 3) := by decide +kernel
theorem dX0_readLeaf_50 : decode cX0_readLeaf 50 = .ok (.return_, 1) := by decide +kernel
theorem dX0_numberHere_0 : decode cX0_numberHere 0 = .ok (.aload_n 0, 1) := by decide +kernel
theorem dX0_numberHere_1 : decode cX0_numberHere 1 = .ok (.getfield 44, 3) := by decide +kernel
theorem dX0_numberHere_4 : decode cX0_numberHere 4 = .ok (.aload_n 0, 1) := by decide +kernel
theorem dX0_numberHere_5 : decode cX0_numberHere 5 = .ok (.getfield 41, 3) := by decide +kernel
theorem dX0_numberHere_8 : decode cX0_numberHere 8 = .ok (.isub, 1) := by decide +kernel
theorem dX0_numberHere_9 : decode cX0_numberHere 9 = .ok (.iconst 4, 1) := by decide +kernel
theorem dX0_numberHere_10 : decode cX0_numberHere 10 = .ok (.if_icmp .le 6, 3) := by decide +kernel
theorem dX0_numberHere_13 : decode cX0_numberHere 13 = .ok (.ldc 19, 2) := by decide +kernel
theorem dX0_numberHere_15 : decode cX0_numberHere 15 = .ok (.ireturn, 1) := by decide +kernel
theorem dX0_numberHere_16 : decode cX0_numberHere 16 = .ok (.iconst 0, 1) := by decide +kernel
theorem dX0_numberHere_17 : decode cX0_numberHere 17 = .ok (.istore_n 1, 1) := by decide +kernel
theorem dX0_numberHere_18 : decode cX0_numberHere 18 = .ok (.aload_n 0, 1) := by decide +kernel
theorem dX0_numberHere_19 : decode cX0_numberHere 19 = .ok (.getfield 41, 3) := by decide +kernel
theorem dX0_numberHere_22 : decode cX0_numberHere 22 = .ok (.istore_n 2, 1) := by decide +kernel
theorem dX0_numberHere_23 : decode cX0_numberHere 23 = .ok (.iload_n 2, 1) := by decide +kernel
theorem dX0_numberHere_24 : decode cX0_numberHere 24 = .ok (.aload_n 0, 1) := by decide +kernel
theorem dX0_numberHere_25 : decode cX0_numberHere 25 = .ok (.getfield 44, 3) := by decide +kernel
theorem dX0_numberHere_28 : decode cX0_numberHere 28 = .ok (.if_icmp .ge 24, 3) := by decide +kernel
theorem dX0_numberHere_31 : decode cX0_numberHere 31 = .ok (.iload_n 1, 1) := by decide +kernel
theorem dX0_numberHere_32 : decode cX0_numberHere 32 = .ok (.bipush 10, 2) := by decide +kernel
theorem dX0_numberHere_34 : decode cX0_numberHere 34 = .ok (.imul, 1) := by decide +kernel
theorem dX0_numberHere_35 : decode cX0_numberHere 35 = .ok (.aload_n 0, 1) := by decide +kernel
theorem dX0_numberHere_36 : decode cX0_numberHere 36 = .ok (.getfield 9, 3) := by decide +kernel
theorem dX0_numberHere_39 : decode cX0_numberHere 39 = .ok (.iload_n 2, 1) := by decide +kernel
theorem dX0_numberHere_40 : decode cX0_numberHere 40 = .ok (.iaload, 1) := by decide +kernel
theorem dX0_numberHere_41 : decode cX0_numberHere 41 = .ok (.iadd, 1) := by decide +kernel
theorem dX0_numberHere_42 : decode cX0_numberHere 42 = .ok (.bipush 48, 2) := by decide +kernel
theorem dX0_numberHere_44 : decode cX0_numberHere 44 = .ok (.isub, 1) := by decide +kernel
theorem dX0_numberHere_45 : decode cX0_numberHere 45 = .ok (.istore_n 1, 1) := by decide +kernel
theorem dX0_numberHere_46 : decode cX0_numberHere 46 = .ok (.iinc 2 1, 3) := by decide +kernel
theorem dX0_numberHere_49 : decode cX0_numberHere 49 = .ok (.goto (-26), 3) := by decide +kernel
theorem dX0_numberHere_52 : decode cX0_numberHere 52 = .ok (.iload_n 1, 1) := by decide +kernel
theorem dX0_numberHere_53 : decode cX0_numberHere 53 = .ok (.ireturn, 1) := by decide +kernel
set_option maxRecDepth 20000 in
theorem ggX0_nameHere_X0_namesOf : GoodIn wsX0_nameHere wsX0_namesOf := goodIn_r _ [9] (by decide +kernel) (by decide +kernel)
set_option maxRecDepth 20000 in
theorem gX0_nameHere_X0_namesOf : GoodIn wsX0_nameHere (va_wsS RX0 113 yX0_namesOf wsX0_namesOf) := goodIn_app (goodIn_of _ (by decide +kernel)) ggX0_nameHere_X0_namesOf
set_option maxRecDepth 20000 in
theorem ggX0_nameHere_J0_indexOf_0f7a4 : GoodIn wsX0_nameHere wsJ0_indexOf_0f7a4 := goodIn_r _ [14, 15, 16, 17, 13, 18, 19, 20, 21, 22, 23, 24, 25, 26, 27, 28, 29, 30, 31, 32, 33, 34, 35, 36, 37, 38, 39, 40, 41, 42, 43, 44, 45, 46, 47, 48, 49, 50, 51, 52, 53, 54, 55, 56, 57, 58, 59, 60, 61, 62, 63, 64, 65, 66, 67, 68, 69, 70, 71, 72, 73, 74, 75, 76, 77, 78, 79, 80, 81, 82, 83, 84, 85, 86, 87, 88, 89, 90, 91, 92, 93, 94, 95, 96, 97, 98] (by decide +kernel) (by decide +kernel)
set_option maxRecDepth 20000 in
theorem gX0_nameHere_J0_indexOf_0f7a4 : GoodIn wsX0_nameHere (wsV RX0 117 RJ0 yJ0_indexOf_0f7a4 wsJ0_indexOf_0f7a4) := goodIn_app (goodIn_of _ (by decide +kernel)) ggX0_nameHere_J0_indexOf_0f7a4
theorem dX0_nameHere_0 : decode cX0_nameHere 0 = .ok (.aload_n 0, 1) := by decide +kernel
theorem dX0_nameHere_1 : decode cX0_nameHere 1 = .ok (.getfield 44, 3) := by decide +kernel
theorem dX0_nameHere_4 : decode cX0_nameHere 4 = .ok (.aload_n 0, 1) := by decide +kernel
theorem dX0_nameHere_5 : decode cX0_nameHere 5 = .ok (.getfield 41, 3) := by decide +kernel
theorem dX0_nameHere_8 : decode cX0_nameHere 8 = .ok (.isub, 1) := by decide +kernel
theorem dX0_nameHere_9 : decode cX0_nameHere 9 = .ok (.iconst 1, 1) := by decide +kernel
theorem dX0_nameHere_10 : decode cX0_nameHere 10 = .ok (.if_icmp .ne 26, 3) := by decide +kernel
theorem dX0_nameHere_13 : decode cX0_nameHere 13 = .ok (.aload_n 0, 1) := by decide +kernel
theorem dX0_nameHere_14 : decode cX0_nameHere 14 = .ok (.getfield 29, 3) := by decide +kernel
theorem dX0_nameHere_17 : decode cX0_nameHere 17 = .ok (.invokestatic 113, 3) := by decide +kernel
theorem dX0_nameHere_20 : decode cX0_nameHere 20 = .ok (.aload_n 0, 1) := by decide +kernel
theorem dX0_nameHere_21 : decode cX0_nameHere 21 = .ok (.getfield 9, 3) := by decide +kernel
theorem dX0_nameHere_24 : decode cX0_nameHere 24 = .ok (.aload_n 0, 1) := by decide +kernel
theorem dX0_nameHere_25 : decode cX0_nameHere 25 = .ok (.getfield 41, 3) := by decide +kernel
theorem dX0_nameHere_28 : decode cX0_nameHere 28 = .ok (.iaload, 1) := by decide +kernel
theorem dX0_nameHere_29 : decode cX0_nameHere 29 = .ok (.i2c, 1) := by decide +kernel
theorem dX0_nameHere_30 : decode cX0_nameHere 30 = .ok (.invokevirtual 117, 3) := by decide +kernel
theorem dX0_nameHere_33 : decode cX0_nameHere 33 = .ok (.goto 4, 3) := by decide +kernel
theorem dX0_nameHere_36 : decode cX0_nameHere 36 = .ok (.iconst (-1), 1) := by decide +kernel
theorem dX0_nameHere_37 : decode cX0_nameHere 37 = .ok (.istore_n 1, 1) := by decide +kernel
theorem dX0_nameHere_38 : decode cX0_nameHere 38 = .ok (.iload_n 1, 1) := by decide +kernel
theorem dX0_nameHere_39 : decode cX0_nameHere 39 = .ok (.ifCond .ge 8, 3) := by decide +kernel
theorem dX0_nameHere_42 : decode cX0_nameHere 42 = .ok (.ldc 19, 2) := by decide +kernel
theorem dX0_nameHere_44 : decode cX0_nameHere 44 = .ok (.goto 6, 3) := by decide +kernel
theorem dX0_nameHere_47 : decode cX0_nameHere 47 = .ok (.iconst (-1), 1) := by decide +kernel
theorem dX0_nameHere_48 : decode cX0_nameHere 48 = .ok (.iload_n 1, 1) := by decide +kernel
theorem dX0_nameHere_49 : decode cX0_nameHere 49 = .ok (.isub, 1) := by decide +kernel
theorem dX0_nameHere_50 : decode cX0_nameHere 50 = .ok (.ireturn, 1) := by decide +kernel
set_option maxRecDepth 20000 in
theorem ggX0_readNot_X0_setFault : GoodIn wsX0_readNot wsX0_setFault := goodIn_r _ [6, 7, 8, 9, 156, 157, 158, 159, 160, 161, 162, 163, 164, 165, 166, 167] (by decide +kernel) (by decide +kernel)
set_option maxRecDepth 20000 in
theorem gX0_readNot_X0_setFault : GoodIn wsX0_readNot (wsV RX0 60 RX0 yX0_setFault wsX0_setFault) := goodIn_app (goodIn_of _ (by decide +kernel)) ggX0_readNot_X0_setFault
set_option maxRecDepth 20000 in
theorem ggX0_readNot_X0_moveOn : GoodIn wsX0_readNot wsX0_moveOn := goodIn_r _ [13, 14, 9, 15, 16, 17, 18, 19, 5, 20, 156, 157, 158, 159, 160, 161, 162, 163, 164, 165, 166, 167] (by decide +kernel) (by decide +kernel)
set_option maxRecDepth 20000 in
theorem gX0_readNot_X0_moveOn : GoodIn wsX0_readNot (wsV RX0 50 RX0 yX0_moveOn wsX0_moveOn) := goodIn_app (goodIn_of _ (by decide +kernel)) ggX0_readNot_X0_moveOn
set_option maxRecDepth 20000 in
theorem ggX0_readNot_X0_readPiece : GoodIn wsX0_readNot wsX0_readPiece := goodIn_r _ [43, 17, 44, 45, 46, 5, 47, 8, 48, 49, 50, 51, 52, 14, 9, 16, 53, 54, 55, 56, 57, 58, 59, 60, 61, 62, 63, 64, 65, 66, 67, 68, 69, 70, 71, 72, 73, 74, 75, 76, 77, 78, 79, 80, 81, 82, 83, 84, 85, 86, 87, 88, 89, 90, 91, 92, 93, 94, 95, 96, 97, 98, 99, 100, 101, 102, 103, 104, 105, 106, 107, 108, 109, 110, 111, 112, 113, 114, 115, 116, 117, 118, 119, 120, 121, 122, 123, 124, 125, 126, 127, 128, 129, 130, 131, 132, 133, 134, 135, 136, 137, 138, 139, 140, 141, 142, 143, 144, 145, 146, 147, 148, 149, 2, 3, 4, 6, 7, 24, 25, 26, 27, 28, 29, 10, 11, 12, 13, 15, 18, 19, 20, 35, 36, 37, 38, 150, 151, 152, 153, 154, 155, 30, 31, 32, 33, 34, 39, 21, 22, 23, 40, 41, 42, 0, 1, 156, 157, 158, 159, 160, 161, 162, 163, 164, 165, 166, 167] (by decide +kernel) (by decide +kernel)
set_option maxRecDepth 20000 in
theorem gX0_readNot_X0_readPiece : GoodIn wsX0_readNot (wsV RX0 84 RX0 yX0_readPiece wsX0_readPiece) := goodIn_app (goodIn_of _ (by decide +kernel)) ggX0_readNot_X0_readPiece
set_option maxRecDepth 20000 in
theorem ggX0_readNot_X0_putCode : GoodIn wsX0_readNot wsX0_putCode := goodIn_r _ [27, 28, 29, 156, 157, 158, 159, 160, 161, 162, 163, 164, 165, 166, 167] (by decide +kernel) (by decide +kernel)
set_option maxRecDepth 20000 in
theorem gX0_readNot_X0_putCode : GoodIn wsX0_readNot (wsV RX0 95 RX0 yX0_putCode wsX0_putCode) := goodIn_app (goodIn_of _ (by decide +kernel)) ggX0_readNot_X0_putCode
theorem dX0_readNot_0 : decode cX0_readNot 0 = .ok (.aload_n 0, 1) := by decide +kernel
theorem dX0_readNot_1 : decode cX0_readNot 1 = .ok (.getfield 38, 3) := by decide +kernel
theorem dX0_readNot_4 : decode cX0_readNot 4 = .ok (.bipush 8, 2) := by decide +kernel
theorem dX0_readNot_6 : decode cX0_readNot 6 = .ok (.if_icmp .lt 8, 3) := by decide +kernel
theorem dX0_readNot_9 : decode cX0_readNot 9 = .ok (.aload_n 0, 1) := by decide +kernel
theorem dX0_readNot_10 : decode cX0_readNot 10 = .ok (.invokevirtual 60, 3) := by decide +kernel
theorem dX0_readNot_13 : decode cX0_readNot 13 = .ok (.return_, 1) := by decide +kernel
theorem dX0_readNot_14 : decode cX0_readNot 14 = .ok (.aload_n 0, 1) := by decide +kernel
theorem dX0_readNot_15 : decode cX0_readNot 15 = .ok (.dup, 1) := by decide +kernel
theorem dX0_readNot_16 : decode cX0_readNot 16 = .ok (.getfield 38, 3) := by decide +kernel
theorem dX0_readNot_19 : decode cX0_readNot 19 = .ok (.iconst 1, 1) := by decide +kernel
theorem dX0_readNot_20 : decode cX0_readNot 20 = .ok (.iadd, 1) := by decide +kernel
theorem dX0_readNot_21 : decode cX0_readNot 21 = .ok (.putfield 38, 3) := by decide +kernel
theorem dX0_readNot_24 : decode cX0_readNot 24 = .ok (.aload_n 0, 1) := by decide +kernel
theorem dX0_readNot_25 : decode cX0_readNot 25 = .ok (.invokevirtual 50, 3) := by decide +kernel
theorem dX0_readNot_28 : decode cX0_readNot 28 = .ok (.aload_n 0, 1) := by decide +kernel
theorem dX0_readNot_29 : decode cX0_readNot 29 = .ok (.invokevirtual 84, 3) := by decide +kernel
theorem dX0_readNot_32 : decode cX0_readNot 32 = .ok (.aload_n 0, 1) := by decide +kernel
theorem dX0_readNot_33 : decode cX0_readNot 33 = .ok (.bipush (-33), 2) := by decide +kernel
theorem dX0_readNot_35 : decode cX0_readNot 35 = .ok (.invokevirtual 95, 3) := by decide +kernel
theorem dX0_readNot_38 : decode cX0_readNot 38 = .ok (.aload_n 0, 1) := by decide +kernel
theorem dX0_readNot_39 : decode cX0_readNot 39 = .ok (.dup, 1) := by decide +kernel
theorem dX0_readNot_40 : decode cX0_readNot 40 = .ok (.getfield 38, 3) := by decide +kernel
theorem dX0_readNot_43 : decode cX0_readNot 43 = .ok (.iconst 1, 1) := by decide +kernel
theorem dX0_readNot_44 : decode cX0_readNot 44 = .ok (.isub, 1) := by decide +kernel
theorem dX0_readNot_45 : decode cX0_readNot 45 = .ok (.putfield 38, 3) := by decide +kernel
theorem dX0_readNot_48 : decode cX0_readNot 48 = .ok (.return_, 1) := by decide +kernel
set_option maxRecDepth 20000 in
theorem ggX0_readBracket_X0_setFault : GoodIn wsX0_readBracket wsX0_setFault := goodIn_r _ [8, 2, 3, 9, 156, 157, 158, 159, 160, 161, 162, 163, 164, 165, 166, 167] (by decide +kernel) (by decide +kernel)
set_option maxRecDepth 20000 in
theorem gX0_readBracket_X0_setFault : GoodIn wsX0_readBracket (wsV RX0 60 RX0 yX0_setFault wsX0_setFault) := goodIn_app (goodIn_of _ (by decide +kernel)) ggX0_readBracket_X0_setFault
set_option maxRecDepth 20000 in
theorem ggX0_readBracket_X0_moveOn : GoodIn wsX0_readBracket wsX0_moveOn := goodIn_r _ [13, 14, 9, 15, 16, 17, 18, 19, 7, 20, 156, 157, 158, 159, 160, 161, 162, 163, 164, 165, 166, 167] (by decide +kernel) (by decide +kernel)
set_option maxRecDepth 20000 in
theorem gX0_readBracket_X0_moveOn : GoodIn wsX0_readBracket (wsV RX0 50 RX0 yX0_moveOn wsX0_moveOn) := goodIn_app (goodIn_of _ (by decide +kernel)) ggX0_readBracket_X0_moveOn
set_option maxRecDepth 20000 in
theorem ggX0_readBracket_X0_readLevel : GoodIn wsX0_readBracket wsX0_readLevel := goodIn_r _ [28, 2, 3, 29, 30, 31, 7, 21, 22, 23, 24, 25, 26, 27, 17, 16, 9, 32, 33, 34, 10, 11, 12, 13, 14, 15, 18, 19, 20, 35, 36, 37, 38, 39, 40, 0, 1, 4, 5, 6, 8, 41, 42, 43, 44, 45, 46, 47, 48, 49, 50, 51, 52, 53, 54, 55, 56, 57, 58, 59, 60, 61, 62, 63, 64, 65, 66, 67, 68, 69, 70, 71, 72, 73, 74, 75, 76, 77, 78, 79, 80, 81, 82, 83, 84, 85, 86, 87, 88, 89, 90, 91, 92, 93, 94, 95, 96, 97, 98, 99, 100, 101, 102, 103, 104, 105, 106, 107, 108, 109, 110, 111, 112, 113, 114, 115, 116, 117, 118, 119, 120, 121, 122, 123, 124, 125, 126, 127, 128, 129, 130, 131, 132, 133, 134, 135, 136, 137, 138, 139, 140, 141, 142, 143, 144, 145, 146, 147, 148, 149, 150, 151, 152, 153, 154, 155, 156, 157, 158, 159, 160, 161, 162, 163, 164, 165, 166, 167] (by decide +kernel) (by decide +kernel)
set_option maxRecDepth 20000 in
theorem gX0_readBracket_X0_readLevel : GoodIn wsX0_readBracket (wsV RX0 56 RX0 yX0_readLevel wsX0_readLevel) := goodIn_app (goodIn_of _ (by decide +kernel)) ggX0_readBracket_X0_readLevel
set_option maxRecDepth 20000 in
theorem ggX0_readBracket_X0_signHere : GoodIn wsX0_readBracket wsX0_signHere := goodIn_r _ [27, 17, 16, 9, 3, 156, 157, 158, 159, 160, 161, 162, 163, 164, 165, 166, 167] (by decide +kernel) (by decide +kernel)
set_option maxRecDepth 20000 in
theorem gX0_readBracket_X0_signHere : GoodIn wsX0_readBracket (wsV RX0 87 RX0 yX0_signHere wsX0_signHere) := goodIn_app (goodIn_of _ (by decide +kernel)) ggX0_readBracket_X0_signHere
theorem dX0_readBracket_0 : decode cX0_readBracket 0 = .ok (.aload_n 0, 1) := by decide +kernel
theorem dX0_readBracket_1 : decode cX0_readBracket 1 = .ok (.getfield 35, 3) := by decide +kernel
theorem dX0_readBracket_4 : decode cX0_readBracket 4 = .ok (.bipush 8, 2) := by decide +kernel
theorem dX0_readBracket_6 : decode cX0_readBracket 6 = .ok (.if_icmp .lt 8, 3) := by decide +kernel
theorem dX0_readBracket_9 : decode cX0_readBracket 9 = .ok (.aload_n 0, 1) := by decide +kernel
theorem dX0_readBracket_10 : decode cX0_readBracket 10 = .ok (.invokevirtual 60, 3) := by decide +kernel
theorem dX0_readBracket_13 : decode cX0_readBracket 13 = .ok (.return_, 1) := by decide +kernel
theorem dX0_readBracket_14 : decode cX0_readBracket 14 = .ok (.aload_n 0, 1) := by decide +kernel
theorem dX0_readBracket_15 : decode cX0_readBracket 15 = .ok (.dup, 1) := by decide +kernel
theorem dX0_readBracket_16 : decode cX0_readBracket 16 = .ok (.getfield 35, 3) := by decide +kernel
theorem dX0_readBracket_19 : decode cX0_readBracket 19 = .ok (.iconst 1, 1) := by decide +kernel
theorem dX0_readBracket_20 : decode cX0_readBracket 20 = .ok (.iadd, 1) := by decide +kernel
theorem dX0_readBracket_21 : decode cX0_readBracket 21 = .ok (.putfield 35, 3) := by decide +kernel
theorem dX0_readBracket_24 : decode cX0_readBracket 24 = .ok (.aload_n 0, 1) := by decide +kernel
theorem dX0_readBracket_25 : decode cX0_readBracket 25 = .ok (.invokevirtual 50, 3) := by decide +kernel
theorem dX0_readBracket_28 : decode cX0_readBracket 28 = .ok (.aload_n 0, 1) := by decide +kernel
theorem dX0_readBracket_29 : decode cX0_readBracket 29 = .ok (.iconst 0, 1) := by decide +kernel
theorem dX0_readBracket_30 : decode cX0_readBracket 30 = .ok (.invokevirtual 56, 3) := by decide +kernel
theorem dX0_readBracket_33 : decode cX0_readBracket 33 = .ok (.aload_n 0, 1) := by decide +kernel
theorem dX0_readBracket_34 : decode cX0_readBracket 34 = .ok (.getfield 20, 3) := by decide +kernel
theorem dX0_readBracket_37 : decode cX0_readBracket 37 = .ok (.ldc 19, 2) := by decide +kernel
theorem dX0_readBracket_39 : decode cX0_readBracket 39 = .ok (.if_icmp .eq 4, 3) := by decide +kernel
theorem dX0_readBracket_42 : decode cX0_readBracket 42 = .ok (.return_, 1) := by decide +kernel
theorem dX0_readBracket_43 : decode cX0_readBracket 43 = .ok (.aload_n 0, 1) := by decide +kernel
theorem dX0_readBracket_44 : decode cX0_readBracket 44 = .ok (.invokevirtual 87, 3) := by decide +kernel
theorem dX0_readBracket_47 : decode cX0_readBracket 47 = .ok (.bipush 41, 2) := by decide +kernel
theorem dX0_readBracket_49 : decode cX0_readBracket 49 = .ok (.if_icmp .eq 8, 3) := by decide +kernel
theorem dX0_readBracket_52 : decode cX0_readBracket 52 = .ok (.aload_n 0, 1) := by decide +kernel
theorem dX0_readBracket_53 : decode cX0_readBracket 53 = .ok (.invokevirtual 60, 3) := by decide +kernel
theorem dX0_readBracket_56 : decode cX0_readBracket 56 = .ok (.return_, 1) := by decide +kernel
theorem dX0_readBracket_57 : decode cX0_readBracket 57 = .ok (.aload_n 0, 1) := by decide +kernel
theorem dX0_readBracket_58 : decode cX0_readBracket 58 = .ok (.dup, 1) := by decide +kernel
theorem dX0_readBracket_59 : decode cX0_readBracket 59 = .ok (.getfield 35, 3) := by decide +kernel
theorem dX0_readBracket_62 : decode cX0_readBracket 62 = .ok (.iconst 1, 1) := by decide +kernel
theorem dX0_readBracket_63 : decode cX0_readBracket 63 = .ok (.isub, 1) := by decide +kernel
theorem dX0_readBracket_64 : decode cX0_readBracket 64 = .ok (.putfield 35, 3) := by decide +kernel
theorem dX0_readBracket_67 : decode cX0_readBracket 67 = .ok (.aload_n 0, 1) := by decide +kernel
theorem dX0_readBracket_68 : decode cX0_readBracket 68 = .ok (.invokevirtual 50, 3) := by decide +kernel
theorem dX0_readBracket_71 : decode cX0_readBracket 71 = .ok (.return_, 1) := by decide +kernel
theorem dX0_putCode_0 : decode cX0_putCode 0 = .ok (.aload_n 0, 1) := by decide +kernel
theorem dX0_putCode_1 : decode cX0_putCode 1 = .ok (.getfield 26, 3) := by decide +kernel
theorem dX0_putCode_4 : decode cX0_putCode 4 = .ok (.bipush 96, 2) := by decide +kernel
theorem dX0_putCode_6 : decode cX0_putCode 6 = .ok (.if_icmp .ge 23, 3) := by decide +kernel
theorem dX0_putCode_9 : decode cX0_putCode 9 = .ok (.aload_n 0, 1) := by decide +kernel
theorem dX0_putCode_10 : decode cX0_putCode 10 = .ok (.getfield 23, 3) := by decide +kernel
theorem dX0_putCode_13 : decode cX0_putCode 13 = .ok (.aload_n 0, 1) := by decide +kernel
theorem dX0_putCode_14 : decode cX0_putCode 14 = .ok (.getfield 26, 3) := by decide +kernel
theorem dX0_putCode_17 : decode cX0_putCode 17 = .ok (.iload_n 1, 1) := by decide +kernel
theorem dX0_putCode_18 : decode cX0_putCode 18 = .ok (.iastore, 1) := by decide +kernel
theorem dX0_putCode_19 : decode cX0_putCode 19 = .ok (.aload_n 0, 1) := by decide +kernel
theorem dX0_putCode_20 : decode cX0_putCode 20 = .ok (.dup, 1) := by decide +kernel
theorem dX0_putCode_21 : decode cX0_putCode 21 = .ok (.getfield 26, 3) := by decide +kernel
theorem dX0_putCode_24 : decode cX0_putCode 24 = .ok (.iconst 1, 1) := by decide +kernel
theorem dX0_putCode_25 : decode cX0_putCode 25 = .ok (.iadd, 1) := by decide +kernel
theorem dX0_putCode_26 : decode cX0_putCode 26 = .ok (.putfield 26, 3) := by decide +kernel
theorem dX0_putCode_29 : decode cX0_putCode 29 = .ok (.return_, 1) := by decide +kernel
theorem dX0_setFault_0 : decode cX0_setFault 0 = .ok (.aload_n 0, 1) := by decide +kernel
theorem dX0_setFault_1 : decode cX0_setFault 1 = .ok (.getfield 20, 3) := by decide +kernel
theorem dX0_setFault_4 : decode cX0_setFault 4 = .ok (.ldc 19, 2) := by decide +kernel
theorem dX0_setFault_6 : decode cX0_setFault 6 = .ok (.if_icmp .ne 11, 3) := by decide +kernel
theorem dX0_setFault_9 : decode cX0_setFault 9 = .ok (.aload_n 0, 1) := by decide +kernel
theorem dX0_setFault_10 : decode cX0_setFault 10 = .ok (.aload_n 0, 1) := by decide +kernel
theorem dX0_setFault_11 : decode cX0_setFault 11 = .ok (.getfield 41, 3) := by decide +kernel
theorem dX0_setFault_14 : decode cX0_setFault 14 = .ok (.putfield 20, 3) := by decide +kernel
theorem dX0_setFault_17 : decode cX0_setFault 17 = .ok (.return_, 1) := by decide +kernel
set_option maxRecDepth 20000 in
theorem ggX0_moveOn_X0_sortOf : GoodIn wsX0_moveOn wsX0_sortOf := goodIn_r _ [9] (by decide +kernel) (by decide +kernel)
set_option maxRecDepth 20000 in
theorem gX0_moveOn_X0_sortOf : GoodIn wsX0_moveOn (va_wsS RX0 122 yX0_sortOf wsX0_sortOf) := goodIn_app (goodIn_of _ (by decide +kernel)) ggX0_moveOn_X0_sortOf
theorem dX0_moveOn_0 : decode cX0_moveOn 0 = .ok (.aload_n 0, 1) := by decide +kernel
theorem dX0_moveOn_1 : decode cX0_moveOn 1 = .ok (.aload_n 0, 1) := by decide +kernel
theorem dX0_moveOn_2 : decode cX0_moveOn 2 = .ok (.getfield 44, 3) := by decide +kernel
theorem dX0_moveOn_5 : decode cX0_moveOn 5 = .ok (.putfield 41, 3) := by decide +kernel
theorem dX0_moveOn_8 : decode cX0_moveOn 8 = .ok (.aload_n 0, 1) := by decide +kernel
theorem dX0_moveOn_9 : decode cX0_moveOn 9 = .ok (.getfield 41, 3) := by decide +kernel
theorem dX0_moveOn_12 : decode cX0_moveOn 12 = .ok (.aload_n 0, 1) := by decide +kernel
theorem dX0_moveOn_13 : decode cX0_moveOn 13 = .ok (.getfield 15, 3) := by decide +kernel
theorem dX0_moveOn_16 : decode cX0_moveOn 16 = .ok (.if_icmp .ge 30, 3) := by decide +kernel
theorem dX0_moveOn_19 : decode cX0_moveOn 19 = .ok (.aload_n 0, 1) := by decide +kernel
theorem dX0_moveOn_20 : decode cX0_moveOn 20 = .ok (.getfield 9, 3) := by decide +kernel
theorem dX0_moveOn_23 : decode cX0_moveOn 23 = .ok (.aload_n 0, 1) := by decide +kernel
theorem dX0_moveOn_24 : decode cX0_moveOn 24 = .ok (.getfield 41, 3) := by decide +kernel
theorem dX0_moveOn_27 : decode cX0_moveOn 27 = .ok (.iaload, 1) := by decide +kernel
theorem dX0_moveOn_28 : decode cX0_moveOn 28 = .ok (.bipush 32, 2) := by decide +kernel
theorem dX0_moveOn_30 : decode cX0_moveOn 30 = .ok (.if_icmp .ne 16, 3) := by decide +kernel
theorem dX0_moveOn_33 : decode cX0_moveOn 33 = .ok (.aload_n 0, 1) := by decide +kernel
theorem dX0_moveOn_34 : decode cX0_moveOn 34 = .ok (.dup, 1) := by decide +kernel
theorem dX0_moveOn_35 : decode cX0_moveOn 35 = .ok (.getfield 41, 3) := by decide +kernel
theorem dX0_moveOn_38 : decode cX0_moveOn 38 = .ok (.iconst 1, 1) := by decide +kernel
theorem dX0_moveOn_39 : decode cX0_moveOn 39 = .ok (.iadd, 1) := by decide +kernel
theorem dX0_moveOn_40 : decode cX0_moveOn 40 = .ok (.putfield 41, 3) := by decide +kernel
theorem dX0_moveOn_43 : decode cX0_moveOn 43 = .ok (.goto (-35), 3) := by decide +kernel
theorem dX0_moveOn_46 : decode cX0_moveOn 46 = .ok (.aload_n 0, 1) := by decide +kernel
theorem dX0_moveOn_47 : decode cX0_moveOn 47 = .ok (.aload_n 0, 1) := by decide +kernel
theorem dX0_moveOn_48 : decode cX0_moveOn 48 = .ok (.getfield 41, 3) := by decide +kernel
theorem dX0_moveOn_51 : decode cX0_moveOn 51 = .ok (.putfield 44, 3) := by decide +kernel
theorem dX0_moveOn_54 : decode cX0_moveOn 54 = .ok (.aload_n 0, 1) := by decide +kernel
theorem dX0_moveOn_55 : decode cX0_moveOn 55 = .ok (.getfield 41, 3) := by decide +kernel
theorem dX0_moveOn_58 : decode cX0_moveOn 58 = .ok (.aload_n 0, 1) := by decide +kernel
theorem dX0_moveOn_59 : decode cX0_moveOn 59 = .ok (.getfield 15, 3) := by decide +kernel
theorem dX0_moveOn_62 : decode cX0_moveOn 62 = .ok (.if_icmp .lt 9, 3) := by decide +kernel
theorem dX0_moveOn_65 : decode cX0_moveOn 65 = .ok (.aload_n 0, 1) := by decide +kernel
theorem dX0_moveOn_66 : decode cX0_moveOn 66 = .ok (.iconst 3, 1) := by decide +kernel
theorem dX0_moveOn_67 : decode cX0_moveOn 67 = .ok (.putfield 47, 3) := by decide +kernel
theorem dX0_moveOn_70 : decode cX0_moveOn 70 = .ok (.return_, 1) := by decide +kernel
theorem dX0_moveOn_71 : decode cX0_moveOn 71 = .ok (.aload_n 0, 1) := by decide +kernel
theorem dX0_moveOn_72 : decode cX0_moveOn 72 = .ok (.dup, 1) := by decide +kernel
theorem dX0_moveOn_73 : decode cX0_moveOn 73 = .ok (.getfield 44, 3) := by decide +kernel
theorem dX0_moveOn_76 : decode cX0_moveOn 76 = .ok (.iconst 1, 1) := by decide +kernel
theorem dX0_moveOn_77 : decode cX0_moveOn 77 = .ok (.iadd, 1) := by decide +kernel
theorem dX0_moveOn_78 : decode cX0_moveOn 78 = .ok (.putfield 44, 3) := by decide +kernel
theorem dX0_moveOn_81 : decode cX0_moveOn 81 = .ok (.aload_n 0, 1) := by decide +kernel
theorem dX0_moveOn_82 : decode cX0_moveOn 82 = .ok (.aload_n 0, 1) := by decide +kernel
theorem dX0_moveOn_83 : decode cX0_moveOn 83 = .ok (.getfield 9, 3) := by decide +kernel
theorem dX0_moveOn_86 : decode cX0_moveOn 86 = .ok (.aload_n 0, 1) := by decide +kernel
theorem dX0_moveOn_87 : decode cX0_moveOn 87 = .ok (.getfield 41, 3) := by decide +kernel
theorem dX0_moveOn_90 : decode cX0_moveOn 90 = .ok (.iaload, 1) := by decide +kernel
theorem dX0_moveOn_91 : decode cX0_moveOn 91 = .ok (.invokestatic 122, 3) := by decide +kernel
theorem dX0_moveOn_94 : decode cX0_moveOn 94 = .ok (.putfield 47, 3) := by decide +kernel
theorem dX0_moveOn_97 : decode cX0_moveOn 97 = .ok (.aload_n 0, 1) := by decide +kernel
theorem dX0_moveOn_98 : decode cX0_moveOn 98 = .ok (.getfield 47, 3) := by decide +kernel
theorem dX0_moveOn_101 : decode cX0_moveOn 101 = .ok (.iconst 2, 1) := by decide +kernel
theorem dX0_moveOn_102 : decode cX0_moveOn 102 = .ok (.if_icmp .ne 4, 3) := by decide +kernel
theorem dX0_moveOn_105 : decode cX0_moveOn 105 = .ok (.return_, 1) := by decide +kernel
theorem dX0_moveOn_106 : decode cX0_moveOn 106 = .ok (.aload_n 0, 1) := by decide +kernel
theorem dX0_moveOn_107 : decode cX0_moveOn 107 = .ok (.getfield 44, 3) := by decide +kernel
theorem dX0_moveOn_110 : decode cX0_moveOn 110 = .ok (.aload_n 0, 1) := by decide +kernel
theorem dX0_moveOn_111 : decode cX0_moveOn 111 = .ok (.getfield 15, 3) := by decide +kernel
theorem dX0_moveOn_114 : decode cX0_moveOn 114 = .ok (.if_icmp .ge 35, 3) := by decide +kernel
theorem dX0_moveOn_117 : decode cX0_moveOn 117 = .ok (.aload_n 0, 1) := by decide +kernel
theorem dX0_moveOn_118 : decode cX0_moveOn 118 = .ok (.getfield 9, 3) := by decide +kernel
theorem dX0_moveOn_121 : decode cX0_moveOn 121 = .ok (.aload_n 0, 1) := by decide +kernel
theorem dX0_moveOn_122 : decode cX0_moveOn 122 = .ok (.getfield 44, 3) := by decide +kernel
theorem dX0_moveOn_125 : decode cX0_moveOn 125 = .ok (.iaload, 1) := by decide +kernel
theorem dX0_moveOn_126 : decode cX0_moveOn 126 = .ok (.invokestatic 122, 3) := by decide +kernel
theorem dX0_moveOn_129 : decode cX0_moveOn 129 = .ok (.aload_n 0, 1) := by decide +kernel
theorem dX0_moveOn_130 : decode cX0_moveOn 130 = .ok (.getfield 47, 3) := by decide +kernel
theorem dX0_moveOn_133 : decode cX0_moveOn 133 = .ok (.if_icmp .ne 16, 3) := by decide +kernel
theorem dX0_moveOn_136 : decode cX0_moveOn 136 = .ok (.aload_n 0, 1) := by decide +kernel
theorem dX0_moveOn_137 : decode cX0_moveOn 137 = .ok (.dup, 1) := by decide +kernel
theorem dX0_moveOn_138 : decode cX0_moveOn 138 = .ok (.getfield 44, 3) := by decide +kernel
theorem dX0_moveOn_141 : decode cX0_moveOn 141 = .ok (.iconst 1, 1) := by decide +kernel
theorem dX0_moveOn_142 : decode cX0_moveOn 142 = .ok (.iadd, 1) := by decide +kernel
theorem dX0_moveOn_143 : decode cX0_moveOn 143 = .ok (.putfield 44, 3) := by decide +kernel
theorem dX0_moveOn_146 : decode cX0_moveOn 146 = .ok (.goto (-40), 3) := by decide +kernel
theorem dX0_moveOn_149 : decode cX0_moveOn 149 = .ok (.aload_n 0, 1) := by decide +kernel
theorem dX0_moveOn_150 : decode cX0_moveOn 150 = .ok (.getfield 41, 3) := by decide +kernel
theorem dX0_moveOn_153 : decode cX0_moveOn 153 = .ok (.ifCond .le 26, 3) := by decide +kernel
theorem dX0_moveOn_156 : decode cX0_moveOn 156 = .ok (.aload_n 0, 1) := by decide +kernel
theorem dX0_moveOn_157 : decode cX0_moveOn 157 = .ok (.getfield 9, 3) := by decide +kernel
theorem dX0_moveOn_160 : decode cX0_moveOn 160 = .ok (.aload_n 0, 1) := by decide +kernel
theorem dX0_moveOn_161 : decode cX0_moveOn 161 = .ok (.getfield 41, 3) := by decide +kernel
theorem dX0_moveOn_164 : decode cX0_moveOn 164 = .ok (.iconst 1, 1) := by decide +kernel
theorem dX0_moveOn_165 : decode cX0_moveOn 165 = .ok (.isub, 1) := by decide +kernel
theorem dX0_moveOn_166 : decode cX0_moveOn 166 = .ok (.iaload, 1) := by decide +kernel
theorem dX0_moveOn_167 : decode cX0_moveOn 167 = .ok (.invokestatic 122, 3) := by decide +kernel
theorem dX0_moveOn_170 : decode cX0_moveOn 170 = .ok (.iconst 2, 1) := by decide +kernel
theorem dX0_moveOn_171 : decode cX0_moveOn 171 = .ok (.if_icmp .eq 8, 3) := by decide +kernel
theorem dX0_moveOn_174 : decode cX0_moveOn 174 = .ok (.aload_n 0, 1) := by decide +kernel
theorem dX0_moveOn_175 : decode cX0_moveOn 175 = .ok (.iconst 4, 1) := by decide +kernel
theorem dX0_moveOn_176 : decode cX0_moveOn 176 = .ok (.putfield 47, 3) := by decide +kernel
theorem dX0_moveOn_179 : decode cX0_moveOn 179 = .ok (.return_, 1) := by decide +kernel
theorem dX0_signHere_0 : decode cX0_signHere 0 = .ok (.aload_n 0, 1) := by decide +kernel
theorem dX0_signHere_1 : decode cX0_signHere 1 = .ok (.getfield 47, 3) := by decide +kernel
theorem dX0_signHere_4 : decode cX0_signHere 4 = .ok (.iconst 2, 1) := by decide +kernel
theorem dX0_signHere_5 : decode cX0_signHere 5 = .ok (.if_icmp .ne 15, 3) := by decide +kernel
theorem dX0_signHere_8 : decode cX0_signHere 8 = .ok (.aload_n 0, 1) := by decide +kernel
theorem dX0_signHere_9 : decode cX0_signHere 9 = .ok (.getfield 9, 3) := by decide +kernel
theorem dX0_signHere_12 : decode cX0_signHere 12 = .ok (.aload_n 0, 1) := by decide +kernel
theorem dX0_signHere_13 : decode cX0_signHere 13 = .ok (.getfield 41, 3) := by decide +kernel
theorem dX0_signHere_16 : decode cX0_signHere 16 = .ok (.iaload, 1) := by decide +kernel
theorem dX0_signHere_17 : decode cX0_signHere 17 = .ok (.goto 5, 3) := by decide +kernel
theorem dX0_signHere_20 : decode cX0_signHere 20 = .ok (.ldc 19, 2) := by decide +kernel
theorem dX0_signHere_22 : decode cX0_signHere 22 = .ok (.ireturn, 1) := by decide +kernel
set_option maxRecDepth 20000 in
theorem ggX0_isWord_J0_length_8abf5 : GoodIn wsX0_isWord wsJ0_length_8abf5 := goodIn_r _ [9, 10, 11, 12, 13, 8, 14, 15, 16] (by decide +kernel) (by decide +kernel)
set_option maxRecDepth 20000 in
theorem gX0_isWord_J0_length_8abf5 : GoodIn wsX0_isWord (wsV RX0 125 RJ0 yJ0_length_8abf5 wsJ0_length_8abf5) := goodIn_app (goodIn_of _ (by decide +kernel)) ggX0_isWord_J0_length_8abf5
set_option maxRecDepth 20000 in
theorem ggX0_isWord_J0_charAt_5068e : GoodIn wsX0_isWord wsJ0_charAt_5068e := goodIn_r _ [20, 10, 21, 22, 23, 8, 24, 15, 16, 25, 26, 27, 28, 29, 30, 31, 32, 33, 34, 35, 36, 37, 38, 39, 40, 41, 42, 43, 44, 45, 46, 47, 48, 49, 50, 51, 52, 53] (by decide +kernel) (by decide +kernel)
set_option maxRecDepth 20000 in
theorem gX0_isWord_J0_charAt_5068e : GoodIn wsX0_isWord (wsV RX0 127 RJ0 yJ0_charAt_5068e wsJ0_charAt_5068e) := goodIn_app (goodIn_of _ (by decide +kernel)) ggX0_isWord_J0_charAt_5068e
theorem dX0_isWord_0 : decode cX0_isWord 0 = .ok (.aload_n 0, 1) := by decide +kernel
theorem dX0_isWord_1 : decode cX0_isWord 1 = .ok (.getfield 47, 3) := by decide +kernel
theorem dX0_isWord_4 : decode cX0_isWord 4 = .ok (.ifCond .ne 19, 3) := by decide +kernel
theorem dX0_isWord_7 : decode cX0_isWord 7 = .ok (.aload_n 0, 1) := by decide +kernel
theorem dX0_isWord_8 : decode cX0_isWord 8 = .ok (.getfield 44, 3) := by decide +kernel
theorem dX0_isWord_11 : decode cX0_isWord 11 = .ok (.aload_n 0, 1) := by decide +kernel
theorem dX0_isWord_12 : decode cX0_isWord 12 = .ok (.getfield 41, 3) := by decide +kernel
theorem dX0_isWord_15 : decode cX0_isWord 15 = .ok (.isub, 1) := by decide +kernel
theorem dX0_isWord_16 : decode cX0_isWord 16 = .ok (.aload_n 1, 1) := by decide +kernel
theorem dX0_isWord_17 : decode cX0_isWord 17 = .ok (.invokevirtual 125, 3) := by decide +kernel
theorem dX0_isWord_20 : decode cX0_isWord 20 = .ok (.if_icmp .eq 5, 3) := by decide +kernel
theorem dX0_isWord_23 : decode cX0_isWord 23 = .ok (.iconst 0, 1) := by decide +kernel
theorem dX0_isWord_24 : decode cX0_isWord 24 = .ok (.ireturn, 1) := by decide +kernel
theorem dX0_isWord_25 : decode cX0_isWord 25 = .ok (.iconst 0, 1) := by decide +kernel
theorem dX0_isWord_26 : decode cX0_isWord 26 = .ok (.istore_n 2, 1) := by decide +kernel
theorem dX0_isWord_27 : decode cX0_isWord 27 = .ok (.iload_n 2, 1) := by decide +kernel
theorem dX0_isWord_28 : decode cX0_isWord 28 = .ok (.aload_n 1, 1) := by decide +kernel
theorem dX0_isWord_29 : decode cX0_isWord 29 = .ok (.invokevirtual 125, 3) := by decide +kernel
theorem dX0_isWord_32 : decode cX0_isWord 32 = .ok (.if_icmp .ge 30, 3) := by decide +kernel
theorem dX0_isWord_35 : decode cX0_isWord 35 = .ok (.aload_n 0, 1) := by decide +kernel
theorem dX0_isWord_36 : decode cX0_isWord 36 = .ok (.getfield 9, 3) := by decide +kernel
theorem dX0_isWord_39 : decode cX0_isWord 39 = .ok (.aload_n 0, 1) := by decide +kernel
theorem dX0_isWord_40 : decode cX0_isWord 40 = .ok (.getfield 41, 3) := by decide +kernel
theorem dX0_isWord_43 : decode cX0_isWord 43 = .ok (.iload_n 2, 1) := by decide +kernel
theorem dX0_isWord_44 : decode cX0_isWord 44 = .ok (.iadd, 1) := by decide +kernel
theorem dX0_isWord_45 : decode cX0_isWord 45 = .ok (.iaload, 1) := by decide +kernel
theorem dX0_isWord_46 : decode cX0_isWord 46 = .ok (.aload_n 1, 1) := by decide +kernel
theorem dX0_isWord_47 : decode cX0_isWord 47 = .ok (.iload_n 2, 1) := by decide +kernel
theorem dX0_isWord_48 : decode cX0_isWord 48 = .ok (.invokevirtual 127, 3) := by decide +kernel
theorem dX0_isWord_51 : decode cX0_isWord 51 = .ok (.if_icmp .eq 5, 3) := by decide +kernel
theorem dX0_isWord_54 : decode cX0_isWord 54 = .ok (.iconst 0, 1) := by decide +kernel
theorem dX0_isWord_55 : decode cX0_isWord 55 = .ok (.ireturn, 1) := by decide +kernel
theorem dX0_isWord_56 : decode cX0_isWord 56 = .ok (.iinc 2 1, 3) := by decide +kernel
theorem dX0_isWord_59 : decode cX0_isWord 59 = .ok (.goto (-32), 3) := by decide +kernel
theorem dX0_isWord_62 : decode cX0_isWord 62 = .ok (.iconst 1, 1) := by decide +kernel
theorem dX0_isWord_63 : decode cX0_isWord 63 = .ok (.ireturn, 1) := by decide +kernel
theorem dX0_sortOf_0 : decode cX0_sortOf 0 = .ok (.iload_n 0, 1) := by decide +kernel
theorem dX0_sortOf_1 : decode cX0_sortOf 1 = .ok (.bipush 97, 2) := by decide +kernel
theorem dX0_sortOf_3 : decode cX0_sortOf 3 = .ok (.if_icmp .lt 11, 3) := by decide +kernel
theorem dX0_sortOf_6 : decode cX0_sortOf 6 = .ok (.iload_n 0, 1) := by decide +kernel
theorem dX0_sortOf_7 : decode cX0_sortOf 7 = .ok (.bipush 122, 2) := by decide +kernel
theorem dX0_sortOf_9 : decode cX0_sortOf 9 = .ok (.if_icmp .gt 5, 3) := by decide +kernel
theorem dX0_sortOf_12 : decode cX0_sortOf 12 = .ok (.iconst 0, 1) := by decide +kernel
theorem dX0_sortOf_13 : decode cX0_sortOf 13 = .ok (.ireturn, 1) := by decide +kernel
theorem dX0_sortOf_14 : decode cX0_sortOf 14 = .ok (.iload_n 0, 1) := by decide +kernel
theorem dX0_sortOf_15 : decode cX0_sortOf 15 = .ok (.bipush 48, 2) := by decide +kernel
theorem dX0_sortOf_17 : decode cX0_sortOf 17 = .ok (.if_icmp .lt 13, 3) := by decide +kernel
theorem dX0_sortOf_20 : decode cX0_sortOf 20 = .ok (.iload_n 0, 1) := by decide +kernel
theorem dX0_sortOf_21 : decode cX0_sortOf 21 = .ok (.bipush 57, 2) := by decide +kernel
theorem dX0_sortOf_23 : decode cX0_sortOf 23 = .ok (.if_icmp .gt 7, 3) := by decide +kernel
theorem dX0_sortOf_26 : decode cX0_sortOf 26 = .ok (.iconst 1, 1) := by decide +kernel
theorem dX0_sortOf_27 : decode cX0_sortOf 27 = .ok (.goto 4, 3) := by decide +kernel
theorem dX0_sortOf_30 : decode cX0_sortOf 30 = .ok (.iconst 2, 1) := by decide +kernel
theorem dX0_sortOf_31 : decode cX0_sortOf 31 = .ok (.ireturn, 1) := by decide +kernel
theorem dX0_levelOf_0 : decode cX0_levelOf 0 = .ok (.iload_n 0, 1) := by decide +kernel
theorem dX0_levelOf_1 : decode cX0_levelOf 1 = .ok (.lookupswitch 93 #[(38, 85), (42, 91), (43, 89), (45, 89), (47, 91), (60, 87), (61, 87), (62, 87), (124, 83)], 83) := by decide +kernel
theorem dX0_levelOf_84 : decode cX0_levelOf 84 = .ok (.iconst 0, 1) := by decide +kernel
theorem dX0_levelOf_85 : decode cX0_levelOf 85 = .ok (.ireturn, 1) := by decide +kernel
theorem dX0_levelOf_86 : decode cX0_levelOf 86 = .ok (.iconst 1, 1) := by decide +kernel
theorem dX0_levelOf_87 : decode cX0_levelOf 87 = .ok (.ireturn, 1) := by decide +kernel
theorem dX0_levelOf_88 : decode cX0_levelOf 88 = .ok (.iconst 2, 1) := by decide +kernel
theorem dX0_levelOf_89 : decode cX0_levelOf 89 = .ok (.ireturn, 1) := by decide +kernel
theorem dX0_levelOf_90 : decode cX0_levelOf 90 = .ok (.iconst 3, 1) := by decide +kernel
theorem dX0_levelOf_91 : decode cX0_levelOf 91 = .ok (.ireturn, 1) := by decide +kernel
theorem dX0_levelOf_92 : decode cX0_levelOf 92 = .ok (.iconst 4, 1) := by decide +kernel
theorem dX0_levelOf_93 : decode cX0_levelOf 93 = .ok (.ireturn, 1) := by decide +kernel
theorem dX0_levelOf_94 : decode cX0_levelOf 94 = .ok (.ldc 19, 2) := by decide +kernel
theorem dX0_levelOf_96 : decode cX0_levelOf 96 = .ok (.ireturn, 1) := by decide +kernel
theorem dX0_namesOf_0 : decode cX0_namesOf 0 = .ok (.iload_n 0, 1) := by decide +kernel
theorem dX0_namesOf_1 : decode cX0_namesOf 1 = .ok (.ifCond .ne 6, 3) := by decide +kernel
theorem dX0_namesOf_4 : decode cX0_namesOf 4 = .ok (.ldc 131, 2) := by decide +kernel
theorem dX0_namesOf_6 : decode cX0_namesOf 6 = .ok (.areturn, 1) := by decide +kernel
theorem dX0_namesOf_7 : decode cX0_namesOf 7 = .ok (.iload_n 0, 1) := by decide +kernel
theorem dX0_namesOf_8 : decode cX0_namesOf 8 = .ok (.iconst 1, 1) := by decide +kernel
theorem dX0_namesOf_9 : decode cX0_namesOf 9 = .ok (.if_icmp .ne 8, 3) := by decide +kernel
theorem dX0_namesOf_12 : decode cX0_namesOf 12 = .ok (.ldc 133, 2) := by decide +kernel
theorem dX0_namesOf_14 : decode cX0_namesOf 14 = .ok (.goto 5, 3) := by decide +kernel
theorem dX0_namesOf_17 : decode cX0_namesOf 17 = .ok (.ldc 135, 2) := by decide +kernel
theorem dX0_namesOf_19 : decode cX0_namesOf 19 = .ok (.areturn, 1) := by decide +kernel
theorem dX1_init_0 : decode cX1_init 0 = .ok (.aload_n 0, 1) := by decide +kernel
theorem dX1_init_1 : decode cX1_init 1 = .ok (.invokespecial 3, 3) := by decide +kernel
theorem dX1_init_4 : decode cX1_init 4 = .ok (.aload_n 0, 1) := by decide +kernel
theorem dX1_init_5 : decode cX1_init 5 = .ok (.bipush 24, 2) := by decide +kernel
theorem dX1_init_7 : decode cX1_init 7 = .ok (.newarray .int, 2) := by decide +kernel
theorem dX1_init_9 : decode cX1_init 9 = .ok (.putfield 9, 3) := by decide +kernel
theorem dX1_init_12 : decode cX1_init 12 = .ok (.aload_n 0, 1) := by decide +kernel
theorem dX1_init_13 : decode cX1_init 13 = .ok (.bipush 24, 2) := by decide +kernel
theorem dX1_init_15 : decode cX1_init 15 = .ok (.newarray .int, 2) := by decide +kernel
theorem dX1_init_17 : decode cX1_init 17 = .ok (.putfield 15, 3) := by decide +kernel
theorem dX1_init_20 : decode cX1_init 20 = .ok (.aload_n 0, 1) := by decide +kernel
theorem dX1_init_21 : decode cX1_init 21 = .ok (.bipush 24, 2) := by decide +kernel
theorem dX1_init_23 : decode cX1_init 23 = .ok (.newarray .int, 2) := by decide +kernel
theorem dX1_init_25 : decode cX1_init 25 = .ok (.putfield 18, 3) := by decide +kernel
theorem dX1_init_28 : decode cX1_init 28 = .ok (.aload_n 0, 1) := by decide +kernel
theorem dX1_init_29 : decode cX1_init 29 = .ok (.iconst 0, 1) := by decide +kernel
theorem dX1_init_30 : decode cX1_init 30 = .ok (.putfield 21, 3) := by decide +kernel
theorem dX1_init_33 : decode cX1_init 33 = .ok (.aload_n 0, 1) := by decide +kernel
theorem dX1_init_34 : decode cX1_init 34 = .ok (.bipush 14, 2) := by decide +kernel
theorem dX1_init_36 : decode cX1_init 36 = .ok (.anewarray 25, 3) := by decide +kernel
theorem dX1_init_39 : decode cX1_init 39 = .ok (.putfield 27, 3) := by decide +kernel
theorem dX1_init_42 : decode cX1_init 42 = .ok (.aload_n 0, 1) := by decide +kernel
theorem dX1_init_43 : decode cX1_init 43 = .ok (.iconst 0, 1) := by decide +kernel
theorem dX1_init_44 : decode cX1_init 44 = .ok (.putfield 31, 3) := by decide +kernel
theorem dX1_init_47 : decode cX1_init 47 = .ok (.aload_n 0, 1) := by decide +kernel
theorem dX1_init_48 : decode cX1_init 48 = .ok (.iconst 3, 1) := by decide +kernel
theorem dX1_init_49 : decode cX1_init 49 = .ok (.newarray .int, 2) := by decide +kernel
theorem dX1_init_51 : decode cX1_init 51 = .ok (.dup, 1) := by decide +kernel
theorem dX1_init_52 : decode cX1_init 52 = .ok (.iconst 0, 1) := by decide +kernel
theorem dX1_init_53 : decode cX1_init 53 = .ok (.ldc 34, 2) := by decide +kernel
theorem dX1_init_55 : decode cX1_init 55 = .ok (.iastore, 1) := by decide +kernel
theorem dX1_init_56 : decode cX1_init 56 = .ok (.dup, 1) := by decide +kernel
theorem dX1_init_57 : decode cX1_init 57 = .ok (.iconst 1, 1) := by decide +kernel
theorem dX1_init_58 : decode cX1_init 58 = .ok (.ldc 34, 2) := by decide +kernel
theorem dX1_init_60 : decode cX1_init 60 = .ok (.iastore, 1) := by decide +kernel
theorem dX1_init_61 : decode cX1_init 61 = .ok (.dup, 1) := by decide +kernel
theorem dX1_init_62 : decode cX1_init 62 = .ok (.iconst 2, 1) := by decide +kernel
theorem dX1_init_63 : decode cX1_init 63 = .ok (.ldc 34, 2) := by decide +kernel
theorem dX1_init_65 : decode cX1_init 65 = .ok (.iastore, 1) := by decide +kernel
theorem dX1_init_66 : decode cX1_init 66 = .ok (.putfield 35, 3) := by decide +kernel
theorem dX1_init_69 : decode cX1_init 69 = .ok (.aload_n 0, 1) := by decide +kernel
theorem dX1_init_70 : decode cX1_init 70 = .ok (.bipush 60, 2) := by decide +kernel
theorem dX1_init_72 : decode cX1_init 72 = .ok (.putfield 38, 3) := by decide +kernel
theorem dX1_init_75 : decode cX1_init 75 = .ok (.aload_n 0, 1) := by decide +kernel
theorem dX1_init_76 : decode cX1_init 76 = .ok (.iconst 2, 1) := by decide +kernel
theorem dX1_init_77 : decode cX1_init 77 = .ok (.putfield 41, 3) := by decide +kernel
theorem dX1_init_80 : decode cX1_init 80 = .ok (.aload_n 0, 1) := by decide +kernel
theorem dX1_init_81 : decode cX1_init 81 = .ok (.ldc 34, 2) := by decide +kernel
theorem dX1_init_83 : decode cX1_init 83 = .ok (.putfield 44, 3) := by decide +kernel
theorem dX1_init_86 : decode cX1_init 86 = .ok (.aload_n 0, 1) := by decide +kernel
theorem dX1_init_87 : decode cX1_init 87 = .ok (.iconst 0, 1) := by decide +kernel
theorem dX1_init_88 : decode cX1_init 88 = .ok (.putfield 47, 3) := by decide +kernel
theorem dX1_init_91 : decode cX1_init 91 = .ok (.aload_n 0, 1) := by decide +kernel
theorem dX1_init_92 : decode cX1_init 92 = .ok (.iconst 0, 1) := by decide +kernel
theorem dX1_init_93 : decode cX1_init 93 = .ok (.putfield 50, 3) := by decide +kernel
theorem dX1_init_96 : decode cX1_init 96 = .ok (.aload_n 0, 1) := by decide +kernel
theorem dX1_init_97 : decode cX1_init 97 = .ok (.iconst 0, 1) := by decide +kernel
theorem dX1_init_98 : decode cX1_init 98 = .ok (.putfield 53, 3) := by decide +kernel
theorem dX1_init_101 : decode cX1_init 101 = .ok (.aload_n 0, 1) := by decide +kernel
theorem dX1_init_102 : decode cX1_init 102 = .ok (.iconst 1, 1) := by decide +kernel
theorem dX1_init_103 : decode cX1_init 103 = .ok (.putfield 56, 3) := by decide +kernel
theorem dX1_init_106 : decode cX1_init 106 = .ok (.aload_n 0, 1) := by decide +kernel
theorem dX1_init_107 : decode cX1_init 107 = .ok (.bipush 96, 2) := by decide +kernel
theorem dX1_init_109 : decode cX1_init 109 = .ok (.newarray .int, 2) := by decide +kernel
theorem dX1_init_111 : decode cX1_init 111 = .ok (.putfield 59, 3) := by decide +kernel
theorem dX1_init_114 : decode cX1_init 114 = .ok (.return_, 1) := by decide +kernel
theorem dX1_has_0 : decode cX1_has 0 = .ok (.iload_n 1, 1) := by decide +kernel
theorem dX1_has_1 : decode cX1_has 1 = .ok (.ifCond .lt 15, 3) := by decide +kernel
theorem dX1_has_4 : decode cX1_has 4 = .ok (.iload_n 1, 1) := by decide +kernel
theorem dX1_has_5 : decode cX1_has 5 = .ok (.aload_n 0, 1) := by decide +kernel
theorem dX1_has_6 : decode cX1_has 6 = .ok (.getfield 21, 3) := by decide +kernel
theorem dX1_has_9 : decode cX1_has 9 = .ok (.if_icmp .ge 7, 3) := by decide +kernel
theorem dX1_has_12 : decode cX1_has 12 = .ok (.iconst 1, 1) := by decide +kernel
theorem dX1_has_13 : decode cX1_has 13 = .ok (.goto 4, 3) := by decide +kernel
theorem dX1_has_16 : decode cX1_has 16 = .ok (.iconst 0, 1) := by decide +kernel
theorem dX1_has_17 : decode cX1_has 17 = .ok (.ireturn, 1) := by decide +kernel
theorem dX1_append_0 : decode cX1_append 0 = .ok (.aload_n 0, 1) := by decide +kernel
theorem dX1_append_1 : decode cX1_append 1 = .ok (.getfield 21, 3) := by decide +kernel
theorem dX1_append_4 : decode cX1_append 4 = .ok (.istore 4, 2) := by decide +kernel
theorem dX1_append_6 : decode cX1_append 6 = .ok (.iload 4, 2) := by decide +kernel
theorem dX1_append_8 : decode cX1_append 8 = .ok (.bipush 24, 2) := by decide +kernel
theorem dX1_append_10 : decode cX1_append 10 = .ok (.if_icmp .ge 37, 3) := by decide +kernel
theorem dX1_append_13 : decode cX1_append 13 = .ok (.aload_n 0, 1) := by decide +kernel
theorem dX1_append_14 : decode cX1_append 14 = .ok (.getfield 9, 3) := by decide +kernel
theorem dX1_append_17 : decode cX1_append 17 = .ok (.iload 4, 2) := by decide +kernel
theorem dX1_append_19 : decode cX1_append 19 = .ok (.iload_n 1, 1) := by decide +kernel
theorem dX1_append_20 : decode cX1_append 20 = .ok (.iastore, 1) := by decide +kernel
theorem dX1_append_21 : decode cX1_append 21 = .ok (.aload_n 0, 1) := by decide +kernel
theorem dX1_append_22 : decode cX1_append 22 = .ok (.getfield 15, 3) := by decide +kernel
theorem dX1_append_25 : decode cX1_append 25 = .ok (.iload 4, 2) := by decide +kernel
theorem dX1_append_27 : decode cX1_append 27 = .ok (.iload_n 2, 1) := by decide +kernel
theorem dX1_append_28 : decode cX1_append 28 = .ok (.iastore, 1) := by decide +kernel
theorem dX1_append_29 : decode cX1_append 29 = .ok (.aload_n 0, 1) := by decide +kernel
theorem dX1_append_30 : decode cX1_append 30 = .ok (.getfield 18, 3) := by decide +kernel
theorem dX1_append_33 : decode cX1_append 33 = .ok (.iload 4, 2) := by decide +kernel
theorem dX1_append_35 : decode cX1_append 35 = .ok (.iload_n 3, 1) := by decide +kernel
theorem dX1_append_36 : decode cX1_append 36 = .ok (.iastore, 1) := by decide +kernel
theorem dX1_append_37 : decode cX1_append 37 = .ok (.aload_n 0, 1) := by decide +kernel
theorem dX1_append_38 : decode cX1_append 38 = .ok (.dup, 1) := by decide +kernel
theorem dX1_append_39 : decode cX1_append 39 = .ok (.getfield 21, 3) := by decide +kernel
theorem dX1_append_42 : decode cX1_append 42 = .ok (.iconst 1, 1) := by decide +kernel
theorem dX1_append_43 : decode cX1_append 43 = .ok (.iadd, 1) := by decide +kernel
theorem dX1_append_44 : decode cX1_append 44 = .ok (.putfield 21, 3) := by decide +kernel
theorem dX1_append_47 : decode cX1_append 47 = .ok (.iload 4, 2) := by decide +kernel
theorem dX1_append_49 : decode cX1_append 49 = .ok (.ireturn, 1) := by decide +kernel
set_option maxRecDepth 20000 in
theorem ggX1_appendDrawn_X1_draw : GoodIn wsX1_appendDrawn wsX1_draw := goodIn_r _ [5, 6, 7, 16, 17, 18, 19, 20, 21, 22, 23, 24, 25, 26, 27, 28, 29, 30] (by decide +kernel) (by decide +kernel)
set_option maxRecDepth 20000 in
theorem gX1_appendDrawn_X1_draw : GoodIn wsX1_appendDrawn (wsV RX1 62 RX1 yX1_draw wsX1_draw) := goodIn_app (goodIn_of _ (by decide +kernel)) ggX1_appendDrawn_X1_draw
set_option maxRecDepth 20000 in
theorem ggX1_appendDrawn_X1_append : GoodIn wsX1_appendDrawn wsX1_append := goodIn_r _ [11, 12, 13, 14, 15, 16, 17, 18, 19, 20, 21, 22, 23, 24, 25, 26, 27, 28, 29, 30] (by decide +kernel) (by decide +kernel)
set_option maxRecDepth 20000 in
theorem gX1_appendDrawn_X1_append : GoodIn wsX1_appendDrawn (wsV RX1 66 RX1 yX1_append wsX1_append) := goodIn_app (goodIn_of _ (by decide +kernel)) ggX1_appendDrawn_X1_append
theorem dX1_appendDrawn_0 : decode cX1_appendDrawn 0 = .ok (.aload_n 0, 1) := by decide +kernel
theorem dX1_appendDrawn_1 : decode cX1_appendDrawn 1 = .ok (.invokevirtual 62, 3) := by decide +kernel
theorem dX1_appendDrawn_4 : decode cX1_appendDrawn 4 = .ok (.iconst 5, 1) := by decide +kernel
theorem dX1_appendDrawn_5 : decode cX1_appendDrawn 5 = .ok (.irem, 1) := by decide +kernel
theorem dX1_appendDrawn_6 : decode cX1_appendDrawn 6 = .ok (.istore_n 1, 1) := by decide +kernel
theorem dX1_appendDrawn_7 : decode cX1_appendDrawn 7 = .ok (.aload_n 0, 1) := by decide +kernel
theorem dX1_appendDrawn_8 : decode cX1_appendDrawn 8 = .ok (.invokevirtual 62, 3) := by decide +kernel
theorem dX1_appendDrawn_11 : decode cX1_appendDrawn 11 = .ok (.bipush 100, 2) := by decide +kernel
theorem dX1_appendDrawn_13 : decode cX1_appendDrawn 13 = .ok (.irem, 1) := by decide +kernel
theorem dX1_appendDrawn_14 : decode cX1_appendDrawn 14 = .ok (.istore_n 2, 1) := by decide +kernel
theorem dX1_appendDrawn_15 : decode cX1_appendDrawn 15 = .ok (.aload_n 0, 1) := by decide +kernel
theorem dX1_appendDrawn_16 : decode cX1_appendDrawn 16 = .ok (.invokevirtual 62, 3) := by decide +kernel
theorem dX1_appendDrawn_19 : decode cX1_appendDrawn 19 = .ok (.iconst 4, 1) := by decide +kernel
theorem dX1_appendDrawn_20 : decode cX1_appendDrawn 20 = .ok (.irem, 1) := by decide +kernel
theorem dX1_appendDrawn_21 : decode cX1_appendDrawn 21 = .ok (.ifCond .ne 7, 3) := by decide +kernel
theorem dX1_appendDrawn_24 : decode cX1_appendDrawn 24 = .ok (.iconst 1, 1) := by decide +kernel
theorem dX1_appendDrawn_25 : decode cX1_appendDrawn 25 = .ok (.goto 4, 3) := by decide +kernel
theorem dX1_appendDrawn_28 : decode cX1_appendDrawn 28 = .ok (.iconst 0, 1) := by decide +kernel
theorem dX1_appendDrawn_29 : decode cX1_appendDrawn 29 = .ok (.istore_n 3, 1) := by decide +kernel
theorem dX1_appendDrawn_30 : decode cX1_appendDrawn 30 = .ok (.aload_n 0, 1) := by decide +kernel
theorem dX1_appendDrawn_31 : decode cX1_appendDrawn 31 = .ok (.iload_n 1, 1) := by decide +kernel
theorem dX1_appendDrawn_32 : decode cX1_appendDrawn 32 = .ok (.iload_n 2, 1) := by decide +kernel
theorem dX1_appendDrawn_33 : decode cX1_appendDrawn 33 = .ok (.iload_n 3, 1) := by decide +kernel
theorem dX1_appendDrawn_34 : decode cX1_appendDrawn 34 = .ok (.invokevirtual 66, 3) := by decide +kernel
theorem dX1_appendDrawn_37 : decode cX1_appendDrawn 37 = .ok (.pop, 1) := by decide +kernel
theorem dX1_appendDrawn_38 : decode cX1_appendDrawn 38 = .ok (.return_, 1) := by decide +kernel
set_option maxRecDepth 20000 in
theorem ggX1_appendText_X6_within : GoodIn wsX1_appendText wsX6_within := goodIn_r _ [7] (by decide +kernel) (by decide +kernel)
set_option maxRecDepth 20000 in
theorem gX1_appendText_X6_within_n73 : GoodIn wsX1_appendText (wsX6_within) := ggX1_appendText_X6_within
theorem dX1_appendText_0 : decode cX1_appendText 0 = .ok (.aload_n 0, 1) := by decide +kernel
theorem dX1_appendText_1 : decode cX1_appendText 1 = .ok (.getfield 31, 3) := by decide +kernel
theorem dX1_appendText_4 : decode cX1_appendText 4 = .ok (.istore_n 2, 1) := by decide +kernel
theorem dX1_appendText_5 : decode cX1_appendText 5 = .ok (.iload_n 2, 1) := by decide +kernel
theorem dX1_appendText_6 : decode cX1_appendText 6 = .ok (.bipush 14, 2) := by decide +kernel
theorem dX1_appendText_8 : decode cX1_appendText 8 = .ok (.if_icmp .ge 42, 3) := by decide +kernel
theorem dX1_appendText_11 : decode cX1_appendText 11 = .ok (.aload_n 1, 1) := by decide +kernel
theorem dX1_appendText_12 : decode cX1_appendText 12 = .ok (.getfield 70, 3) := by decide +kernel
theorem dX1_appendText_15 : decode cX1_appendText 15 = .ok (.iconst 0, 1) := by decide +kernel
theorem dX1_appendText_16 : decode cX1_appendText 16 = .ok (.iconst 2, 1) := by decide +kernel
theorem dX1_appendText_17 : decode cX1_appendText 17 = .ok (.invokestatic 73, 3) := by decide +kernel
theorem dX1_appendText_20 : decode cX1_appendText 20 = .ok (.ifCond .eq 30, 3) := by decide +kernel
theorem dX1_appendText_23 : decode cX1_appendText 23 = .ok (.aload_n 0, 1) := by decide +kernel
theorem dX1_appendText_24 : decode cX1_appendText 24 = .ok (.getfield 27, 3) := by decide +kernel
theorem dX1_appendText_27 : decode cX1_appendText 27 = .ok (.iload_n 2, 1) := by decide +kernel
theorem dX1_appendText_28 : decode cX1_appendText 28 = .ok (.aload_n 1, 1) := by decide +kernel
theorem dX1_appendText_29 : decode cX1_appendText 29 = .ok (.aastore, 1) := by decide +kernel
theorem dX1_appendText_30 : decode cX1_appendText 30 = .ok (.aload_n 0, 1) := by decide +kernel
theorem dX1_appendText_31 : decode cX1_appendText 31 = .ok (.getfield 35, 3) := by decide +kernel
theorem dX1_appendText_34 : decode cX1_appendText 34 = .ok (.aload_n 1, 1) := by decide +kernel
theorem dX1_appendText_35 : decode cX1_appendText 35 = .ok (.getfield 70, 3) := by decide +kernel
theorem dX1_appendText_38 : decode cX1_appendText 38 = .ok (.iload_n 2, 1) := by decide +kernel
theorem dX1_appendText_39 : decode cX1_appendText 39 = .ok (.iastore, 1) := by decide +kernel
theorem dX1_appendText_40 : decode cX1_appendText 40 = .ok (.aload_n 0, 1) := by decide +kernel
theorem dX1_appendText_41 : decode cX1_appendText 41 = .ok (.dup, 1) := by decide +kernel
theorem dX1_appendText_42 : decode cX1_appendText 42 = .ok (.getfield 31, 3) := by decide +kernel
theorem dX1_appendText_45 : decode cX1_appendText 45 = .ok (.iconst 1, 1) := by decide +kernel
theorem dX1_appendText_46 : decode cX1_appendText 46 = .ok (.iadd, 1) := by decide +kernel
theorem dX1_appendText_47 : decode cX1_appendText 47 = .ok (.putfield 31, 3) := by decide +kernel
theorem dX1_appendText_50 : decode cX1_appendText 50 = .ok (.iload_n 2, 1) := by decide +kernel
theorem dX1_appendText_51 : decode cX1_appendText 51 = .ok (.ireturn, 1) := by decide +kernel
theorem dX1_draw_0 : decode cX1_draw 0 = .ok (.aload_n 0, 1) := by decide +kernel
theorem dX1_draw_1 : decode cX1_draw 1 = .ok (.aload_n 0, 1) := by decide +kernel
theorem dX1_draw_2 : decode cX1_draw 2 = .ok (.getfield 56, 3) := by decide +kernel
theorem dX1_draw_5 : decode cX1_draw 5 = .ok (.ldc 77, 2) := by decide +kernel
theorem dX1_draw_7 : decode cX1_draw 7 = .ok (.imul, 1) := by decide +kernel
theorem dX1_draw_8 : decode cX1_draw 8 = .ok (.sipush 12345, 3) := by decide +kernel
theorem dX1_draw_11 : decode cX1_draw 11 = .ok (.iadd, 1) := by decide +kernel
theorem dX1_draw_12 : decode cX1_draw 12 = .ok (.putfield 56, 3) := by decide +kernel
theorem dX1_draw_15 : decode cX1_draw 15 = .ok (.aload_n 0, 1) := by decide +kernel
theorem dX1_draw_16 : decode cX1_draw 16 = .ok (.getfield 56, 3) := by decide +kernel
theorem dX1_draw_19 : decode cX1_draw 19 = .ok (.bipush 8, 2) := by decide +kernel
theorem dX1_draw_21 : decode cX1_draw 21 = .ok (.iushr, 1) := by decide +kernel
theorem dX1_draw_22 : decode cX1_draw 22 = .ok (.ireturn, 1) := by decide +kernel
set_option maxRecDepth 20000 in
theorem ggX1_farIn_X6_held : GoodIn wsX1_farIn wsX6_held := goodIn_r _ [5, 6, 7, 8, 9, 10, 11, 12] (by decide +kernel) (by decide +kernel)
set_option maxRecDepth 20000 in
theorem gX1_farIn_X6_held_n78 : GoodIn wsX1_farIn (wsX6_held) := ggX1_farIn_X6_held
theorem dX1_farIn_0 : decode cX1_farIn 0 = .ok (.aload_n 0, 1) := by decide +kernel
theorem dX1_farIn_1 : decode cX1_farIn 1 = .ok (.getfield 38, 3) := by decide +kernel
theorem dX1_farIn_4 : decode cX1_farIn 4 = .ok (.aload_n 0, 1) := by decide +kernel
theorem dX1_farIn_5 : decode cX1_farIn 5 = .ok (.getfield 41, 3) := by decide +kernel
theorem dX1_farIn_8 : decode cX1_farIn 8 = .ok (.iload_n 1, 1) := by decide +kernel
theorem dX1_farIn_9 : decode cX1_farIn 9 = .ok (.imul, 1) := by decide +kernel
theorem dX1_farIn_10 : decode cX1_farIn 10 = .ok (.isub, 1) := by decide +kernel
theorem dX1_farIn_11 : decode cX1_farIn 11 = .ok (.iconst 0, 1) := by decide +kernel
theorem dX1_farIn_12 : decode cX1_farIn 12 = .ok (.bipush 99, 2) := by decide +kernel
theorem dX1_farIn_14 : decode cX1_farIn 14 = .ok (.invokestatic 78, 3) := by decide +kernel
theorem dX1_farIn_17 : decode cX1_farIn 17 = .ok (.ireturn, 1) := by decide +kernel
set_option maxRecDepth 20000 in
theorem ggX1_oddsIn_X1_farIn : GoodIn wsX1_oddsIn wsX1_farIn := goodIn_r _ [5, 6, 7, 8, 9, 10, 11, 12, 13, 14, 15, 16, 17, 37, 38, 39, 40, 41, 42, 43, 44, 45, 46, 47, 48, 49, 50, 51] (by decide +kernel) (by decide +kernel)
set_option maxRecDepth 20000 in
theorem gX1_oddsIn_X1_farIn : GoodIn wsX1_oddsIn (wsV RX1 81 RX1 yX1_farIn wsX1_farIn) := goodIn_app (goodIn_of _ (by decide +kernel)) ggX1_oddsIn_X1_farIn
set_option maxRecDepth 20000 in
theorem ggX1_oddsIn_X1_lawGives : GoodIn wsX1_oddsIn wsX1_lawGives := goodIn_r _ [21, 22, 23, 24, 25, 26, 27, 28, 29, 30, 31, 32, 33, 34, 35, 36, 37, 38, 39, 40, 41, 42, 43, 44, 45, 46, 47, 48, 49, 50, 51, 52, 53, 54] (by decide +kernel) (by decide +kernel)
set_option maxRecDepth 20000 in
theorem gX1_oddsIn_X1_lawGives : GoodIn wsX1_oddsIn (wsV RX1 85 RX1 yX1_lawGives wsX1_lawGives) := goodIn_app (goodIn_of _ (by decide +kernel)) ggX1_oddsIn_X1_lawGives
set_option maxRecDepth 20000 in
theorem ggX1_oddsIn_X6_held : GoodIn wsX1_oddsIn wsX6_held := goodIn_r _ [10, 11, 12, 13, 14, 15, 16, 17] (by decide +kernel) (by decide +kernel)
set_option maxRecDepth 20000 in
theorem gX1_oddsIn_X6_held_n78 : GoodIn wsX1_oddsIn (wsX6_held) := ggX1_oddsIn_X6_held
theorem dX1_oddsIn_0 : decode cX1_oddsIn 0 = .ok (.aload_n 0, 1) := by decide +kernel
theorem dX1_oddsIn_1 : decode cX1_oddsIn 1 = .ok (.iload_n 1, 1) := by decide +kernel
theorem dX1_oddsIn_2 : decode cX1_oddsIn 2 = .ok (.invokevirtual 81, 3) := by decide +kernel
theorem dX1_oddsIn_5 : decode cX1_oddsIn 5 = .ok (.istore_n 2, 1) := by decide +kernel
theorem dX1_oddsIn_6 : decode cX1_oddsIn 6 = .ok (.aload_n 0, 1) := by decide +kernel
theorem dX1_oddsIn_7 : decode cX1_oddsIn 7 = .ok (.iconst 1, 1) := by decide +kernel
theorem dX1_oddsIn_8 : decode cX1_oddsIn 8 = .ok (.iload_n 2, 1) := by decide +kernel
theorem dX1_oddsIn_9 : decode cX1_oddsIn 9 = .ok (.iload_n 1, 1) := by decide +kernel
theorem dX1_oddsIn_10 : decode cX1_oddsIn 10 = .ok (.iconst 0, 1) := by decide +kernel
theorem dX1_oddsIn_11 : decode cX1_oddsIn 11 = .ok (.bipush 100, 2) := by decide +kernel
theorem dX1_oddsIn_13 : decode cX1_oddsIn 13 = .ok (.iconst 3, 1) := by decide +kernel
theorem dX1_oddsIn_14 : decode cX1_oddsIn 14 = .ok (.iload_n 2, 1) := by decide +kernel
theorem dX1_oddsIn_15 : decode cX1_oddsIn 15 = .ok (.imul, 1) := by decide +kernel
theorem dX1_oddsIn_16 : decode cX1_oddsIn 16 = .ok (.isub, 1) := by decide +kernel
theorem dX1_oddsIn_17 : decode cX1_oddsIn 17 = .ok (.invokevirtual 85, 3) := by decide +kernel
theorem dX1_oddsIn_20 : decode cX1_oddsIn 20 = .ok (.iconst 0, 1) := by decide +kernel
theorem dX1_oddsIn_21 : decode cX1_oddsIn 21 = .ok (.bipush 100, 2) := by decide +kernel
theorem dX1_oddsIn_23 : decode cX1_oddsIn 23 = .ok (.invokestatic 78, 3) := by decide +kernel
theorem dX1_oddsIn_26 : decode cX1_oddsIn 26 = .ok (.ireturn, 1) := by decide +kernel
set_option maxRecDepth 20000 in
theorem ggX1_riskOf_X1_lawGives : GoodIn wsX1_riskOf wsX1_lawGives := goodIn_r _ [7, 8, 9, 10, 11, 12, 13, 14, 15, 16, 17, 18, 19, 20, 21, 22, 35, 36, 37, 38, 39, 40, 41, 42, 43, 44, 45, 46, 47, 48, 49, 50, 51, 52] (by decide +kernel) (by decide +kernel)
set_option maxRecDepth 20000 in
theorem gX1_riskOf_X1_lawGives : GoodIn wsX1_riskOf (wsV RX1 85 RX1 yX1_lawGives wsX1_lawGives) := goodIn_app (goodIn_of _ (by decide +kernel)) ggX1_riskOf_X1_lawGives
set_option maxRecDepth 20000 in
theorem ggX1_riskOf_X6_held : GoodIn wsX1_riskOf wsX6_held := goodIn_r _ [25, 26, 27, 28, 29, 30, 31, 32] (by decide +kernel) (by decide +kernel)
set_option maxRecDepth 20000 in
theorem gX1_riskOf_X6_held_n78 : GoodIn wsX1_riskOf (wsX6_held) := ggX1_riskOf_X6_held
set_option maxRecDepth 20000 in
theorem ggX1_riskOf_X6_riskBy : GoodIn wsX1_riskOf wsX6_riskBy := goodIn_r _ [34] (by decide +kernel) (by decide +kernel)
set_option maxRecDepth 20000 in
theorem gX1_riskOf_X6_riskBy_n89 : GoodIn wsX1_riskOf (wsX6_riskBy) := ggX1_riskOf_X6_riskBy
theorem dX1_riskOf_0 : decode cX1_riskOf 0 = .ok (.aload_n 0, 1) := by decide +kernel
theorem dX1_riskOf_1 : decode cX1_riskOf 1 = .ok (.getfield 15, 3) := by decide +kernel
theorem dX1_riskOf_4 : decode cX1_riskOf 4 = .ok (.iload_n 1, 1) := by decide +kernel
theorem dX1_riskOf_5 : decode cX1_riskOf 5 = .ok (.iaload, 1) := by decide +kernel
theorem dX1_riskOf_6 : decode cX1_riskOf 6 = .ok (.istore_n 2, 1) := by decide +kernel
theorem dX1_riskOf_7 : decode cX1_riskOf 7 = .ok (.aload_n 0, 1) := by decide +kernel
theorem dX1_riskOf_8 : decode cX1_riskOf 8 = .ok (.iconst 0, 1) := by decide +kernel
theorem dX1_riskOf_9 : decode cX1_riskOf 9 = .ok (.iload_n 2, 1) := by decide +kernel
theorem dX1_riskOf_10 : decode cX1_riskOf 10 = .ok (.iload_n 1, 1) := by decide +kernel
theorem dX1_riskOf_11 : decode cX1_riskOf 11 = .ok (.iconst 0, 1) := by decide +kernel
theorem dX1_riskOf_12 : decode cX1_riskOf 12 = .ok (.iload_n 2, 1) := by decide +kernel
theorem dX1_riskOf_13 : decode cX1_riskOf 13 = .ok (.bipush 10, 2) := by decide +kernel
theorem dX1_riskOf_15 : decode cX1_riskOf 15 = .ok (.idiv, 1) := by decide +kernel
theorem dX1_riskOf_16 : decode cX1_riskOf 16 = .ok (.invokevirtual 85, 3) := by decide +kernel
theorem dX1_riskOf_19 : decode cX1_riskOf 19 = .ok (.iconst 0, 1) := by decide +kernel
theorem dX1_riskOf_20 : decode cX1_riskOf 20 = .ok (.bipush 99, 2) := by decide +kernel
theorem dX1_riskOf_22 : decode cX1_riskOf 22 = .ok (.invokestatic 78, 3) := by decide +kernel
theorem dX1_riskOf_25 : decode cX1_riskOf 25 = .ok (.istore_n 3, 1) := by decide +kernel
theorem dX1_riskOf_26 : decode cX1_riskOf 26 = .ok (.aload_n 0, 1) := by decide +kernel
theorem dX1_riskOf_27 : decode cX1_riskOf 27 = .ok (.getfield 9, 3) := by decide +kernel
theorem dX1_riskOf_30 : decode cX1_riskOf 30 = .ok (.iload_n 1, 1) := by decide +kernel
theorem dX1_riskOf_31 : decode cX1_riskOf 31 = .ok (.iaload, 1) := by decide +kernel
theorem dX1_riskOf_32 : decode cX1_riskOf 32 = .ok (.iload_n 3, 1) := by decide +kernel
theorem dX1_riskOf_33 : decode cX1_riskOf 33 = .ok (.invokestatic 89, 3) := by decide +kernel
theorem dX1_riskOf_36 : decode cX1_riskOf 36 = .ok (.ireturn, 1) := by decide +kernel
set_option maxRecDepth 20000 in
theorem ggX1_dangerOf_X1_riskOf : GoodIn wsX1_dangerOf wsX1_riskOf := goodIn_r _ [5, 6, 7, 8, 9, 10, 4, 11, 12, 13, 14, 15, 16, 17, 18, 19, 20, 21, 22, 23, 24, 25, 26, 27, 28, 29, 30, 31, 32, 33, 34, 35, 36, 37, 38, 49, 50, 51, 52, 53, 54, 55, 56, 57, 58, 59, 60, 61, 62, 63, 64, 65, 66] (by decide +kernel) (by decide +kernel)
set_option maxRecDepth 20000 in
theorem gX1_dangerOf_X1_riskOf : GoodIn wsX1_dangerOf (wsV RX1 93 RX1 yX1_riskOf wsX1_riskOf) := goodIn_app (goodIn_of _ (by decide +kernel)) ggX1_dangerOf_X1_riskOf
set_option maxRecDepth 20000 in
theorem ggX1_dangerOf_X1_oddsIn : GoodIn wsX1_dangerOf wsX1_oddsIn := goodIn_r _ [42, 43, 44, 45, 4, 46, 47, 48, 27, 28, 29, 30, 31, 32, 33, 34, 35, 36, 8, 9, 10, 11, 12, 13, 14, 15, 16, 17, 18, 19, 20, 21, 22, 23, 24, 25, 26, 49, 50, 51, 52, 53, 54, 55, 56, 57, 58, 59, 60, 61, 62, 63, 64, 65, 66] (by decide +kernel) (by decide +kernel)
set_option maxRecDepth 20000 in
theorem gX1_dangerOf_X1_oddsIn : GoodIn wsX1_dangerOf (wsV RX1 96 RX1 yX1_oddsIn wsX1_oddsIn) := goodIn_app (goodIn_of _ (by decide +kernel)) ggX1_dangerOf_X1_oddsIn
theorem dX1_dangerOf_0 : decode cX1_dangerOf 0 = .ok (.aload_n 0, 1) := by decide +kernel
theorem dX1_dangerOf_1 : decode cX1_dangerOf 1 = .ok (.iload_n 1, 1) := by decide +kernel
theorem dX1_dangerOf_2 : decode cX1_dangerOf 2 = .ok (.invokevirtual 93, 3) := by decide +kernel
theorem dX1_dangerOf_5 : decode cX1_dangerOf 5 = .ok (.aload_n 0, 1) := by decide +kernel
theorem dX1_dangerOf_6 : decode cX1_dangerOf 6 = .ok (.iload_n 2, 1) := by decide +kernel
theorem dX1_dangerOf_7 : decode cX1_dangerOf 7 = .ok (.invokevirtual 96, 3) := by decide +kernel
theorem dX1_dangerOf_10 : decode cX1_dangerOf 10 = .ok (.imul, 1) := by decide +kernel
theorem dX1_dangerOf_11 : decode cX1_dangerOf 11 = .ok (.ireturn, 1) := by decide +kernel
set_option maxRecDepth 20000 in
theorem ggX1_ruleTurns_X1_farIn : GoodIn wsX1_ruleTurns wsX1_farIn := goodIn_r _ [5, 6, 7, 8, 9, 10, 11, 12, 13, 14, 15, 16, 17, 37, 38, 39, 40, 41, 42, 43, 44, 45, 46, 47, 48, 49, 50, 51] (by decide +kernel) (by decide +kernel)
set_option maxRecDepth 20000 in
theorem gX1_ruleTurns_X1_farIn : GoodIn wsX1_ruleTurns (wsV RX1 81 RX1 yX1_farIn wsX1_farIn) := goodIn_app (goodIn_of _ (by decide +kernel)) ggX1_ruleTurns_X1_farIn
set_option maxRecDepth 20000 in
theorem ggX1_ruleTurns_X1_lawGives : GoodIn wsX1_ruleTurns wsX1_lawGives := goodIn_r _ [21, 22, 23, 24, 25, 26, 27, 28, 29, 30, 31, 32, 33, 34, 35, 36, 37, 38, 39, 40, 41, 42, 43, 44, 45, 46, 47, 48, 49, 50, 51, 52, 53, 54] (by decide +kernel) (by decide +kernel)
set_option maxRecDepth 20000 in
theorem gX1_ruleTurns_X1_lawGives : GoodIn wsX1_ruleTurns (wsV RX1 85 RX1 yX1_lawGives wsX1_lawGives) := goodIn_app (goodIn_of _ (by decide +kernel)) ggX1_ruleTurns_X1_lawGives
theorem dX1_ruleTurns_0 : decode cX1_ruleTurns 0 = .ok (.aload_n 0, 1) := by decide +kernel
theorem dX1_ruleTurns_1 : decode cX1_ruleTurns 1 = .ok (.iload_n 2, 1) := by decide +kernel
theorem dX1_ruleTurns_2 : decode cX1_ruleTurns 2 = .ok (.invokevirtual 81, 3) := by decide +kernel
theorem dX1_ruleTurns_5 : decode cX1_ruleTurns 5 = .ok (.istore_n 3, 1) := by decide +kernel
theorem dX1_ruleTurns_6 : decode cX1_ruleTurns 6 = .ok (.aload_n 0, 1) := by decide +kernel
theorem dX1_ruleTurns_7 : decode cX1_ruleTurns 7 = .ok (.iconst 2, 1) := by decide +kernel
theorem dX1_ruleTurns_8 : decode cX1_ruleTurns 8 = .ok (.iload_n 3, 1) := by decide +kernel
theorem dX1_ruleTurns_9 : decode cX1_ruleTurns 9 = .ok (.iload_n 1, 1) := by decide +kernel
theorem dX1_ruleTurns_10 : decode cX1_ruleTurns 10 = .ok (.iload_n 2, 1) := by decide +kernel
theorem dX1_ruleTurns_11 : decode cX1_ruleTurns 11 = .ok (.iload_n 3, 1) := by decide +kernel
theorem dX1_ruleTurns_12 : decode cX1_ruleTurns 12 = .ok (.bipush 20, 2) := by decide +kernel
theorem dX1_ruleTurns_14 : decode cX1_ruleTurns 14 = .ok (.if_icmp .ge 7, 3) := by decide +kernel
theorem dX1_ruleTurns_17 : decode cX1_ruleTurns 17 = .ok (.iconst 1, 1) := by decide +kernel
theorem dX1_ruleTurns_18 : decode cX1_ruleTurns 18 = .ok (.goto 4, 3) := by decide +kernel
theorem dX1_ruleTurns_21 : decode cX1_ruleTurns 21 = .ok (.iconst 0, 1) := by decide +kernel
theorem dX1_ruleTurns_22 : decode cX1_ruleTurns 22 = .ok (.invokevirtual 85, 3) := by decide +kernel
theorem dX1_ruleTurns_25 : decode cX1_ruleTurns 25 = .ok (.ifCond .eq 7, 3) := by decide +kernel
theorem dX1_ruleTurns_28 : decode cX1_ruleTurns 28 = .ok (.iconst 1, 1) := by decide +kernel
theorem dX1_ruleTurns_29 : decode cX1_ruleTurns 29 = .ok (.goto 4, 3) := by decide +kernel
theorem dX1_ruleTurns_32 : decode cX1_ruleTurns 32 = .ok (.iconst 0, 1) := by decide +kernel
theorem dX1_ruleTurns_33 : decode cX1_ruleTurns 33 = .ok (.ireturn, 1) := by decide +kernel
set_option maxRecDepth 20000 in
theorem ggX1_lawGives_X4_valueFor : GoodIn wsX1_lawGives wsX4_valueFor := goodIn_r _ [8, 9, 10, 11, 7, 12, 13, 14, 15, 31, 32, 33] (by decide +kernel) (by decide +kernel)
set_option maxRecDepth 20000 in
theorem gX1_lawGives_X4_valueFor : GoodIn wsX1_lawGives (wsV RX1 99 RX4 yX4_valueFor wsX4_valueFor) := goodIn_app (goodIn_of _ (by decide +kernel)) ggX1_lawGives_X4_valueFor
theorem dX1_lawGives_0 : decode cX1_lawGives 0 = .ok (.aload_n 0, 1) := by decide +kernel
theorem dX1_lawGives_1 : decode cX1_lawGives 1 = .ok (.getfield 35, 3) := by decide +kernel
theorem dX1_lawGives_4 : decode cX1_lawGives 4 = .ok (.iload_n 1, 1) := by decide +kernel
theorem dX1_lawGives_5 : decode cX1_lawGives 5 = .ok (.iaload, 1) := by decide +kernel
theorem dX1_lawGives_6 : decode cX1_lawGives 6 = .ok (.istore 6, 2) := by decide +kernel
theorem dX1_lawGives_8 : decode cX1_lawGives 8 = .ok (.iload 6, 2) := by decide +kernel
theorem dX1_lawGives_10 : decode cX1_lawGives 10 = .ok (.ifCond .lt 20, 3) := by decide +kernel
theorem dX1_lawGives_13 : decode cX1_lawGives 13 = .ok (.iload 6, 2) := by decide +kernel
theorem dX1_lawGives_15 : decode cX1_lawGives 15 = .ok (.bipush 14, 2) := by decide +kernel
theorem dX1_lawGives_17 : decode cX1_lawGives 17 = .ok (.if_icmp .ge 13, 3) := by decide +kernel
theorem dX1_lawGives_20 : decode cX1_lawGives 20 = .ok (.aload_n 0, 1) := by decide +kernel
theorem dX1_lawGives_21 : decode cX1_lawGives 21 = .ok (.getfield 27, 3) := by decide +kernel
theorem dX1_lawGives_24 : decode cX1_lawGives 24 = .ok (.iload 6, 2) := by decide +kernel
theorem dX1_lawGives_26 : decode cX1_lawGives 26 = .ok (.aaload, 1) := by decide +kernel
theorem dX1_lawGives_27 : decode cX1_lawGives 27 = .ok (.ifnonnull 6, 3) := by decide +kernel
theorem dX1_lawGives_30 : decode cX1_lawGives 30 = .ok (.iload 5, 2) := by decide +kernel
theorem dX1_lawGives_32 : decode cX1_lawGives 32 = .ok (.ireturn, 1) := by decide +kernel
theorem dX1_lawGives_33 : decode cX1_lawGives 33 = .ok (.aload_n 0, 1) := by decide +kernel
theorem dX1_lawGives_34 : decode cX1_lawGives 34 = .ok (.getfield 27, 3) := by decide +kernel
theorem dX1_lawGives_37 : decode cX1_lawGives 37 = .ok (.iload 6, 2) := by decide +kernel
theorem dX1_lawGives_39 : decode cX1_lawGives 39 = .ok (.aaload, 1) := by decide +kernel
theorem dX1_lawGives_40 : decode cX1_lawGives 40 = .ok (.iload_n 2, 1) := by decide +kernel
theorem dX1_lawGives_41 : decode cX1_lawGives 41 = .ok (.iload_n 3, 1) := by decide +kernel
theorem dX1_lawGives_42 : decode cX1_lawGives 42 = .ok (.iload 4, 2) := by decide +kernel
theorem dX1_lawGives_44 : decode cX1_lawGives 44 = .ok (.aload_n 0, 1) := by decide +kernel
theorem dX1_lawGives_45 : decode cX1_lawGives 45 = .ok (.getfield 59, 3) := by decide +kernel
theorem dX1_lawGives_48 : decode cX1_lawGives 48 = .ok (.invokevirtual 99, 3) := by decide +kernel
theorem dX1_lawGives_51 : decode cX1_lawGives 51 = .ok (.ireturn, 1) := by decide +kernel
set_option maxRecDepth 20000 in
theorem ggX1_mayStep_X1_has : GoodIn wsX1_mayStep wsX1_has := goodIn_r _ [6, 7, 8, 9, 10, 11, 12, 13, 14, 15, 16, 17, 18, 19, 20, 21, 22] (by decide +kernel) (by decide +kernel)
set_option maxRecDepth 20000 in
theorem gX1_mayStep_X1_has : GoodIn wsX1_mayStep (wsV RX1 103 RX1 yX1_has wsX1_has) := goodIn_app (goodIn_of _ (by decide +kernel)) ggX1_mayStep_X1_has
theorem dX1_mayStep_0 : decode cX1_mayStep 0 = .ok (.aload_n 0, 1) := by decide +kernel
theorem dX1_mayStep_1 : decode cX1_mayStep 1 = .ok (.iload_n 1, 1) := by decide +kernel
theorem dX1_mayStep_2 : decode cX1_mayStep 2 = .ok (.invokevirtual 103, 3) := by decide +kernel
theorem dX1_mayStep_5 : decode cX1_mayStep 5 = .ok (.ifCond .ne 14, 3) := by decide +kernel
theorem dX1_mayStep_8 : decode cX1_mayStep 8 = .ok (.iload_n 2, 1) := by decide +kernel
theorem dX1_mayStep_9 : decode cX1_mayStep 9 = .ok (.iconst 2, 1) := by decide +kernel
theorem dX1_mayStep_10 : decode cX1_mayStep 10 = .ok (.if_icmp .ne 7, 3) := by decide +kernel
theorem dX1_mayStep_13 : decode cX1_mayStep 13 = .ok (.iconst 1, 1) := by decide +kernel
theorem dX1_mayStep_14 : decode cX1_mayStep 14 = .ok (.goto 4, 3) := by decide +kernel
theorem dX1_mayStep_17 : decode cX1_mayStep 17 = .ok (.iconst 0, 1) := by decide +kernel
theorem dX1_mayStep_18 : decode cX1_mayStep 18 = .ok (.ireturn, 1) := by decide +kernel
theorem dX1_mayStep_19 : decode cX1_mayStep 19 = .ok (.iload_n 2, 1) := by decide +kernel
theorem dX1_mayStep_20 : decode cX1_mayStep 20 = .ok (.iconst 3, 1) := by decide +kernel
theorem dX1_mayStep_21 : decode cX1_mayStep 21 = .ok (.if_icmp .ne 13, 3) := by decide +kernel
theorem dX1_mayStep_24 : decode cX1_mayStep 24 = .ok (.aload_n 0, 1) := by decide +kernel
theorem dX1_mayStep_25 : decode cX1_mayStep 25 = .ok (.getfield 18, 3) := by decide +kernel
theorem dX1_mayStep_28 : decode cX1_mayStep 28 = .ok (.iload_n 1, 1) := by decide +kernel
theorem dX1_mayStep_29 : decode cX1_mayStep 29 = .ok (.iaload, 1) := by decide +kernel
theorem dX1_mayStep_30 : decode cX1_mayStep 30 = .ok (.iconst 1, 1) := by decide +kernel
theorem dX1_mayStep_31 : decode cX1_mayStep 31 = .ok (.if_icmp .ne 7, 3) := by decide +kernel
theorem dX1_mayStep_34 : decode cX1_mayStep 34 = .ok (.iconst 1, 1) := by decide +kernel
theorem dX1_mayStep_35 : decode cX1_mayStep 35 = .ok (.goto 4, 3) := by decide +kernel
theorem dX1_mayStep_38 : decode cX1_mayStep 38 = .ok (.iconst 0, 1) := by decide +kernel
theorem dX1_mayStep_39 : decode cX1_mayStep 39 = .ok (.ireturn, 1) := by decide +kernel
theorem dX1_behindStep_0 : decode cX1_behindStep 0 = .ok (.iload_n 2, 1) := by decide +kernel
theorem dX1_behindStep_1 : decode cX1_behindStep 1 = .ok (.tableswitch 61 0 2 #[27, 46, 59], 27) := by decide +kernel
theorem dX1_behindStep_28 : decode cX1_behindStep 28 = .ok (.iload_n 1, 1) := by decide +kernel
theorem dX1_behindStep_29 : decode cX1_behindStep 29 = .ok (.iconst 1, 1) := by decide +kernel
theorem dX1_behindStep_30 : decode cX1_behindStep 30 = .ok (.iadd, 1) := by decide +kernel
theorem dX1_behindStep_31 : decode cX1_behindStep 31 = .ok (.aload_n 0, 1) := by decide +kernel
theorem dX1_behindStep_32 : decode cX1_behindStep 32 = .ok (.getfield 21, 3) := by decide +kernel
theorem dX1_behindStep_35 : decode cX1_behindStep 35 = .ok (.if_icmp .ge 9, 3) := by decide +kernel
theorem dX1_behindStep_38 : decode cX1_behindStep 38 = .ok (.iload_n 1, 1) := by decide +kernel
theorem dX1_behindStep_39 : decode cX1_behindStep 39 = .ok (.iconst 1, 1) := by decide +kernel
theorem dX1_behindStep_40 : decode cX1_behindStep 40 = .ok (.iadd, 1) := by decide +kernel
theorem dX1_behindStep_41 : decode cX1_behindStep 41 = .ok (.goto 5, 3) := by decide +kernel
theorem dX1_behindStep_44 : decode cX1_behindStep 44 = .ok (.ldc 34, 2) := by decide +kernel
theorem dX1_behindStep_46 : decode cX1_behindStep 46 = .ok (.ireturn, 1) := by decide +kernel
theorem dX1_behindStep_47 : decode cX1_behindStep 47 = .ok (.iload_n 1, 1) := by decide +kernel
theorem dX1_behindStep_48 : decode cX1_behindStep 48 = .ok (.ifCond .le 9, 3) := by decide +kernel
theorem dX1_behindStep_51 : decode cX1_behindStep 51 = .ok (.iload_n 1, 1) := by decide +kernel
theorem dX1_behindStep_52 : decode cX1_behindStep 52 = .ok (.iconst 1, 1) := by decide +kernel
theorem dX1_behindStep_53 : decode cX1_behindStep 53 = .ok (.isub, 1) := by decide +kernel
theorem dX1_behindStep_54 : decode cX1_behindStep 54 = .ok (.goto 5, 3) := by decide +kernel
theorem dX1_behindStep_57 : decode cX1_behindStep 57 = .ok (.ldc 34, 2) := by decide +kernel
theorem dX1_behindStep_59 : decode cX1_behindStep 59 = .ok (.ireturn, 1) := by decide +kernel
theorem dX1_behindStep_60 : decode cX1_behindStep 60 = .ok (.iload_n 1, 1) := by decide +kernel
theorem dX1_behindStep_61 : decode cX1_behindStep 61 = .ok (.ireturn, 1) := by decide +kernel
theorem dX1_behindStep_62 : decode cX1_behindStep 62 = .ok (.ldc 34, 2) := by decide +kernel
theorem dX1_behindStep_64 : decode cX1_behindStep 64 = .ok (.ireturn, 1) := by decide +kernel
set_option maxRecDepth 20000 in
theorem ggX1_passMinute_X1_has : GoodIn wsX1_passMinute wsX1_has := goodIn_r _ [10, 11, 69, 70, 71, 72, 73, 74, 75, 76, 77, 78, 79, 80, 81, 82, 83] (by decide +kernel) (by decide +kernel)
set_option maxRecDepth 20000 in
theorem gX1_passMinute_X1_has : GoodIn wsX1_passMinute (wsV RX1 103 RX1 yX1_has wsX1_has) := goodIn_app (goodIn_of _ (by decide +kernel)) ggX1_passMinute_X1_has
set_option maxRecDepth 20000 in
theorem ggX1_passMinute_X1_riskOf : GoodIn wsX1_passMinute wsX1_riskOf := goodIn_r _ [15, 16, 17, 18, 19, 20, 9, 21, 22, 23, 24, 25, 26, 27, 28, 29, 30, 31, 32, 33, 34, 35, 36, 37, 38, 39, 40, 41, 42, 43, 44, 45, 46, 47, 48, 69, 70, 71, 72, 73, 74, 75, 76, 77, 78, 79, 80, 81, 82, 83, 84, 85, 86] (by decide +kernel) (by decide +kernel)
set_option maxRecDepth 20000 in
theorem gX1_passMinute_X1_riskOf : GoodIn wsX1_passMinute (wsV RX1 93 RX1 yX1_riskOf wsX1_riskOf) := goodIn_app (goodIn_of _ (by decide +kernel)) ggX1_passMinute_X1_riskOf
set_option maxRecDepth 20000 in
theorem ggX1_passMinute_X1_oddsIn : GoodIn wsX1_passMinute wsX1_oddsIn := goodIn_r _ [52, 53, 54, 55, 9, 56, 4, 57, 37, 38, 39, 40, 41, 42, 43, 44, 45, 46, 18, 19, 20, 21, 22, 23, 24, 25, 26, 27, 28, 29, 30, 31, 32, 33, 34, 35, 36, 69, 70, 71, 72, 73, 74, 75, 76, 77, 78, 79, 80, 81, 82, 83, 84, 85, 86] (by decide +kernel) (by decide +kernel)
set_option maxRecDepth 20000 in
theorem gX1_passMinute_X1_oddsIn : GoodIn wsX1_passMinute (wsV RX1 96 RX1 yX1_oddsIn wsX1_oddsIn) := goodIn_app (goodIn_of _ (by decide +kernel)) ggX1_passMinute_X1_oddsIn
set_option maxRecDepth 20000 in
theorem ggX1_passMinute_X1_draw : GoodIn wsX1_passMinute wsX1_draw := goodIn_r _ [61, 62, 63, 69, 70, 71, 72, 73, 74, 75, 76, 77, 78, 79, 80, 81, 82, 83] (by decide +kernel) (by decide +kernel)
set_option maxRecDepth 20000 in
theorem gX1_passMinute_X1_draw : GoodIn wsX1_passMinute (wsV RX1 62 RX1 yX1_draw wsX1_draw) := goodIn_app (goodIn_of _ (by decide +kernel)) ggX1_passMinute_X1_draw
set_option maxRecDepth 20000 in
theorem ggX1_passMinute_X1_behindStep : GoodIn wsX1_passMinute wsX1_behindStep := goodIn_r _ [67, 11, 68, 69, 70, 71, 72, 73, 74, 75, 76, 77, 78, 79, 80, 81, 82, 83] (by decide +kernel) (by decide +kernel)
set_option maxRecDepth 20000 in
theorem gX1_passMinute_X1_behindStep : GoodIn wsX1_passMinute (wsV RX1 107 RX1 yX1_behindStep wsX1_behindStep) := goodIn_app (goodIn_of _ (by decide +kernel)) ggX1_passMinute_X1_behindStep
set_option maxRecDepth 20000 in
theorem ggX1_passMinute_X1_farIn : GoodIn wsX1_passMinute wsX1_farIn := goodIn_r _ [56, 4, 57, 37, 38, 39, 40, 41, 42, 43, 44, 45, 46, 69, 70, 71, 72, 73, 74, 75, 76, 77, 78, 79, 80, 81, 82, 83] (by decide +kernel) (by decide +kernel)
set_option maxRecDepth 20000 in
theorem gX1_passMinute_X1_farIn : GoodIn wsX1_passMinute (wsV RX1 81 RX1 yX1_farIn wsX1_farIn) := goodIn_app (goodIn_of _ (by decide +kernel)) ggX1_passMinute_X1_farIn
theorem dX1_passMinute_0 : decode cX1_passMinute 0 = .ok (.iconst 0, 1) := by decide +kernel
theorem dX1_passMinute_1 : decode cX1_passMinute 1 = .ok (.istore_n 2, 1) := by decide +kernel
theorem dX1_passMinute_2 : decode cX1_passMinute 2 = .ok (.aload_n 0, 1) := by decide +kernel
theorem dX1_passMinute_3 : decode cX1_passMinute 3 = .ok (.aload_n 0, 1) := by decide +kernel
theorem dX1_passMinute_4 : decode cX1_passMinute 4 = .ok (.getfield 44, 3) := by decide +kernel
theorem dX1_passMinute_7 : decode cX1_passMinute 7 = .ok (.invokevirtual 103, 3) := by decide +kernel
theorem dX1_passMinute_10 : decode cX1_passMinute 10 = .ok (.ifCond .eq 63, 3) := by decide +kernel
theorem dX1_passMinute_13 : decode cX1_passMinute 13 = .ok (.aload_n 0, 1) := by decide +kernel
theorem dX1_passMinute_14 : decode cX1_passMinute 14 = .ok (.aload_n 0, 1) := by decide +kernel
theorem dX1_passMinute_15 : decode cX1_passMinute 15 = .ok (.getfield 44, 3) := by decide +kernel
theorem dX1_passMinute_18 : decode cX1_passMinute 18 = .ok (.invokevirtual 93, 3) := by decide +kernel
theorem dX1_passMinute_21 : decode cX1_passMinute 21 = .ok (.aload_n 0, 1) := by decide +kernel
theorem dX1_passMinute_22 : decode cX1_passMinute 22 = .ok (.iconst 0, 1) := by decide +kernel
theorem dX1_passMinute_23 : decode cX1_passMinute 23 = .ok (.invokevirtual 96, 3) := by decide +kernel
theorem dX1_passMinute_26 : decode cX1_passMinute 26 = .ok (.imul, 1) := by decide +kernel
theorem dX1_passMinute_27 : decode cX1_passMinute 27 = .ok (.istore_n 2, 1) := by decide +kernel
theorem dX1_passMinute_28 : decode cX1_passMinute 28 = .ok (.aload_n 0, 1) := by decide +kernel
theorem dX1_passMinute_29 : decode cX1_passMinute 29 = .ok (.dup, 1) := by decide +kernel
theorem dX1_passMinute_30 : decode cX1_passMinute 30 = .ok (.getfield 50, 3) := by decide +kernel
theorem dX1_passMinute_33 : decode cX1_passMinute 33 = .ok (.iload_n 2, 1) := by decide +kernel
theorem dX1_passMinute_34 : decode cX1_passMinute 34 = .ok (.iadd, 1) := by decide +kernel
theorem dX1_passMinute_35 : decode cX1_passMinute 35 = .ok (.putfield 50, 3) := by decide +kernel
theorem dX1_passMinute_38 : decode cX1_passMinute 38 = .ok (.aload_n 0, 1) := by decide +kernel
theorem dX1_passMinute_39 : decode cX1_passMinute 39 = .ok (.invokevirtual 62, 3) := by decide +kernel
theorem dX1_passMinute_42 : decode cX1_passMinute 42 = .ok (.sipush 10000, 3) := by decide +kernel
theorem dX1_passMinute_45 : decode cX1_passMinute 45 = .ok (.irem, 1) := by decide +kernel
theorem dX1_passMinute_46 : decode cX1_passMinute 46 = .ok (.iload_n 2, 1) := by decide +kernel
theorem dX1_passMinute_47 : decode cX1_passMinute 47 = .ok (.if_icmp .ge 13, 3) := by decide +kernel
theorem dX1_passMinute_50 : decode cX1_passMinute 50 = .ok (.aload_n 0, 1) := by decide +kernel
theorem dX1_passMinute_51 : decode cX1_passMinute 51 = .ok (.dup, 1) := by decide +kernel
theorem dX1_passMinute_52 : decode cX1_passMinute 52 = .ok (.getfield 53, 3) := by decide +kernel
theorem dX1_passMinute_55 : decode cX1_passMinute 55 = .ok (.iconst 1, 1) := by decide +kernel
theorem dX1_passMinute_56 : decode cX1_passMinute 56 = .ok (.iadd, 1) := by decide +kernel
theorem dX1_passMinute_57 : decode cX1_passMinute 57 = .ok (.putfield 53, 3) := by decide +kernel
theorem dX1_passMinute_60 : decode cX1_passMinute 60 = .ok (.aload_n 0, 1) := by decide +kernel
theorem dX1_passMinute_61 : decode cX1_passMinute 61 = .ok (.aload_n 0, 1) := by decide +kernel
theorem dX1_passMinute_62 : decode cX1_passMinute 62 = .ok (.aload_n 0, 1) := by decide +kernel
theorem dX1_passMinute_63 : decode cX1_passMinute 63 = .ok (.getfield 44, 3) := by decide +kernel
theorem dX1_passMinute_66 : decode cX1_passMinute 66 = .ok (.iload_n 1, 1) := by decide +kernel
theorem dX1_passMinute_67 : decode cX1_passMinute 67 = .ok (.invokevirtual 107, 3) := by decide +kernel
theorem dX1_passMinute_70 : decode cX1_passMinute 70 = .ok (.putfield 44, 3) := by decide +kernel
theorem dX1_passMinute_73 : decode cX1_passMinute 73 = .ok (.aload_n 0, 1) := by decide +kernel
theorem dX1_passMinute_74 : decode cX1_passMinute 74 = .ok (.aload_n 0, 1) := by decide +kernel
theorem dX1_passMinute_75 : decode cX1_passMinute 75 = .ok (.iconst 1, 1) := by decide +kernel
theorem dX1_passMinute_76 : decode cX1_passMinute 76 = .ok (.invokevirtual 81, 3) := by decide +kernel
theorem dX1_passMinute_79 : decode cX1_passMinute 79 = .ok (.putfield 38, 3) := by decide +kernel
theorem dX1_passMinute_82 : decode cX1_passMinute 82 = .ok (.aload_n 0, 1) := by decide +kernel
theorem dX1_passMinute_83 : decode cX1_passMinute 83 = .ok (.dup, 1) := by decide +kernel
theorem dX1_passMinute_84 : decode cX1_passMinute 84 = .ok (.getfield 47, 3) := by decide +kernel
theorem dX1_passMinute_87 : decode cX1_passMinute 87 = .ok (.iconst 1, 1) := by decide +kernel
theorem dX1_passMinute_88 : decode cX1_passMinute 88 = .ok (.iadd, 1) := by decide +kernel
theorem dX1_passMinute_89 : decode cX1_passMinute 89 = .ok (.putfield 47, 3) := by decide +kernel
theorem dX1_passMinute_92 : decode cX1_passMinute 92 = .ok (.iload_n 2, 1) := by decide +kernel
theorem dX1_passMinute_93 : decode cX1_passMinute 93 = .ok (.ireturn, 1) := by decide +kernel
set_option maxRecDepth 20000 in
theorem ggX1_dangerByRule_X1_has : GoodIn wsX1_dangerByRule wsX1_has := goodIn_r _ [5, 6, 67, 68, 69, 70, 71, 72, 73, 74, 75, 76, 77, 78, 79, 80, 81] (by decide +kernel) (by decide +kernel)
set_option maxRecDepth 20000 in
theorem gX1_dangerByRule_X1_has : GoodIn wsX1_dangerByRule (wsV RX1 103 RX1 yX1_has wsX1_has) := goodIn_app (goodIn_of _ (by decide +kernel)) ggX1_dangerByRule_X1_has
set_option maxRecDepth 20000 in
theorem ggX1_dangerByRule_X1_dangerOf : GoodIn wsX1_dangerByRule wsX1_dangerOf := goodIn_r _ [10, 11, 12, 13, 4, 14, 15, 16, 17, 18, 19, 20, 21, 22, 23, 24, 25, 26, 27, 28, 29, 30, 31, 32, 33, 34, 35, 36, 37, 38, 39, 40, 41, 42, 43, 44, 45, 46, 47, 48, 49, 50, 51, 52, 53, 54, 55, 56, 57, 67, 68, 69, 70, 71, 72, 73, 74, 75, 76, 77, 78, 79, 80, 81, 82, 83, 84] (by decide +kernel) (by decide +kernel)
set_option maxRecDepth 20000 in
theorem gX1_dangerByRule_X1_dangerOf : GoodIn wsX1_dangerByRule (wsV RX1 110 RX1 yX1_dangerOf wsX1_dangerOf) := goodIn_app (goodIn_of _ (by decide +kernel)) ggX1_dangerByRule_X1_dangerOf
set_option maxRecDepth 20000 in
theorem ggX1_dangerByRule_X1_ruleTurns : GoodIn wsX1_dangerByRule wsX1_ruleTurns := goodIn_r _ [61, 52, 53, 54, 4, 55, 56, 57, 36, 37, 38, 39, 40, 41, 42, 43, 44, 45, 17, 18, 19, 20, 21, 22, 23, 24, 25, 26, 27, 28, 29, 30, 31, 32, 33, 34, 35, 67, 68, 69, 70, 71, 72, 73, 74, 75, 76, 77, 78, 79, 80, 81, 82, 83, 84] (by decide +kernel) (by decide +kernel)
set_option maxRecDepth 20000 in
theorem gX1_dangerByRule_X1_ruleTurns : GoodIn wsX1_dangerByRule (wsV RX1 113 RX1 yX1_ruleTurns wsX1_ruleTurns) := goodIn_app (goodIn_of _ (by decide +kernel)) ggX1_dangerByRule_X1_ruleTurns
set_option maxRecDepth 20000 in
theorem ggX1_dangerByRule_X1_behindStep : GoodIn wsX1_dangerByRule wsX1_behindStep := goodIn_r _ [65, 6, 66, 67, 68, 69, 70, 71, 72, 73, 74, 75, 76, 77, 78, 79, 80, 81] (by decide +kernel) (by decide +kernel)
set_option maxRecDepth 20000 in
theorem gX1_dangerByRule_X1_behindStep : GoodIn wsX1_dangerByRule (wsV RX1 107 RX1 yX1_behindStep wsX1_behindStep) := goodIn_app (goodIn_of _ (by decide +kernel)) ggX1_dangerByRule_X1_behindStep
theorem dX1_dangerByRule_0 : decode cX1_dangerByRule 0 = .ok (.iconst 0, 1) := by decide +kernel
theorem dX1_dangerByRule_1 : decode cX1_dangerByRule 1 = .ok (.istore_n 3, 1) := by decide +kernel
theorem dX1_dangerByRule_2 : decode cX1_dangerByRule 2 = .ok (.iload_n 1, 1) := by decide +kernel
theorem dX1_dangerByRule_3 : decode cX1_dangerByRule 3 = .ok (.istore 4, 2) := by decide +kernel
theorem dX1_dangerByRule_5 : decode cX1_dangerByRule 5 = .ok (.iconst 0, 1) := by decide +kernel
theorem dX1_dangerByRule_6 : decode cX1_dangerByRule 6 = .ok (.istore 5, 2) := by decide +kernel
theorem dX1_dangerByRule_8 : decode cX1_dangerByRule 8 = .ok (.iload 5, 2) := by decide +kernel
theorem dX1_dangerByRule_10 : decode cX1_dangerByRule 10 = .ok (.iload_n 2, 1) := by decide +kernel
theorem dX1_dangerByRule_11 : decode cX1_dangerByRule 11 = .ok (.if_icmp .ge 53, 3) := by decide +kernel
theorem dX1_dangerByRule_14 : decode cX1_dangerByRule 14 = .ok (.aload_n 0, 1) := by decide +kernel
theorem dX1_dangerByRule_15 : decode cX1_dangerByRule 15 = .ok (.iload 4, 2) := by decide +kernel
theorem dX1_dangerByRule_17 : decode cX1_dangerByRule 17 = .ok (.invokevirtual 103, 3) := by decide +kernel
theorem dX1_dangerByRule_20 : decode cX1_dangerByRule 20 = .ok (.ifCond .eq 44, 3) := by decide +kernel
theorem dX1_dangerByRule_23 : decode cX1_dangerByRule 23 = .ok (.iload_n 3, 1) := by decide +kernel
theorem dX1_dangerByRule_24 : decode cX1_dangerByRule 24 = .ok (.aload_n 0, 1) := by decide +kernel
theorem dX1_dangerByRule_25 : decode cX1_dangerByRule 25 = .ok (.iload 4, 2) := by decide +kernel
theorem dX1_dangerByRule_27 : decode cX1_dangerByRule 27 = .ok (.iload 5, 2) := by decide +kernel
theorem dX1_dangerByRule_29 : decode cX1_dangerByRule 29 = .ok (.invokevirtual 110, 3) := by decide +kernel
theorem dX1_dangerByRule_32 : decode cX1_dangerByRule 32 = .ok (.iadd, 1) := by decide +kernel
theorem dX1_dangerByRule_33 : decode cX1_dangerByRule 33 = .ok (.istore_n 3, 1) := by decide +kernel
theorem dX1_dangerByRule_34 : decode cX1_dangerByRule 34 = .ok (.aload_n 0, 1) := by decide +kernel
theorem dX1_dangerByRule_35 : decode cX1_dangerByRule 35 = .ok (.iload 4, 2) := by decide +kernel
theorem dX1_dangerByRule_37 : decode cX1_dangerByRule 37 = .ok (.aload_n 0, 1) := by decide +kernel
theorem dX1_dangerByRule_38 : decode cX1_dangerByRule 38 = .ok (.iload 4, 2) := by decide +kernel
theorem dX1_dangerByRule_40 : decode cX1_dangerByRule 40 = .ok (.iload 5, 2) := by decide +kernel
theorem dX1_dangerByRule_42 : decode cX1_dangerByRule 42 = .ok (.invokevirtual 113, 3) := by decide +kernel
theorem dX1_dangerByRule_45 : decode cX1_dangerByRule 45 = .ok (.ifCond .eq 7, 3) := by decide +kernel
theorem dX1_dangerByRule_48 : decode cX1_dangerByRule 48 = .ok (.iconst 1, 1) := by decide +kernel
theorem dX1_dangerByRule_49 : decode cX1_dangerByRule 49 = .ok (.goto 4, 3) := by decide +kernel
theorem dX1_dangerByRule_52 : decode cX1_dangerByRule 52 = .ok (.iconst 0, 1) := by decide +kernel
theorem dX1_dangerByRule_53 : decode cX1_dangerByRule 53 = .ok (.invokevirtual 107, 3) := by decide +kernel
theorem dX1_dangerByRule_56 : decode cX1_dangerByRule 56 = .ok (.istore 4, 2) := by decide +kernel
theorem dX1_dangerByRule_58 : decode cX1_dangerByRule 58 = .ok (.iinc 5 1, 3) := by decide +kernel
theorem dX1_dangerByRule_61 : decode cX1_dangerByRule 61 = .ok (.goto (-53), 3) := by decide +kernel
theorem dX1_dangerByRule_64 : decode cX1_dangerByRule 64 = .ok (.iload_n 3, 1) := by decide +kernel
theorem dX1_dangerByRule_65 : decode cX1_dangerByRule 65 = .ok (.ireturn, 1) := by decide +kernel
set_option maxRecDepth 20000 in
theorem ggX1_takeHeights_X2_isNumber : GoodIn wsX1_takeHeights wsX2_isNumber := goodIn_r _ [9, 10, 11, 37, 38, 39] (by decide +kernel) (by decide +kernel)
set_option maxRecDepth 20000 in
theorem gX1_takeHeights_X2_isNumber : GoodIn wsX1_takeHeights (wsV RX1 120 RX2 yX2_isNumber wsX2_isNumber) := goodIn_app (goodIn_of _ (by decide +kernel)) ggX1_takeHeights_X2_isNumber
set_option maxRecDepth 20000 in
theorem ggX1_takeHeights_X6_held : GoodIn wsX1_takeHeights wsX6_held := goodIn_r _ [14, 15, 16, 17, 18, 19, 20, 21] (by decide +kernel) (by decide +kernel)
set_option maxRecDepth 20000 in
theorem gX1_takeHeights_X6_held_n78 : GoodIn wsX1_takeHeights (wsX6_held) := ggX1_takeHeights_X6_held
theorem dX1_takeHeights_0 : decode cX1_takeHeights 0 = .ok (.iconst 0, 1) := by decide +kernel
theorem dX1_takeHeights_1 : decode cX1_takeHeights 1 = .ok (.istore_n 2, 1) := by decide +kernel
theorem dX1_takeHeights_2 : decode cX1_takeHeights 2 = .ok (.iconst 0, 1) := by decide +kernel
theorem dX1_takeHeights_3 : decode cX1_takeHeights 3 = .ok (.istore_n 3, 1) := by decide +kernel
theorem dX1_takeHeights_4 : decode cX1_takeHeights 4 = .ok (.iload_n 3, 1) := by decide +kernel
theorem dX1_takeHeights_5 : decode cX1_takeHeights 5 = .ok (.aload_n 0, 1) := by decide +kernel
theorem dX1_takeHeights_6 : decode cX1_takeHeights 6 = .ok (.getfield 21, 3) := by decide +kernel
theorem dX1_takeHeights_9 : decode cX1_takeHeights 9 = .ok (.if_icmp .ge 70, 3) := by decide +kernel
theorem dX1_takeHeights_12 : decode cX1_takeHeights 12 = .ok (.iload_n 3, 1) := by decide +kernel
theorem dX1_takeHeights_13 : decode cX1_takeHeights 13 = .ok (.aload_n 1, 1) := by decide +kernel
theorem dX1_takeHeights_14 : decode cX1_takeHeights 14 = .ok (.getfield 117, 3) := by decide +kernel
theorem dX1_takeHeights_17 : decode cX1_takeHeights 17 = .ok (.if_icmp .ge 62, 3) := by decide +kernel
theorem dX1_takeHeights_20 : decode cX1_takeHeights 20 = .ok (.aload_n 1, 1) := by decide +kernel
theorem dX1_takeHeights_21 : decode cX1_takeHeights 21 = .ok (.iload_n 3, 1) := by decide +kernel
theorem dX1_takeHeights_22 : decode cX1_takeHeights 22 = .ok (.invokevirtual 120, 3) := by decide +kernel
theorem dX1_takeHeights_25 : decode cX1_takeHeights 25 = .ok (.ifCond .eq 18, 3) := by decide +kernel
theorem dX1_takeHeights_28 : decode cX1_takeHeights 28 = .ok (.aload_n 1, 1) := by decide +kernel
