theorem dX0_init_0 : decode cX0_init 0 = .ok (.aload_n 0, 1) := by decide +kernel
theorem dX0_init_1 : decode cX0_init 1 = .ok (.invokespecial 3, 3) := by decide +kernel
theorem dX0_init_4 : decode cX0_init 4 = .ok (.aload_n 0, 1) := by decide +kernel
theorem dX0_init_5 : decode cX0_init 5 = .ok (.iload_n 1, 1) := by decide +kernel
theorem dX0_init_6 : decode cX0_init 6 = .ok (.newarray .long, 2) := by decide +kernel
theorem dX0_init_8 : decode cX0_init 8 = .ok (.putfield 9, 3) := by decide +kernel
theorem dX0_init_11 : decode cX0_init 11 = .ok (.aload_n 0, 1) := by decide +kernel
theorem dX0_init_12 : decode cX0_init 12 = .ok (.iload_n 1, 1) := by decide +kernel
theorem dX0_init_13 : decode cX0_init 13 = .ok (.newarray .long, 2) := by decide +kernel
theorem dX0_init_15 : decode cX0_init 15 = .ok (.putfield 15, 3) := by decide +kernel
theorem dX0_init_18 : decode cX0_init 18 = .ok (.aload_n 0, 1) := by decide +kernel
theorem dX0_init_19 : decode cX0_init 19 = .ok (.iload_n 1, 1) := by decide +kernel
theorem dX0_init_20 : decode cX0_init 20 = .ok (.iconst 2, 1) := by decide +kernel
theorem dX0_init_21 : decode cX0_init 21 = .ok (.idiv, 1) := by decide +kernel
theorem dX0_init_22 : decode cX0_init 22 = .ok (.newarray .long, 2) := by decide +kernel
theorem dX0_init_24 : decode cX0_init 24 = .ok (.putfield 18, 3) := by decide +kernel
theorem dX0_init_27 : decode cX0_init 27 = .ok (.return_, 1) := by decide +kernel
set_option maxRecDepth 20000 in
theorem ggX0_foldRows_X0_loadRemainders : GoodIn wsX0_foldRows wsX0_loadRemainders := goodIn_r _ [7, 8, 9, 10, 11] (by decide +kernel) (by decide +kernel)
set_option maxRecDepth 20000 in
theorem gX0_foldRows_X0_loadRemainders : GoodIn wsX0_foldRows (wsV RX0 25 RX0 yX0_loadRemainders wsX0_loadRemainders) := goodIn_app (goodIn_of _ (by decide +kernel)) ggX0_foldRows_X0_loadRemainders
set_option maxRecDepth 20000 in
theorem ggX0_foldRows_X0_foldRoundModulo : GoodIn wsX0_foldRows wsX0_foldRoundModulo := goodIn_r _ [15, 1, 2, 16, 17, 10, 18, 19, 20, 21, 22, 23, 24, 25, 6, 26, 27, 28, 29, 30, 31, 32, 33, 34, 35, 36, 37, 38, 39, 40, 41, 42, 43, 44, 45, 46, 61, 62, 63] (by decide +kernel) (by decide +kernel)
set_option maxRecDepth 20000 in
theorem gX0_foldRows_X0_foldRoundModulo : GoodIn wsX0_foldRows (wsV RX0 29 RX0 yX0_foldRoundModulo wsX0_foldRoundModulo) := goodIn_app (goodIn_of _ (by decide +kernel)) ggX0_foldRows_X0_foldRoundModulo
set_option maxRecDepth 20000 in
theorem ggX0_foldRows_X0_takeAwayUpperHalf : GoodIn wsX0_foldRows wsX0_takeAwayUpperHalf := goodIn_r _ [50, 1, 8, 9, 10, 11, 61, 62, 63] (by decide +kernel) (by decide +kernel)
set_option maxRecDepth 20000 in
theorem gX0_foldRows_X0_takeAwayUpperHalf : GoodIn wsX0_foldRows (wsV RX0 33 RX0 yX0_takeAwayUpperHalf wsX0_takeAwayUpperHalf) := goodIn_app (goodIn_of _ (by decide +kernel)) ggX0_foldRows_X0_takeAwayUpperHalf
set_option maxRecDepth 20000 in
theorem ggX0_foldRows_X0_storeRemainders : GoodIn wsX0_foldRows wsX0_storeRemainders := goodIn_r _ [54, 1, 55, 56, 57, 58, 59, 60, 61, 62, 63, 64] (by decide +kernel) (by decide +kernel)
set_option maxRecDepth 20000 in
theorem gX0_foldRows_X0_storeRemainders : GoodIn wsX0_foldRows (wsV RX0 36 RX0 yX0_storeRemainders wsX0_storeRemainders) := goodIn_app (goodIn_of _ (by decide +kernel)) ggX0_foldRows_X0_storeRemainders
theorem dX0_foldRows_0 : decode cX0_foldRows 0 = .ok (.iload 4, 2) := by decide +kernel
theorem dX0_foldRows_2 : decode cX0_foldRows 2 = .ok (.ifCond .ne 7, 3) := by decide +kernel
theorem dX0_foldRows_5 : decode cX0_foldRows 5 = .ok (.iload_n 3, 1) := by decide +kernel
theorem dX0_foldRows_6 : decode cX0_foldRows 6 = .ok (.goto 6, 3) := by decide +kernel
theorem dX0_foldRows_9 : decode cX0_foldRows 9 = .ok (.iload_n 3, 1) := by decide +kernel
theorem dX0_foldRows_10 : decode cX0_foldRows 10 = .ok (.iconst 1, 1) := by decide +kernel
theorem dX0_foldRows_11 : decode cX0_foldRows 11 = .ok (.iadd, 1) := by decide +kernel
theorem dX0_foldRows_12 : decode cX0_foldRows 12 = .ok (.istore 6, 2) := by decide +kernel
theorem dX0_foldRows_14 : decode cX0_foldRows 14 = .ok (.iconst 1, 1) := by decide +kernel
theorem dX0_foldRows_15 : decode cX0_foldRows 15 = .ok (.iload_n 3, 1) := by decide +kernel
theorem dX0_foldRows_16 : decode cX0_foldRows 16 = .ok (.ishl, 1) := by decide +kernel
theorem dX0_foldRows_17 : decode cX0_foldRows 17 = .ok (.istore 7, 2) := by decide +kernel
theorem dX0_foldRows_19 : decode cX0_foldRows 19 = .ok (.iconst 0, 1) := by decide +kernel
theorem dX0_foldRows_20 : decode cX0_foldRows 20 = .ok (.istore 8, 2) := by decide +kernel
theorem dX0_foldRows_22 : decode cX0_foldRows 22 = .ok (.iload 8, 2) := by decide +kernel
theorem dX0_foldRows_24 : decode cX0_foldRows 24 = .ok (.getstatic 21, 3) := by decide +kernel
theorem dX0_foldRows_27 : decode cX0_foldRows 27 = .ok (.arraylength, 1) := by decide +kernel
theorem dX0_foldRows_28 : decode cX0_foldRows 28 = .ok (.if_icmp .ge 90, 3) := by decide +kernel
theorem dX0_foldRows_31 : decode cX0_foldRows 31 = .ok (.getstatic 21, 3) := by decide +kernel
theorem dX0_foldRows_34 : decode cX0_foldRows 34 = .ok (.iload 8, 2) := by decide +kernel
theorem dX0_foldRows_36 : decode cX0_foldRows 36 = .ok (.iaload, 1) := by decide +kernel
theorem dX0_foldRows_37 : decode cX0_foldRows 37 = .ok (.istore 9, 2) := by decide +kernel
theorem dX0_foldRows_39 : decode cX0_foldRows 39 = .ok (.aload_n 0, 1) := by decide +kernel
theorem dX0_foldRows_40 : decode cX0_foldRows 40 = .ok (.aload_n 1, 1) := by decide +kernel
theorem dX0_foldRows_41 : decode cX0_foldRows 41 = .ok (.iload 7, 2) := by decide +kernel
theorem dX0_foldRows_43 : decode cX0_foldRows 43 = .ok (.aload_n 0, 1) := by decide +kernel
theorem dX0_foldRows_44 : decode cX0_foldRows 44 = .ok (.getfield 9, 3) := by decide +kernel
theorem dX0_foldRows_47 : decode cX0_foldRows 47 = .ok (.iload 9, 2) := by decide +kernel
theorem dX0_foldRows_49 : decode cX0_foldRows 49 = .ok (.invokevirtual 25, 3) := by decide +kernel
theorem dX0_foldRows_52 : decode cX0_foldRows 52 = .ok (.aload_n 0, 1) := by decide +kernel
theorem dX0_foldRows_53 : decode cX0_foldRows 53 = .ok (.aload_n 2, 1) := by decide +kernel
theorem dX0_foldRows_54 : decode cX0_foldRows 54 = .ok (.iload 7, 2) := by decide +kernel
theorem dX0_foldRows_56 : decode cX0_foldRows 56 = .ok (.aload_n 0, 1) := by decide +kernel
theorem dX0_foldRows_57 : decode cX0_foldRows 57 = .ok (.getfield 15, 3) := by decide +kernel
theorem dX0_foldRows_60 : decode cX0_foldRows 60 = .ok (.iload 9, 2) := by decide +kernel
theorem dX0_foldRows_62 : decode cX0_foldRows 62 = .ok (.invokevirtual 25, 3) := by decide +kernel
theorem dX0_foldRows_65 : decode cX0_foldRows 65 = .ok (.aload_n 0, 1) := by decide +kernel
theorem dX0_foldRows_66 : decode cX0_foldRows 66 = .ok (.iload 6, 2) := by decide +kernel
theorem dX0_foldRows_68 : decode cX0_foldRows 68 = .ok (.iload 9, 2) := by decide +kernel
theorem dX0_foldRows_70 : decode cX0_foldRows 70 = .ok (.invokevirtual 29, 3) := by decide +kernel
theorem dX0_foldRows_73 : decode cX0_foldRows 73 = .ok (.iload 4, 2) := by decide +kernel
theorem dX0_foldRows_75 : decode cX0_foldRows 75 = .ok (.iconst 1, 1) := by decide +kernel
theorem dX0_foldRows_76 : decode cX0_foldRows 76 = .ok (.if_icmp .ne 11, 3) := by decide +kernel
theorem dX0_foldRows_79 : decode cX0_foldRows 79 = .ok (.aload_n 0, 1) := by decide +kernel
theorem dX0_foldRows_80 : decode cX0_foldRows 80 = .ok (.iload 7, 2) := by decide +kernel
theorem dX0_foldRows_82 : decode cX0_foldRows 82 = .ok (.iload 9, 2) := by decide +kernel
theorem dX0_foldRows_84 : decode cX0_foldRows 84 = .ok (.invokevirtual 33, 3) := by decide +kernel
theorem dX0_foldRows_87 : decode cX0_foldRows 87 = .ok (.aload_n 0, 1) := by decide +kernel
theorem dX0_foldRows_88 : decode cX0_foldRows 88 = .ok (.iload 4, 2) := by decide +kernel
theorem dX0_foldRows_90 : decode cX0_foldRows 90 = .ok (.iconst 2, 1) := by decide +kernel
theorem dX0_foldRows_91 : decode cX0_foldRows 91 = .ok (.if_icmp .ne 12, 3) := by decide +kernel
theorem dX0_foldRows_94 : decode cX0_foldRows 94 = .ok (.iconst 2, 1) := by decide +kernel
theorem dX0_foldRows_95 : decode cX0_foldRows 95 = .ok (.iload 7, 2) := by decide +kernel
theorem dX0_foldRows_97 : decode cX0_foldRows 97 = .ok (.imul, 1) := by decide +kernel
theorem dX0_foldRows_98 : decode cX0_foldRows 98 = .ok (.iconst 1, 1) := by decide +kernel
theorem dX0_foldRows_99 : decode cX0_foldRows 99 = .ok (.isub, 1) := by decide +kernel
theorem dX0_foldRows_100 : decode cX0_foldRows 100 = .ok (.goto 5, 3) := by decide +kernel
theorem dX0_foldRows_103 : decode cX0_foldRows 103 = .ok (.iload 7, 2) := by decide +kernel
theorem dX0_foldRows_105 : decode cX0_foldRows 105 = .ok (.iload 8, 2) := by decide +kernel
theorem dX0_foldRows_107 : decode cX0_foldRows 107 = .ok (.aload 5, 2) := by decide +kernel
theorem dX0_foldRows_109 : decode cX0_foldRows 109 = .ok (.invokevirtual 36, 3) := by decide +kernel
theorem dX0_foldRows_112 : decode cX0_foldRows 112 = .ok (.iinc 8 1, 3) := by decide +kernel
theorem dX0_foldRows_115 : decode cX0_foldRows 115 = .ok (.goto (-93), 3) := by decide +kernel
theorem dX0_foldRows_118 : decode cX0_foldRows 118 = .ok (.return_, 1) := by decide +kernel
set_option maxRecDepth 20000 in
theorem ggX0_loadRemainders_X1_remainder : GoodIn wsX0_loadRemainders wsX1_remainder := goodIn_r _ [4] (by decide +kernel) (by decide +kernel)
set_option maxRecDepth 20000 in
theorem gX0_loadRemainders_X1_remainder : GoodIn wsX0_loadRemainders (va_wsS RX0 40 yX1_remainder wsX1_remainder) := goodIn_app (goodIn_of _ (by decide +kernel)) ggX0_loadRemainders_X1_remainder
theorem dX0_loadRemainders_0 : decode cX0_loadRemainders 0 = .ok (.iconst 0, 1) := by decide +kernel
theorem dX0_loadRemainders_1 : decode cX0_loadRemainders 1 = .ok (.istore 5, 2) := by decide +kernel
theorem dX0_loadRemainders_3 : decode cX0_loadRemainders 3 = .ok (.iload 5, 2) := by decide +kernel
theorem dX0_loadRemainders_5 : decode cX0_loadRemainders 5 = .ok (.iload_n 2, 1) := by decide +kernel
theorem dX0_loadRemainders_6 : decode cX0_loadRemainders 6 = .ok (.if_icmp .ge 30, 3) := by decide +kernel
theorem dX0_loadRemainders_9 : decode cX0_loadRemainders 9 = .ok (.aload_n 3, 1) := by decide +kernel
theorem dX0_loadRemainders_10 : decode cX0_loadRemainders 10 = .ok (.iload 5, 2) := by decide +kernel
theorem dX0_loadRemainders_12 : decode cX0_loadRemainders 12 = .ok (.aload_n 1, 1) := by decide +kernel
theorem dX0_loadRemainders_13 : decode cX0_loadRemainders 13 = .ok (.iload 5, 2) := by decide +kernel
theorem dX0_loadRemainders_15 : decode cX0_loadRemainders 15 = .ok (.iaload, 1) := by decide +kernel
theorem dX0_loadRemainders_16 : decode cX0_loadRemainders 16 = .ok (.i2l, 1) := by decide +kernel
theorem dX0_loadRemainders_17 : decode cX0_loadRemainders 17 = .ok (.iload 4, 2) := by decide +kernel
theorem dX0_loadRemainders_19 : decode cX0_loadRemainders 19 = .ok (.invokestatic 40, 3) := by decide +kernel
theorem dX0_loadRemainders_22 : decode cX0_loadRemainders 22 = .ok (.lastore, 1) := by decide +kernel
theorem dX0_loadRemainders_23 : decode cX0_loadRemainders 23 = .ok (.aload_n 3, 1) := by decide +kernel
theorem dX0_loadRemainders_24 : decode cX0_loadRemainders 24 = .ok (.iload 5, 2) := by decide +kernel
theorem dX0_loadRemainders_26 : decode cX0_loadRemainders 26 = .ok (.iload_n 2, 1) := by decide +kernel
theorem dX0_loadRemainders_27 : decode cX0_loadRemainders 27 = .ok (.iadd, 1) := by decide +kernel
theorem dX0_loadRemainders_28 : decode cX0_loadRemainders 28 = .ok (.lconst 0, 1) := by decide +kernel
theorem dX0_loadRemainders_29 : decode cX0_loadRemainders 29 = .ok (.lastore, 1) := by decide +kernel
theorem dX0_loadRemainders_30 : decode cX0_loadRemainders 30 = .ok (.iinc 5 1, 3) := by decide +kernel
theorem dX0_loadRemainders_33 : decode cX0_loadRemainders 33 = .ok (.goto (-30), 3) := by decide +kernel
theorem dX0_loadRemainders_36 : decode cX0_loadRemainders 36 = .ok (.return_, 1) := by decide +kernel
set_option maxRecDepth 20000 in
theorem ggX0_takeAwayUpperHalf_X1_remainder : GoodIn wsX0_takeAwayUpperHalf wsX1_remainder := goodIn_r _ [5] (by decide +kernel) (by decide +kernel)
set_option maxRecDepth 20000 in
theorem gX0_takeAwayUpperHalf_X1_remainder : GoodIn wsX0_takeAwayUpperHalf (va_wsS RX0 40 yX1_remainder wsX1_remainder) := goodIn_app (goodIn_of _ (by decide +kernel)) ggX0_takeAwayUpperHalf_X1_remainder
theorem dX0_takeAwayUpperHalf_0 : decode cX0_takeAwayUpperHalf 0 = .ok (.iconst 0, 1) := by decide +kernel
theorem dX0_takeAwayUpperHalf_1 : decode cX0_takeAwayUpperHalf 1 = .ok (.istore_n 3, 1) := by decide +kernel
theorem dX0_takeAwayUpperHalf_2 : decode cX0_takeAwayUpperHalf 2 = .ok (.iload_n 3, 1) := by decide +kernel
theorem dX0_takeAwayUpperHalf_3 : decode cX0_takeAwayUpperHalf 3 = .ok (.iload_n 1, 1) := by decide +kernel
theorem dX0_takeAwayUpperHalf_4 : decode cX0_takeAwayUpperHalf 4 = .ok (.if_icmp .ge 34, 3) := by decide +kernel
theorem dX0_takeAwayUpperHalf_7 : decode cX0_takeAwayUpperHalf 7 = .ok (.aload_n 0, 1) := by decide +kernel
theorem dX0_takeAwayUpperHalf_8 : decode cX0_takeAwayUpperHalf 8 = .ok (.getfield 9, 3) := by decide +kernel
theorem dX0_takeAwayUpperHalf_11 : decode cX0_takeAwayUpperHalf 11 = .ok (.iload_n 3, 1) := by decide +kernel
theorem dX0_takeAwayUpperHalf_12 : decode cX0_takeAwayUpperHalf 12 = .ok (.aload_n 0, 1) := by decide +kernel
theorem dX0_takeAwayUpperHalf_13 : decode cX0_takeAwayUpperHalf 13 = .ok (.getfield 9, 3) := by decide +kernel
theorem dX0_takeAwayUpperHalf_16 : decode cX0_takeAwayUpperHalf 16 = .ok (.iload_n 3, 1) := by decide +kernel
theorem dX0_takeAwayUpperHalf_17 : decode cX0_takeAwayUpperHalf 17 = .ok (.laload, 1) := by decide +kernel
theorem dX0_takeAwayUpperHalf_18 : decode cX0_takeAwayUpperHalf 18 = .ok (.aload_n 0, 1) := by decide +kernel
theorem dX0_takeAwayUpperHalf_19 : decode cX0_takeAwayUpperHalf 19 = .ok (.getfield 9, 3) := by decide +kernel
theorem dX0_takeAwayUpperHalf_22 : decode cX0_takeAwayUpperHalf 22 = .ok (.iload_n 3, 1) := by decide +kernel
theorem dX0_takeAwayUpperHalf_23 : decode cX0_takeAwayUpperHalf 23 = .ok (.iload_n 1, 1) := by decide +kernel
theorem dX0_takeAwayUpperHalf_24 : decode cX0_takeAwayUpperHalf 24 = .ok (.iadd, 1) := by decide +kernel
theorem dX0_takeAwayUpperHalf_25 : decode cX0_takeAwayUpperHalf 25 = .ok (.laload, 1) := by decide +kernel
theorem dX0_takeAwayUpperHalf_26 : decode cX0_takeAwayUpperHalf 26 = .ok (.lsub, 1) := by decide +kernel
theorem dX0_takeAwayUpperHalf_27 : decode cX0_takeAwayUpperHalf 27 = .ok (.iload_n 2, 1) := by decide +kernel
theorem dX0_takeAwayUpperHalf_28 : decode cX0_takeAwayUpperHalf 28 = .ok (.invokestatic 40, 3) := by decide +kernel
theorem dX0_takeAwayUpperHalf_31 : decode cX0_takeAwayUpperHalf 31 = .ok (.lastore, 1) := by decide +kernel
theorem dX0_takeAwayUpperHalf_32 : decode cX0_takeAwayUpperHalf 32 = .ok (.iinc 3 1, 3) := by decide +kernel
theorem dX0_takeAwayUpperHalf_35 : decode cX0_takeAwayUpperHalf 35 = .ok (.goto (-33), 3) := by decide +kernel
theorem dX0_takeAwayUpperHalf_38 : decode cX0_takeAwayUpperHalf 38 = .ok (.return_, 1) := by decide +kernel
set_option maxRecDepth 20000 in
theorem ggX0_storeRemainders_X2_setRemainder : GoodIn wsX0_storeRemainders wsX2_setRemainder := goodIn_r _ [6, 7, 11] (by decide +kernel) (by decide +kernel)
set_option maxRecDepth 20000 in
theorem gX0_storeRemainders_X2_setRemainder : GoodIn wsX0_storeRemainders (wsV RX0 46 RX2 yX2_setRemainder wsX2_setRemainder) := goodIn_app (goodIn_of _ (by decide +kernel)) ggX0_storeRemainders_X2_setRemainder
theorem dX0_storeRemainders_0 : decode cX0_storeRemainders 0 = .ok (.iconst 0, 1) := by decide +kernel
theorem dX0_storeRemainders_1 : decode cX0_storeRemainders 1 = .ok (.istore 4, 2) := by decide +kernel
theorem dX0_storeRemainders_3 : decode cX0_storeRemainders 3 = .ok (.iload 4, 2) := by decide +kernel
theorem dX0_storeRemainders_5 : decode cX0_storeRemainders 5 = .ok (.iload_n 1, 1) := by decide +kernel
theorem dX0_storeRemainders_6 : decode cX0_storeRemainders 6 = .ok (.if_icmp .ge 23, 3) := by decide +kernel
theorem dX0_storeRemainders_9 : decode cX0_storeRemainders 9 = .ok (.aload_n 3, 1) := by decide +kernel
theorem dX0_storeRemainders_10 : decode cX0_storeRemainders 10 = .ok (.iload_n 2, 1) := by decide +kernel
theorem dX0_storeRemainders_11 : decode cX0_storeRemainders 11 = .ok (.iload 4, 2) := by decide +kernel
theorem dX0_storeRemainders_13 : decode cX0_storeRemainders 13 = .ok (.aload_n 0, 1) := by decide +kernel
theorem dX0_storeRemainders_14 : decode cX0_storeRemainders 14 = .ok (.getfield 9, 3) := by decide +kernel
theorem dX0_storeRemainders_17 : decode cX0_storeRemainders 17 = .ok (.iload 4, 2) := by decide +kernel
theorem dX0_storeRemainders_19 : decode cX0_storeRemainders 19 = .ok (.laload, 1) := by decide +kernel
theorem dX0_storeRemainders_20 : decode cX0_storeRemainders 20 = .ok (.invokevirtual 46, 3) := by decide +kernel
theorem dX0_storeRemainders_23 : decode cX0_storeRemainders 23 = .ok (.iinc 4 1, 3) := by decide +kernel
theorem dX0_storeRemainders_26 : decode cX0_storeRemainders 26 = .ok (.goto (-23), 3) := by decide +kernel
theorem dX0_storeRemainders_29 : decode cX0_storeRemainders 29 = .ok (.return_, 1) := by decide +kernel
set_option maxRecDepth 20000 in
theorem ggX0_foldRoundModulo_X1_rootOfOne : GoodIn wsX0_foldRoundModulo wsX1_rootOfOne := goodIn_r _ [6, 7, 8, 9, 5, 10] (by decide +kernel) (by decide +kernel)
set_option maxRecDepth 20000 in
theorem gX0_foldRoundModulo_X1_rootOfOne : GoodIn wsX0_foldRoundModulo (va_wsS RX0 52 yX1_rootOfOne wsX1_rootOfOne) := goodIn_app (goodIn_of _ (by decide +kernel)) ggX0_foldRoundModulo_X1_rootOfOne
set_option maxRecDepth 20000 in
theorem ggX0_foldRoundModulo_X0_listRootPowers : GoodIn wsX0_foldRoundModulo wsX0_listRootPowers := goodIn_r _ [15, 16, 36, 37, 38] (by decide +kernel) (by decide +kernel)
set_option maxRecDepth 20000 in
theorem gX0_foldRoundModulo_X0_listRootPowers : GoodIn wsX0_foldRoundModulo (wsV RX0 56 RX0 yX0_listRootPowers wsX0_listRootPowers) := goodIn_app (goodIn_of _ (by decide +kernel)) ggX0_foldRoundModulo_X0_listRootPowers
set_option maxRecDepth 20000 in
theorem ggX0_foldRoundModulo_X0_turnIntoValues : GoodIn wsX0_foldRoundModulo wsX0_turnIntoValues := goodIn_r _ [20, 21, 22, 23, 14, 24, 16, 36, 37, 38] (by decide +kernel) (by decide +kernel)
set_option maxRecDepth 20000 in
theorem gX0_foldRoundModulo_X0_turnIntoValues : GoodIn wsX0_foldRoundModulo (wsV RX0 60 RX0 yX0_turnIntoValues wsX0_turnIntoValues) := goodIn_app (goodIn_of _ (by decide +kernel)) ggX0_foldRoundModulo_X0_turnIntoValues
set_option maxRecDepth 20000 in
theorem ggX0_foldRoundModulo_X1_inverse : GoodIn wsX0_foldRoundModulo wsX1_inverse := goodIn_r _ [27, 8, 9, 5, 10] (by decide +kernel) (by decide +kernel)
set_option maxRecDepth 20000 in
theorem gX0_foldRoundModulo_X1_inverse : GoodIn wsX0_foldRoundModulo (va_wsS RX0 64 yX1_inverse wsX1_inverse) := goodIn_app (goodIn_of _ (by decide +kernel)) ggX0_foldRoundModulo_X1_inverse
set_option maxRecDepth 20000 in
theorem ggX0_foldRoundModulo_X0_turnBack : GoodIn wsX0_foldRoundModulo wsX0_turnBack := goodIn_r _ [31, 32, 33, 34, 14, 35, 16, 25, 26, 5, 27, 8, 9, 10, 36, 37, 38] (by decide +kernel) (by decide +kernel)
set_option maxRecDepth 20000 in
theorem gX0_foldRoundModulo_X0_turnBack : GoodIn wsX0_foldRoundModulo (wsV RX0 67 RX0 yX0_turnBack wsX0_turnBack) := goodIn_app (goodIn_of _ (by decide +kernel)) ggX0_foldRoundModulo_X0_turnBack
theorem dX0_foldRoundModulo_0 : decode cX0_foldRoundModulo 0 = .ok (.iconst 1, 1) := by decide +kernel
theorem dX0_foldRoundModulo_1 : decode cX0_foldRoundModulo 1 = .ok (.iload_n 1, 1) := by decide +kernel
theorem dX0_foldRoundModulo_2 : decode cX0_foldRoundModulo 2 = .ok (.ishl, 1) := by decide +kernel
theorem dX0_foldRoundModulo_3 : decode cX0_foldRoundModulo 3 = .ok (.istore_n 3, 1) := by decide +kernel
theorem dX0_foldRoundModulo_4 : decode cX0_foldRoundModulo 4 = .ok (.iload_n 1, 1) := by decide +kernel
theorem dX0_foldRoundModulo_5 : decode cX0_foldRoundModulo 5 = .ok (.iload_n 2, 1) := by decide +kernel
theorem dX0_foldRoundModulo_6 : decode cX0_foldRoundModulo 6 = .ok (.invokestatic 52, 3) := by decide +kernel
theorem dX0_foldRoundModulo_9 : decode cX0_foldRoundModulo 9 = .ok (.lstore 4, 2) := by decide +kernel
theorem dX0_foldRoundModulo_11 : decode cX0_foldRoundModulo 11 = .ok (.aload_n 0, 1) := by decide +kernel
theorem dX0_foldRoundModulo_12 : decode cX0_foldRoundModulo 12 = .ok (.lload 4, 2) := by decide +kernel
theorem dX0_foldRoundModulo_14 : decode cX0_foldRoundModulo 14 = .ok (.iload_n 3, 1) := by decide +kernel
theorem dX0_foldRoundModulo_15 : decode cX0_foldRoundModulo 15 = .ok (.iconst 2, 1) := by decide +kernel
theorem dX0_foldRoundModulo_16 : decode cX0_foldRoundModulo 16 = .ok (.idiv, 1) := by decide +kernel
theorem dX0_foldRoundModulo_17 : decode cX0_foldRoundModulo 17 = .ok (.iload_n 2, 1) := by decide +kernel
theorem dX0_foldRoundModulo_18 : decode cX0_foldRoundModulo 18 = .ok (.invokevirtual 56, 3) := by decide +kernel
theorem dX0_foldRoundModulo_21 : decode cX0_foldRoundModulo 21 = .ok (.aload_n 0, 1) := by decide +kernel
theorem dX0_foldRoundModulo_22 : decode cX0_foldRoundModulo 22 = .ok (.aload_n 0, 1) := by decide +kernel
theorem dX0_foldRoundModulo_23 : decode cX0_foldRoundModulo 23 = .ok (.getfield 9, 3) := by decide +kernel
theorem dX0_foldRoundModulo_26 : decode cX0_foldRoundModulo 26 = .ok (.iload_n 1, 1) := by decide +kernel
theorem dX0_foldRoundModulo_27 : decode cX0_foldRoundModulo 27 = .ok (.iload_n 2, 1) := by decide +kernel
theorem dX0_foldRoundModulo_28 : decode cX0_foldRoundModulo 28 = .ok (.invokevirtual 60, 3) := by decide +kernel
theorem dX0_foldRoundModulo_31 : decode cX0_foldRoundModulo 31 = .ok (.aload_n 0, 1) := by decide +kernel
theorem dX0_foldRoundModulo_32 : decode cX0_foldRoundModulo 32 = .ok (.aload_n 0, 1) := by decide +kernel
theorem dX0_foldRoundModulo_33 : decode cX0_foldRoundModulo 33 = .ok (.getfield 15, 3) := by decide +kernel
theorem dX0_foldRoundModulo_36 : decode cX0_foldRoundModulo 36 = .ok (.iload_n 1, 1) := by decide +kernel
theorem dX0_foldRoundModulo_37 : decode cX0_foldRoundModulo 37 = .ok (.iload_n 2, 1) := by decide +kernel
theorem dX0_foldRoundModulo_38 : decode cX0_foldRoundModulo 38 = .ok (.invokevirtual 60, 3) := by decide +kernel
theorem dX0_foldRoundModulo_41 : decode cX0_foldRoundModulo 41 = .ok (.iconst 0, 1) := by decide +kernel
theorem dX0_foldRoundModulo_42 : decode cX0_foldRoundModulo 42 = .ok (.istore 6, 2) := by decide +kernel
theorem dX0_foldRoundModulo_44 : decode cX0_foldRoundModulo 44 = .ok (.iload 6, 2) := by decide +kernel
theorem dX0_foldRoundModulo_46 : decode cX0_foldRoundModulo 46 = .ok (.iload_n 3, 1) := by decide +kernel
theorem dX0_foldRoundModulo_47 : decode cX0_foldRoundModulo 47 = .ok (.if_icmp .ge 34, 3) := by decide +kernel
theorem dX0_foldRoundModulo_50 : decode cX0_foldRoundModulo 50 = .ok (.aload_n 0, 1) := by decide +kernel
theorem dX0_foldRoundModulo_51 : decode cX0_foldRoundModulo 51 = .ok (.getfield 9, 3) := by decide +kernel
theorem dX0_foldRoundModulo_54 : decode cX0_foldRoundModulo 54 = .ok (.iload 6, 2) := by decide +kernel
theorem dX0_foldRoundModulo_56 : decode cX0_foldRoundModulo 56 = .ok (.aload_n 0, 1) := by decide +kernel
theorem dX0_foldRoundModulo_57 : decode cX0_foldRoundModulo 57 = .ok (.getfield 9, 3) := by decide +kernel
theorem dX0_foldRoundModulo_60 : decode cX0_foldRoundModulo 60 = .ok (.iload 6, 2) := by decide +kernel
theorem dX0_foldRoundModulo_62 : decode cX0_foldRoundModulo 62 = .ok (.laload, 1) := by decide +kernel
theorem dX0_foldRoundModulo_63 : decode cX0_foldRoundModulo 63 = .ok (.aload_n 0, 1) := by decide +kernel
theorem dX0_foldRoundModulo_64 : decode cX0_foldRoundModulo 64 = .ok (.getfield 15, 3) := by decide +kernel
theorem dX0_foldRoundModulo_67 : decode cX0_foldRoundModulo 67 = .ok (.iload 6, 2) := by decide +kernel
theorem dX0_foldRoundModulo_69 : decode cX0_foldRoundModulo 69 = .ok (.laload, 1) := by decide +kernel
theorem dX0_foldRoundModulo_70 : decode cX0_foldRoundModulo 70 = .ok (.lmul, 1) := by decide +kernel
theorem dX0_foldRoundModulo_71 : decode cX0_foldRoundModulo 71 = .ok (.iload_n 2, 1) := by decide +kernel
theorem dX0_foldRoundModulo_72 : decode cX0_foldRoundModulo 72 = .ok (.i2l, 1) := by decide +kernel
theorem dX0_foldRoundModulo_73 : decode cX0_foldRoundModulo 73 = .ok (.lrem, 1) := by decide +kernel
theorem dX0_foldRoundModulo_74 : decode cX0_foldRoundModulo 74 = .ok (.lastore, 1) := by decide +kernel
theorem dX0_foldRoundModulo_75 : decode cX0_foldRoundModulo 75 = .ok (.iinc 6 1, 3) := by decide +kernel
theorem dX0_foldRoundModulo_78 : decode cX0_foldRoundModulo 78 = .ok (.goto (-34), 3) := by decide +kernel
theorem dX0_foldRoundModulo_81 : decode cX0_foldRoundModulo 81 = .ok (.aload_n 0, 1) := by decide +kernel
theorem dX0_foldRoundModulo_82 : decode cX0_foldRoundModulo 82 = .ok (.lload 4, 2) := by decide +kernel
theorem dX0_foldRoundModulo_84 : decode cX0_foldRoundModulo 84 = .ok (.iload_n 2, 1) := by decide +kernel
theorem dX0_foldRoundModulo_85 : decode cX0_foldRoundModulo 85 = .ok (.invokestatic 64, 3) := by decide +kernel
theorem dX0_foldRoundModulo_88 : decode cX0_foldRoundModulo 88 = .ok (.iload_n 3, 1) := by decide +kernel
theorem dX0_foldRoundModulo_89 : decode cX0_foldRoundModulo 89 = .ok (.iconst 2, 1) := by decide +kernel
theorem dX0_foldRoundModulo_90 : decode cX0_foldRoundModulo 90 = .ok (.idiv, 1) := by decide +kernel
theorem dX0_foldRoundModulo_91 : decode cX0_foldRoundModulo 91 = .ok (.iload_n 2, 1) := by decide +kernel
theorem dX0_foldRoundModulo_92 : decode cX0_foldRoundModulo 92 = .ok (.invokevirtual 56, 3) := by decide +kernel
theorem dX0_foldRoundModulo_95 : decode cX0_foldRoundModulo 95 = .ok (.aload_n 0, 1) := by decide +kernel
theorem dX0_foldRoundModulo_96 : decode cX0_foldRoundModulo 96 = .ok (.aload_n 0, 1) := by decide +kernel
theorem dX0_foldRoundModulo_97 : decode cX0_foldRoundModulo 97 = .ok (.getfield 9, 3) := by decide +kernel
theorem dX0_foldRoundModulo_100 : decode cX0_foldRoundModulo 100 = .ok (.iload_n 1, 1) := by decide +kernel
theorem dX0_foldRoundModulo_101 : decode cX0_foldRoundModulo 101 = .ok (.iload_n 2, 1) := by decide +kernel
theorem dX0_foldRoundModulo_102 : decode cX0_foldRoundModulo 102 = .ok (.invokevirtual 67, 3) := by decide +kernel
theorem dX0_foldRoundModulo_105 : decode cX0_foldRoundModulo 105 = .ok (.return_, 1) := by decide +kernel
theorem dX0_listRootPowers_0 : decode cX0_listRootPowers 0 = .ok (.aload_n 0, 1) := by decide +kernel
theorem dX0_listRootPowers_1 : decode cX0_listRootPowers 1 = .ok (.getfield 18, 3) := by decide +kernel
theorem dX0_listRootPowers_4 : decode cX0_listRootPowers 4 = .ok (.iconst 0, 1) := by decide +kernel
theorem dX0_listRootPowers_5 : decode cX0_listRootPowers 5 = .ok (.lconst 1, 1) := by decide +kernel
theorem dX0_listRootPowers_6 : decode cX0_listRootPowers 6 = .ok (.lastore, 1) := by decide +kernel
theorem dX0_listRootPowers_7 : decode cX0_listRootPowers 7 = .ok (.iconst 1, 1) := by decide +kernel
theorem dX0_listRootPowers_8 : decode cX0_listRootPowers 8 = .ok (.istore 5, 2) := by decide +kernel
theorem dX0_listRootPowers_10 : decode cX0_listRootPowers 10 = .ok (.iload 5, 2) := by decide +kernel
theorem dX0_listRootPowers_12 : decode cX0_listRootPowers 12 = .ok (.iload_n 3, 1) := by decide +kernel
theorem dX0_listRootPowers_13 : decode cX0_listRootPowers 13 = .ok (.if_icmp .ge 31, 3) := by decide +kernel
theorem dX0_listRootPowers_16 : decode cX0_listRootPowers 16 = .ok (.aload_n 0, 1) := by decide +kernel
theorem dX0_listRootPowers_17 : decode cX0_listRootPowers 17 = .ok (.getfield 18, 3) := by decide +kernel
theorem dX0_listRootPowers_20 : decode cX0_listRootPowers 20 = .ok (.iload 5, 2) := by decide +kernel
theorem dX0_listRootPowers_22 : decode cX0_listRootPowers 22 = .ok (.aload_n 0, 1) := by decide +kernel
theorem dX0_listRootPowers_23 : decode cX0_listRootPowers 23 = .ok (.getfield 18, 3) := by decide +kernel
theorem dX0_listRootPowers_26 : decode cX0_listRootPowers 26 = .ok (.iload 5, 2) := by decide +kernel
theorem dX0_listRootPowers_28 : decode cX0_listRootPowers 28 = .ok (.iconst 1, 1) := by decide +kernel
theorem dX0_listRootPowers_29 : decode cX0_listRootPowers 29 = .ok (.isub, 1) := by decide +kernel
theorem dX0_listRootPowers_30 : decode cX0_listRootPowers 30 = .ok (.laload, 1) := by decide +kernel
theorem dX0_listRootPowers_31 : decode cX0_listRootPowers 31 = .ok (.lload_n 1, 1) := by decide +kernel
theorem dX0_listRootPowers_32 : decode cX0_listRootPowers 32 = .ok (.lmul, 1) := by decide +kernel
theorem dX0_listRootPowers_33 : decode cX0_listRootPowers 33 = .ok (.iload 4, 2) := by decide +kernel
theorem dX0_listRootPowers_35 : decode cX0_listRootPowers 35 = .ok (.i2l, 1) := by decide +kernel
theorem dX0_listRootPowers_36 : decode cX0_listRootPowers 36 = .ok (.lrem, 1) := by decide +kernel
theorem dX0_listRootPowers_37 : decode cX0_listRootPowers 37 = .ok (.lastore, 1) := by decide +kernel
theorem dX0_listRootPowers_38 : decode cX0_listRootPowers 38 = .ok (.iinc 5 1, 3) := by decide +kernel
theorem dX0_listRootPowers_41 : decode cX0_listRootPowers 41 = .ok (.goto (-31), 3) := by decide +kernel
theorem dX0_listRootPowers_44 : decode cX0_listRootPowers 44 = .ok (.return_, 1) := by decide +kernel
set_option maxRecDepth 20000 in
theorem ggX0_turnIntoValues_X0_splitBlock : GoodIn wsX0_turnIntoValues wsX0_splitBlock := goodIn_r _ [5, 6, 7, 8, 9] (by decide +kernel) (by decide +kernel)
set_option maxRecDepth 20000 in
theorem gX0_turnIntoValues_X0_splitBlock : GoodIn wsX0_turnIntoValues (wsV RX0 70 RX0 yX0_splitBlock wsX0_splitBlock) := goodIn_app (goodIn_of _ (by decide +kernel)) ggX0_turnIntoValues_X0_splitBlock
theorem dX0_turnIntoValues_0 : decode cX0_turnIntoValues 0 = .ok (.iconst 1, 1) := by decide +kernel
theorem dX0_turnIntoValues_1 : decode cX0_turnIntoValues 1 = .ok (.iload_n 2, 1) := by decide +kernel
theorem dX0_turnIntoValues_2 : decode cX0_turnIntoValues 2 = .ok (.ishl, 1) := by decide +kernel
theorem dX0_turnIntoValues_3 : decode cX0_turnIntoValues 3 = .ok (.istore 4, 2) := by decide +kernel
theorem dX0_turnIntoValues_5 : decode cX0_turnIntoValues 5 = .ok (.iload_n 2, 1) := by decide +kernel
theorem dX0_turnIntoValues_6 : decode cX0_turnIntoValues 6 = .ok (.iconst 1, 1) := by decide +kernel
theorem dX0_turnIntoValues_7 : decode cX0_turnIntoValues 7 = .ok (.isub, 1) := by decide +kernel
theorem dX0_turnIntoValues_8 : decode cX0_turnIntoValues 8 = .ok (.istore 5, 2) := by decide +kernel
theorem dX0_turnIntoValues_10 : decode cX0_turnIntoValues 10 = .ok (.iload 5, 2) := by decide +kernel
theorem dX0_turnIntoValues_12 : decode cX0_turnIntoValues 12 = .ok (.ifCond .lt 54, 3) := by decide +kernel
theorem dX0_turnIntoValues_15 : decode cX0_turnIntoValues 15 = .ok (.iconst 1, 1) := by decide +kernel
theorem dX0_turnIntoValues_16 : decode cX0_turnIntoValues 16 = .ok (.iload 5, 2) := by decide +kernel
theorem dX0_turnIntoValues_18 : decode cX0_turnIntoValues 18 = .ok (.ishl, 1) := by decide +kernel
theorem dX0_turnIntoValues_19 : decode cX0_turnIntoValues 19 = .ok (.istore 6, 2) := by decide +kernel
theorem dX0_turnIntoValues_21 : decode cX0_turnIntoValues 21 = .ok (.iconst 0, 1) := by decide +kernel
theorem dX0_turnIntoValues_22 : decode cX0_turnIntoValues 22 = .ok (.istore 7, 2) := by decide +kernel
theorem dX0_turnIntoValues_24 : decode cX0_turnIntoValues 24 = .ok (.iload 7, 2) := by decide +kernel
theorem dX0_turnIntoValues_26 : decode cX0_turnIntoValues 26 = .ok (.iload 4, 2) := by decide +kernel
theorem dX0_turnIntoValues_28 : decode cX0_turnIntoValues 28 = .ok (.if_icmp .ge 32, 3) := by decide +kernel
theorem dX0_turnIntoValues_31 : decode cX0_turnIntoValues 31 = .ok (.aload_n 0, 1) := by decide +kernel
theorem dX0_turnIntoValues_32 : decode cX0_turnIntoValues 32 = .ok (.aload_n 1, 1) := by decide +kernel
theorem dX0_turnIntoValues_33 : decode cX0_turnIntoValues 33 = .ok (.iload 7, 2) := by decide +kernel
theorem dX0_turnIntoValues_35 : decode cX0_turnIntoValues 35 = .ok (.iload 6, 2) := by decide +kernel
theorem dX0_turnIntoValues_37 : decode cX0_turnIntoValues 37 = .ok (.iload 4, 2) := by decide +kernel
theorem dX0_turnIntoValues_39 : decode cX0_turnIntoValues 39 = .ok (.iconst 2, 1) := by decide +kernel
theorem dX0_turnIntoValues_40 : decode cX0_turnIntoValues 40 = .ok (.iload 6, 2) := by decide +kernel
theorem dX0_turnIntoValues_42 : decode cX0_turnIntoValues 42 = .ok (.imul, 1) := by decide +kernel
theorem dX0_turnIntoValues_43 : decode cX0_turnIntoValues 43 = .ok (.idiv, 1) := by decide +kernel
theorem dX0_turnIntoValues_44 : decode cX0_turnIntoValues 44 = .ok (.iload_n 3, 1) := by decide +kernel
theorem dX0_turnIntoValues_45 : decode cX0_turnIntoValues 45 = .ok (.invokevirtual 70, 3) := by decide +kernel
theorem dX0_turnIntoValues_48 : decode cX0_turnIntoValues 48 = .ok (.iload 7, 2) := by decide +kernel
theorem dX0_turnIntoValues_50 : decode cX0_turnIntoValues 50 = .ok (.iconst 2, 1) := by decide +kernel
theorem dX0_turnIntoValues_51 : decode cX0_turnIntoValues 51 = .ok (.iload 6, 2) := by decide +kernel
theorem dX0_turnIntoValues_53 : decode cX0_turnIntoValues 53 = .ok (.imul, 1) := by decide +kernel
theorem dX0_turnIntoValues_54 : decode cX0_turnIntoValues 54 = .ok (.iadd, 1) := by decide +kernel
theorem dX0_turnIntoValues_55 : decode cX0_turnIntoValues 55 = .ok (.istore 7, 2) := by decide +kernel
theorem dX0_turnIntoValues_57 : decode cX0_turnIntoValues 57 = .ok (.goto (-33), 3) := by decide +kernel
theorem dX0_turnIntoValues_60 : decode cX0_turnIntoValues 60 = .ok (.iinc 5 (-1), 3) := by decide +kernel
theorem dX0_turnIntoValues_63 : decode cX0_turnIntoValues 63 = .ok (.goto (-53), 3) := by decide +kernel
theorem dX0_turnIntoValues_66 : decode cX0_turnIntoValues 66 = .ok (.return_, 1) := by decide +kernel
set_option maxRecDepth 20000 in
theorem ggX0_turnBack_X0_joinBlock : GoodIn wsX0_turnBack wsX0_joinBlock := goodIn_r _ [5, 6, 14, 15, 16] (by decide +kernel) (by decide +kernel)
set_option maxRecDepth 20000 in
theorem gX0_turnBack_X0_joinBlock : GoodIn wsX0_turnBack (wsV RX0 74 RX0 yX0_joinBlock wsX0_joinBlock) := goodIn_app (goodIn_of _ (by decide +kernel)) ggX0_turnBack_X0_joinBlock
set_option maxRecDepth 20000 in
theorem ggX0_turnBack_X1_inverse : GoodIn wsX0_turnBack wsX1_inverse := goodIn_r _ [10, 11, 12, 9, 13] (by decide +kernel) (by decide +kernel)
set_option maxRecDepth 20000 in
theorem gX0_turnBack_X1_inverse : GoodIn wsX0_turnBack (va_wsS RX0 64 yX1_inverse wsX1_inverse) := goodIn_app (goodIn_of _ (by decide +kernel)) ggX0_turnBack_X1_inverse
theorem dX0_turnBack_0 : decode cX0_turnBack 0 = .ok (.iconst 1, 1) := by decide +kernel
theorem dX0_turnBack_1 : decode cX0_turnBack 1 = .ok (.iload_n 2, 1) := by decide +kernel
theorem dX0_turnBack_2 : decode cX0_turnBack 2 = .ok (.ishl, 1) := by decide +kernel
theorem dX0_turnBack_3 : decode cX0_turnBack 3 = .ok (.istore 4, 2) := by decide +kernel
theorem dX0_turnBack_5 : decode cX0_turnBack 5 = .ok (.iconst 0, 1) := by decide +kernel
theorem dX0_turnBack_6 : decode cX0_turnBack 6 = .ok (.istore 5, 2) := by decide +kernel
theorem dX0_turnBack_8 : decode cX0_turnBack 8 = .ok (.iload 5, 2) := by decide +kernel
theorem dX0_turnBack_10 : decode cX0_turnBack 10 = .ok (.iload_n 2, 1) := by decide +kernel
theorem dX0_turnBack_11 : decode cX0_turnBack 11 = .ok (.if_icmp .ge 54, 3) := by decide +kernel
theorem dX0_turnBack_14 : decode cX0_turnBack 14 = .ok (.iconst 1, 1) := by decide +kernel
theorem dX0_turnBack_15 : decode cX0_turnBack 15 = .ok (.iload 5, 2) := by decide +kernel
theorem dX0_turnBack_17 : decode cX0_turnBack 17 = .ok (.ishl, 1) := by decide +kernel
theorem dX0_turnBack_18 : decode cX0_turnBack 18 = .ok (.istore 6, 2) := by decide +kernel
theorem dX0_turnBack_20 : decode cX0_turnBack 20 = .ok (.iconst 0, 1) := by decide +kernel
theorem dX0_turnBack_21 : decode cX0_turnBack 21 = .ok (.istore 7, 2) := by decide +kernel
theorem dX0_turnBack_23 : decode cX0_turnBack 23 = .ok (.iload 7, 2) := by decide +kernel
theorem dX0_turnBack_25 : decode cX0_turnBack 25 = .ok (.iload 4, 2) := by decide +kernel
theorem dX0_turnBack_27 : decode cX0_turnBack 27 = .ok (.if_icmp .ge 32, 3) := by decide +kernel
theorem dX0_turnBack_30 : decode cX0_turnBack 30 = .ok (.aload_n 0, 1) := by decide +kernel
theorem dX0_turnBack_31 : decode cX0_turnBack 31 = .ok (.aload_n 1, 1) := by decide +kernel
theorem dX0_turnBack_32 : decode cX0_turnBack 32 = .ok (.iload 7, 2) := by decide +kernel
theorem dX0_turnBack_34 : decode cX0_turnBack 34 = .ok (.iload 6, 2) := by decide +kernel
theorem dX0_turnBack_36 : decode cX0_turnBack 36 = .ok (.iload 4, 2) := by decide +kernel
theorem dX0_turnBack_38 : decode cX0_turnBack 38 = .ok (.iconst 2, 1) := by decide +kernel
theorem dX0_turnBack_39 : decode cX0_turnBack 39 = .ok (.iload 6, 2) := by decide +kernel
theorem dX0_turnBack_41 : decode cX0_turnBack 41 = .ok (.imul, 1) := by decide +kernel
theorem dX0_turnBack_42 : decode cX0_turnBack 42 = .ok (.idiv, 1) := by decide +kernel
theorem dX0_turnBack_43 : decode cX0_turnBack 43 = .ok (.iload_n 3, 1) := by decide +kernel
theorem dX0_turnBack_44 : decode cX0_turnBack 44 = .ok (.invokevirtual 74, 3) := by decide +kernel
theorem dX0_turnBack_47 : decode cX0_turnBack 47 = .ok (.iload 7, 2) := by decide +kernel
theorem dX0_turnBack_49 : decode cX0_turnBack 49 = .ok (.iconst 2, 1) := by decide +kernel
theorem dX0_turnBack_50 : decode cX0_turnBack 50 = .ok (.iload 6, 2) := by decide +kernel
theorem dX0_turnBack_52 : decode cX0_turnBack 52 = .ok (.imul, 1) := by decide +kernel
theorem dX0_turnBack_53 : decode cX0_turnBack 53 = .ok (.iadd, 1) := by decide +kernel
theorem dX0_turnBack_54 : decode cX0_turnBack 54 = .ok (.istore 7, 2) := by decide +kernel
theorem dX0_turnBack_56 : decode cX0_turnBack 56 = .ok (.goto (-33), 3) := by decide +kernel
theorem dX0_turnBack_59 : decode cX0_turnBack 59 = .ok (.iinc 5 1, 3) := by decide +kernel
theorem dX0_turnBack_62 : decode cX0_turnBack 62 = .ok (.goto (-54), 3) := by decide +kernel
theorem dX0_turnBack_65 : decode cX0_turnBack 65 = .ok (.iload 4, 2) := by decide +kernel
theorem dX0_turnBack_67 : decode cX0_turnBack 67 = .ok (.i2l, 1) := by decide +kernel
theorem dX0_turnBack_68 : decode cX0_turnBack 68 = .ok (.iload_n 3, 1) := by decide +kernel
theorem dX0_turnBack_69 : decode cX0_turnBack 69 = .ok (.invokestatic 64, 3) := by decide +kernel
theorem dX0_turnBack_72 : decode cX0_turnBack 72 = .ok (.lstore 5, 2) := by decide +kernel
theorem dX0_turnBack_74 : decode cX0_turnBack 74 = .ok (.iconst 0, 1) := by decide +kernel
theorem dX0_turnBack_75 : decode cX0_turnBack 75 = .ok (.istore 7, 2) := by decide +kernel
theorem dX0_turnBack_77 : decode cX0_turnBack 77 = .ok (.iload 7, 2) := by decide +kernel
theorem dX0_turnBack_79 : decode cX0_turnBack 79 = .ok (.iload 4, 2) := by decide +kernel
theorem dX0_turnBack_81 : decode cX0_turnBack 81 = .ok (.if_icmp .ge 23, 3) := by decide +kernel
theorem dX0_turnBack_84 : decode cX0_turnBack 84 = .ok (.aload_n 1, 1) := by decide +kernel
theorem dX0_turnBack_85 : decode cX0_turnBack 85 = .ok (.iload 7, 2) := by decide +kernel
theorem dX0_turnBack_87 : decode cX0_turnBack 87 = .ok (.aload_n 1, 1) := by decide +kernel
theorem dX0_turnBack_88 : decode cX0_turnBack 88 = .ok (.iload 7, 2) := by decide +kernel
theorem dX0_turnBack_90 : decode cX0_turnBack 90 = .ok (.laload, 1) := by decide +kernel
theorem dX0_turnBack_91 : decode cX0_turnBack 91 = .ok (.lload 5, 2) := by decide +kernel
theorem dX0_turnBack_93 : decode cX0_turnBack 93 = .ok (.lmul, 1) := by decide +kernel
theorem dX0_turnBack_94 : decode cX0_turnBack 94 = .ok (.iload_n 3, 1) := by decide +kernel
theorem dX0_turnBack_95 : decode cX0_turnBack 95 = .ok (.i2l, 1) := by decide +kernel
theorem dX0_turnBack_96 : decode cX0_turnBack 96 = .ok (.lrem, 1) := by decide +kernel
theorem dX0_turnBack_97 : decode cX0_turnBack 97 = .ok (.lastore, 1) := by decide +kernel
theorem dX0_turnBack_98 : decode cX0_turnBack 98 = .ok (.iinc 7 1, 3) := by decide +kernel
theorem dX0_turnBack_101 : decode cX0_turnBack 101 = .ok (.goto (-24), 3) := by decide +kernel
theorem dX0_turnBack_104 : decode cX0_turnBack 104 = .ok (.return_, 1) := by decide +kernel
theorem dX0_splitBlock_0 : decode cX0_splitBlock 0 = .ok (.iconst 0, 1) := by decide +kernel
theorem dX0_splitBlock_1 : decode cX0_splitBlock 1 = .ok (.istore 6, 2) := by decide +kernel
theorem dX0_splitBlock_3 : decode cX0_splitBlock 3 = .ok (.iload 6, 2) := by decide +kernel
theorem dX0_splitBlock_5 : decode cX0_splitBlock 5 = .ok (.iload_n 3, 1) := by decide +kernel
theorem dX0_splitBlock_6 : decode cX0_splitBlock 6 = .ok (.if_icmp .ge 92, 3) := by decide +kernel
theorem dX0_splitBlock_9 : decode cX0_splitBlock 9 = .ok (.aload_n 1, 1) := by decide +kernel
theorem dX0_splitBlock_10 : decode cX0_splitBlock 10 = .ok (.iload_n 2, 1) := by decide +kernel
theorem dX0_splitBlock_11 : decode cX0_splitBlock 11 = .ok (.iload 6, 2) := by decide +kernel
theorem dX0_splitBlock_13 : decode cX0_splitBlock 13 = .ok (.iadd, 1) := by decide +kernel
theorem dX0_splitBlock_14 : decode cX0_splitBlock 14 = .ok (.laload, 1) := by decide +kernel
theorem dX0_splitBlock_15 : decode cX0_splitBlock 15 = .ok (.lstore 7, 2) := by decide +kernel
theorem dX0_splitBlock_17 : decode cX0_splitBlock 17 = .ok (.aload_n 1, 1) := by decide +kernel
theorem dX0_splitBlock_18 : decode cX0_splitBlock 18 = .ok (.iload_n 2, 1) := by decide +kernel
theorem dX0_splitBlock_19 : decode cX0_splitBlock 19 = .ok (.iload_n 3, 1) := by decide +kernel
theorem dX0_splitBlock_20 : decode cX0_splitBlock 20 = .ok (.iadd, 1) := by decide +kernel
theorem dX0_splitBlock_21 : decode cX0_splitBlock 21 = .ok (.iload 6, 2) := by decide +kernel
theorem dX0_splitBlock_23 : decode cX0_splitBlock 23 = .ok (.iadd, 1) := by decide +kernel
theorem dX0_splitBlock_24 : decode cX0_splitBlock 24 = .ok (.laload, 1) := by decide +kernel
theorem dX0_splitBlock_25 : decode cX0_splitBlock 25 = .ok (.lstore 9, 2) := by decide +kernel
theorem dX0_splitBlock_27 : decode cX0_splitBlock 27 = .ok (.lload 7, 2) := by decide +kernel
theorem dX0_splitBlock_29 : decode cX0_splitBlock 29 = .ok (.lload 9, 2) := by decide +kernel
theorem dX0_splitBlock_31 : decode cX0_splitBlock 31 = .ok (.ladd, 1) := by decide +kernel
theorem dX0_splitBlock_32 : decode cX0_splitBlock 32 = .ok (.lstore 11, 2) := by decide +kernel
theorem dX0_splitBlock_34 : decode cX0_splitBlock 34 = .ok (.aload_n 1, 1) := by decide +kernel
theorem dX0_splitBlock_35 : decode cX0_splitBlock 35 = .ok (.iload_n 2, 1) := by decide +kernel
theorem dX0_splitBlock_36 : decode cX0_splitBlock 36 = .ok (.iload 6, 2) := by decide +kernel
theorem dX0_splitBlock_38 : decode cX0_splitBlock 38 = .ok (.iadd, 1) := by decide +kernel
theorem dX0_splitBlock_39 : decode cX0_splitBlock 39 = .ok (.lload 11, 2) := by decide +kernel
theorem dX0_splitBlock_41 : decode cX0_splitBlock 41 = .ok (.iload 5, 2) := by decide +kernel
theorem dX0_splitBlock_43 : decode cX0_splitBlock 43 = .ok (.i2l, 1) := by decide +kernel
theorem dX0_splitBlock_44 : decode cX0_splitBlock 44 = .ok (.lcmp, 1) := by decide +kernel
theorem dX0_splitBlock_45 : decode cX0_splitBlock 45 = .ok (.ifCond .lt 12, 3) := by decide +kernel
theorem dX0_splitBlock_48 : decode cX0_splitBlock 48 = .ok (.lload 11, 2) := by decide +kernel
theorem dX0_splitBlock_50 : decode cX0_splitBlock 50 = .ok (.iload 5, 2) := by decide +kernel
theorem dX0_splitBlock_52 : decode cX0_splitBlock 52 = .ok (.i2l, 1) := by decide +kernel
theorem dX0_splitBlock_53 : decode cX0_splitBlock 53 = .ok (.lsub, 1) := by decide +kernel
theorem dX0_splitBlock_54 : decode cX0_splitBlock 54 = .ok (.goto 5, 3) := by decide +kernel
theorem dX0_splitBlock_57 : decode cX0_splitBlock 57 = .ok (.lload 11, 2) := by decide +kernel
theorem dX0_splitBlock_59 : decode cX0_splitBlock 59 = .ok (.lastore, 1) := by decide +kernel
theorem dX0_splitBlock_60 : decode cX0_splitBlock 60 = .ok (.aload_n 1, 1) := by decide +kernel
theorem dX0_splitBlock_61 : decode cX0_splitBlock 61 = .ok (.iload_n 2, 1) := by decide +kernel
theorem dX0_splitBlock_62 : decode cX0_splitBlock 62 = .ok (.iload_n 3, 1) := by decide +kernel
theorem dX0_splitBlock_63 : decode cX0_splitBlock 63 = .ok (.iadd, 1) := by decide +kernel
theorem dX0_splitBlock_64 : decode cX0_splitBlock 64 = .ok (.iload 6, 2) := by decide +kernel
theorem dX0_splitBlock_66 : decode cX0_splitBlock 66 = .ok (.iadd, 1) := by decide +kernel
theorem dX0_splitBlock_67 : decode cX0_splitBlock 67 = .ok (.lload 7, 2) := by decide +kernel
theorem dX0_splitBlock_69 : decode cX0_splitBlock 69 = .ok (.lload 9, 2) := by decide +kernel
theorem dX0_splitBlock_71 : decode cX0_splitBlock 71 = .ok (.lsub, 1) := by decide +kernel
theorem dX0_splitBlock_72 : decode cX0_splitBlock 72 = .ok (.iload 5, 2) := by decide +kernel
theorem dX0_splitBlock_74 : decode cX0_splitBlock 74 = .ok (.i2l, 1) := by decide +kernel
theorem dX0_splitBlock_75 : decode cX0_splitBlock 75 = .ok (.ladd, 1) := by decide +kernel
theorem dX0_splitBlock_76 : decode cX0_splitBlock 76 = .ok (.aload_n 0, 1) := by decide +kernel
theorem dX0_splitBlock_77 : decode cX0_splitBlock 77 = .ok (.getfield 18, 3) := by decide +kernel
theorem dX0_splitBlock_80 : decode cX0_splitBlock 80 = .ok (.iload 6, 2) := by decide +kernel
theorem dX0_splitBlock_82 : decode cX0_splitBlock 82 = .ok (.iload 4, 2) := by decide +kernel
theorem dX0_splitBlock_84 : decode cX0_splitBlock 84 = .ok (.imul, 1) := by decide +kernel
theorem dX0_splitBlock_85 : decode cX0_splitBlock 85 = .ok (.laload, 1) := by decide +kernel
theorem dX0_splitBlock_86 : decode cX0_splitBlock 86 = .ok (.lmul, 1) := by decide +kernel
theorem dX0_splitBlock_87 : decode cX0_splitBlock 87 = .ok (.iload 5, 2) := by decide +kernel
theorem dX0_splitBlock_89 : decode cX0_splitBlock 89 = .ok (.i2l, 1) := by decide +kernel
theorem dX0_splitBlock_90 : decode cX0_splitBlock 90 = .ok (.lrem, 1) := by decide +kernel
theorem dX0_splitBlock_91 : decode cX0_splitBlock 91 = .ok (.lastore, 1) := by decide +kernel
theorem dX0_splitBlock_92 : decode cX0_splitBlock 92 = .ok (.iinc 6 1, 3) := by decide +kernel
theorem dX0_splitBlock_95 : decode cX0_splitBlock 95 = .ok (.goto (-92), 3) := by decide +kernel
theorem dX0_splitBlock_98 : decode cX0_splitBlock 98 = .ok (.return_, 1) := by decide +kernel
theorem dX0_joinBlock_0 : decode cX0_joinBlock 0 = .ok (.iconst 0, 1) := by decide +kernel
theorem dX0_joinBlock_1 : decode cX0_joinBlock 1 = .ok (.istore 6, 2) := by decide +kernel
theorem dX0_joinBlock_3 : decode cX0_joinBlock 3 = .ok (.iload 6, 2) := by decide +kernel
theorem dX0_joinBlock_5 : decode cX0_joinBlock 5 = .ok (.iload_n 3, 1) := by decide +kernel
theorem dX0_joinBlock_6 : decode cX0_joinBlock 6 = .ok (.if_icmp .ge 108, 3) := by decide +kernel
theorem dX0_joinBlock_9 : decode cX0_joinBlock 9 = .ok (.aload_n 1, 1) := by decide +kernel
theorem dX0_joinBlock_10 : decode cX0_joinBlock 10 = .ok (.iload_n 2, 1) := by decide +kernel
theorem dX0_joinBlock_11 : decode cX0_joinBlock 11 = .ok (.iload 6, 2) := by decide +kernel
theorem dX0_joinBlock_13 : decode cX0_joinBlock 13 = .ok (.iadd, 1) := by decide +kernel
theorem dX0_joinBlock_14 : decode cX0_joinBlock 14 = .ok (.laload, 1) := by decide +kernel
theorem dX0_joinBlock_15 : decode cX0_joinBlock 15 = .ok (.lstore 7, 2) := by decide +kernel
theorem dX0_joinBlock_17 : decode cX0_joinBlock 17 = .ok (.aload_n 1, 1) := by decide +kernel
theorem dX0_joinBlock_18 : decode cX0_joinBlock 18 = .ok (.iload_n 2, 1) := by decide +kernel
theorem dX0_joinBlock_19 : decode cX0_joinBlock 19 = .ok (.iload_n 3, 1) := by decide +kernel
theorem dX0_joinBlock_20 : decode cX0_joinBlock 20 = .ok (.iadd, 1) := by decide +kernel
theorem dX0_joinBlock_21 : decode cX0_joinBlock 21 = .ok (.iload 6, 2) := by decide +kernel
theorem dX0_joinBlock_23 : decode cX0_joinBlock 23 = .ok (.iadd, 1) := by decide +kernel
theorem dX0_joinBlock_24 : decode cX0_joinBlock 24 = .ok (.laload, 1) := by decide +kernel
theorem dX0_joinBlock_25 : decode cX0_joinBlock 25 = .ok (.aload_n 0, 1) := by decide +kernel
theorem dX0_joinBlock_26 : decode cX0_joinBlock 26 = .ok (.getfield 18, 3) := by decide +kernel
theorem dX0_joinBlock_29 : decode cX0_joinBlock 29 = .ok (.iload 6, 2) := by decide +kernel
theorem dX0_joinBlock_31 : decode cX0_joinBlock 31 = .ok (.iload 4, 2) := by decide +kernel
theorem dX0_joinBlock_33 : decode cX0_joinBlock 33 = .ok (.imul, 1) := by decide +kernel
theorem dX0_joinBlock_34 : decode cX0_joinBlock 34 = .ok (.laload, 1) := by decide +kernel
theorem dX0_joinBlock_35 : decode cX0_joinBlock 35 = .ok (.lmul, 1) := by decide +kernel
theorem dX0_joinBlock_36 : decode cX0_joinBlock 36 = .ok (.iload 5, 2) := by decide +kernel
theorem dX0_joinBlock_38 : decode cX0_joinBlock 38 = .ok (.i2l, 1) := by decide +kernel
theorem dX0_joinBlock_39 : decode cX0_joinBlock 39 = .ok (.lrem, 1) := by decide +kernel
theorem dX0_joinBlock_40 : decode cX0_joinBlock 40 = .ok (.lstore 9, 2) := by decide +kernel
theorem dX0_joinBlock_42 : decode cX0_joinBlock 42 = .ok (.lload 7, 2) := by decide +kernel
theorem dX0_joinBlock_44 : decode cX0_joinBlock 44 = .ok (.lload 9, 2) := by decide +kernel
theorem dX0_joinBlock_46 : decode cX0_joinBlock 46 = .ok (.ladd, 1) := by decide +kernel
theorem dX0_joinBlock_47 : decode cX0_joinBlock 47 = .ok (.lstore 11, 2) := by decide +kernel
theorem dX0_joinBlock_49 : decode cX0_joinBlock 49 = .ok (.lload 7, 2) := by decide +kernel
theorem dX0_joinBlock_51 : decode cX0_joinBlock 51 = .ok (.lload 9, 2) := by decide +kernel
theorem dX0_joinBlock_53 : decode cX0_joinBlock 53 = .ok (.lsub, 1) := by decide +kernel
theorem dX0_joinBlock_54 : decode cX0_joinBlock 54 = .ok (.lstore 13, 2) := by decide +kernel
theorem dX0_joinBlock_56 : decode cX0_joinBlock 56 = .ok (.aload_n 1, 1) := by decide +kernel
theorem dX0_joinBlock_57 : decode cX0_joinBlock 57 = .ok (.iload_n 2, 1) := by decide +kernel
theorem dX0_joinBlock_58 : decode cX0_joinBlock 58 = .ok (.iload 6, 2) := by decide +kernel
theorem dX0_joinBlock_60 : decode cX0_joinBlock 60 = .ok (.iadd, 1) := by decide +kernel
theorem dX0_joinBlock_61 : decode cX0_joinBlock 61 = .ok (.lload 11, 2) := by decide +kernel
theorem dX0_joinBlock_63 : decode cX0_joinBlock 63 = .ok (.iload 5, 2) := by decide +kernel
theorem dX0_joinBlock_65 : decode cX0_joinBlock 65 = .ok (.i2l, 1) := by decide +kernel
theorem dX0_joinBlock_66 : decode cX0_joinBlock 66 = .ok (.lcmp, 1) := by decide +kernel
theorem dX0_joinBlock_67 : decode cX0_joinBlock 67 = .ok (.ifCond .lt 12, 3) := by decide +kernel
theorem dX0_joinBlock_70 : decode cX0_joinBlock 70 = .ok (.lload 11, 2) := by decide +kernel
theorem dX0_joinBlock_72 : decode cX0_joinBlock 72 = .ok (.iload 5, 2) := by decide +kernel
theorem dX0_joinBlock_74 : decode cX0_joinBlock 74 = .ok (.i2l, 1) := by decide +kernel
theorem dX0_joinBlock_75 : decode cX0_joinBlock 75 = .ok (.lsub, 1) := by decide +kernel
theorem dX0_joinBlock_76 : decode cX0_joinBlock 76 = .ok (.goto 5, 3) := by decide +kernel
theorem dX0_joinBlock_79 : decode cX0_joinBlock 79 = .ok (.lload 11, 2) := by decide +kernel
theorem dX0_joinBlock_81 : decode cX0_joinBlock 81 = .ok (.lastore, 1) := by decide +kernel
theorem dX0_joinBlock_82 : decode cX0_joinBlock 82 = .ok (.aload_n 1, 1) := by decide +kernel
theorem dX0_joinBlock_83 : decode cX0_joinBlock 83 = .ok (.iload_n 2, 1) := by decide +kernel
theorem dX0_joinBlock_84 : decode cX0_joinBlock 84 = .ok (.iload_n 3, 1) := by decide +kernel
theorem dX0_joinBlock_85 : decode cX0_joinBlock 85 = .ok (.iadd, 1) := by decide +kernel
theorem dX0_joinBlock_86 : decode cX0_joinBlock 86 = .ok (.iload 6, 2) := by decide +kernel
theorem dX0_joinBlock_88 : decode cX0_joinBlock 88 = .ok (.iadd, 1) := by decide +kernel
theorem dX0_joinBlock_89 : decode cX0_joinBlock 89 = .ok (.lload 13, 2) := by decide +kernel
theorem dX0_joinBlock_91 : decode cX0_joinBlock 91 = .ok (.lconst 0, 1) := by decide +kernel
theorem dX0_joinBlock_92 : decode cX0_joinBlock 92 = .ok (.lcmp, 1) := by decide +kernel
theorem dX0_joinBlock_93 : decode cX0_joinBlock 93 = .ok (.ifCond .ge 12, 3) := by decide +kernel
theorem dX0_joinBlock_96 : decode cX0_joinBlock 96 = .ok (.lload 13, 2) := by decide +kernel
theorem dX0_joinBlock_98 : decode cX0_joinBlock 98 = .ok (.iload 5, 2) := by decide +kernel
theorem dX0_joinBlock_100 : decode cX0_joinBlock 100 = .ok (.i2l, 1) := by decide +kernel
theorem dX0_joinBlock_101 : decode cX0_joinBlock 101 = .ok (.ladd, 1) := by decide +kernel
theorem dX0_joinBlock_102 : decode cX0_joinBlock 102 = .ok (.goto 5, 3) := by decide +kernel
theorem dX0_joinBlock_105 : decode cX0_joinBlock 105 = .ok (.lload 13, 2) := by decide +kernel
theorem dX0_joinBlock_107 : decode cX0_joinBlock 107 = .ok (.lastore, 1) := by decide +kernel
theorem dX0_joinBlock_108 : decode cX0_joinBlock 108 = .ok (.iinc 6 1, 3) := by decide +kernel
theorem dX0_joinBlock_111 : decode cX0_joinBlock 111 = .ok (.goto (-108), 3) := by decide +kernel
theorem dX0_joinBlock_114 : decode cX0_joinBlock 114 = .ok (.return_, 1) := by decide +kernel
theorem dX1_remainder_0 : decode cX1_remainder 0 = .ok (.lload_n 0, 1) := by decide +kernel
theorem dX1_remainder_1 : decode cX1_remainder 1 = .ok (.iload_n 2, 1) := by decide +kernel
theorem dX1_remainder_2 : decode cX1_remainder 2 = .ok (.i2l, 1) := by decide +kernel
theorem dX1_remainder_3 : decode cX1_remainder 3 = .ok (.lrem, 1) := by decide +kernel
theorem dX1_remainder_4 : decode cX1_remainder 4 = .ok (.lstore_n 3, 1) := by decide +kernel
theorem dX1_remainder_5 : decode cX1_remainder 5 = .ok (.lload_n 3, 1) := by decide +kernel
theorem dX1_remainder_6 : decode cX1_remainder 6 = .ok (.lconst 0, 1) := by decide +kernel
theorem dX1_remainder_7 : decode cX1_remainder 7 = .ok (.lcmp, 1) := by decide +kernel
theorem dX1_remainder_8 : decode cX1_remainder 8 = .ok (.ifCond .ge 10, 3) := by decide +kernel
theorem dX1_remainder_11 : decode cX1_remainder 11 = .ok (.lload_n 3, 1) := by decide +kernel
theorem dX1_remainder_12 : decode cX1_remainder 12 = .ok (.iload_n 2, 1) := by decide +kernel
theorem dX1_remainder_13 : decode cX1_remainder 13 = .ok (.i2l, 1) := by decide +kernel
theorem dX1_remainder_14 : decode cX1_remainder 14 = .ok (.ladd, 1) := by decide +kernel
theorem dX1_remainder_15 : decode cX1_remainder 15 = .ok (.goto 4, 3) := by decide +kernel
theorem dX1_remainder_18 : decode cX1_remainder 18 = .ok (.lload_n 3, 1) := by decide +kernel
theorem dX1_remainder_19 : decode cX1_remainder 19 = .ok (.lreturn, 1) := by decide +kernel
theorem dX1_raise_0 : decode cX1_raise 0 = .ok (.lconst 1, 1) := by decide +kernel
theorem dX1_raise_1 : decode cX1_raise 1 = .ok (.lstore 4, 2) := by decide +kernel
theorem dX1_raise_3 : decode cX1_raise 3 = .ok (.lload_n 0, 1) := by decide +kernel
theorem dX1_raise_4 : decode cX1_raise 4 = .ok (.lstore 6, 2) := by decide +kernel
theorem dX1_raise_6 : decode cX1_raise 6 = .ok (.iload_n 2, 1) := by decide +kernel
theorem dX1_raise_7 : decode cX1_raise 7 = .ok (.istore 8, 2) := by decide +kernel
theorem dX1_raise_9 : decode cX1_raise 9 = .ok (.iload 8, 2) := by decide +kernel
theorem dX1_raise_11 : decode cX1_raise 11 = .ok (.ifCond .le 40, 3) := by decide +kernel
theorem dX1_raise_14 : decode cX1_raise 14 = .ok (.iload 8, 2) := by decide +kernel
theorem dX1_raise_16 : decode cX1_raise 16 = .ok (.iconst 2, 1) := by decide +kernel
theorem dX1_raise_17 : decode cX1_raise 17 = .ok (.irem, 1) := by decide +kernel
theorem dX1_raise_18 : decode cX1_raise 18 = .ok (.iconst 1, 1) := by decide +kernel
theorem dX1_raise_19 : decode cX1_raise 19 = .ok (.if_icmp .ne 13, 3) := by decide +kernel
theorem dX1_raise_22 : decode cX1_raise 22 = .ok (.lload 4, 2) := by decide +kernel
theorem dX1_raise_24 : decode cX1_raise 24 = .ok (.lload 6, 2) := by decide +kernel
theorem dX1_raise_26 : decode cX1_raise 26 = .ok (.lmul, 1) := by decide +kernel
theorem dX1_raise_27 : decode cX1_raise 27 = .ok (.iload_n 3, 1) := by decide +kernel
theorem dX1_raise_28 : decode cX1_raise 28 = .ok (.i2l, 1) := by decide +kernel
theorem dX1_raise_29 : decode cX1_raise 29 = .ok (.lrem, 1) := by decide +kernel
theorem dX1_raise_30 : decode cX1_raise 30 = .ok (.lstore 4, 2) := by decide +kernel
theorem dX1_raise_32 : decode cX1_raise 32 = .ok (.lload 6, 2) := by decide +kernel
theorem dX1_raise_34 : decode cX1_raise 34 = .ok (.lload 6, 2) := by decide +kernel
theorem dX1_raise_36 : decode cX1_raise 36 = .ok (.lmul, 1) := by decide +kernel
theorem dX1_raise_37 : decode cX1_raise 37 = .ok (.iload_n 3, 1) := by decide +kernel
theorem dX1_raise_38 : decode cX1_raise 38 = .ok (.i2l, 1) := by decide +kernel
theorem dX1_raise_39 : decode cX1_raise 39 = .ok (.lrem, 1) := by decide +kernel
theorem dX1_raise_40 : decode cX1_raise 40 = .ok (.lstore 6, 2) := by decide +kernel
theorem dX1_raise_42 : decode cX1_raise 42 = .ok (.iload 8, 2) := by decide +kernel
theorem dX1_raise_44 : decode cX1_raise 44 = .ok (.iconst 2, 1) := by decide +kernel
theorem dX1_raise_45 : decode cX1_raise 45 = .ok (.idiv, 1) := by decide +kernel
theorem dX1_raise_46 : decode cX1_raise 46 = .ok (.istore 8, 2) := by decide +kernel
theorem dX1_raise_48 : decode cX1_raise 48 = .ok (.goto (-39), 3) := by decide +kernel
theorem dX1_raise_51 : decode cX1_raise 51 = .ok (.lload 4, 2) := by decide +kernel
theorem dX1_raise_53 : decode cX1_raise 53 = .ok (.lreturn, 1) := by decide +kernel
set_option maxRecDepth 20000 in
theorem ggX1_inverse_X1_raise : GoodIn wsX1_inverse wsX1_raise := goodIn_r _ [4] (by decide +kernel) (by decide +kernel)
set_option maxRecDepth 20000 in
theorem gX1_inverse_X1_raise : GoodIn wsX1_inverse (va_wsS RX1 7 yX1_raise wsX1_raise) := goodIn_app (goodIn_of _ (by decide +kernel)) ggX1_inverse_X1_raise
theorem dX1_inverse_0 : decode cX1_inverse 0 = .ok (.lload_n 0, 1) := by decide +kernel
theorem dX1_inverse_1 : decode cX1_inverse 1 = .ok (.iload_n 2, 1) := by decide +kernel
theorem dX1_inverse_2 : decode cX1_inverse 2 = .ok (.iconst 2, 1) := by decide +kernel
theorem dX1_inverse_3 : decode cX1_inverse 3 = .ok (.isub, 1) := by decide +kernel
theorem dX1_inverse_4 : decode cX1_inverse 4 = .ok (.iload_n 2, 1) := by decide +kernel
theorem dX1_inverse_5 : decode cX1_inverse 5 = .ok (.invokestatic 7, 3) := by decide +kernel
theorem dX1_inverse_8 : decode cX1_inverse 8 = .ok (.lreturn, 1) := by decide +kernel
set_option maxRecDepth 20000 in
theorem ggX1_rootOfOne_X1_raise : GoodIn wsX1_rootOfOne wsX1_raise := goodIn_r _ [5] (by decide +kernel) (by decide +kernel)
set_option maxRecDepth 20000 in
theorem gX1_rootOfOne_X1_raise : GoodIn wsX1_rootOfOne (va_wsS RX1 7 yX1_raise wsX1_raise) := goodIn_app (goodIn_of _ (by decide +kernel)) ggX1_rootOfOne_X1_raise
theorem dX1_rootOfOne_0 : decode cX1_rootOfOne 0 = .ok (.ldc2_w 13, 3) := by decide +kernel
theorem dX1_rootOfOne_3 : decode cX1_rootOfOne 3 = .ok (.iload_n 1, 1) := by decide +kernel
theorem dX1_rootOfOne_4 : decode cX1_rootOfOne 4 = .ok (.iconst 1, 1) := by decide +kernel
theorem dX1_rootOfOne_5 : decode cX1_rootOfOne 5 = .ok (.isub, 1) := by decide +kernel
theorem dX1_rootOfOne_6 : decode cX1_rootOfOne 6 = .ok (.iload_n 0, 1) := by decide +kernel
theorem dX1_rootOfOne_7 : decode cX1_rootOfOne 7 = .ok (.ishr, 1) := by decide +kernel
theorem dX1_rootOfOne_8 : decode cX1_rootOfOne 8 = .ok (.iload_n 1, 1) := by decide +kernel
theorem dX1_rootOfOne_9 : decode cX1_rootOfOne 9 = .ok (.invokestatic 7, 3) := by decide +kernel
theorem dX1_rootOfOne_12 : decode cX1_rootOfOne 12 = .ok (.lreturn, 1) := by decide +kernel
theorem dX2_init_0 : decode cX2_init 0 = .ok (.aload_n 0, 1) := by decide +kernel
theorem dX2_init_1 : decode cX2_init 1 = .ok (.invokespecial 3, 3) := by decide +kernel
theorem dX2_init_4 : decode cX2_init 4 = .ok (.aload_n 0, 1) := by decide +kernel
theorem dX2_init_5 : decode cX2_init 5 = .ok (.getstatic 9, 3) := by decide +kernel
theorem dX2_init_8 : decode cX2_init 8 = .ok (.arraylength, 1) := by decide +kernel
theorem dX2_init_9 : decode cX2_init 9 = .ok (.iload_n 1, 1) := by decide +kernel
theorem dX2_init_10 : decode cX2_init 10 = .ok (.multianewarray 13 2, 4) := by decide +kernel
theorem dX2_init_14 : decode cX2_init 14 = .ok (.putfield 15, 3) := by decide +kernel
theorem dX2_init_17 : decode cX2_init 17 = .ok (.return_, 1) := by decide +kernel
theorem dX2_remainder_0 : decode cX2_remainder 0 = .ok (.aload_n 0, 1) := by decide +kernel
theorem dX2_remainder_1 : decode cX2_remainder 1 = .ok (.getfield 15, 3) := by decide +kernel
theorem dX2_remainder_4 : decode cX2_remainder 4 = .ok (.iload_n 1, 1) := by decide +kernel
theorem dX2_remainder_5 : decode cX2_remainder 5 = .ok (.aaload, 1) := by decide +kernel
theorem dX2_remainder_6 : decode cX2_remainder 6 = .ok (.iload_n 2, 1) := by decide +kernel
theorem dX2_remainder_7 : decode cX2_remainder 7 = .ok (.iaload, 1) := by decide +kernel
theorem dX2_remainder_8 : decode cX2_remainder 8 = .ok (.ireturn, 1) := by decide +kernel
theorem dX2_setRemainder_0 : decode cX2_setRemainder 0 = .ok (.aload_n 0, 1) := by decide +kernel
theorem dX2_setRemainder_1 : decode cX2_setRemainder 1 = .ok (.getfield 15, 3) := by decide +kernel
theorem dX2_setRemainder_4 : decode cX2_setRemainder 4 = .ok (.iload_n 1, 1) := by decide +kernel
theorem dX2_setRemainder_5 : decode cX2_setRemainder 5 = .ok (.aaload, 1) := by decide +kernel
theorem dX2_setRemainder_6 : decode cX2_setRemainder 6 = .ok (.iload_n 2, 1) := by decide +kernel
theorem dX2_setRemainder_7 : decode cX2_setRemainder 7 = .ok (.lload_n 3, 1) := by decide +kernel
theorem dX2_setRemainder_8 : decode cX2_setRemainder 8 = .ok (.l2i, 1) := by decide +kernel
theorem dX2_setRemainder_9 : decode cX2_setRemainder 9 = .ok (.iastore, 1) := by decide +kernel
theorem dX2_setRemainder_10 : decode cX2_setRemainder 10 = .ok (.return_, 1) := by decide +kernel
set_option maxRecDepth 20000 in
theorem ggX2_cutInto_X2_lowest64Bits : GoodIn wsX2_cutInto wsX2_lowest64Bits := goodIn_r _ [5, 6, 7, 8, 9, 4, 10, 11, 12, 13, 14, 15, 16, 17, 18, 19, 20, 21, 22, 23, 24, 25, 26, 27] (by decide +kernel) (by decide +kernel)
set_option maxRecDepth 20000 in
theorem gX2_cutInto_X2_lowest64Bits : GoodIn wsX2_cutInto (wsV RX2 20 RX2 yX2_lowest64Bits wsX2_lowest64Bits) := goodIn_app (goodIn_of _ (by decide +kernel)) ggX2_cutInto_X2_lowest64Bits
theorem dX2_cutInto_0 : decode cX2_cutInto 0 = .ok (.iconst 0, 1) := by decide +kernel
theorem dX2_cutInto_1 : decode cX2_cutInto 1 = .ok (.istore_n 3, 1) := by decide +kernel
theorem dX2_cutInto_2 : decode cX2_cutInto 2 = .ok (.iload_n 3, 1) := by decide +kernel
theorem dX2_cutInto_3 : decode cX2_cutInto 3 = .ok (.iload_n 2, 1) := by decide +kernel
theorem dX2_cutInto_4 : decode cX2_cutInto 4 = .ok (.if_icmp .ge 18, 3) := by decide +kernel
theorem dX2_cutInto_7 : decode cX2_cutInto 7 = .ok (.aload_n 1, 1) := by decide +kernel
theorem dX2_cutInto_8 : decode cX2_cutInto 8 = .ok (.iload_n 3, 1) := by decide +kernel
theorem dX2_cutInto_9 : decode cX2_cutInto 9 = .ok (.aload_n 0, 1) := by decide +kernel
theorem dX2_cutInto_10 : decode cX2_cutInto 10 = .ok (.iload_n 3, 1) := by decide +kernel
theorem dX2_cutInto_11 : decode cX2_cutInto 11 = .ok (.invokevirtual 20, 3) := by decide +kernel
theorem dX2_cutInto_14 : decode cX2_cutInto 14 = .ok (.l2i, 1) := by decide +kernel
theorem dX2_cutInto_15 : decode cX2_cutInto 15 = .ok (.iastore, 1) := by decide +kernel
theorem dX2_cutInto_16 : decode cX2_cutInto 16 = .ok (.iinc 3 1, 3) := by decide +kernel
theorem dX2_cutInto_19 : decode cX2_cutInto 19 = .ok (.goto (-17), 3) := by decide +kernel
theorem dX2_cutInto_22 : decode cX2_cutInto 22 = .ok (.return_, 1) := by decide +kernel
set_option maxRecDepth 20000 in
theorem ggX2_lowest64Bits_X2_moduloFirstTwo : GoodIn wsX2_lowest64Bits wsX2_moduloFirstTwo := goodIn_r _ [6, 7, 8, 9, 10, 11, 12, 13, 14, 23] (by decide +kernel) (by decide +kernel)
set_option maxRecDepth 20000 in
theorem gX2_lowest64Bits_X2_moduloFirstTwo : GoodIn wsX2_lowest64Bits (wsV RX2 24 RX2 yX2_moduloFirstTwo wsX2_moduloFirstTwo) := goodIn_app (goodIn_of _ (by decide +kernel)) ggX2_lowest64Bits_X2_moduloFirstTwo
set_option maxRecDepth 20000 in
theorem ggX2_lowest64Bits_X2_timesOfFirstTwo : GoodIn wsX2_lowest64Bits wsX2_timesOfFirstTwo := goodIn_r _ [18, 7, 19, 20, 21, 22, 11, 12, 13, 14, 23] (by decide +kernel) (by decide +kernel)
set_option maxRecDepth 20000 in
theorem gX2_lowest64Bits_X2_timesOfFirstTwo : GoodIn wsX2_lowest64Bits (wsV RX2 29 RX2 yX2_timesOfFirstTwo wsX2_timesOfFirstTwo) := goodIn_app (goodIn_of _ (by decide +kernel)) ggX2_lowest64Bits_X2_timesOfFirstTwo
theorem dX2_lowest64Bits_0 : decode cX2_lowest64Bits 0 = .ok (.aload_n 0, 1) := by decide +kernel
theorem dX2_lowest64Bits_1 : decode cX2_lowest64Bits 1 = .ok (.iload_n 1, 1) := by decide +kernel
theorem dX2_lowest64Bits_2 : decode cX2_lowest64Bits 2 = .ok (.invokevirtual 24, 3) := by decide +kernel
theorem dX2_lowest64Bits_5 : decode cX2_lowest64Bits 5 = .ok (.lstore_n 2, 1) := by decide +kernel
theorem dX2_lowest64Bits_6 : decode cX2_lowest64Bits 6 = .ok (.lload_n 2, 1) := by decide +kernel
theorem dX2_lowest64Bits_7 : decode cX2_lowest64Bits 7 = .ok (.ldc2_w 27, 3) := by decide +kernel
theorem dX2_lowest64Bits_10 : decode cX2_lowest64Bits 10 = .ok (.aload_n 0, 1) := by decide +kernel
theorem dX2_lowest64Bits_11 : decode cX2_lowest64Bits 11 = .ok (.iload_n 1, 1) := by decide +kernel
theorem dX2_lowest64Bits_12 : decode cX2_lowest64Bits 12 = .ok (.lload_n 2, 1) := by decide +kernel
theorem dX2_lowest64Bits_13 : decode cX2_lowest64Bits 13 = .ok (.invokevirtual 29, 3) := by decide +kernel
theorem dX2_lowest64Bits_16 : decode cX2_lowest64Bits 16 = .ok (.lmul, 1) := by decide +kernel
theorem dX2_lowest64Bits_17 : decode cX2_lowest64Bits 17 = .ok (.ladd, 1) := by decide +kernel
theorem dX2_lowest64Bits_18 : decode cX2_lowest64Bits 18 = .ok (.lreturn, 1) := by decide +kernel
set_option maxRecDepth 20000 in
theorem ggX2_bitsAbove64_X2_moduloFirstTwo : GoodIn wsX2_bitsAbove64 wsX2_moduloFirstTwo := goodIn_r _ [7, 8, 9, 10, 11, 12, 13, 14, 15, 24] (by decide +kernel) (by decide +kernel)
set_option maxRecDepth 20000 in
theorem gX2_bitsAbove64_X2_moduloFirstTwo : GoodIn wsX2_bitsAbove64 (wsV RX2 24 RX2 yX2_moduloFirstTwo wsX2_moduloFirstTwo) := goodIn_app (goodIn_of _ (by decide +kernel)) ggX2_bitsAbove64_X2_moduloFirstTwo
set_option maxRecDepth 20000 in
theorem ggX2_bitsAbove64_X2_timesOfFirstTwo : GoodIn wsX2_bitsAbove64 wsX2_timesOfFirstTwo := goodIn_r _ [19, 8, 20, 21, 22, 23, 12, 13, 14, 15, 24] (by decide +kernel) (by decide +kernel)
set_option maxRecDepth 20000 in
theorem gX2_bitsAbove64_X2_timesOfFirstTwo : GoodIn wsX2_bitsAbove64 (wsV RX2 29 RX2 yX2_timesOfFirstTwo wsX2_timesOfFirstTwo) := goodIn_app (goodIn_of _ (by decide +kernel)) ggX2_bitsAbove64_X2_timesOfFirstTwo
theorem dX2_bitsAbove64_0 : decode cX2_bitsAbove64 0 = .ok (.aload_n 0, 1) := by decide +kernel
theorem dX2_bitsAbove64_1 : decode cX2_bitsAbove64 1 = .ok (.iload_n 1, 1) := by decide +kernel
theorem dX2_bitsAbove64_2 : decode cX2_bitsAbove64 2 = .ok (.invokevirtual 24, 3) := by decide +kernel
theorem dX2_bitsAbove64_5 : decode cX2_bitsAbove64 5 = .ok (.lstore_n 2, 1) := by decide +kernel
theorem dX2_bitsAbove64_6 : decode cX2_bitsAbove64 6 = .ok (.aload_n 0, 1) := by decide +kernel
theorem dX2_bitsAbove64_7 : decode cX2_bitsAbove64 7 = .ok (.iload_n 1, 1) := by decide +kernel
theorem dX2_bitsAbove64_8 : decode cX2_bitsAbove64 8 = .ok (.lload_n 2, 1) := by decide +kernel
theorem dX2_bitsAbove64_9 : decode cX2_bitsAbove64 9 = .ok (.invokevirtual 29, 3) := by decide +kernel
theorem dX2_bitsAbove64_12 : decode cX2_bitsAbove64 12 = .ok (.lstore 4, 2) := by decide +kernel
theorem dX2_bitsAbove64_14 : decode cX2_bitsAbove64 14 = .ok (.lload_n 2, 1) := by decide +kernel
theorem dX2_bitsAbove64_15 : decode cX2_bitsAbove64 15 = .ok (.ldc2_w 33, 3) := by decide +kernel
theorem dX2_bitsAbove64_18 : decode cX2_bitsAbove64 18 = .ok (.lload 4, 2) := by decide +kernel
theorem dX2_bitsAbove64_20 : decode cX2_bitsAbove64 20 = .ok (.lmul, 1) := by decide +kernel
theorem dX2_bitsAbove64_21 : decode cX2_bitsAbove64 21 = .ok (.ladd, 1) := by decide +kernel
theorem dX2_bitsAbove64_22 : decode cX2_bitsAbove64 22 = .ok (.lstore 6, 2) := by decide +kernel
theorem dX2_bitsAbove64_24 : decode cX2_bitsAbove64 24 = .ok (.ldc2_w 35, 3) := by decide +kernel
theorem dX2_bitsAbove64_27 : decode cX2_bitsAbove64 27 = .ok (.lload 4, 2) := by decide +kernel
theorem dX2_bitsAbove64_29 : decode cX2_bitsAbove64 29 = .ok (.lmul, 1) := by decide +kernel
theorem dX2_bitsAbove64_30 : decode cX2_bitsAbove64 30 = .ok (.lstore 8, 2) := by decide +kernel
theorem dX2_bitsAbove64_32 : decode cX2_bitsAbove64 32 = .ok (.lload 8, 2) := by decide +kernel
theorem dX2_bitsAbove64_34 : decode cX2_bitsAbove64 34 = .ok (.lload 6, 2) := by decide +kernel
theorem dX2_bitsAbove64_36 : decode cX2_bitsAbove64 36 = .ok (.bipush 32, 2) := by decide +kernel
theorem dX2_bitsAbove64_38 : decode cX2_bitsAbove64 38 = .ok (.lshr, 1) := by decide +kernel
theorem dX2_bitsAbove64_39 : decode cX2_bitsAbove64 39 = .ok (.ladd, 1) := by decide +kernel
theorem dX2_bitsAbove64_40 : decode cX2_bitsAbove64 40 = .ok (.bipush 32, 2) := by decide +kernel
theorem dX2_bitsAbove64_42 : decode cX2_bitsAbove64 42 = .ok (.lshr, 1) := by decide +kernel
theorem dX2_bitsAbove64_43 : decode cX2_bitsAbove64 43 = .ok (.l2i, 1) := by decide +kernel
theorem dX2_bitsAbove64_44 : decode cX2_bitsAbove64 44 = .ok (.ireturn, 1) := by decide +kernel
set_option maxRecDepth 20000 in
theorem ggX2_moduloFirstTwo_X1_remainder : GoodIn wsX2_moduloFirstTwo wsX1_remainder := goodIn_r _ [8] (by decide +kernel) (by decide +kernel)
set_option maxRecDepth 20000 in
theorem gX2_moduloFirstTwo_X1_remainder : GoodIn wsX2_moduloFirstTwo (va_wsS RX2 42 yX1_remainder wsX1_remainder) := goodIn_app (goodIn_of _ (by decide +kernel)) ggX2_moduloFirstTwo_X1_remainder
theorem dX2_moduloFirstTwo_0 : decode cX2_moduloFirstTwo 0 = .ok (.aload_n 0, 1) := by decide +kernel
theorem dX2_moduloFirstTwo_1 : decode cX2_moduloFirstTwo 1 = .ok (.getfield 15, 3) := by decide +kernel
theorem dX2_moduloFirstTwo_4 : decode cX2_moduloFirstTwo 4 = .ok (.iconst 0, 1) := by decide +kernel
theorem dX2_moduloFirstTwo_5 : decode cX2_moduloFirstTwo 5 = .ok (.aaload, 1) := by decide +kernel
theorem dX2_moduloFirstTwo_6 : decode cX2_moduloFirstTwo 6 = .ok (.iload_n 1, 1) := by decide +kernel
theorem dX2_moduloFirstTwo_7 : decode cX2_moduloFirstTwo 7 = .ok (.iaload, 1) := by decide +kernel
theorem dX2_moduloFirstTwo_8 : decode cX2_moduloFirstTwo 8 = .ok (.i2l, 1) := by decide +kernel
theorem dX2_moduloFirstTwo_9 : decode cX2_moduloFirstTwo 9 = .ok (.lstore_n 2, 1) := by decide +kernel
theorem dX2_moduloFirstTwo_10 : decode cX2_moduloFirstTwo 10 = .ok (.aload_n 0, 1) := by decide +kernel
theorem dX2_moduloFirstTwo_11 : decode cX2_moduloFirstTwo 11 = .ok (.getfield 15, 3) := by decide +kernel
theorem dX2_moduloFirstTwo_14 : decode cX2_moduloFirstTwo 14 = .ok (.iconst 1, 1) := by decide +kernel
theorem dX2_moduloFirstTwo_15 : decode cX2_moduloFirstTwo 15 = .ok (.aaload, 1) := by decide +kernel
theorem dX2_moduloFirstTwo_16 : decode cX2_moduloFirstTwo 16 = .ok (.iload_n 1, 1) := by decide +kernel
theorem dX2_moduloFirstTwo_17 : decode cX2_moduloFirstTwo 17 = .ok (.iaload, 1) := by decide +kernel
theorem dX2_moduloFirstTwo_18 : decode cX2_moduloFirstTwo 18 = .ok (.i2l, 1) := by decide +kernel
theorem dX2_moduloFirstTwo_19 : decode cX2_moduloFirstTwo 19 = .ok (.lload_n 2, 1) := by decide +kernel
theorem dX2_moduloFirstTwo_20 : decode cX2_moduloFirstTwo 20 = .ok (.lsub, 1) := by decide +kernel
theorem dX2_moduloFirstTwo_21 : decode cX2_moduloFirstTwo 21 = .ok (.lstore 4, 2) := by decide +kernel
theorem dX2_moduloFirstTwo_23 : decode cX2_moduloFirstTwo 23 = .ok (.lload_n 2, 1) := by decide +kernel
theorem dX2_moduloFirstTwo_24 : decode cX2_moduloFirstTwo 24 = .ok (.ldc2_w 37, 3) := by decide +kernel
theorem dX2_moduloFirstTwo_27 : decode cX2_moduloFirstTwo 27 = .ok (.lload 4, 2) := by decide +kernel
theorem dX2_moduloFirstTwo_29 : decode cX2_moduloFirstTwo 29 = .ok (.ldc2_w 39, 3) := by decide +kernel
theorem dX2_moduloFirstTwo_32 : decode cX2_moduloFirstTwo 32 = .ok (.lmul, 1) := by decide +kernel
theorem dX2_moduloFirstTwo_33 : decode cX2_moduloFirstTwo 33 = .ok (.ldc 41, 2) := by decide +kernel
theorem dX2_moduloFirstTwo_35 : decode cX2_moduloFirstTwo 35 = .ok (.invokestatic 42, 3) := by decide +kernel
theorem dX2_moduloFirstTwo_38 : decode cX2_moduloFirstTwo 38 = .ok (.lmul, 1) := by decide +kernel
theorem dX2_moduloFirstTwo_39 : decode cX2_moduloFirstTwo 39 = .ok (.ladd, 1) := by decide +kernel
theorem dX2_moduloFirstTwo_40 : decode cX2_moduloFirstTwo 40 = .ok (.lreturn, 1) := by decide +kernel
set_option maxRecDepth 20000 in
theorem ggX2_timesOfFirstTwo_X1_remainder : GoodIn wsX2_timesOfFirstTwo wsX1_remainder := goodIn_r _ [9] (by decide +kernel) (by decide +kernel)
set_option maxRecDepth 20000 in
theorem gX2_timesOfFirstTwo_X1_remainder : GoodIn wsX2_timesOfFirstTwo (va_wsS RX2 42 yX1_remainder wsX1_remainder) := goodIn_app (goodIn_of _ (by decide +kernel)) ggX2_timesOfFirstTwo_X1_remainder
theorem dX2_timesOfFirstTwo_0 : decode cX2_timesOfFirstTwo 0 = .ok (.aload_n 0, 1) := by decide +kernel
theorem dX2_timesOfFirstTwo_1 : decode cX2_timesOfFirstTwo 1 = .ok (.getfield 15, 3) := by decide +kernel
theorem dX2_timesOfFirstTwo_4 : decode cX2_timesOfFirstTwo 4 = .ok (.iconst 2, 1) := by decide +kernel
theorem dX2_timesOfFirstTwo_5 : decode cX2_timesOfFirstTwo 5 = .ok (.aaload, 1) := by decide +kernel
theorem dX2_timesOfFirstTwo_6 : decode cX2_timesOfFirstTwo 6 = .ok (.iload_n 1, 1) := by decide +kernel
theorem dX2_timesOfFirstTwo_7 : decode cX2_timesOfFirstTwo 7 = .ok (.iaload, 1) := by decide +kernel
theorem dX2_timesOfFirstTwo_8 : decode cX2_timesOfFirstTwo 8 = .ok (.i2l, 1) := by decide +kernel
theorem dX2_timesOfFirstTwo_9 : decode cX2_timesOfFirstTwo 9 = .ok (.lload_n 2, 1) := by decide +kernel
theorem dX2_timesOfFirstTwo_10 : decode cX2_timesOfFirstTwo 10 = .ok (.lsub, 1) := by decide +kernel
theorem dX2_timesOfFirstTwo_11 : decode cX2_timesOfFirstTwo 11 = .ok (.ldc2_w 48, 3) := by decide +kernel
theorem dX2_timesOfFirstTwo_14 : decode cX2_timesOfFirstTwo 14 = .ok (.lrem, 1) := by decide +kernel
theorem dX2_timesOfFirstTwo_15 : decode cX2_timesOfFirstTwo 15 = .ok (.lstore 4, 2) := by decide +kernel
theorem dX2_timesOfFirstTwo_17 : decode cX2_timesOfFirstTwo 17 = .ok (.lload 4, 2) := by decide +kernel
theorem dX2_timesOfFirstTwo_19 : decode cX2_timesOfFirstTwo 19 = .ok (.ldc2_w 50, 3) := by decide +kernel
theorem dX2_timesOfFirstTwo_22 : decode cX2_timesOfFirstTwo 22 = .ok (.lmul, 1) := by decide +kernel
theorem dX2_timesOfFirstTwo_23 : decode cX2_timesOfFirstTwo 23 = .ok (.ldc 52, 2) := by decide +kernel
theorem dX2_timesOfFirstTwo_25 : decode cX2_timesOfFirstTwo 25 = .ok (.invokestatic 42, 3) := by decide +kernel
theorem dX2_timesOfFirstTwo_28 : decode cX2_timesOfFirstTwo 28 = .ok (.lstore 6, 2) := by decide +kernel
theorem dX2_timesOfFirstTwo_30 : decode cX2_timesOfFirstTwo 30 = .ok (.lload 6, 2) := by decide +kernel
theorem dX2_timesOfFirstTwo_32 : decode cX2_timesOfFirstTwo 32 = .ok (.ldc2_w 53, 3) := by decide +kernel
theorem dX2_timesOfFirstTwo_35 : decode cX2_timesOfFirstTwo 35 = .ok (.lcmp, 1) := by decide +kernel
theorem dX2_timesOfFirstTwo_36 : decode cX2_timesOfFirstTwo 36 = .ok (.ifCond .le 12, 3) := by decide +kernel
theorem dX2_timesOfFirstTwo_39 : decode cX2_timesOfFirstTwo 39 = .ok (.lload 6, 2) := by decide +kernel
theorem dX2_timesOfFirstTwo_41 : decode cX2_timesOfFirstTwo 41 = .ok (.ldc2_w 48, 3) := by decide +kernel
theorem dX2_timesOfFirstTwo_44 : decode cX2_timesOfFirstTwo 44 = .ok (.lsub, 1) := by decide +kernel
theorem dX2_timesOfFirstTwo_45 : decode cX2_timesOfFirstTwo 45 = .ok (.goto 5, 3) := by decide +kernel
theorem dX2_timesOfFirstTwo_48 : decode cX2_timesOfFirstTwo 48 = .ok (.lload 6, 2) := by decide +kernel
theorem dX2_timesOfFirstTwo_50 : decode cX2_timesOfFirstTwo 50 = .ok (.lreturn, 1) := by decide +kernel
set_option maxRecDepth 20000 in
theorem ggX3_init_X2_init : GoodIn wsX3_init wsX2_init := goodIn_r _ [21, 22, 2, 3, 23, 5, 24, 41] (by decide +kernel) (by decide +kernel)
set_option maxRecDepth 20000 in
theorem gX3_init_X2_init : GoodIn wsX3_init (wsX2_init) := ggX3_init_X2_init
set_option maxRecDepth 20000 in
theorem ggX3_init_X0_init : GoodIn wsX3_init wsX0_init := goodIn_r _ [27, 28, 2, 3, 29, 30, 31, 32, 42, 43, 44] (by decide +kernel) (by decide +kernel)
set_option maxRecDepth 20000 in
theorem gX3_init_X0_init : GoodIn wsX3_init (wsX0_init) := ggX3_init_X0_init
theorem dX3_init_0 : decode cX3_init 0 = .ok (.aload_n 0, 1) := by decide +kernel
theorem dX3_init_1 : decode cX3_init 1 = .ok (.invokespecial 3, 3) := by decide +kernel
theorem dX3_init_4 : decode cX3_init 4 = .ok (.aload_n 0, 1) := by decide +kernel
theorem dX3_init_5 : decode cX3_init 5 = .ok (.iconst 1, 1) := by decide +kernel
theorem dX3_init_6 : decode cX3_init 6 = .ok (.putfield 9, 3) := by decide +kernel
theorem dX3_init_9 : decode cX3_init 9 = .ok (.aload_n 0, 1) := by decide +kernel
theorem dX3_init_10 : decode cX3_init 10 = .ok (.sipush 256, 3) := by decide +kernel
theorem dX3_init_13 : decode cX3_init 13 = .ok (.newarray .int, 2) := by decide +kernel
theorem dX3_init_15 : decode cX3_init 15 = .ok (.putfield 13, 3) := by decide +kernel
theorem dX3_init_18 : decode cX3_init 18 = .ok (.aload_n 0, 1) := by decide +kernel
theorem dX3_init_19 : decode cX3_init 19 = .ok (.sipush 256, 3) := by decide +kernel
theorem dX3_init_22 : decode cX3_init 22 = .ok (.newarray .int, 2) := by decide +kernel
theorem dX3_init_24 : decode cX3_init 24 = .ok (.putfield 17, 3) := by decide +kernel
theorem dX3_init_27 : decode cX3_init 27 = .ok (.aload_n 0, 1) := by decide +kernel
theorem dX3_init_28 : decode cX3_init 28 = .ok (.iconst 0, 1) := by decide +kernel
theorem dX3_init_29 : decode cX3_init 29 = .ok (.putfield 20, 3) := by decide +kernel
theorem dX3_init_32 : decode cX3_init 32 = .ok (.aload_n 0, 1) := by decide +kernel
theorem dX3_init_33 : decode cX3_init 33 = .ok (.new 23, 3) := by decide +kernel
theorem dX3_init_36 : decode cX3_init 36 = .ok (.dup, 1) := by decide +kernel
theorem dX3_init_37 : decode cX3_init 37 = .ok (.sipush 511, 3) := by decide +kernel
theorem dX3_init_40 : decode cX3_init 40 = .ok (.invokespecial 25, 3) := by decide +kernel
theorem dX3_init_43 : decode cX3_init 43 = .ok (.putfield 28, 3) := by decide +kernel
theorem dX3_init_46 : decode cX3_init 46 = .ok (.aload_n 0, 1) := by decide +kernel
theorem dX3_init_47 : decode cX3_init 47 = .ok (.new 32, 3) := by decide +kernel
theorem dX3_init_50 : decode cX3_init 50 = .ok (.dup, 1) := by decide +kernel
theorem dX3_init_51 : decode cX3_init 51 = .ok (.sipush 512, 3) := by decide +kernel
theorem dX3_init_54 : decode cX3_init 54 = .ok (.invokespecial 34, 3) := by decide +kernel
theorem dX3_init_57 : decode cX3_init 57 = .ok (.putfield 35, 3) := by decide +kernel
theorem dX3_init_60 : decode cX3_init 60 = .ok (.aload_n 0, 1) := by decide +kernel
theorem dX3_init_61 : decode cX3_init 61 = .ok (.new 23, 3) := by decide +kernel
theorem dX3_init_64 : decode cX3_init 64 = .ok (.dup, 1) := by decide +kernel
theorem dX3_init_65 : decode cX3_init 65 = .ok (.sipush 256, 3) := by decide +kernel
theorem dX3_init_68 : decode cX3_init 68 = .ok (.invokespecial 25, 3) := by decide +kernel
theorem dX3_init_71 : decode cX3_init 71 = .ok (.putfield 39, 3) := by decide +kernel
theorem dX3_init_74 : decode cX3_init 74 = .ok (.aload_n 0, 1) := by decide +kernel
theorem dX3_init_75 : decode cX3_init 75 = .ok (.sipush 256, 3) := by decide +kernel
theorem dX3_init_78 : decode cX3_init 78 = .ok (.newarray .int, 2) := by decide +kernel
theorem dX3_init_80 : decode cX3_init 80 = .ok (.putfield 42, 3) := by decide +kernel
theorem dX3_init_83 : decode cX3_init 83 = .ok (.return_, 1) := by decide +kernel
set_option maxRecDepth 20000 in
theorem ggX3_size_X3_places : GoodIn wsX3_size wsX3_places := goodIn_r _ [11, 3, 12, 13, 14, 15, 16, 17, 18, 19] (by decide +kernel) (by decide +kernel)
set_option maxRecDepth 20000 in
theorem gX3_size_X3_places : GoodIn wsX3_size (wsV RX3 52 RX3 yX3_places wsX3_places) := goodIn_app (goodIn_of _ (by decide +kernel)) ggX3_size_X3_places
theorem dX3_size_0 : decode cX3_size 0 = .ok (.iload_n 1, 1) := by decide +kernel
theorem dX3_size_1 : decode cX3_size 1 = .ok (.iconst 1, 1) := by decide +kernel
theorem dX3_size_2 : decode cX3_size 2 = .ok (.if_icmp .lt 9, 3) := by decide +kernel
theorem dX3_size_5 : decode cX3_size 5 = .ok (.iload_n 1, 1) := by decide +kernel
theorem dX3_size_6 : decode cX3_size 6 = .ok (.bipush 8, 2) := by decide +kernel
theorem dX3_size_8 : decode cX3_size 8 = .ok (.if_icmp .le 13, 3) := by decide +kernel
theorem dX3_size_11 : decode cX3_size 11 = .ok (.new 45, 3) := by decide +kernel
theorem dX3_size_14 : decode cX3_size 14 = .ok (.dup, 1) := by decide +kernel
theorem dX3_size_15 : decode cX3_size 15 = .ok (.ldc 47, 2) := by decide +kernel
theorem dX3_size_17 : decode cX3_size 17 = .ok (.invokespecial 49, 3) := by decide +kernel
theorem dX3_size_20 : decode cX3_size 20 = .ok (.athrow, 1) := by decide +kernel
theorem dX3_size_21 : decode cX3_size 21 = .ok (.aload_n 0, 1) := by decide +kernel
theorem dX3_size_22 : decode cX3_size 22 = .ok (.iload_n 1, 1) := by decide +kernel
theorem dX3_size_23 : decode cX3_size 23 = .ok (.putfield 9, 3) := by decide +kernel
theorem dX3_size_26 : decode cX3_size 26 = .ok (.aload_n 0, 1) := by decide +kernel
theorem dX3_size_27 : decode cX3_size 27 = .ok (.iconst 0, 1) := by decide +kernel
theorem dX3_size_28 : decode cX3_size 28 = .ok (.putfield 20, 3) := by decide +kernel
theorem dX3_size_31 : decode cX3_size 31 = .ok (.iconst 0, 1) := by decide +kernel
theorem dX3_size_32 : decode cX3_size 32 = .ok (.istore_n 2, 1) := by decide +kernel
theorem dX3_size_33 : decode cX3_size 33 = .ok (.iload_n 2, 1) := by decide +kernel
theorem dX3_size_34 : decode cX3_size 34 = .ok (.aload_n 0, 1) := by decide +kernel
theorem dX3_size_35 : decode cX3_size 35 = .ok (.invokevirtual 52, 3) := by decide +kernel
theorem dX3_size_38 : decode cX3_size 38 = .ok (.if_icmp .ge 23, 3) := by decide +kernel
theorem dX3_size_41 : decode cX3_size 41 = .ok (.aload_n 0, 1) := by decide +kernel
theorem dX3_size_42 : decode cX3_size 42 = .ok (.getfield 13, 3) := by decide +kernel
theorem dX3_size_45 : decode cX3_size 45 = .ok (.iload_n 2, 1) := by decide +kernel
theorem dX3_size_46 : decode cX3_size 46 = .ok (.iconst 0, 1) := by decide +kernel
theorem dX3_size_47 : decode cX3_size 47 = .ok (.iastore, 1) := by decide +kernel
theorem dX3_size_48 : decode cX3_size 48 = .ok (.aload_n 0, 1) := by decide +kernel
theorem dX3_size_49 : decode cX3_size 49 = .ok (.getfield 17, 3) := by decide +kernel
theorem dX3_size_52 : decode cX3_size 52 = .ok (.iload_n 2, 1) := by decide +kernel
theorem dX3_size_53 : decode cX3_size 53 = .ok (.iconst 0, 1) := by decide +kernel
theorem dX3_size_54 : decode cX3_size 54 = .ok (.iastore, 1) := by decide +kernel
theorem dX3_size_55 : decode cX3_size 55 = .ok (.iinc 2 1, 3) := by decide +kernel
theorem dX3_size_58 : decode cX3_size 58 = .ok (.goto (-25), 3) := by decide +kernel
theorem dX3_size_61 : decode cX3_size 61 = .ok (.return_, 1) := by decide +kernel
set_option maxRecDepth 20000 in
theorem ggX3_setA_X3_requirePlace : GoodIn wsX3_setA wsX3_requirePlace := goodIn_ca (goodIn_r _ [6, 7, 8, 9, 10, 11, 5, 12, 13, 14, 15, 16, 17, 18, 19, 20, 21] (by decide +kernel) (by decide +kernel)) (goodIn_sub (fun _ h => List.mem_cons_of_mem _ (List.mem_append_right _ h)) (by decide +kernel))
set_option maxRecDepth 20000 in
theorem gX3_setA_X3_requirePlace : GoodIn wsX3_setA (wsV RX3 56 RX3 yX3_requirePlace wsX3_requirePlace) := goodIn_app (goodIn_of _ (by decide +kernel)) ggX3_setA_X3_requirePlace
theorem dX3_setA_0 : decode cX3_setA 0 = .ok (.aload_n 0, 1) := by decide +kernel
theorem dX3_setA_1 : decode cX3_setA 1 = .ok (.iload_n 1, 1) := by decide +kernel
theorem dX3_setA_2 : decode cX3_setA 2 = .ok (.invokevirtual 56, 3) := by decide +kernel
theorem dX3_setA_5 : decode cX3_setA 5 = .ok (.aload_n 0, 1) := by decide +kernel
theorem dX3_setA_6 : decode cX3_setA 6 = .ok (.getfield 13, 3) := by decide +kernel
theorem dX3_setA_9 : decode cX3_setA 9 = .ok (.iload_n 1, 1) := by decide +kernel
theorem dX3_setA_10 : decode cX3_setA 10 = .ok (.iaload, 1) := by decide +kernel
theorem dX3_setA_11 : decode cX3_setA 11 = .ok (.istore_n 3, 1) := by decide +kernel
theorem dX3_setA_12 : decode cX3_setA 12 = .ok (.aload_n 0, 1) := by decide +kernel
theorem dX3_setA_13 : decode cX3_setA 13 = .ok (.getfield 13, 3) := by decide +kernel
theorem dX3_setA_16 : decode cX3_setA 16 = .ok (.iload_n 1, 1) := by decide +kernel
theorem dX3_setA_17 : decode cX3_setA 17 = .ok (.iload_n 2, 1) := by decide +kernel
theorem dX3_setA_18 : decode cX3_setA 18 = .ok (.iastore, 1) := by decide +kernel
theorem dX3_setA_19 : decode cX3_setA 19 = .ok (.iload_n 3, 1) := by decide +kernel
theorem dX3_setA_20 : decode cX3_setA 20 = .ok (.ireturn, 1) := by decide +kernel
set_option maxRecDepth 20000 in
theorem ggX3_setB_X3_requirePlace : GoodIn wsX3_setB wsX3_requirePlace := goodIn_ca (goodIn_r _ [6, 7, 8, 9, 10, 11, 5, 12, 13, 14, 15, 16, 17, 18, 19, 20, 21] (by decide +kernel) (by decide +kernel)) (goodIn_sub (fun _ h => List.mem_cons_of_mem _ (List.mem_append_right _ h)) (by decide +kernel))
set_option maxRecDepth 20000 in
theorem gX3_setB_X3_requirePlace : GoodIn wsX3_setB (wsV RX3 56 RX3 yX3_requirePlace wsX3_requirePlace) := goodIn_app (goodIn_of _ (by decide +kernel)) ggX3_setB_X3_requirePlace
theorem dX3_setB_0 : decode cX3_setB 0 = .ok (.aload_n 0, 1) := by decide +kernel
theorem dX3_setB_1 : decode cX3_setB 1 = .ok (.iload_n 1, 1) := by decide +kernel
theorem dX3_setB_2 : decode cX3_setB 2 = .ok (.invokevirtual 56, 3) := by decide +kernel
theorem dX3_setB_5 : decode cX3_setB 5 = .ok (.aload_n 0, 1) := by decide +kernel
theorem dX3_setB_6 : decode cX3_setB 6 = .ok (.getfield 17, 3) := by decide +kernel
theorem dX3_setB_9 : decode cX3_setB 9 = .ok (.iload_n 1, 1) := by decide +kernel
theorem dX3_setB_10 : decode cX3_setB 10 = .ok (.iaload, 1) := by decide +kernel
theorem dX3_setB_11 : decode cX3_setB 11 = .ok (.istore_n 3, 1) := by decide +kernel
theorem dX3_setB_12 : decode cX3_setB 12 = .ok (.aload_n 0, 1) := by decide +kernel
theorem dX3_setB_13 : decode cX3_setB 13 = .ok (.getfield 17, 3) := by decide +kernel
theorem dX3_setB_16 : decode cX3_setB 16 = .ok (.iload_n 1, 1) := by decide +kernel
theorem dX3_setB_17 : decode cX3_setB 17 = .ok (.iload_n 2, 1) := by decide +kernel
theorem dX3_setB_18 : decode cX3_setB 18 = .ok (.iastore, 1) := by decide +kernel
theorem dX3_setB_19 : decode cX3_setB 19 = .ok (.iload_n 3, 1) := by decide +kernel
theorem dX3_setB_20 : decode cX3_setB 20 = .ok (.ireturn, 1) := by decide +kernel
set_option maxRecDepth 20000 in
theorem ggX3_a_X3_requirePlace : GoodIn wsX3_a wsX3_requirePlace := goodIn_ca (goodIn_r _ [6, 7, 8, 9, 10, 11, 5, 12, 13, 14, 15, 16, 17, 18, 19, 20, 21] (by decide +kernel) (by decide +kernel)) (goodIn_sub (fun _ h => List.mem_cons_of_mem _ (List.mem_append_right _ h)) (by decide +kernel))
set_option maxRecDepth 20000 in
theorem gX3_a_X3_requirePlace : GoodIn wsX3_a (wsV RX3 56 RX3 yX3_requirePlace wsX3_requirePlace) := goodIn_app (goodIn_of _ (by decide +kernel)) ggX3_a_X3_requirePlace
theorem dX3_a_0 : decode cX3_a 0 = .ok (.aload_n 0, 1) := by decide +kernel
theorem dX3_a_1 : decode cX3_a 1 = .ok (.iload_n 1, 1) := by decide +kernel
theorem dX3_a_2 : decode cX3_a 2 = .ok (.invokevirtual 56, 3) := by decide +kernel
theorem dX3_a_5 : decode cX3_a 5 = .ok (.aload_n 0, 1) := by decide +kernel
theorem dX3_a_6 : decode cX3_a 6 = .ok (.getfield 13, 3) := by decide +kernel
theorem dX3_a_9 : decode cX3_a 9 = .ok (.iload_n 1, 1) := by decide +kernel
theorem dX3_a_10 : decode cX3_a 10 = .ok (.iaload, 1) := by decide +kernel
theorem dX3_a_11 : decode cX3_a 11 = .ok (.ireturn, 1) := by decide +kernel
set_option maxRecDepth 20000 in
theorem ggX3_b_X3_requirePlace : GoodIn wsX3_b wsX3_requirePlace := goodIn_ca (goodIn_r _ [6, 7, 8, 9, 10, 11, 5, 12, 13, 14, 15, 16, 17, 18, 19, 20, 21] (by decide +kernel) (by decide +kernel)) (goodIn_sub (fun _ h => List.mem_cons_of_mem _ (List.mem_append_right _ h)) (by decide +kernel))
set_option maxRecDepth 20000 in
theorem gX3_b_X3_requirePlace : GoodIn wsX3_b (wsV RX3 56 RX3 yX3_requirePlace wsX3_requirePlace) := goodIn_app (goodIn_of _ (by decide +kernel)) ggX3_b_X3_requirePlace
theorem dX3_b_0 : decode cX3_b 0 = .ok (.aload_n 0, 1) := by decide +kernel
theorem dX3_b_1 : decode cX3_b 1 = .ok (.iload_n 1, 1) := by decide +kernel
theorem dX3_b_2 : decode cX3_b 2 = .ok (.invokevirtual 56, 3) := by decide +kernel
theorem dX3_b_5 : decode cX3_b 5 = .ok (.aload_n 0, 1) := by decide +kernel
theorem dX3_b_6 : decode cX3_b 6 = .ok (.getfield 17, 3) := by decide +kernel
theorem dX3_b_9 : decode cX3_b 9 = .ok (.iload_n 1, 1) := by decide +kernel
theorem dX3_b_10 : decode cX3_b 10 = .ok (.iaload, 1) := by decide +kernel
theorem dX3_b_11 : decode cX3_b 11 = .ok (.ireturn, 1) := by decide +kernel
theorem dX3_swap_0 : decode cX3_swap 0 = .ok (.aload_n 0, 1) := by decide +kernel
theorem dX3_swap_1 : decode cX3_swap 1 = .ok (.getfield 13, 3) := by decide +kernel
theorem dX3_swap_4 : decode cX3_swap 4 = .ok (.astore_n 1, 1) := by decide +kernel
theorem dX3_swap_5 : decode cX3_swap 5 = .ok (.aload_n 0, 1) := by decide +kernel
theorem dX3_swap_6 : decode cX3_swap 6 = .ok (.aload_n 0, 1) := by decide +kernel
theorem dX3_swap_7 : decode cX3_swap 7 = .ok (.getfield 17, 3) := by decide +kernel
theorem dX3_swap_10 : decode cX3_swap 10 = .ok (.putfield 13, 3) := by decide +kernel
theorem dX3_swap_13 : decode cX3_swap 13 = .ok (.aload_n 0, 1) := by decide +kernel
theorem dX3_swap_14 : decode cX3_swap 14 = .ok (.aload_n 1, 1) := by decide +kernel
theorem dX3_swap_15 : decode cX3_swap 15 = .ok (.putfield 17, 3) := by decide +kernel
theorem dX3_swap_18 : decode cX3_swap 18 = .ok (.return_, 1) := by decide +kernel
set_option maxRecDepth 20000 in
theorem ggX3_fold_X0_foldRows : GoodIn wsX3_fold wsX0_foldRows := goodIn_r _ [13, 14, 15, 16, 17, 18, 12, 19, 20, 21, 22, 23, 24, 25, 26, 27, 28, 29, 30, 31, 32, 33, 34, 35, 36, 37, 38, 39, 40, 41, 42, 43, 44, 45, 46, 47, 48, 49, 50, 51, 52, 53, 54, 55, 56, 57, 58, 59, 60, 61, 62, 63, 64, 65, 66, 67, 68, 69, 70, 71, 72, 86, 87, 88, 89] (by decide +kernel) (by decide +kernel)
set_option maxRecDepth 20000 in
theorem gX3_fold_X0_foldRows : GoodIn wsX3_fold (wsV RX3 61 RX0 yX0_foldRows wsX0_foldRows) := goodIn_app (goodIn_of _ (by decide +kernel)) ggX3_fold_X0_foldRows
set_option maxRecDepth 20000 in
theorem ggX3_fold_X3_places : GoodIn wsX3_fold wsX3_places := goodIn_r _ [77, 6, 78, 79, 80, 81, 82, 83, 84, 85] (by decide +kernel) (by decide +kernel)
set_option maxRecDepth 20000 in
theorem gX3_fold_X3_places : GoodIn wsX3_fold (wsV RX3 52 RX3 yX3_places wsX3_places) := goodIn_app (goodIn_of _ (by decide +kernel)) ggX3_fold_X3_places
theorem dX3_fold_0 : decode cX3_fold 0 = .ok (.iload_n 1, 1) := by decide +kernel
theorem dX3_fold_1 : decode cX3_fold 1 = .ok (.ifCond .lt 8, 3) := by decide +kernel
theorem dX3_fold_4 : decode cX3_fold 4 = .ok (.iload_n 1, 1) := by decide +kernel
theorem dX3_fold_5 : decode cX3_fold 5 = .ok (.iconst 2, 1) := by decide +kernel
theorem dX3_fold_6 : decode cX3_fold 6 = .ok (.if_icmp .le 13, 3) := by decide +kernel
theorem dX3_fold_9 : decode cX3_fold 9 = .ok (.new 45, 3) := by decide +kernel
theorem dX3_fold_12 : decode cX3_fold 12 = .ok (.dup, 1) := by decide +kernel
theorem dX3_fold_13 : decode cX3_fold 13 = .ok (.ldc 59, 2) := by decide +kernel
theorem dX3_fold_15 : decode cX3_fold 15 = .ok (.invokespecial 49, 3) := by decide +kernel
theorem dX3_fold_18 : decode cX3_fold 18 = .ok (.athrow, 1) := by decide +kernel
theorem dX3_fold_19 : decode cX3_fold 19 = .ok (.aload_n 0, 1) := by decide +kernel
theorem dX3_fold_20 : decode cX3_fold 20 = .ok (.getfield 35, 3) := by decide +kernel
theorem dX3_fold_23 : decode cX3_fold 23 = .ok (.aload_n 0, 1) := by decide +kernel
theorem dX3_fold_24 : decode cX3_fold 24 = .ok (.getfield 13, 3) := by decide +kernel
theorem dX3_fold_27 : decode cX3_fold 27 = .ok (.aload_n 0, 1) := by decide +kernel
theorem dX3_fold_28 : decode cX3_fold 28 = .ok (.getfield 17, 3) := by decide +kernel
theorem dX3_fold_31 : decode cX3_fold 31 = .ok (.aload_n 0, 1) := by decide +kernel
theorem dX3_fold_32 : decode cX3_fold 32 = .ok (.getfield 9, 3) := by decide +kernel
theorem dX3_fold_35 : decode cX3_fold 35 = .ok (.iload_n 1, 1) := by decide +kernel
theorem dX3_fold_36 : decode cX3_fold 36 = .ok (.aload_n 0, 1) := by decide +kernel
theorem dX3_fold_37 : decode cX3_fold 37 = .ok (.getfield 28, 3) := by decide +kernel
theorem dX3_fold_40 : decode cX3_fold 40 = .ok (.invokevirtual 61, 3) := by decide +kernel
theorem dX3_fold_43 : decode cX3_fold 43 = .ok (.aload_n 0, 1) := by decide +kernel
theorem dX3_fold_44 : decode cX3_fold 44 = .ok (.iload_n 1, 1) := by decide +kernel
theorem dX3_fold_45 : decode cX3_fold 45 = .ok (.iconst 2, 1) := by decide +kernel
theorem dX3_fold_46 : decode cX3_fold 46 = .ok (.if_icmp .ne 14, 3) := by decide +kernel
theorem dX3_fold_49 : decode cX3_fold 49 = .ok (.iconst 2, 1) := by decide +kernel
theorem dX3_fold_50 : decode cX3_fold 50 = .ok (.aload_n 0, 1) := by decide +kernel
theorem dX3_fold_51 : decode cX3_fold 51 = .ok (.invokevirtual 52, 3) := by decide +kernel
theorem dX3_fold_54 : decode cX3_fold 54 = .ok (.imul, 1) := by decide +kernel
theorem dX3_fold_55 : decode cX3_fold 55 = .ok (.iconst 1, 1) := by decide +kernel
theorem dX3_fold_56 : decode cX3_fold 56 = .ok (.isub, 1) := by decide +kernel
theorem dX3_fold_57 : decode cX3_fold 57 = .ok (.goto 7, 3) := by decide +kernel
theorem dX3_fold_60 : decode cX3_fold 60 = .ok (.aload_n 0, 1) := by decide +kernel
theorem dX3_fold_61 : decode cX3_fold 61 = .ok (.invokevirtual 52, 3) := by decide +kernel
theorem dX3_fold_64 : decode cX3_fold 64 = .ok (.putfield 20, 3) := by decide +kernel
theorem dX3_fold_67 : decode cX3_fold 67 = .ok (.aload_n 0, 1) := by decide +kernel
theorem dX3_fold_68 : decode cX3_fold 68 = .ok (.getfield 20, 3) := by decide +kernel
theorem dX3_fold_71 : decode cX3_fold 71 = .ok (.ireturn, 1) := by decide +kernel
set_option maxRecDepth 20000 in
theorem ggX3_power_X3_places : GoodIn wsX3_power wsX3_places := goodIn_r _ [13, 14, 110, 111, 112, 113, 114, 115, 116, 117] (by decide +kernel) (by decide +kernel)
set_option maxRecDepth 20000 in
theorem gX3_power_X3_places : GoodIn wsX3_power (wsV RX3 52 RX3 yX3_places wsX3_places) := goodIn_app (goodIn_of _ (by decide +kernel)) ggX3_power_X3_places
set_option maxRecDepth 20000 in
theorem ggX3_power_X3_foldRowAWith : GoodIn wsX3_power wsX3_foldRowAWith := goodIn_r _ [18, 19, 3, 14, 20, 21, 22, 23, 24, 25, 26, 27, 28, 29, 30, 31, 32, 33, 34, 35, 36, 37, 38, 39, 40, 41, 42, 43, 44, 45, 46, 47, 48, 49, 50, 51, 52, 53, 54, 55, 56, 57, 58, 59, 60, 61, 62, 63, 64, 65, 66, 67, 68, 69, 70, 71, 72, 73, 74, 75, 76, 77, 78, 79, 80, 81, 82, 83, 84, 9, 10, 11, 12, 13, 85, 86, 87, 88, 89, 90, 91, 92, 93, 94, 95, 96, 97, 98, 99, 100, 101, 102, 103, 104, 105, 106, 107, 108, 109, 110, 111, 112, 113, 114, 115, 116, 117, 118, 119, 120, 121] (by decide +kernel) (by decide +kernel)
set_option maxRecDepth 20000 in
theorem gX3_power_X3_foldRowAWith : GoodIn wsX3_power (wsV RX3 73 RX3 yX3_foldRowAWith wsX3_foldRowAWith) := goodIn_app (goodIn_of _ (by decide +kernel)) ggX3_power_X3_foldRowAWith
theorem dX3_power_0 : decode cX3_power 0 = .ok (.iload_n 1, 1) := by decide +kernel
theorem dX3_power_1 : decode cX3_power 1 = .ok (.iconst 1, 1) := by decide +kernel
theorem dX3_power_2 : decode cX3_power 2 = .ok (.if_icmp .lt 10, 3) := by decide +kernel
theorem dX3_power_5 : decode cX3_power 5 = .ok (.iload_n 1, 1) := by decide +kernel
theorem dX3_power_6 : decode cX3_power 6 = .ok (.sipush 1000, 3) := by decide +kernel
theorem dX3_power_9 : decode cX3_power 9 = .ok (.if_icmp .le 13, 3) := by decide +kernel
theorem dX3_power_12 : decode cX3_power 12 = .ok (.new 45, 3) := by decide +kernel
theorem dX3_power_15 : decode cX3_power 15 = .ok (.dup, 1) := by decide +kernel
theorem dX3_power_16 : decode cX3_power 16 = .ok (.ldc 65, 2) := by decide +kernel
theorem dX3_power_18 : decode cX3_power 18 = .ok (.invokespecial 49, 3) := by decide +kernel
theorem dX3_power_21 : decode cX3_power 21 = .ok (.athrow, 1) := by decide +kernel
theorem dX3_power_22 : decode cX3_power 22 = .ok (.aload_n 0, 1) := by decide +kernel
theorem dX3_power_23 : decode cX3_power 23 = .ok (.getfield 13, 3) := by decide +kernel
theorem dX3_power_26 : decode cX3_power 26 = .ok (.iconst 0, 1) := by decide +kernel
theorem dX3_power_27 : decode cX3_power 27 = .ok (.aload_n 0, 1) := by decide +kernel
theorem dX3_power_28 : decode cX3_power 28 = .ok (.getfield 42, 3) := by decide +kernel
theorem dX3_power_31 : decode cX3_power 31 = .ok (.iconst 0, 1) := by decide +kernel
theorem dX3_power_32 : decode cX3_power 32 = .ok (.aload_n 0, 1) := by decide +kernel
theorem dX3_power_33 : decode cX3_power 33 = .ok (.invokevirtual 52, 3) := by decide +kernel
theorem dX3_power_36 : decode cX3_power 36 = .ok (.invokestatic 67, 3) := by decide +kernel
theorem dX3_power_39 : decode cX3_power 39 = .ok (.sipush 256, 3) := by decide +kernel
theorem dX3_power_42 : decode cX3_power 42 = .ok (.istore_n 2, 1) := by decide +kernel
theorem dX3_power_43 : decode cX3_power 43 = .ok (.iload_n 2, 1) := by decide +kernel
theorem dX3_power_44 : decode cX3_power 44 = .ok (.ifCond .le 53, 3) := by decide +kernel
theorem dX3_power_47 : decode cX3_power 47 = .ok (.iconst 2, 1) := by decide +kernel
theorem dX3_power_48 : decode cX3_power 48 = .ok (.iload_n 2, 1) := by decide +kernel
theorem dX3_power_49 : decode cX3_power 49 = .ok (.imul, 1) := by decide +kernel
theorem dX3_power_50 : decode cX3_power 50 = .ok (.iload_n 1, 1) := by decide +kernel
theorem dX3_power_51 : decode cX3_power 51 = .ok (.if_icmp .gt 7, 3) := by decide +kernel
theorem dX3_power_54 : decode cX3_power 54 = .ok (.iconst 1, 1) := by decide +kernel
theorem dX3_power_55 : decode cX3_power 55 = .ok (.goto 4, 3) := by decide +kernel
theorem dX3_power_58 : decode cX3_power 58 = .ok (.iconst 0, 1) := by decide +kernel
theorem dX3_power_59 : decode cX3_power 59 = .ok (.istore_n 3, 1) := by decide +kernel
theorem dX3_power_60 : decode cX3_power 60 = .ok (.iload_n 3, 1) := by decide +kernel
theorem dX3_power_61 : decode cX3_power 61 = .ok (.ifCond .eq 11, 3) := by decide +kernel
theorem dX3_power_64 : decode cX3_power 64 = .ok (.aload_n 0, 1) := by decide +kernel
theorem dX3_power_65 : decode cX3_power 65 = .ok (.aload_n 0, 1) := by decide +kernel
theorem dX3_power_66 : decode cX3_power 66 = .ok (.getfield 13, 3) := by decide +kernel
theorem dX3_power_69 : decode cX3_power 69 = .ok (.invokevirtual 73, 3) := by decide +kernel
theorem dX3_power_72 : decode cX3_power 72 = .ok (.iload_n 3, 1) := by decide +kernel
theorem dX3_power_73 : decode cX3_power 73 = .ok (.ifCond .eq 17, 3) := by decide +kernel
theorem dX3_power_76 : decode cX3_power 76 = .ok (.iload_n 1, 1) := by decide +kernel
theorem dX3_power_77 : decode cX3_power 77 = .ok (.iload_n 2, 1) := by decide +kernel
theorem dX3_power_78 : decode cX3_power 78 = .ok (.iand, 1) := by decide +kernel
theorem dX3_power_79 : decode cX3_power 79 = .ok (.ifCond .eq 11, 3) := by decide +kernel
theorem dX3_power_82 : decode cX3_power 82 = .ok (.aload_n 0, 1) := by decide +kernel
theorem dX3_power_83 : decode cX3_power 83 = .ok (.aload_n 0, 1) := by decide +kernel
theorem dX3_power_84 : decode cX3_power 84 = .ok (.getfield 42, 3) := by decide +kernel
theorem dX3_power_87 : decode cX3_power 87 = .ok (.invokevirtual 73, 3) := by decide +kernel
theorem dX3_power_90 : decode cX3_power 90 = .ok (.iload_n 2, 1) := by decide +kernel
theorem dX3_power_91 : decode cX3_power 91 = .ok (.iconst 2, 1) := by decide +kernel
theorem dX3_power_92 : decode cX3_power 92 = .ok (.idiv, 1) := by decide +kernel
theorem dX3_power_93 : decode cX3_power 93 = .ok (.istore_n 2, 1) := by decide +kernel
theorem dX3_power_94 : decode cX3_power 94 = .ok (.goto (-51), 3) := by decide +kernel
theorem dX3_power_97 : decode cX3_power 97 = .ok (.aload_n 0, 1) := by decide +kernel
theorem dX3_power_98 : decode cX3_power 98 = .ok (.getfield 13, 3) := by decide +kernel
theorem dX3_power_101 : decode cX3_power 101 = .ok (.iconst 0, 1) := by decide +kernel
theorem dX3_power_102 : decode cX3_power 102 = .ok (.iaload, 1) := by decide +kernel
theorem dX3_power_103 : decode cX3_power 103 = .ok (.ireturn, 1) := by decide +kernel
set_option maxRecDepth 20000 in
theorem ggX3_low_X3_requireResult : GoodIn wsX3_low wsX3_requireResult := goodIn_ca (goodIn_r _ [6, 7, 8, 9, 36, 37, 38, 39, 40, 41, 42, 43] (by decide +kernel) (by decide +kernel)) (goodIn_sub (fun _ h => List.mem_cons_of_mem _ (List.mem_append_right _ h)) (by decide +kernel))
set_option maxRecDepth 20000 in
theorem gX3_low_X3_requireResult : GoodIn wsX3_low (wsV RX3 77 RX3 yX3_requireResult wsX3_requireResult) := goodIn_app (goodIn_of _ (by decide +kernel)) ggX3_low_X3_requireResult
set_option maxRecDepth 20000 in
theorem ggX3_low_X2_lowest64Bits : GoodIn wsX3_low wsX2_lowest64Bits := goodIn_r _ [14, 15, 16, 17, 18, 13, 19, 20, 21, 22, 23, 24, 25, 26, 27, 28, 29, 30, 31, 32, 33, 34, 35, 44] (by decide +kernel) (by decide +kernel)
set_option maxRecDepth 20000 in
theorem gX3_low_X2_lowest64Bits : GoodIn wsX3_low (wsV RX3 80 RX2 yX2_lowest64Bits wsX2_lowest64Bits) := goodIn_app (goodIn_of _ (by decide +kernel)) ggX3_low_X2_lowest64Bits
theorem dX3_low_0 : decode cX3_low 0 = .ok (.aload_n 0, 1) := by decide +kernel
theorem dX3_low_1 : decode cX3_low 1 = .ok (.iload_n 1, 1) := by decide +kernel
theorem dX3_low_2 : decode cX3_low 2 = .ok (.invokevirtual 77, 3) := by decide +kernel
theorem dX3_low_5 : decode cX3_low 5 = .ok (.aload_n 0, 1) := by decide +kernel
theorem dX3_low_6 : decode cX3_low 6 = .ok (.getfield 28, 3) := by decide +kernel
theorem dX3_low_9 : decode cX3_low 9 = .ok (.iload_n 1, 1) := by decide +kernel
theorem dX3_low_10 : decode cX3_low 10 = .ok (.invokevirtual 80, 3) := by decide +kernel
theorem dX3_low_13 : decode cX3_low 13 = .ok (.lreturn, 1) := by decide +kernel
set_option maxRecDepth 20000 in
theorem ggX3_high_X3_requireResult : GoodIn wsX3_high wsX3_requireResult := goodIn_ca (goodIn_r _ [6, 7, 8, 9, 37, 38, 39, 40, 41, 42, 43, 44] (by decide +kernel) (by decide +kernel)) (goodIn_sub (fun _ h => List.mem_cons_of_mem _ (List.mem_append_right _ h)) (by decide +kernel))
set_option maxRecDepth 20000 in
theorem gX3_high_X3_requireResult : GoodIn wsX3_high (wsV RX3 77 RX3 yX3_requireResult wsX3_requireResult) := goodIn_app (goodIn_of _ (by decide +kernel)) ggX3_high_X3_requireResult
set_option maxRecDepth 20000 in
theorem ggX3_high_X2_bitsAbove64 : GoodIn wsX3_high wsX2_bitsAbove64 := goodIn_r _ [14, 15, 16, 17, 18, 19, 13, 20, 21, 22, 23, 24, 25, 26, 27, 28, 29, 30, 31, 32, 33, 34, 35, 36, 45] (by decide +kernel) (by decide +kernel)
set_option maxRecDepth 20000 in
theorem gX3_high_X2_bitsAbove64 : GoodIn wsX3_high (wsV RX3 84 RX2 yX2_bitsAbove64 wsX2_bitsAbove64) := goodIn_app (goodIn_of _ (by decide +kernel)) ggX3_high_X2_bitsAbove64
theorem dX3_high_0 : decode cX3_high 0 = .ok (.aload_n 0, 1) := by decide +kernel
theorem dX3_high_1 : decode cX3_high 1 = .ok (.iload_n 1, 1) := by decide +kernel
theorem dX3_high_2 : decode cX3_high 2 = .ok (.invokevirtual 77, 3) := by decide +kernel
theorem dX3_high_5 : decode cX3_high 5 = .ok (.aload_n 0, 1) := by decide +kernel
theorem dX3_high_6 : decode cX3_high 6 = .ok (.getfield 28, 3) := by decide +kernel
theorem dX3_high_9 : decode cX3_high 9 = .ok (.iload_n 1, 1) := by decide +kernel
theorem dX3_high_10 : decode cX3_high 10 = .ok (.invokevirtual 84, 3) := by decide +kernel
theorem dX3_high_13 : decode cX3_high 13 = .ok (.ireturn, 1) := by decide +kernel
set_option maxRecDepth 20000 in
theorem ggX3_rest_X3_requirePrime : GoodIn wsX3_rest wsX3_requirePrime := goodIn_ca (goodIn_r _ [6, 7, 8, 9] (by decide +kernel) (by decide +kernel)) (goodIn_sub (fun _ h => List.mem_cons_of_mem _ (List.mem_append_left _ (List.mem_append_right _ h))) (by decide +kernel))
set_option maxRecDepth 20000 in
theorem gX3_rest_X3_requirePrime : GoodIn wsX3_rest (wsV RX3 88 RX3 yX3_requirePrime wsX3_requirePrime) := goodIn_app (goodIn_of _ (by decide +kernel)) ggX3_rest_X3_requirePrime
set_option maxRecDepth 20000 in
theorem ggX3_rest_X3_requireResult : GoodIn wsX3_rest wsX3_requireResult := goodIn_ca (goodIn_r _ [13, 14, 15, 16, 23, 24, 25, 26, 27, 28, 29, 30] (by decide +kernel) (by decide +kernel)) (goodIn_sub (fun _ h => List.mem_cons_of_mem _ (List.mem_append_right _ h)) (by decide +kernel))
set_option maxRecDepth 20000 in
theorem gX3_rest_X3_requireResult : GoodIn wsX3_rest (wsV RX3 77 RX3 yX3_requireResult wsX3_requireResult) := goodIn_app (goodIn_of _ (by decide +kernel)) ggX3_rest_X3_requireResult
set_option maxRecDepth 20000 in
theorem ggX3_rest_X2_remainder : GoodIn wsX3_rest wsX2_remainder := goodIn_r _ [21, 22, 31] (by decide +kernel) (by decide +kernel)
set_option maxRecDepth 20000 in
theorem gX3_rest_X2_remainder : GoodIn wsX3_rest (wsV RX3 91 RX2 yX2_remainder wsX2_remainder) := goodIn_app (goodIn_of _ (by decide +kernel)) ggX3_rest_X2_remainder
theorem dX3_rest_0 : decode cX3_rest 0 = .ok (.aload_n 0, 1) := by decide +kernel
theorem dX3_rest_1 : decode cX3_rest 1 = .ok (.iload_n 1, 1) := by decide +kernel
theorem dX3_rest_2 : decode cX3_rest 2 = .ok (.invokevirtual 88, 3) := by decide +kernel
theorem dX3_rest_5 : decode cX3_rest 5 = .ok (.aload_n 0, 1) := by decide +kernel
theorem dX3_rest_6 : decode cX3_rest 6 = .ok (.iload_n 2, 1) := by decide +kernel
theorem dX3_rest_7 : decode cX3_rest 7 = .ok (.invokevirtual 77, 3) := by decide +kernel
theorem dX3_rest_10 : decode cX3_rest 10 = .ok (.aload_n 0, 1) := by decide +kernel
theorem dX3_rest_11 : decode cX3_rest 11 = .ok (.getfield 28, 3) := by decide +kernel
theorem dX3_rest_14 : decode cX3_rest 14 = .ok (.iload_n 1, 1) := by decide +kernel
theorem dX3_rest_15 : decode cX3_rest 15 = .ok (.iload_n 2, 1) := by decide +kernel
theorem dX3_rest_16 : decode cX3_rest 16 = .ok (.invokevirtual 91, 3) := by decide +kernel
theorem dX3_rest_19 : decode cX3_rest 19 = .ok (.ireturn, 1) := by decide +kernel
set_option maxRecDepth 20000 in
theorem ggX3_value_X3_requirePrime : GoodIn wsX3_value wsX3_requirePrime := goodIn_ca (goodIn_r _ [6, 7, 8, 1] (by decide +kernel) (by decide +kernel)) (goodIn_sub (fun _ h => List.mem_cons_of_mem _ (List.mem_append_left _ (List.mem_append_right _ h))) (by decide +kernel))
set_option maxRecDepth 20000 in
theorem gX3_value_X3_requirePrime : GoodIn wsX3_value (wsV RX3 88 RX3 yX3_requirePrime wsX3_requirePrime) := goodIn_app (goodIn_of _ (by decide +kernel)) ggX3_value_X3_requirePrime
set_option maxRecDepth 20000 in
theorem ggX3_value_X3_requirePlace : GoodIn wsX3_value wsX3_requirePlace := goodIn_ca (goodIn_r _ [12, 13, 14, 15, 16, 17, 5, 18, 19, 41, 42, 43, 44, 45, 46, 47, 48] (by decide +kernel) (by decide +kernel)) (goodIn_sub (fun _ h => List.mem_cons_of_mem _ (List.mem_append_right _ h)) (by decide +kernel))
set_option maxRecDepth 20000 in
theorem gX3_value_X3_requirePlace : GoodIn wsX3_value (wsV RX3 56 RX3 yX3_requirePlace wsX3_requirePlace) := goodIn_app (goodIn_of _ (by decide +kernel)) ggX3_value_X3_requirePlace
set_option maxRecDepth 20000 in
theorem ggX3_value_X3_rootToThe : GoodIn wsX3_value wsX3_rootToThe := goodIn_r _ [23, 1, 19, 24, 25, 26, 27, 28, 29, 30, 31, 15, 16, 17, 5, 18, 32, 41, 42, 43, 44, 45, 46, 47, 48] (by decide +kernel) (by decide +kernel)
set_option maxRecDepth 20000 in
theorem gX3_value_X3_rootToThe : GoodIn wsX3_value (wsV RX3 95 RX3 yX3_rootToThe wsX3_rootToThe) := goodIn_app (goodIn_of _ (by decide +kernel)) ggX3_value_X3_rootToThe
set_option maxRecDepth 20000 in
theorem ggX3_value_X3_rowAAt : GoodIn wsX3_value wsX3_rowAAt := goodIn_r _ [36, 37, 15, 16, 17, 5, 18, 19, 38, 39, 26, 40, 41, 42, 43, 44, 45, 46, 47, 48] (by decide +kernel) (by decide +kernel)
set_option maxRecDepth 20000 in
theorem gX3_value_X3_rowAAt : GoodIn wsX3_value (wsV RX3 102 RX3 yX3_rowAAt wsX3_rowAAt) := goodIn_app (goodIn_of _ (by decide +kernel)) ggX3_value_X3_rowAAt
theorem dX3_value_0 : decode cX3_value 0 = .ok (.aload_n 0, 1) := by decide +kernel
theorem dX3_value_1 : decode cX3_value 1 = .ok (.iload_n 1, 1) := by decide +kernel
theorem dX3_value_2 : decode cX3_value 2 = .ok (.invokevirtual 88, 3) := by decide +kernel
theorem dX3_value_5 : decode cX3_value 5 = .ok (.aload_n 0, 1) := by decide +kernel
theorem dX3_value_6 : decode cX3_value 6 = .ok (.iload_n 2, 1) := by decide +kernel
theorem dX3_value_7 : decode cX3_value 7 = .ok (.invokevirtual 56, 3) := by decide +kernel
theorem dX3_value_10 : decode cX3_value 10 = .ok (.aload_n 0, 1) := by decide +kernel
theorem dX3_value_11 : decode cX3_value 11 = .ok (.aload_n 0, 1) := by decide +kernel
theorem dX3_value_12 : decode cX3_value 12 = .ok (.iload_n 1, 1) := by decide +kernel
theorem dX3_value_13 : decode cX3_value 13 = .ok (.iload_n 2, 1) := by decide +kernel
theorem dX3_value_14 : decode cX3_value 14 = .ok (.invokevirtual 95, 3) := by decide +kernel
theorem dX3_value_17 : decode cX3_value 17 = .ok (.getstatic 99, 3) := by decide +kernel
theorem dX3_value_20 : decode cX3_value 20 = .ok (.iload_n 1, 1) := by decide +kernel
theorem dX3_value_21 : decode cX3_value 21 = .ok (.iaload, 1) := by decide +kernel
theorem dX3_value_22 : decode cX3_value 22 = .ok (.invokevirtual 102, 3) := by decide +kernel
theorem dX3_value_25 : decode cX3_value 25 = .ok (.l2i, 1) := by decide +kernel
theorem dX3_value_26 : decode cX3_value 26 = .ok (.ireturn, 1) := by decide +kernel
set_option maxRecDepth 20000 in
theorem ggX3_back_X3_requirePrime : GoodIn wsX3_back wsX3_requirePrime := goodIn_ca (goodIn_r _ [6, 7, 8, 1] (by decide +kernel) (by decide +kernel)) (goodIn_sub (fun _ h => List.mem_cons_of_mem _ (List.mem_append_left _ (List.mem_append_right _ h))) (by decide +kernel))
set_option maxRecDepth 20000 in
theorem gX3_back_X3_requirePrime : GoodIn wsX3_back (wsV RX3 88 RX3 yX3_requirePrime wsX3_requirePrime) := goodIn_app (goodIn_of _ (by decide +kernel)) ggX3_back_X3_requirePrime
set_option maxRecDepth 20000 in
theorem ggX3_back_X3_requirePlace : GoodIn wsX3_back wsX3_requirePlace := goodIn_ca (goodIn_r _ [12, 13, 14, 15, 16, 17, 5, 18, 19, 44, 45, 46, 47, 48, 49, 50, 51] (by decide +kernel) (by decide +kernel)) (goodIn_sub (fun _ h => List.mem_cons_of_mem _ (List.mem_append_right _ h)) (by decide +kernel))
set_option maxRecDepth 20000 in
theorem gX3_back_X3_requirePlace : GoodIn wsX3_back (wsV RX3 56 RX3 yX3_requirePlace wsX3_requirePlace) := goodIn_app (goodIn_of _ (by decide +kernel)) ggX3_back_X3_requirePlace
set_option maxRecDepth 20000 in
theorem ggX3_back_X3_rootToThe : GoodIn wsX3_back wsX3_rootToThe := goodIn_r _ [23, 1, 19, 24, 25, 26, 27, 28, 29, 30, 31, 15, 16, 17, 5, 18, 32, 44, 45, 46, 47, 48, 49, 50, 51] (by decide +kernel) (by decide +kernel)
set_option maxRecDepth 20000 in
theorem gX3_back_X3_rootToThe : GoodIn wsX3_back (wsV RX3 95 RX3 yX3_rootToThe wsX3_rootToThe) := goodIn_app (goodIn_of _ (by decide +kernel)) ggX3_back_X3_rootToThe
set_option maxRecDepth 20000 in
theorem ggX3_back_X3_rowAAt : GoodIn wsX3_back wsX3_rowAAt := goodIn_r _ [36, 37, 15, 16, 17, 5, 18, 19, 38, 39, 26, 40, 44, 45, 46, 47, 48, 49, 50, 51] (by decide +kernel) (by decide +kernel)
set_option maxRecDepth 20000 in
theorem gX3_back_X3_rowAAt : GoodIn wsX3_back (wsV RX3 102 RX3 yX3_rowAAt wsX3_rowAAt) := goodIn_app (goodIn_of _ (by decide +kernel)) ggX3_back_X3_rowAAt
set_option maxRecDepth 20000 in
theorem ggX3_back_X3_places : GoodIn wsX3_back wsX3_places := goodIn_r _ [18, 19, 44, 45, 46, 47, 48, 49, 50, 51] (by decide +kernel) (by decide +kernel)
set_option maxRecDepth 20000 in
theorem gX3_back_X3_places : GoodIn wsX3_back (wsV RX3 52 RX3 yX3_places wsX3_places) := goodIn_app (goodIn_of _ (by decide +kernel)) ggX3_back_X3_places
set_option maxRecDepth 20000 in
theorem ggX3_back_X1_inverse : GoodIn wsX3_back wsX1_inverse := goodIn_r _ [43, 29, 30, 26, 31] (by decide +kernel) (by decide +kernel)
set_option maxRecDepth 20000 in
theorem gX3_back_X1_inverse : GoodIn wsX3_back (va_wsS RX3 106 yX1_inverse wsX1_inverse) := goodIn_app (goodIn_of _ (by decide +kernel)) ggX3_back_X1_inverse
theorem dX3_back_0 : decode cX3_back 0 = .ok (.aload_n 0, 1) := by decide +kernel
theorem dX3_back_1 : decode cX3_back 1 = .ok (.iload_n 1, 1) := by decide +kernel
theorem dX3_back_2 : decode cX3_back 2 = .ok (.invokevirtual 88, 3) := by decide +kernel
theorem dX3_back_5 : decode cX3_back 5 = .ok (.aload_n 0, 1) := by decide +kernel
theorem dX3_back_6 : decode cX3_back 6 = .ok (.iload_n 2, 1) := by decide +kernel
theorem dX3_back_7 : decode cX3_back 7 = .ok (.invokevirtual 56, 3) := by decide +kernel
theorem dX3_back_10 : decode cX3_back 10 = .ok (.getstatic 99, 3) := by decide +kernel
theorem dX3_back_13 : decode cX3_back 13 = .ok (.iload_n 1, 1) := by decide +kernel
theorem dX3_back_14 : decode cX3_back 14 = .ok (.iaload, 1) := by decide +kernel
theorem dX3_back_15 : decode cX3_back 15 = .ok (.istore_n 3, 1) := by decide +kernel
theorem dX3_back_16 : decode cX3_back 16 = .ok (.aload_n 0, 1) := by decide +kernel
theorem dX3_back_17 : decode cX3_back 17 = .ok (.aload_n 0, 1) := by decide +kernel
theorem dX3_back_18 : decode cX3_back 18 = .ok (.iload_n 1, 1) := by decide +kernel
theorem dX3_back_19 : decode cX3_back 19 = .ok (.iload_n 2, 1) := by decide +kernel
theorem dX3_back_20 : decode cX3_back 20 = .ok (.ineg, 1) := by decide +kernel
theorem dX3_back_21 : decode cX3_back 21 = .ok (.invokevirtual 95, 3) := by decide +kernel
theorem dX3_back_24 : decode cX3_back 24 = .ok (.iload_n 3, 1) := by decide +kernel
theorem dX3_back_25 : decode cX3_back 25 = .ok (.invokevirtual 102, 3) := by decide +kernel
theorem dX3_back_28 : decode cX3_back 28 = .ok (.aload_n 0, 1) := by decide +kernel
theorem dX3_back_29 : decode cX3_back 29 = .ok (.invokevirtual 52, 3) := by decide +kernel
theorem dX3_back_32 : decode cX3_back 32 = .ok (.i2l, 1) := by decide +kernel
theorem dX3_back_33 : decode cX3_back 33 = .ok (.iload_n 3, 1) := by decide +kernel
theorem dX3_back_34 : decode cX3_back 34 = .ok (.invokestatic 106, 3) := by decide +kernel
theorem dX3_back_37 : decode cX3_back 37 = .ok (.lmul, 1) := by decide +kernel
theorem dX3_back_38 : decode cX3_back 38 = .ok (.iload_n 3, 1) := by decide +kernel
theorem dX3_back_39 : decode cX3_back 39 = .ok (.i2l, 1) := by decide +kernel
theorem dX3_back_40 : decode cX3_back 40 = .ok (.lrem, 1) := by decide +kernel
theorem dX3_back_41 : decode cX3_back 41 = .ok (.l2i, 1) := by decide +kernel
theorem dX3_back_42 : decode cX3_back 42 = .ok (.ireturn, 1) := by decide +kernel
set_option maxRecDepth 20000 in
theorem ggX3_keep_X3_places : GoodIn wsX3_keep wsX3_places := goodIn_r _ [10, 11, 42, 43, 44, 45, 46, 47, 48, 49] (by decide +kernel) (by decide +kernel)
set_option maxRecDepth 20000 in
theorem gX3_keep_X3_places : GoodIn wsX3_keep (wsV RX3 52 RX3 yX3_places wsX3_places) := goodIn_app (goodIn_of _ (by decide +kernel)) ggX3_keep_X3_places
set_option maxRecDepth 20000 in
theorem ggX3_keep_X2_cutInto : GoodIn wsX3_keep wsX2_cutInto := goodIn_r _ [16, 17, 18, 19, 15, 20, 21, 22, 23, 24, 25, 26, 27, 28, 29, 30, 31, 32, 33, 34, 35, 36, 37, 38, 39, 40, 41, 50] (by decide +kernel) (by decide +kernel)
set_option maxRecDepth 20000 in
theorem gX3_keep_X2_cutInto : GoodIn wsX3_keep (wsV RX3 116 RX2 yX2_cutInto wsX2_cutInto) := goodIn_app (goodIn_of _ (by decide +kernel)) ggX3_keep_X2_cutInto
theorem dX3_keep_0 : decode cX3_keep 0 = .ok (.aload_n 0, 1) := by decide +kernel
theorem dX3_keep_1 : decode cX3_keep 1 = .ok (.getfield 20, 3) := by decide +kernel
theorem dX3_keep_4 : decode cX3_keep 4 = .ok (.ifCond .ne 13, 3) := by decide +kernel
theorem dX3_keep_7 : decode cX3_keep 7 = .ok (.new 111, 3) := by decide +kernel
theorem dX3_keep_10 : decode cX3_keep 10 = .ok (.dup, 1) := by decide +kernel
theorem dX3_keep_11 : decode cX3_keep 11 = .ok (.ldc 113, 2) := by decide +kernel
theorem dX3_keep_13 : decode cX3_keep 13 = .ok (.invokespecial 115, 3) := by decide +kernel
theorem dX3_keep_16 : decode cX3_keep 16 = .ok (.athrow, 1) := by decide +kernel
theorem dX3_keep_17 : decode cX3_keep 17 = .ok (.aload_n 0, 1) := by decide +kernel
theorem dX3_keep_18 : decode cX3_keep 18 = .ok (.getfield 28, 3) := by decide +kernel
theorem dX3_keep_21 : decode cX3_keep 21 = .ok (.aload_n 0, 1) := by decide +kernel
theorem dX3_keep_22 : decode cX3_keep 22 = .ok (.getfield 13, 3) := by decide +kernel
theorem dX3_keep_25 : decode cX3_keep 25 = .ok (.aload_n 0, 1) := by decide +kernel
theorem dX3_keep_26 : decode cX3_keep 26 = .ok (.invokevirtual 52, 3) := by decide +kernel
theorem dX3_keep_29 : decode cX3_keep 29 = .ok (.invokevirtual 116, 3) := by decide +kernel
theorem dX3_keep_32 : decode cX3_keep 32 = .ok (.return_, 1) := by decide +kernel
set_option maxRecDepth 20000 in
theorem ggX3_product_X3_requirePrime : GoodIn wsX3_product wsX3_requirePrime := goodIn_ca (goodIn_r _ [6, 7, 8, 1] (by decide +kernel) (by decide +kernel)) (goodIn_sub (fun _ h => List.mem_cons_of_mem _ (List.mem_append_right _ h)) (by decide +kernel))
set_option maxRecDepth 20000 in
theorem gX3_product_X3_requirePrime : GoodIn wsX3_product (wsV RX3 88 RX3 yX3_requirePrime wsX3_requirePrime) := goodIn_app (goodIn_of _ (by decide +kernel)) ggX3_product_X3_requirePrime
set_option maxRecDepth 20000 in
theorem ggX3_product_X1_remainder : GoodIn wsX3_product wsX1_remainder := goodIn_r _ [12] (by decide +kernel) (by decide +kernel)
set_option maxRecDepth 20000 in
theorem gX3_product_X1_remainder : GoodIn wsX3_product (va_wsS RX3 120 yX1_remainder wsX1_remainder) := goodIn_app (goodIn_of _ (by decide +kernel)) ggX3_product_X1_remainder
theorem dX3_product_0 : decode cX3_product 0 = .ok (.aload_n 0, 1) := by decide +kernel
theorem dX3_product_1 : decode cX3_product 1 = .ok (.iload_n 1, 1) := by decide +kernel
theorem dX3_product_2 : decode cX3_product 2 = .ok (.invokevirtual 88, 3) := by decide +kernel
theorem dX3_product_5 : decode cX3_product 5 = .ok (.iload_n 2, 1) := by decide +kernel
theorem dX3_product_6 : decode cX3_product 6 = .ok (.i2l, 1) := by decide +kernel
theorem dX3_product_7 : decode cX3_product 7 = .ok (.iload_n 3, 1) := by decide +kernel
theorem dX3_product_8 : decode cX3_product 8 = .ok (.i2l, 1) := by decide +kernel
theorem dX3_product_9 : decode cX3_product 9 = .ok (.lmul, 1) := by decide +kernel
theorem dX3_product_10 : decode cX3_product 10 = .ok (.getstatic 99, 3) := by decide +kernel
theorem dX3_product_13 : decode cX3_product 13 = .ok (.iload_n 1, 1) := by decide +kernel
theorem dX3_product_14 : decode cX3_product 14 = .ok (.iaload, 1) := by decide +kernel
theorem dX3_product_15 : decode cX3_product 15 = .ok (.invokestatic 120, 3) := by decide +kernel
theorem dX3_product_18 : decode cX3_product 18 = .ok (.l2i, 1) := by decide +kernel
theorem dX3_product_19 : decode cX3_product 19 = .ok (.ireturn, 1) := by decide +kernel
set_option maxRecDepth 20000 in
theorem ggX3_root_X3_requirePrime : GoodIn wsX3_root wsX3_requirePrime := goodIn_ca (goodIn_r _ [5, 6, 7, 8] (by decide +kernel) (by decide +kernel)) (goodIn_sub (fun _ h => List.mem_cons_of_mem _ (List.mem_append_right _ h)) (by decide +kernel))
set_option maxRecDepth 20000 in
theorem gX3_root_X3_requirePrime : GoodIn wsX3_root (wsV RX3 88 RX3 yX3_requirePrime wsX3_requirePrime) := goodIn_app (goodIn_of _ (by decide +kernel)) ggX3_root_X3_requirePrime
set_option maxRecDepth 20000 in
theorem ggX3_root_X3_rootToThe : GoodIn wsX3_root wsX3_rootToThe := goodIn_r _ [12, 8, 13, 14, 15, 16, 17, 18, 19, 20, 21, 22, 23, 24, 4, 25, 26, 27, 28, 29, 30, 31, 32, 33, 34] (by decide +kernel) (by decide +kernel)
set_option maxRecDepth 20000 in
theorem gX3_root_X3_rootToThe : GoodIn wsX3_root (wsV RX3 95 RX3 yX3_rootToThe wsX3_rootToThe) := goodIn_app (goodIn_of _ (by decide +kernel)) ggX3_root_X3_rootToThe
theorem dX3_root_0 : decode cX3_root 0 = .ok (.aload_n 0, 1) := by decide +kernel
theorem dX3_root_1 : decode cX3_root 1 = .ok (.iload_n 1, 1) := by decide +kernel
theorem dX3_root_2 : decode cX3_root 2 = .ok (.invokevirtual 88, 3) := by decide +kernel
theorem dX3_root_5 : decode cX3_root 5 = .ok (.aload_n 0, 1) := by decide +kernel
theorem dX3_root_6 : decode cX3_root 6 = .ok (.iload_n 1, 1) := by decide +kernel
theorem dX3_root_7 : decode cX3_root 7 = .ok (.iload_n 2, 1) := by decide +kernel
theorem dX3_root_8 : decode cX3_root 8 = .ok (.invokevirtual 95, 3) := by decide +kernel
theorem dX3_root_11 : decode cX3_root 11 = .ok (.l2i, 1) := by decide +kernel
theorem dX3_root_12 : decode cX3_root 12 = .ok (.ireturn, 1) := by decide +kernel
theorem dX3_places_0 : decode cX3_places 0 = .ok (.iconst 1, 1) := by decide +kernel
theorem dX3_places_1 : decode cX3_places 1 = .ok (.aload_n 0, 1) := by decide +kernel
theorem dX3_places_2 : decode cX3_places 2 = .ok (.getfield 9, 3) := by decide +kernel
theorem dX3_places_5 : decode cX3_places 5 = .ok (.ishl, 1) := by decide +kernel
theorem dX3_places_6 : decode cX3_places 6 = .ok (.ireturn, 1) := by decide +kernel
set_option maxRecDepth 20000 in
theorem ggX3_requirePlace_X3_places : GoodIn wsX3_requirePlace wsX3_places := goodIn_r _ [7, 8, 9, 10, 11, 12, 13, 14, 15, 16] (by decide +kernel) (by decide +kernel)
set_option maxRecDepth 20000 in
theorem gX3_requirePlace_X3_places : GoodIn wsX3_requirePlace (wsV RX3 52 RX3 yX3_places wsX3_places) := goodIn_app (goodIn_of _ (by decide +kernel)) ggX3_requirePlace_X3_places
theorem dX3_requirePlace_0 : decode cX3_requirePlace 0 = .ok (.iload_n 1, 1) := by decide +kernel
theorem dX3_requirePlace_1 : decode cX3_requirePlace 1 = .ok (.ifCond .lt 11, 3) := by decide +kernel
theorem dX3_requirePlace_4 : decode cX3_requirePlace 4 = .ok (.iload_n 1, 1) := by decide +kernel
theorem dX3_requirePlace_5 : decode cX3_requirePlace 5 = .ok (.aload_n 0, 1) := by decide +kernel
theorem dX3_requirePlace_6 : decode cX3_requirePlace 6 = .ok (.invokevirtual 52, 3) := by decide +kernel
theorem dX3_requirePlace_9 : decode cX3_requirePlace 9 = .ok (.if_icmp .lt 13, 3) := by decide +kernel
theorem dX3_requirePlace_12 : decode cX3_requirePlace 12 = .ok (.new 122, 3) := by decide +kernel
theorem dX3_requirePlace_15 : decode cX3_requirePlace 15 = .ok (.dup, 1) := by decide +kernel
theorem dX3_requirePlace_16 : decode cX3_requirePlace 16 = .ok (.ldc 124, 2) := by decide +kernel
theorem dX3_requirePlace_18 : decode cX3_requirePlace 18 = .ok (.invokespecial 126, 3) := by decide +kernel
theorem dX3_requirePlace_21 : decode cX3_requirePlace 21 = .ok (.athrow, 1) := by decide +kernel
theorem dX3_requirePlace_22 : decode cX3_requirePlace 22 = .ok (.return_, 1) := by decide +kernel
theorem dX3_requireResult_0 : decode cX3_requireResult 0 = .ok (.iload_n 1, 1) := by decide +kernel
theorem dX3_requireResult_1 : decode cX3_requireResult 1 = .ok (.ifCond .lt 11, 3) := by decide +kernel
theorem dX3_requireResult_4 : decode cX3_requireResult 4 = .ok (.iload_n 1, 1) := by decide +kernel
theorem dX3_requireResult_5 : decode cX3_requireResult 5 = .ok (.aload_n 0, 1) := by decide +kernel
theorem dX3_requireResult_6 : decode cX3_requireResult 6 = .ok (.getfield 20, 3) := by decide +kernel
theorem dX3_requireResult_9 : decode cX3_requireResult 9 = .ok (.if_icmp .lt 13, 3) := by decide +kernel
theorem dX3_requireResult_12 : decode cX3_requireResult 12 = .ok (.new 122, 3) := by decide +kernel
theorem dX3_requireResult_15 : decode cX3_requireResult 15 = .ok (.dup, 1) := by decide +kernel
theorem dX3_requireResult_16 : decode cX3_requireResult 16 = .ok (.ldc 127, 2) := by decide +kernel
theorem dX3_requireResult_18 : decode cX3_requireResult 18 = .ok (.invokespecial 126, 3) := by decide +kernel
theorem dX3_requireResult_21 : decode cX3_requireResult 21 = .ok (.athrow, 1) := by decide +kernel
theorem dX3_requireResult_22 : decode cX3_requireResult 22 = .ok (.return_, 1) := by decide +kernel
theorem dX3_requirePrime_0 : decode cX3_requirePrime 0 = .ok (.iload_n 1, 1) := by decide +kernel
theorem dX3_requirePrime_1 : decode cX3_requirePrime 1 = .ok (.ifCond .lt 11, 3) := by decide +kernel
theorem dX3_requirePrime_4 : decode cX3_requirePrime 4 = .ok (.iload_n 1, 1) := by decide +kernel
theorem dX3_requirePrime_5 : decode cX3_requirePrime 5 = .ok (.getstatic 99, 3) := by decide +kernel
theorem dX3_requirePrime_8 : decode cX3_requirePrime 8 = .ok (.arraylength, 1) := by decide +kernel
theorem dX3_requirePrime_9 : decode cX3_requirePrime 9 = .ok (.if_icmp .lt 13, 3) := by decide +kernel
theorem dX3_requirePrime_12 : decode cX3_requirePrime 12 = .ok (.new 45, 3) := by decide +kernel
theorem dX3_requirePrime_15 : decode cX3_requirePrime 15 = .ok (.dup, 1) := by decide +kernel
theorem dX3_requirePrime_16 : decode cX3_requirePrime 16 = .ok (.ldc 129, 2) := by decide +kernel
theorem dX3_requirePrime_18 : decode cX3_requirePrime 18 = .ok (.invokespecial 49, 3) := by decide +kernel
theorem dX3_requirePrime_21 : decode cX3_requirePrime 21 = .ok (.athrow, 1) := by decide +kernel
theorem dX3_requirePrime_22 : decode cX3_requirePrime 22 = .ok (.return_, 1) := by decide +kernel
set_option maxRecDepth 20000 in
theorem ggX3_foldRowAWith_X0_foldRows : GoodIn wsX3_foldRowAWith wsX0_foldRows := goodIn_r _ [9, 10, 11, 12, 13, 14, 8, 15, 16, 17, 18, 19, 20, 21, 22, 23, 24, 25, 26, 27, 28, 29, 30, 31, 32, 33, 34, 35, 36, 37, 38, 39, 40, 41, 42, 43, 44, 45, 46, 47, 48, 49, 50, 51, 52, 53, 54, 55, 56, 57, 58, 59, 60, 61, 62, 63, 64, 65, 66, 67, 68, 107, 108, 109, 110] (by decide +kernel) (by decide +kernel)
set_option maxRecDepth 20000 in
theorem gX3_foldRowAWith_X0_foldRows : GoodIn wsX3_foldRowAWith (wsV RX3 61 RX0 yX0_foldRows wsX0_foldRows) := goodIn_app (goodIn_of _ (by decide +kernel)) ggX3_foldRowAWith_X0_foldRows
set_option maxRecDepth 20000 in
theorem ggX3_foldRowAWith_X3_places : GoodIn wsX3_foldRowAWith wsX3_places := goodIn_r _ [73, 3, 99, 100, 101, 102, 103, 104, 105, 106] (by decide +kernel) (by decide +kernel)
set_option maxRecDepth 20000 in
theorem gX3_foldRowAWith_X3_places : GoodIn wsX3_foldRowAWith (wsV RX3 52 RX3 yX3_places wsX3_places) := goodIn_app (goodIn_of _ (by decide +kernel)) ggX3_foldRowAWith_X3_places
set_option maxRecDepth 20000 in
theorem ggX3_foldRowAWith_X2_cutInto : GoodIn wsX3_foldRowAWith wsX2_cutInto := goodIn_r _ [77, 78, 79, 80, 66, 81, 82, 83, 84, 85, 86, 68, 87, 88, 89, 90, 17, 18, 19, 91, 92, 93, 94, 95, 96, 97, 98, 110] (by decide +kernel) (by decide +kernel)
set_option maxRecDepth 20000 in
theorem gX3_foldRowAWith_X2_cutInto : GoodIn wsX3_foldRowAWith (wsV RX3 116 RX2 yX2_cutInto wsX2_cutInto) := goodIn_app (goodIn_of _ (by decide +kernel)) ggX3_foldRowAWith_X2_cutInto
theorem dX3_foldRowAWith_0 : decode cX3_foldRowAWith 0 = .ok (.aload_n 0, 1) := by decide +kernel
theorem dX3_foldRowAWith_1 : decode cX3_foldRowAWith 1 = .ok (.getfield 35, 3) := by decide +kernel
theorem dX3_foldRowAWith_4 : decode cX3_foldRowAWith 4 = .ok (.aload_n 0, 1) := by decide +kernel
theorem dX3_foldRowAWith_5 : decode cX3_foldRowAWith 5 = .ok (.getfield 13, 3) := by decide +kernel
theorem dX3_foldRowAWith_8 : decode cX3_foldRowAWith 8 = .ok (.aload_n 1, 1) := by decide +kernel
theorem dX3_foldRowAWith_9 : decode cX3_foldRowAWith 9 = .ok (.aload_n 0, 1) := by decide +kernel
theorem dX3_foldRowAWith_10 : decode cX3_foldRowAWith 10 = .ok (.getfield 9, 3) := by decide +kernel
theorem dX3_foldRowAWith_13 : decode cX3_foldRowAWith 13 = .ok (.iconst 0, 1) := by decide +kernel
theorem dX3_foldRowAWith_14 : decode cX3_foldRowAWith 14 = .ok (.aload_n 0, 1) := by decide +kernel
theorem dX3_foldRowAWith_15 : decode cX3_foldRowAWith 15 = .ok (.getfield 39, 3) := by decide +kernel
theorem dX3_foldRowAWith_18 : decode cX3_foldRowAWith 18 = .ok (.invokevirtual 61, 3) := by decide +kernel
theorem dX3_foldRowAWith_21 : decode cX3_foldRowAWith 21 = .ok (.aload_n 0, 1) := by decide +kernel
theorem dX3_foldRowAWith_22 : decode cX3_foldRowAWith 22 = .ok (.getfield 39, 3) := by decide +kernel
theorem dX3_foldRowAWith_25 : decode cX3_foldRowAWith 25 = .ok (.aload_n 0, 1) := by decide +kernel
theorem dX3_foldRowAWith_26 : decode cX3_foldRowAWith 26 = .ok (.getfield 13, 3) := by decide +kernel
theorem dX3_foldRowAWith_29 : decode cX3_foldRowAWith 29 = .ok (.aload_n 0, 1) := by decide +kernel
theorem dX3_foldRowAWith_30 : decode cX3_foldRowAWith 30 = .ok (.invokevirtual 52, 3) := by decide +kernel
theorem dX3_foldRowAWith_33 : decode cX3_foldRowAWith 33 = .ok (.invokevirtual 116, 3) := by decide +kernel
theorem dX3_foldRowAWith_36 : decode cX3_foldRowAWith 36 = .ok (.return_, 1) := by decide +kernel
set_option maxRecDepth 20000 in
theorem ggX3_rootToThe_X1_rootOfOne : GoodIn wsX3_rootToThe wsX1_rootOfOne := goodIn_r _ [6, 7, 8, 9, 5, 10] (by decide +kernel) (by decide +kernel)
set_option maxRecDepth 20000 in
theorem gX3_rootToThe_X1_rootOfOne : GoodIn wsX3_rootToThe (va_wsS RX3 131 yX1_rootOfOne wsX1_rootOfOne) := goodIn_app (goodIn_of _ (by decide +kernel)) ggX3_rootToThe_X1_rootOfOne
set_option maxRecDepth 20000 in
theorem ggX3_rootToThe_X3_places : GoodIn wsX3_rootToThe wsX3_places := goodIn_r _ [15, 2, 17, 18, 19, 20, 21, 22, 23, 24] (by decide +kernel) (by decide +kernel)
set_option maxRecDepth 20000 in
theorem gX3_rootToThe_X3_places : GoodIn wsX3_rootToThe (wsV RX3 52 RX3 yX3_places wsX3_places) := goodIn_app (goodIn_of _ (by decide +kernel)) ggX3_rootToThe_X3_places
set_option maxRecDepth 20000 in
theorem ggX3_rootToThe_X1_raise : GoodIn wsX3_rootToThe wsX1_raise := goodIn_r _ [10] (by decide +kernel) (by decide +kernel)
set_option maxRecDepth 20000 in
theorem gX3_rootToThe_X1_raise : GoodIn wsX3_rootToThe (va_wsS RX3 134 yX1_raise wsX1_raise) := goodIn_app (goodIn_of _ (by decide +kernel)) ggX3_rootToThe_X1_raise
theorem dX3_rootToThe_0 : decode cX3_rootToThe 0 = .ok (.getstatic 99, 3) := by decide +kernel
theorem dX3_rootToThe_3 : decode cX3_rootToThe 3 = .ok (.iload_n 1, 1) := by decide +kernel
theorem dX3_rootToThe_4 : decode cX3_rootToThe 4 = .ok (.iaload, 1) := by decide +kernel
theorem dX3_rootToThe_5 : decode cX3_rootToThe 5 = .ok (.istore_n 3, 1) := by decide +kernel
theorem dX3_rootToThe_6 : decode cX3_rootToThe 6 = .ok (.aload_n 0, 1) := by decide +kernel
theorem dX3_rootToThe_7 : decode cX3_rootToThe 7 = .ok (.getfield 9, 3) := by decide +kernel
theorem dX3_rootToThe_10 : decode cX3_rootToThe 10 = .ok (.iload_n 3, 1) := by decide +kernel
theorem dX3_rootToThe_11 : decode cX3_rootToThe 11 = .ok (.invokestatic 131, 3) := by decide +kernel
theorem dX3_rootToThe_14 : decode cX3_rootToThe 14 = .ok (.iload_n 2, 1) := by decide +kernel
theorem dX3_rootToThe_15 : decode cX3_rootToThe 15 = .ok (.aload_n 0, 1) := by decide +kernel
theorem dX3_rootToThe_16 : decode cX3_rootToThe 16 = .ok (.invokevirtual 52, 3) := by decide +kernel
theorem dX3_rootToThe_19 : decode cX3_rootToThe 19 = .ok (.iconst 1, 1) := by decide +kernel
theorem dX3_rootToThe_20 : decode cX3_rootToThe 20 = .ok (.isub, 1) := by decide +kernel
theorem dX3_rootToThe_21 : decode cX3_rootToThe 21 = .ok (.iand, 1) := by decide +kernel
theorem dX3_rootToThe_22 : decode cX3_rootToThe 22 = .ok (.iload_n 3, 1) := by decide +kernel
theorem dX3_rootToThe_23 : decode cX3_rootToThe 23 = .ok (.invokestatic 134, 3) := by decide +kernel
theorem dX3_rootToThe_26 : decode cX3_rootToThe 26 = .ok (.lreturn, 1) := by decide +kernel
set_option maxRecDepth 20000 in
theorem ggX3_rowAAt_X3_places : GoodIn wsX3_rowAAt wsX3_places := goodIn_r _ [6, 7, 12, 13, 14, 15, 16, 17, 18, 19] (by decide +kernel) (by decide +kernel)
set_option maxRecDepth 20000 in
theorem gX3_rowAAt_X3_places : GoodIn wsX3_rowAAt (wsV RX3 52 RX3 yX3_places wsX3_places) := goodIn_app (goodIn_of _ (by decide +kernel)) ggX3_rowAAt_X3_places
set_option maxRecDepth 20000 in
theorem ggX3_rowAAt_X1_remainder : GoodIn wsX3_rowAAt wsX1_remainder := goodIn_r _ [11] (by decide +kernel) (by decide +kernel)
set_option maxRecDepth 20000 in
theorem gX3_rowAAt_X1_remainder : GoodIn wsX3_rowAAt (va_wsS RX3 120 yX1_remainder wsX1_remainder) := goodIn_app (goodIn_of _ (by decide +kernel)) ggX3_rowAAt_X1_remainder
theorem dX3_rowAAt_0 : decode cX3_rowAAt 0 = .ok (.lconst 0, 1) := by decide +kernel
theorem dX3_rowAAt_1 : decode cX3_rowAAt 1 = .ok (.lstore 4, 2) := by decide +kernel
theorem dX3_rowAAt_3 : decode cX3_rowAAt 3 = .ok (.aload_n 0, 1) := by decide +kernel
theorem dX3_rowAAt_4 : decode cX3_rowAAt 4 = .ok (.invokevirtual 52, 3) := by decide +kernel
theorem dX3_rowAAt_7 : decode cX3_rowAAt 7 = .ok (.iconst 1, 1) := by decide +kernel
theorem dX3_rowAAt_8 : decode cX3_rowAAt 8 = .ok (.isub, 1) := by decide +kernel
theorem dX3_rowAAt_9 : decode cX3_rowAAt 9 = .ok (.istore 6, 2) := by decide +kernel
theorem dX3_rowAAt_11 : decode cX3_rowAAt 11 = .ok (.iload 6, 2) := by decide +kernel
theorem dX3_rowAAt_13 : decode cX3_rowAAt 13 = .ok (.ifCond .lt 27, 3) := by decide +kernel
theorem dX3_rowAAt_16 : decode cX3_rowAAt 16 = .ok (.lload 4, 2) := by decide +kernel
theorem dX3_rowAAt_18 : decode cX3_rowAAt 18 = .ok (.lload_n 1, 1) := by decide +kernel
theorem dX3_rowAAt_19 : decode cX3_rowAAt 19 = .ok (.lmul, 1) := by decide +kernel
theorem dX3_rowAAt_20 : decode cX3_rowAAt 20 = .ok (.aload_n 0, 1) := by decide +kernel
theorem dX3_rowAAt_21 : decode cX3_rowAAt 21 = .ok (.getfield 13, 3) := by decide +kernel
theorem dX3_rowAAt_24 : decode cX3_rowAAt 24 = .ok (.iload 6, 2) := by decide +kernel
theorem dX3_rowAAt_26 : decode cX3_rowAAt 26 = .ok (.iaload, 1) := by decide +kernel
theorem dX3_rowAAt_27 : decode cX3_rowAAt 27 = .ok (.i2l, 1) := by decide +kernel
theorem dX3_rowAAt_28 : decode cX3_rowAAt 28 = .ok (.ladd, 1) := by decide +kernel
theorem dX3_rowAAt_29 : decode cX3_rowAAt 29 = .ok (.iload_n 3, 1) := by decide +kernel
theorem dX3_rowAAt_30 : decode cX3_rowAAt 30 = .ok (.i2l, 1) := by decide +kernel
theorem dX3_rowAAt_31 : decode cX3_rowAAt 31 = .ok (.lrem, 1) := by decide +kernel
theorem dX3_rowAAt_32 : decode cX3_rowAAt 32 = .ok (.lstore 4, 2) := by decide +kernel
theorem dX3_rowAAt_34 : decode cX3_rowAAt 34 = .ok (.iinc 6 (-1), 3) := by decide +kernel
theorem dX3_rowAAt_37 : decode cX3_rowAAt 37 = .ok (.goto (-26), 3) := by decide +kernel
theorem dX3_rowAAt_40 : decode cX3_rowAAt 40 = .ok (.lload 4, 2) := by decide +kernel
theorem dX3_rowAAt_42 : decode cX3_rowAAt 42 = .ok (.iload_n 3, 1) := by decide +kernel
theorem dX3_rowAAt_43 : decode cX3_rowAAt 43 = .ok (.invokestatic 120, 3) := by decide +kernel
theorem dX3_rowAAt_46 : decode cX3_rowAAt 46 = .ok (.lreturn, 1) := by decide +kernel
theorem dX4_init_0 : decode cX4_init 0 = .ok (.aload_n 0, 1) := by decide +kernel
theorem dX4_init_1 : decode cX4_init 1 = .ok (.invokespecial 1, 3) := by decide +kernel
theorem dX4_init_4 : decode cX4_init 4 = .ok (.aload_n 0, 1) := by decide +kernel
theorem dX4_init_5 : decode cX4_init 5 = .ok (.iconst 2, 1) := by decide +kernel
theorem dX4_init_6 : decode cX4_init 6 = .ok (.putfield 7, 3) := by decide +kernel
theorem dX4_init_9 : decode cX4_init 9 = .ok (.aload_n 0, 1) := by decide +kernel
theorem dX4_init_10 : decode cX4_init 10 = .ok (.sipush 256, 3) := by decide +kernel
theorem dX4_init_13 : decode cX4_init 13 = .ok (.newarray .int, 2) := by decide +kernel
theorem dX4_init_15 : decode cX4_init 15 = .ok (.putfield 13, 3) := by decide +kernel
theorem dX4_init_18 : decode cX4_init 18 = .ok (.aload_n 0, 1) := by decide +kernel
theorem dX4_init_19 : decode cX4_init 19 = .ok (.sipush 256, 3) := by decide +kernel
theorem dX4_init_22 : decode cX4_init 22 = .ok (.newarray .int, 2) := by decide +kernel
theorem dX4_init_24 : decode cX4_init 24 = .ok (.putfield 17, 3) := by decide +kernel
theorem dX4_init_27 : decode cX4_init 27 = .ok (.aload_n 0, 1) := by decide +kernel
theorem dX4_init_28 : decode cX4_init 28 = .ok (.sipush 511, 3) := by decide +kernel
theorem dX4_init_31 : decode cX4_init 31 = .ok (.newarray .long, 2) := by decide +kernel
theorem dX4_init_33 : decode cX4_init 33 = .ok (.putfield 20, 3) := by decide +kernel
theorem dX4_init_36 : decode cX4_init 36 = .ok (.aload_n 0, 1) := by decide +kernel
theorem dX4_init_37 : decode cX4_init 37 = .ok (.sipush 511, 3) := by decide +kernel
theorem dX4_init_40 : decode cX4_init 40 = .ok (.newarray .long, 2) := by decide +kernel
theorem dX4_init_42 : decode cX4_init 42 = .ok (.putfield 24, 3) := by decide +kernel
theorem dX4_init_45 : decode cX4_init 45 = .ok (.aload_n 0, 1) := by decide +kernel
theorem dX4_init_46 : decode cX4_init 46 = .ok (.sipush 256, 3) := by decide +kernel
theorem dX4_init_49 : decode cX4_init 49 = .ok (.newarray .int, 2) := by decide +kernel
theorem dX4_init_51 : decode cX4_init 51 = .ok (.putfield 27, 3) := by decide +kernel
theorem dX4_init_54 : decode cX4_init 54 = .ok (.aload_n 0, 1) := by decide +kernel
theorem dX4_init_55 : decode cX4_init 55 = .ok (.sipush 256, 3) := by decide +kernel
theorem dX4_init_58 : decode cX4_init 58 = .ok (.newarray .int, 2) := by decide +kernel
theorem dX4_init_60 : decode cX4_init 60 = .ok (.putfield 30, 3) := by decide +kernel
theorem dX4_init_63 : decode cX4_init 63 = .ok (.aload_n 0, 1) := by decide +kernel
theorem dX4_init_64 : decode cX4_init 64 = .ok (.sipush 256, 3) := by decide +kernel
theorem dX4_init_67 : decode cX4_init 67 = .ok (.newarray .int, 2) := by decide +kernel
theorem dX4_init_69 : decode cX4_init 69 = .ok (.putfield 33, 3) := by decide +kernel
theorem dX4_init_72 : decode cX4_init 72 = .ok (.return_, 1) := by decide +kernel
theorem dX4_thrown_0 : decode cX4_thrown 0 = .ok (.aload_n 0, 1) := by decide +kernel
theorem dX4_thrown_1 : decode cX4_thrown 1 = .ok (.getfield 36, 3) := by decide +kernel
theorem dX4_thrown_4 : decode cX4_thrown 4 = .ok (.ireturn, 1) := by decide +kernel
theorem dX4_size_0 : decode cX4_size 0 = .ok (.aload_n 0, 1) := by decide +kernel
theorem dX4_size_1 : decode cX4_size 1 = .ok (.iload_n 1, 1) := by decide +kernel
theorem dX4_size_2 : decode cX4_size 2 = .ok (.iconst 1, 1) := by decide +kernel
theorem dX4_size_3 : decode cX4_size 3 = .ok (.if_icmp .lt 9, 3) := by decide +kernel
theorem dX4_size_6 : decode cX4_size 6 = .ok (.iload_n 1, 1) := by decide +kernel
theorem dX4_size_7 : decode cX4_size 7 = .ok (.bipush 8, 2) := by decide +kernel
theorem dX4_size_9 : decode cX4_size 9 = .ok (.if_icmp .le 7, 3) := by decide +kernel
theorem dX4_size_12 : decode cX4_size 12 = .ok (.iconst 1, 1) := by decide +kernel
theorem dX4_size_13 : decode cX4_size 13 = .ok (.goto 4, 3) := by decide +kernel
theorem dX4_size_16 : decode cX4_size 16 = .ok (.iconst 0, 1) := by decide +kernel
theorem dX4_size_17 : decode cX4_size 17 = .ok (.putfield 36, 3) := by decide +kernel
theorem dX4_size_20 : decode cX4_size 20 = .ok (.aload_n 0, 1) := by decide +kernel
theorem dX4_size_21 : decode cX4_size 21 = .ok (.getfield 36, 3) := by decide +kernel
theorem dX4_size_24 : decode cX4_size 24 = .ok (.ifCond .le 4, 3) := by decide +kernel
theorem dX4_size_27 : decode cX4_size 27 = .ok (.return_, 1) := by decide +kernel
theorem dX4_size_28 : decode cX4_size 28 = .ok (.aload_n 0, 1) := by decide +kernel
theorem dX4_size_29 : decode cX4_size 29 = .ok (.iconst 1, 1) := by decide +kernel
theorem dX4_size_30 : decode cX4_size 30 = .ok (.iload_n 1, 1) := by decide +kernel
theorem dX4_size_31 : decode cX4_size 31 = .ok (.ishl, 1) := by decide +kernel
theorem dX4_size_32 : decode cX4_size 32 = .ok (.putfield 7, 3) := by decide +kernel
theorem dX4_size_35 : decode cX4_size 35 = .ok (.aload_n 0, 1) := by decide +kernel
theorem dX4_size_36 : decode cX4_size 36 = .ok (.iconst 0, 1) := by decide +kernel
theorem dX4_size_37 : decode cX4_size 37 = .ok (.putfield 39, 3) := by decide +kernel
theorem dX4_size_40 : decode cX4_size 40 = .ok (.iconst 0, 1) := by decide +kernel
theorem dX4_size_41 : decode cX4_size 41 = .ok (.istore_n 2, 1) := by decide +kernel
theorem dX4_size_42 : decode cX4_size 42 = .ok (.iload_n 2, 1) := by decide +kernel
theorem dX4_size_43 : decode cX4_size 43 = .ok (.sipush 256, 3) := by decide +kernel
theorem dX4_size_46 : decode cX4_size 46 = .ok (.if_icmp .ge 23, 3) := by decide +kernel
theorem dX4_size_49 : decode cX4_size 49 = .ok (.aload_n 0, 1) := by decide +kernel
theorem dX4_size_50 : decode cX4_size 50 = .ok (.getfield 13, 3) := by decide +kernel
theorem dX4_size_53 : decode cX4_size 53 = .ok (.iload_n 2, 1) := by decide +kernel
theorem dX4_size_54 : decode cX4_size 54 = .ok (.iconst 0, 1) := by decide +kernel
theorem dX4_size_55 : decode cX4_size 55 = .ok (.iastore, 1) := by decide +kernel
theorem dX4_size_56 : decode cX4_size 56 = .ok (.aload_n 0, 1) := by decide +kernel
theorem dX4_size_57 : decode cX4_size 57 = .ok (.getfield 17, 3) := by decide +kernel
theorem dX4_size_60 : decode cX4_size 60 = .ok (.iload_n 2, 1) := by decide +kernel
theorem dX4_size_61 : decode cX4_size 61 = .ok (.iconst 0, 1) := by decide +kernel
theorem dX4_size_62 : decode cX4_size 62 = .ok (.iastore, 1) := by decide +kernel
theorem dX4_size_63 : decode cX4_size 63 = .ok (.iinc 2 1, 3) := by decide +kernel
theorem dX4_size_66 : decode cX4_size 66 = .ok (.goto (-24), 3) := by decide +kernel
theorem dX4_size_69 : decode cX4_size 69 = .ok (.return_, 1) := by decide +kernel
theorem dX4_noPlace_0 : decode cX4_noPlace 0 = .ok (.aload_n 0, 1) := by decide +kernel
theorem dX4_noPlace_1 : decode cX4_noPlace 1 = .ok (.iload_n 1, 1) := by decide +kernel
theorem dX4_noPlace_2 : decode cX4_noPlace 2 = .ok (.ifCond .lt 11, 3) := by decide +kernel
theorem dX4_noPlace_5 : decode cX4_noPlace 5 = .ok (.iload_n 1, 1) := by decide +kernel
theorem dX4_noPlace_6 : decode cX4_noPlace 6 = .ok (.aload_n 0, 1) := by decide +kernel
theorem dX4_noPlace_7 : decode cX4_noPlace 7 = .ok (.getfield 7, 3) := by decide +kernel
theorem dX4_noPlace_10 : decode cX4_noPlace 10 = .ok (.if_icmp .lt 7, 3) := by decide +kernel
theorem dX4_noPlace_13 : decode cX4_noPlace 13 = .ok (.iconst 1, 1) := by decide +kernel
theorem dX4_noPlace_14 : decode cX4_noPlace 14 = .ok (.goto 4, 3) := by decide +kernel
theorem dX4_noPlace_17 : decode cX4_noPlace 17 = .ok (.iconst 0, 1) := by decide +kernel
theorem dX4_noPlace_18 : decode cX4_noPlace 18 = .ok (.putfield 36, 3) := by decide +kernel
theorem dX4_noPlace_21 : decode cX4_noPlace 21 = .ok (.aload_n 0, 1) := by decide +kernel
theorem dX4_noPlace_22 : decode cX4_noPlace 22 = .ok (.getfield 36, 3) := by decide +kernel
theorem dX4_noPlace_25 : decode cX4_noPlace 25 = .ok (.ifCond .le 7, 3) := by decide +kernel
theorem dX4_noPlace_28 : decode cX4_noPlace 28 = .ok (.iconst 1, 1) := by decide +kernel
theorem dX4_noPlace_29 : decode cX4_noPlace 29 = .ok (.goto 4, 3) := by decide +kernel
theorem dX4_noPlace_32 : decode cX4_noPlace 32 = .ok (.iconst 0, 1) := by decide +kernel
theorem dX4_noPlace_33 : decode cX4_noPlace 33 = .ok (.ireturn, 1) := by decide +kernel
set_option maxRecDepth 20000 in
theorem ggX4_setA_X4_noPlace : GoodIn wsX4_setA wsX4_noPlace := goodIn_r _ [6, 7, 8, 9, 10, 11, 12, 13, 14, 15, 16, 17, 18] (by decide +kernel) (by decide +kernel)
set_option maxRecDepth 20000 in
theorem gX4_setA_X4_noPlace : GoodIn wsX4_setA (wsV RX4 42 RX4 yX4_noPlace wsX4_noPlace) := goodIn_app (goodIn_of _ (by decide +kernel)) ggX4_setA_X4_noPlace
theorem dX4_setA_0 : decode cX4_setA 0 = .ok (.aload_n 0, 1) := by decide +kernel
theorem dX4_setA_1 : decode cX4_setA 1 = .ok (.iload_n 1, 1) := by decide +kernel
theorem dX4_setA_2 : decode cX4_setA 2 = .ok (.invokevirtual 42, 3) := by decide +kernel
theorem dX4_setA_5 : decode cX4_setA 5 = .ok (.ifCond .eq 5, 3) := by decide +kernel
theorem dX4_setA_8 : decode cX4_setA 8 = .ok (.iconst 0, 1) := by decide +kernel
theorem dX4_setA_9 : decode cX4_setA 9 = .ok (.ireturn, 1) := by decide +kernel
theorem dX4_setA_10 : decode cX4_setA 10 = .ok (.aload_n 0, 1) := by decide +kernel
theorem dX4_setA_11 : decode cX4_setA 11 = .ok (.getfield 13, 3) := by decide +kernel
theorem dX4_setA_14 : decode cX4_setA 14 = .ok (.iload_n 1, 1) := by decide +kernel
theorem dX4_setA_15 : decode cX4_setA 15 = .ok (.iaload, 1) := by decide +kernel
theorem dX4_setA_16 : decode cX4_setA 16 = .ok (.istore_n 3, 1) := by decide +kernel
theorem dX4_setA_17 : decode cX4_setA 17 = .ok (.aload_n 0, 1) := by decide +kernel
theorem dX4_setA_18 : decode cX4_setA 18 = .ok (.getfield 13, 3) := by decide +kernel
theorem dX4_setA_21 : decode cX4_setA 21 = .ok (.iload_n 1, 1) := by decide +kernel
theorem dX4_setA_22 : decode cX4_setA 22 = .ok (.iload_n 2, 1) := by decide +kernel
theorem dX4_setA_23 : decode cX4_setA 23 = .ok (.iastore, 1) := by decide +kernel
theorem dX4_setA_24 : decode cX4_setA 24 = .ok (.iload_n 3, 1) := by decide +kernel
theorem dX4_setA_25 : decode cX4_setA 25 = .ok (.ireturn, 1) := by decide +kernel
set_option maxRecDepth 20000 in
theorem ggX4_setB_X4_noPlace : GoodIn wsX4_setB wsX4_noPlace := goodIn_r _ [6, 7, 8, 9, 10, 11, 12, 13, 14, 15, 16, 17, 18] (by decide +kernel) (by decide +kernel)
set_option maxRecDepth 20000 in
theorem gX4_setB_X4_noPlace : GoodIn wsX4_setB (wsV RX4 42 RX4 yX4_noPlace wsX4_noPlace) := goodIn_app (goodIn_of _ (by decide +kernel)) ggX4_setB_X4_noPlace
theorem dX4_setB_0 : decode cX4_setB 0 = .ok (.aload_n 0, 1) := by decide +kernel
theorem dX4_setB_1 : decode cX4_setB 1 = .ok (.iload_n 1, 1) := by decide +kernel
theorem dX4_setB_2 : decode cX4_setB 2 = .ok (.invokevirtual 42, 3) := by decide +kernel
theorem dX4_setB_5 : decode cX4_setB 5 = .ok (.ifCond .eq 5, 3) := by decide +kernel
theorem dX4_setB_8 : decode cX4_setB 8 = .ok (.iconst 0, 1) := by decide +kernel
theorem dX4_setB_9 : decode cX4_setB 9 = .ok (.ireturn, 1) := by decide +kernel
theorem dX4_setB_10 : decode cX4_setB 10 = .ok (.aload_n 0, 1) := by decide +kernel
theorem dX4_setB_11 : decode cX4_setB 11 = .ok (.getfield 17, 3) := by decide +kernel
theorem dX4_setB_14 : decode cX4_setB 14 = .ok (.iload_n 1, 1) := by decide +kernel
theorem dX4_setB_15 : decode cX4_setB 15 = .ok (.iaload, 1) := by decide +kernel
theorem dX4_setB_16 : decode cX4_setB 16 = .ok (.istore_n 3, 1) := by decide +kernel
theorem dX4_setB_17 : decode cX4_setB 17 = .ok (.aload_n 0, 1) := by decide +kernel
theorem dX4_setB_18 : decode cX4_setB 18 = .ok (.getfield 17, 3) := by decide +kernel
theorem dX4_setB_21 : decode cX4_setB 21 = .ok (.iload_n 1, 1) := by decide +kernel
theorem dX4_setB_22 : decode cX4_setB 22 = .ok (.iload_n 2, 1) := by decide +kernel
theorem dX4_setB_23 : decode cX4_setB 23 = .ok (.iastore, 1) := by decide +kernel
theorem dX4_setB_24 : decode cX4_setB 24 = .ok (.iload_n 3, 1) := by decide +kernel
theorem dX4_setB_25 : decode cX4_setB 25 = .ok (.ireturn, 1) := by decide +kernel
set_option maxRecDepth 20000 in
theorem ggX4_a_X4_noPlace : GoodIn wsX4_a wsX4_noPlace := goodIn_r _ [6, 7, 8, 9, 10, 11, 12, 13, 14, 15, 16, 17, 18] (by decide +kernel) (by decide +kernel)
set_option maxRecDepth 20000 in
theorem gX4_a_X4_noPlace : GoodIn wsX4_a (wsV RX4 42 RX4 yX4_noPlace wsX4_noPlace) := goodIn_app (goodIn_of _ (by decide +kernel)) ggX4_a_X4_noPlace
theorem dX4_a_0 : decode cX4_a 0 = .ok (.aload_n 0, 1) := by decide +kernel
theorem dX4_a_1 : decode cX4_a 1 = .ok (.iload_n 1, 1) := by decide +kernel
theorem dX4_a_2 : decode cX4_a 2 = .ok (.invokevirtual 42, 3) := by decide +kernel
theorem dX4_a_5 : decode cX4_a 5 = .ok (.ifCond .eq 7, 3) := by decide +kernel
theorem dX4_a_8 : decode cX4_a 8 = .ok (.iconst 0, 1) := by decide +kernel
theorem dX4_a_9 : decode cX4_a 9 = .ok (.goto 9, 3) := by decide +kernel
theorem dX4_a_12 : decode cX4_a 12 = .ok (.aload_n 0, 1) := by decide +kernel
theorem dX4_a_13 : decode cX4_a 13 = .ok (.getfield 13, 3) := by decide +kernel
theorem dX4_a_16 : decode cX4_a 16 = .ok (.iload_n 1, 1) := by decide +kernel
theorem dX4_a_17 : decode cX4_a 17 = .ok (.iaload, 1) := by decide +kernel
theorem dX4_a_18 : decode cX4_a 18 = .ok (.ireturn, 1) := by decide +kernel
set_option maxRecDepth 20000 in
theorem ggX4_b_X4_noPlace : GoodIn wsX4_b wsX4_noPlace := goodIn_r _ [6, 7, 8, 9, 10, 11, 12, 13, 14, 15, 16, 17, 18] (by decide +kernel) (by decide +kernel)
set_option maxRecDepth 20000 in
theorem gX4_b_X4_noPlace : GoodIn wsX4_b (wsV RX4 42 RX4 yX4_noPlace wsX4_noPlace) := goodIn_app (goodIn_of _ (by decide +kernel)) ggX4_b_X4_noPlace
theorem dX4_b_0 : decode cX4_b 0 = .ok (.aload_n 0, 1) := by decide +kernel
theorem dX4_b_1 : decode cX4_b 1 = .ok (.iload_n 1, 1) := by decide +kernel
theorem dX4_b_2 : decode cX4_b 2 = .ok (.invokevirtual 42, 3) := by decide +kernel
theorem dX4_b_5 : decode cX4_b 5 = .ok (.ifCond .eq 7, 3) := by decide +kernel
theorem dX4_b_8 : decode cX4_b 8 = .ok (.iconst 0, 1) := by decide +kernel
theorem dX4_b_9 : decode cX4_b 9 = .ok (.goto 9, 3) := by decide +kernel
theorem dX4_b_12 : decode cX4_b 12 = .ok (.aload_n 0, 1) := by decide +kernel
theorem dX4_b_13 : decode cX4_b 13 = .ok (.getfield 17, 3) := by decide +kernel
theorem dX4_b_16 : decode cX4_b 16 = .ok (.iload_n 1, 1) := by decide +kernel
theorem dX4_b_17 : decode cX4_b 17 = .ok (.iaload, 1) := by decide +kernel
theorem dX4_b_18 : decode cX4_b 18 = .ok (.ireturn, 1) := by decide +kernel
theorem dX4_swap_0 : decode cX4_swap 0 = .ok (.aload_n 0, 1) := by decide +kernel
theorem dX4_swap_1 : decode cX4_swap 1 = .ok (.iconst 0, 1) := by decide +kernel
theorem dX4_swap_2 : decode cX4_swap 2 = .ok (.putfield 36, 3) := by decide +kernel
theorem dX4_swap_5 : decode cX4_swap 5 = .ok (.iconst 0, 1) := by decide +kernel
theorem dX4_swap_6 : decode cX4_swap 6 = .ok (.istore_n 1, 1) := by decide +kernel
theorem dX4_swap_7 : decode cX4_swap 7 = .ok (.iload_n 1, 1) := by decide +kernel
theorem dX4_swap_8 : decode cX4_swap 8 = .ok (.aload_n 0, 1) := by decide +kernel
theorem dX4_swap_9 : decode cX4_swap 9 = .ok (.getfield 7, 3) := by decide +kernel
theorem dX4_swap_12 : decode cX4_swap 12 = .ok (.if_icmp .ge 35, 3) := by decide +kernel
theorem dX4_swap_15 : decode cX4_swap 15 = .ok (.aload_n 0, 1) := by decide +kernel
theorem dX4_swap_16 : decode cX4_swap 16 = .ok (.getfield 13, 3) := by decide +kernel
theorem dX4_swap_19 : decode cX4_swap 19 = .ok (.iload_n 1, 1) := by decide +kernel
theorem dX4_swap_20 : decode cX4_swap 20 = .ok (.iaload, 1) := by decide +kernel
theorem dX4_swap_21 : decode cX4_swap 21 = .ok (.istore_n 2, 1) := by decide +kernel
theorem dX4_swap_22 : decode cX4_swap 22 = .ok (.aload_n 0, 1) := by decide +kernel
theorem dX4_swap_23 : decode cX4_swap 23 = .ok (.getfield 13, 3) := by decide +kernel
theorem dX4_swap_26 : decode cX4_swap 26 = .ok (.iload_n 1, 1) := by decide +kernel
theorem dX4_swap_27 : decode cX4_swap 27 = .ok (.aload_n 0, 1) := by decide +kernel
theorem dX4_swap_28 : decode cX4_swap 28 = .ok (.getfield 17, 3) := by decide +kernel
theorem dX4_swap_31 : decode cX4_swap 31 = .ok (.iload_n 1, 1) := by decide +kernel
theorem dX4_swap_32 : decode cX4_swap 32 = .ok (.iaload, 1) := by decide +kernel
theorem dX4_swap_33 : decode cX4_swap 33 = .ok (.iastore, 1) := by decide +kernel
theorem dX4_swap_34 : decode cX4_swap 34 = .ok (.aload_n 0, 1) := by decide +kernel
theorem dX4_swap_35 : decode cX4_swap 35 = .ok (.getfield 17, 3) := by decide +kernel
theorem dX4_swap_38 : decode cX4_swap 38 = .ok (.iload_n 1, 1) := by decide +kernel
theorem dX4_swap_39 : decode cX4_swap 39 = .ok (.iload_n 2, 1) := by decide +kernel
theorem dX4_swap_40 : decode cX4_swap 40 = .ok (.iastore, 1) := by decide +kernel
theorem dX4_swap_41 : decode cX4_swap 41 = .ok (.iinc 1 1, 3) := by decide +kernel
theorem dX4_swap_44 : decode cX4_swap 44 = .ok (.goto (-37), 3) := by decide +kernel
theorem dX4_swap_47 : decode cX4_swap 47 = .ok (.return_, 1) := by decide +kernel
theorem dX4_add_0 : decode cX4_add 0 = .ok (.aload_n 0, 1) := by decide +kernel
theorem dX4_add_1 : decode cX4_add 1 = .ok (.getfield 20, 3) := by decide +kernel
theorem dX4_add_4 : decode cX4_add 4 = .ok (.iload_n 1, 1) := by decide +kernel
theorem dX4_add_5 : decode cX4_add 5 = .ok (.laload, 1) := by decide +kernel
theorem dX4_add_6 : decode cX4_add 6 = .ok (.lstore 4, 2) := by decide +kernel
theorem dX4_add_8 : decode cX4_add 8 = .ok (.aload_n 0, 1) := by decide +kernel
theorem dX4_add_9 : decode cX4_add 9 = .ok (.getfield 20, 3) := by decide +kernel
theorem dX4_add_12 : decode cX4_add 12 = .ok (.iload_n 1, 1) := by decide +kernel
theorem dX4_add_13 : decode cX4_add 13 = .ok (.lload 4, 2) := by decide +kernel
theorem dX4_add_15 : decode cX4_add 15 = .ok (.lload_n 2, 1) := by decide +kernel
theorem dX4_add_16 : decode cX4_add 16 = .ok (.ladd, 1) := by decide +kernel
theorem dX4_add_17 : decode cX4_add 17 = .ok (.lastore, 1) := by decide +kernel
theorem dX4_add_18 : decode cX4_add 18 = .ok (.aload_n 0, 1) := by decide +kernel
theorem dX4_add_19 : decode cX4_add 19 = .ok (.getfield 20, 3) := by decide +kernel
theorem dX4_add_22 : decode cX4_add 22 = .ok (.iload_n 1, 1) := by decide +kernel
theorem dX4_add_23 : decode cX4_add 23 = .ok (.laload, 1) := by decide +kernel
theorem dX4_add_24 : decode cX4_add 24 = .ok (.ldc2_w 46, 3) := by decide +kernel
theorem dX4_add_27 : decode cX4_add 27 = .ok (.lxor, 1) := by decide +kernel
theorem dX4_add_28 : decode cX4_add 28 = .ok (.lload 4, 2) := by decide +kernel
theorem dX4_add_30 : decode cX4_add 30 = .ok (.ldc2_w 46, 3) := by decide +kernel
theorem dX4_add_33 : decode cX4_add 33 = .ok (.lxor, 1) := by decide +kernel
theorem dX4_add_34 : decode cX4_add 34 = .ok (.lcmp, 1) := by decide +kernel
theorem dX4_add_35 : decode cX4_add 35 = .ok (.ifCond .ge 7, 3) := by decide +kernel
theorem dX4_add_38 : decode cX4_add 38 = .ok (.iconst 1, 1) := by decide +kernel
theorem dX4_add_39 : decode cX4_add 39 = .ok (.goto 4, 3) := by decide +kernel
theorem dX4_add_42 : decode cX4_add 42 = .ok (.iconst 0, 1) := by decide +kernel
theorem dX4_add_43 : decode cX4_add 43 = .ok (.istore 6, 2) := by decide +kernel
theorem dX4_add_45 : decode cX4_add 45 = .ok (.aload_n 0, 1) := by decide +kernel
theorem dX4_add_46 : decode cX4_add 46 = .ok (.getfield 24, 3) := by decide +kernel
theorem dX4_add_49 : decode cX4_add 49 = .ok (.iload_n 1, 1) := by decide +kernel
theorem dX4_add_50 : decode cX4_add 50 = .ok (.aload_n 0, 1) := by decide +kernel
theorem dX4_add_51 : decode cX4_add 51 = .ok (.getfield 24, 3) := by decide +kernel
theorem dX4_add_54 : decode cX4_add 54 = .ok (.iload_n 1, 1) := by decide +kernel
theorem dX4_add_55 : decode cX4_add 55 = .ok (.laload, 1) := by decide +kernel
theorem dX4_add_56 : decode cX4_add 56 = .ok (.lload_n 2, 1) := by decide +kernel
theorem dX4_add_57 : decode cX4_add 57 = .ok (.lconst 0, 1) := by decide +kernel
theorem dX4_add_58 : decode cX4_add 58 = .ok (.lcmp, 1) := by decide +kernel
theorem dX4_add_59 : decode cX4_add 59 = .ok (.ifCond .ge 9, 3) := by decide +kernel
theorem dX4_add_62 : decode cX4_add 62 = .ok (.ldc2_w 48, 3) := by decide +kernel
theorem dX4_add_65 : decode cX4_add 65 = .ok (.goto 4, 3) := by decide +kernel
theorem dX4_add_68 : decode cX4_add 68 = .ok (.lconst 0, 1) := by decide +kernel
theorem dX4_add_69 : decode cX4_add 69 = .ok (.ladd, 1) := by decide +kernel
theorem dX4_add_70 : decode cX4_add 70 = .ok (.iload 6, 2) := by decide +kernel
theorem dX4_add_72 : decode cX4_add 72 = .ok (.ifCond .eq 7, 3) := by decide +kernel
theorem dX4_add_75 : decode cX4_add 75 = .ok (.lconst 1, 1) := by decide +kernel
theorem dX4_add_76 : decode cX4_add 76 = .ok (.goto 4, 3) := by decide +kernel
theorem dX4_add_79 : decode cX4_add 79 = .ok (.lconst 0, 1) := by decide +kernel
theorem dX4_add_80 : decode cX4_add 80 = .ok (.ladd, 1) := by decide +kernel
theorem dX4_add_81 : decode cX4_add 81 = .ok (.lastore, 1) := by decide +kernel
theorem dX4_add_82 : decode cX4_add 82 = .ok (.return_, 1) := by decide +kernel
set_option maxRecDepth 20000 in
theorem ggX4_fold_X4_add : GoodIn wsX4_fold wsX4_add := goodIn_r _ [12, 4, 13, 5, 14, 15, 16, 17, 18, 19, 20, 21, 22, 23, 24] (by decide +kernel) (by decide +kernel)
set_option maxRecDepth 20000 in
theorem gX4_fold_X4_add : GoodIn wsX4_fold (wsV RX4 50 RX4 yX4_add wsX4_add) := goodIn_app (goodIn_of _ (by decide +kernel)) ggX4_fold_X4_add
theorem dX4_fold_0 : decode cX4_fold 0 = .ok (.aload_n 0, 1) := by decide +kernel
theorem dX4_fold_1 : decode cX4_fold 1 = .ok (.iload_n 1, 1) := by decide +kernel
theorem dX4_fold_2 : decode cX4_fold 2 = .ok (.ifCond .lt 8, 3) := by decide +kernel
theorem dX4_fold_5 : decode cX4_fold 5 = .ok (.iload_n 1, 1) := by decide +kernel
theorem dX4_fold_6 : decode cX4_fold 6 = .ok (.iconst 2, 1) := by decide +kernel
theorem dX4_fold_7 : decode cX4_fold 7 = .ok (.if_icmp .le 7, 3) := by decide +kernel
theorem dX4_fold_10 : decode cX4_fold 10 = .ok (.iconst 1, 1) := by decide +kernel
theorem dX4_fold_11 : decode cX4_fold 11 = .ok (.goto 4, 3) := by decide +kernel
theorem dX4_fold_14 : decode cX4_fold 14 = .ok (.iconst 0, 1) := by decide +kernel
theorem dX4_fold_15 : decode cX4_fold 15 = .ok (.putfield 36, 3) := by decide +kernel
theorem dX4_fold_18 : decode cX4_fold 18 = .ok (.aload_n 0, 1) := by decide +kernel
theorem dX4_fold_19 : decode cX4_fold 19 = .ok (.getfield 36, 3) := by decide +kernel
theorem dX4_fold_22 : decode cX4_fold 22 = .ok (.ifCond .le 5, 3) := by decide +kernel
theorem dX4_fold_25 : decode cX4_fold 25 = .ok (.iconst 0, 1) := by decide +kernel
theorem dX4_fold_26 : decode cX4_fold 26 = .ok (.ireturn, 1) := by decide +kernel
theorem dX4_fold_27 : decode cX4_fold 27 = .ok (.aload_n 0, 1) := by decide +kernel
theorem dX4_fold_28 : decode cX4_fold 28 = .ok (.iload_n 1, 1) := by decide +kernel
theorem dX4_fold_29 : decode cX4_fold 29 = .ok (.iconst 2, 1) := by decide +kernel
theorem dX4_fold_30 : decode cX4_fold 30 = .ok (.if_icmp .ne 14, 3) := by decide +kernel
theorem dX4_fold_33 : decode cX4_fold 33 = .ok (.iconst 2, 1) := by decide +kernel
theorem dX4_fold_34 : decode cX4_fold 34 = .ok (.aload_n 0, 1) := by decide +kernel
theorem dX4_fold_35 : decode cX4_fold 35 = .ok (.getfield 7, 3) := by decide +kernel
theorem dX4_fold_38 : decode cX4_fold 38 = .ok (.imul, 1) := by decide +kernel
theorem dX4_fold_39 : decode cX4_fold 39 = .ok (.iconst 1, 1) := by decide +kernel
theorem dX4_fold_40 : decode cX4_fold 40 = .ok (.isub, 1) := by decide +kernel
theorem dX4_fold_41 : decode cX4_fold 41 = .ok (.goto 7, 3) := by decide +kernel
theorem dX4_fold_44 : decode cX4_fold 44 = .ok (.aload_n 0, 1) := by decide +kernel
theorem dX4_fold_45 : decode cX4_fold 45 = .ok (.getfield 7, 3) := by decide +kernel
theorem dX4_fold_48 : decode cX4_fold 48 = .ok (.putfield 39, 3) := by decide +kernel
theorem dX4_fold_51 : decode cX4_fold 51 = .ok (.iconst 0, 1) := by decide +kernel
theorem dX4_fold_52 : decode cX4_fold 52 = .ok (.istore_n 2, 1) := by decide +kernel
theorem dX4_fold_53 : decode cX4_fold 53 = .ok (.iload_n 2, 1) := by decide +kernel
theorem dX4_fold_54 : decode cX4_fold 54 = .ok (.aload_n 0, 1) := by decide +kernel
theorem dX4_fold_55 : decode cX4_fold 55 = .ok (.getfield 39, 3) := by decide +kernel
theorem dX4_fold_58 : decode cX4_fold 58 = .ok (.if_icmp .ge 23, 3) := by decide +kernel
theorem dX4_fold_61 : decode cX4_fold 61 = .ok (.aload_n 0, 1) := by decide +kernel
theorem dX4_fold_62 : decode cX4_fold 62 = .ok (.getfield 20, 3) := by decide +kernel
theorem dX4_fold_65 : decode cX4_fold 65 = .ok (.iload_n 2, 1) := by decide +kernel
theorem dX4_fold_66 : decode cX4_fold 66 = .ok (.lconst 0, 1) := by decide +kernel
theorem dX4_fold_67 : decode cX4_fold 67 = .ok (.lastore, 1) := by decide +kernel
theorem dX4_fold_68 : decode cX4_fold 68 = .ok (.aload_n 0, 1) := by decide +kernel
theorem dX4_fold_69 : decode cX4_fold 69 = .ok (.getfield 24, 3) := by decide +kernel
theorem dX4_fold_72 : decode cX4_fold 72 = .ok (.iload_n 2, 1) := by decide +kernel
theorem dX4_fold_73 : decode cX4_fold 73 = .ok (.lconst 0, 1) := by decide +kernel
theorem dX4_fold_74 : decode cX4_fold 74 = .ok (.lastore, 1) := by decide +kernel
theorem dX4_fold_75 : decode cX4_fold 75 = .ok (.iinc 2 1, 3) := by decide +kernel
theorem dX4_fold_78 : decode cX4_fold 78 = .ok (.goto (-25), 3) := by decide +kernel
theorem dX4_fold_81 : decode cX4_fold 81 = .ok (.iconst 0, 1) := by decide +kernel
theorem dX4_fold_82 : decode cX4_fold 82 = .ok (.istore_n 2, 1) := by decide +kernel
theorem dX4_fold_83 : decode cX4_fold 83 = .ok (.iload_n 2, 1) := by decide +kernel
theorem dX4_fold_84 : decode cX4_fold 84 = .ok (.aload_n 0, 1) := by decide +kernel
theorem dX4_fold_85 : decode cX4_fold 85 = .ok (.getfield 7, 3) := by decide +kernel
theorem dX4_fold_88 : decode cX4_fold 88 = .ok (.if_icmp .ge 105, 3) := by decide +kernel
theorem dX4_fold_91 : decode cX4_fold 91 = .ok (.iconst 0, 1) := by decide +kernel
theorem dX4_fold_92 : decode cX4_fold 92 = .ok (.istore_n 3, 1) := by decide +kernel
theorem dX4_fold_93 : decode cX4_fold 93 = .ok (.iload_n 3, 1) := by decide +kernel
theorem dX4_fold_94 : decode cX4_fold 94 = .ok (.aload_n 0, 1) := by decide +kernel
theorem dX4_fold_95 : decode cX4_fold 95 = .ok (.getfield 7, 3) := by decide +kernel
theorem dX4_fold_98 : decode cX4_fold 98 = .ok (.if_icmp .ge 89, 3) := by decide +kernel
theorem dX4_fold_101 : decode cX4_fold 101 = .ok (.aload_n 0, 1) := by decide +kernel
theorem dX4_fold_102 : decode cX4_fold 102 = .ok (.getfield 13, 3) := by decide +kernel
theorem dX4_fold_105 : decode cX4_fold 105 = .ok (.iload_n 2, 1) := by decide +kernel
theorem dX4_fold_106 : decode cX4_fold 106 = .ok (.iaload, 1) := by decide +kernel
theorem dX4_fold_107 : decode cX4_fold 107 = .ok (.i2l, 1) := by decide +kernel
theorem dX4_fold_108 : decode cX4_fold 108 = .ok (.aload_n 0, 1) := by decide +kernel
theorem dX4_fold_109 : decode cX4_fold 109 = .ok (.getfield 17, 3) := by decide +kernel
theorem dX4_fold_112 : decode cX4_fold 112 = .ok (.iload_n 3, 1) := by decide +kernel
theorem dX4_fold_113 : decode cX4_fold 113 = .ok (.iaload, 1) := by decide +kernel
theorem dX4_fold_114 : decode cX4_fold 114 = .ok (.i2l, 1) := by decide +kernel
theorem dX4_fold_115 : decode cX4_fold 115 = .ok (.lmul, 1) := by decide +kernel
theorem dX4_fold_116 : decode cX4_fold 116 = .ok (.lstore 4, 2) := by decide +kernel
theorem dX4_fold_118 : decode cX4_fold 118 = .ok (.iload_n 1, 1) := by decide +kernel
theorem dX4_fold_119 : decode cX4_fold 119 = .ok (.iconst 2, 1) := by decide +kernel
theorem dX4_fold_120 : decode cX4_fold 120 = .ok (.if_icmp .ge 17, 3) := by decide +kernel
theorem dX4_fold_123 : decode cX4_fold 123 = .ok (.iload_n 2, 1) := by decide +kernel
theorem dX4_fold_124 : decode cX4_fold 124 = .ok (.iload_n 3, 1) := by decide +kernel
theorem dX4_fold_125 : decode cX4_fold 125 = .ok (.iadd, 1) := by decide +kernel
theorem dX4_fold_126 : decode cX4_fold 126 = .ok (.aload_n 0, 1) := by decide +kernel
theorem dX4_fold_127 : decode cX4_fold 127 = .ok (.getfield 7, 3) := by decide +kernel
theorem dX4_fold_130 : decode cX4_fold 130 = .ok (.if_icmp .lt 7, 3) := by decide +kernel
theorem dX4_fold_133 : decode cX4_fold 133 = .ok (.iconst 1, 1) := by decide +kernel
theorem dX4_fold_134 : decode cX4_fold 134 = .ok (.goto 4, 3) := by decide +kernel
theorem dX4_fold_137 : decode cX4_fold 137 = .ok (.iconst 0, 1) := by decide +kernel
theorem dX4_fold_138 : decode cX4_fold 138 = .ok (.istore 6, 2) := by decide +kernel
theorem dX4_fold_140 : decode cX4_fold 140 = .ok (.aload_n 0, 1) := by decide +kernel
theorem dX4_fold_141 : decode cX4_fold 141 = .ok (.iload 6, 2) := by decide +kernel
theorem dX4_fold_143 : decode cX4_fold 143 = .ok (.ifCond .eq 14, 3) := by decide +kernel
theorem dX4_fold_146 : decode cX4_fold 146 = .ok (.iload_n 2, 1) := by decide +kernel
theorem dX4_fold_147 : decode cX4_fold 147 = .ok (.iload_n 3, 1) := by decide +kernel
theorem dX4_fold_148 : decode cX4_fold 148 = .ok (.iadd, 1) := by decide +kernel
theorem dX4_fold_149 : decode cX4_fold 149 = .ok (.aload_n 0, 1) := by decide +kernel
theorem dX4_fold_150 : decode cX4_fold 150 = .ok (.getfield 7, 3) := by decide +kernel
theorem dX4_fold_153 : decode cX4_fold 153 = .ok (.isub, 1) := by decide +kernel
theorem dX4_fold_154 : decode cX4_fold 154 = .ok (.goto 6, 3) := by decide +kernel
theorem dX4_fold_157 : decode cX4_fold 157 = .ok (.iload_n 2, 1) := by decide +kernel
theorem dX4_fold_158 : decode cX4_fold 158 = .ok (.iload_n 3, 1) := by decide +kernel
theorem dX4_fold_159 : decode cX4_fold 159 = .ok (.iadd, 1) := by decide +kernel
theorem dX4_fold_160 : decode cX4_fold 160 = .ok (.iload 6, 2) := by decide +kernel
theorem dX4_fold_162 : decode cX4_fold 162 = .ok (.ifCond .eq 14, 3) := by decide +kernel
theorem dX4_fold_165 : decode cX4_fold 165 = .ok (.iload_n 1, 1) := by decide +kernel
theorem dX4_fold_166 : decode cX4_fold 166 = .ok (.iconst 1, 1) := by decide +kernel
theorem dX4_fold_167 : decode cX4_fold 167 = .ok (.if_icmp .ne 9, 3) := by decide +kernel
theorem dX4_fold_170 : decode cX4_fold 170 = .ok (.lload 4, 2) := by decide +kernel
theorem dX4_fold_172 : decode cX4_fold 172 = .ok (.lneg, 1) := by decide +kernel
theorem dX4_fold_173 : decode cX4_fold 173 = .ok (.goto 5, 3) := by decide +kernel
theorem dX4_fold_176 : decode cX4_fold 176 = .ok (.lload 4, 2) := by decide +kernel
theorem dX4_fold_178 : decode cX4_fold 178 = .ok (.invokevirtual 50, 3) := by decide +kernel
theorem dX4_fold_181 : decode cX4_fold 181 = .ok (.iinc 3 1, 3) := by decide +kernel
theorem dX4_fold_184 : decode cX4_fold 184 = .ok (.goto (-91), 3) := by decide +kernel
theorem dX4_fold_187 : decode cX4_fold 187 = .ok (.iinc 2 1, 3) := by decide +kernel
theorem dX4_fold_190 : decode cX4_fold 190 = .ok (.goto (-107), 3) := by decide +kernel
theorem dX4_fold_193 : decode cX4_fold 193 = .ok (.aload_n 0, 1) := by decide +kernel
theorem dX4_fold_194 : decode cX4_fold 194 = .ok (.getfield 39, 3) := by decide +kernel
theorem dX4_fold_197 : decode cX4_fold 197 = .ok (.ireturn, 1) := by decide +kernel
theorem dX4_foldKept_0 : decode cX4_foldKept 0 = .ok (.aload_n 0, 1) := by decide +kernel
theorem dX4_foldKept_1 : decode cX4_foldKept 1 = .ok (.getfield 33, 3) := by decide +kernel
theorem dX4_foldKept_4 : decode cX4_foldKept 4 = .ok (.astore_n 1, 1) := by decide +kernel
theorem dX4_foldKept_5 : decode cX4_foldKept 5 = .ok (.iconst 0, 1) := by decide +kernel
theorem dX4_foldKept_6 : decode cX4_foldKept 6 = .ok (.istore_n 2, 1) := by decide +kernel
theorem dX4_foldKept_7 : decode cX4_foldKept 7 = .ok (.iload_n 2, 1) := by decide +kernel
theorem dX4_foldKept_8 : decode cX4_foldKept 8 = .ok (.aload_n 0, 1) := by decide +kernel
theorem dX4_foldKept_9 : decode cX4_foldKept 9 = .ok (.getfield 7, 3) := by decide +kernel
theorem dX4_foldKept_12 : decode cX4_foldKept 12 = .ok (.if_icmp .ge 13, 3) := by decide +kernel
theorem dX4_foldKept_15 : decode cX4_foldKept 15 = .ok (.aload_n 1, 1) := by decide +kernel
theorem dX4_foldKept_16 : decode cX4_foldKept 16 = .ok (.iload_n 2, 1) := by decide +kernel
theorem dX4_foldKept_17 : decode cX4_foldKept 17 = .ok (.iconst 0, 1) := by decide +kernel
theorem dX4_foldKept_18 : decode cX4_foldKept 18 = .ok (.iastore, 1) := by decide +kernel
theorem dX4_foldKept_19 : decode cX4_foldKept 19 = .ok (.iinc 2 1, 3) := by decide +kernel
theorem dX4_foldKept_22 : decode cX4_foldKept 22 = .ok (.goto (-15), 3) := by decide +kernel
theorem dX4_foldKept_25 : decode cX4_foldKept 25 = .ok (.iconst 0, 1) := by decide +kernel
theorem dX4_foldKept_26 : decode cX4_foldKept 26 = .ok (.istore_n 2, 1) := by decide +kernel
theorem dX4_foldKept_27 : decode cX4_foldKept 27 = .ok (.iload_n 2, 1) := by decide +kernel
theorem dX4_foldKept_28 : decode cX4_foldKept 28 = .ok (.aload_n 0, 1) := by decide +kernel
theorem dX4_foldKept_29 : decode cX4_foldKept 29 = .ok (.getfield 7, 3) := by decide +kernel
theorem dX4_foldKept_32 : decode cX4_foldKept 32 = .ok (.if_icmp .ge 57, 3) := by decide +kernel
theorem dX4_foldKept_35 : decode cX4_foldKept 35 = .ok (.iconst 0, 1) := by decide +kernel
theorem dX4_foldKept_36 : decode cX4_foldKept 36 = .ok (.istore_n 3, 1) := by decide +kernel
theorem dX4_foldKept_37 : decode cX4_foldKept 37 = .ok (.iload_n 3, 1) := by decide +kernel
theorem dX4_foldKept_38 : decode cX4_foldKept 38 = .ok (.aload_n 0, 1) := by decide +kernel
theorem dX4_foldKept_39 : decode cX4_foldKept 39 = .ok (.getfield 7, 3) := by decide +kernel
theorem dX4_foldKept_42 : decode cX4_foldKept 42 = .ok (.if_icmp .ge 41, 3) := by decide +kernel
theorem dX4_foldKept_45 : decode cX4_foldKept 45 = .ok (.iload_n 2, 1) := by decide +kernel
theorem dX4_foldKept_46 : decode cX4_foldKept 46 = .ok (.iload_n 3, 1) := by decide +kernel
theorem dX4_foldKept_47 : decode cX4_foldKept 47 = .ok (.iadd, 1) := by decide +kernel
theorem dX4_foldKept_48 : decode cX4_foldKept 48 = .ok (.aload_n 0, 1) := by decide +kernel
theorem dX4_foldKept_49 : decode cX4_foldKept 49 = .ok (.getfield 7, 3) := by decide +kernel
theorem dX4_foldKept_52 : decode cX4_foldKept 52 = .ok (.irem, 1) := by decide +kernel
theorem dX4_foldKept_53 : decode cX4_foldKept 53 = .ok (.istore 4, 2) := by decide +kernel
theorem dX4_foldKept_55 : decode cX4_foldKept 55 = .ok (.aload_n 1, 1) := by decide +kernel
theorem dX4_foldKept_56 : decode cX4_foldKept 56 = .ok (.iload 4, 2) := by decide +kernel
theorem dX4_foldKept_58 : decode cX4_foldKept 58 = .ok (.aload_n 1, 1) := by decide +kernel
theorem dX4_foldKept_59 : decode cX4_foldKept 59 = .ok (.iload 4, 2) := by decide +kernel
theorem dX4_foldKept_61 : decode cX4_foldKept 61 = .ok (.iaload, 1) := by decide +kernel
theorem dX4_foldKept_62 : decode cX4_foldKept 62 = .ok (.aload_n 0, 1) := by decide +kernel
theorem dX4_foldKept_63 : decode cX4_foldKept 63 = .ok (.getfield 27, 3) := by decide +kernel
theorem dX4_foldKept_66 : decode cX4_foldKept 66 = .ok (.iload_n 2, 1) := by decide +kernel
theorem dX4_foldKept_67 : decode cX4_foldKept 67 = .ok (.iaload, 1) := by decide +kernel
theorem dX4_foldKept_68 : decode cX4_foldKept 68 = .ok (.aload_n 0, 1) := by decide +kernel
theorem dX4_foldKept_69 : decode cX4_foldKept 69 = .ok (.getfield 30, 3) := by decide +kernel
theorem dX4_foldKept_72 : decode cX4_foldKept 72 = .ok (.iload_n 3, 1) := by decide +kernel
theorem dX4_foldKept_73 : decode cX4_foldKept 73 = .ok (.iaload, 1) := by decide +kernel
theorem dX4_foldKept_74 : decode cX4_foldKept 74 = .ok (.imul, 1) := by decide +kernel
theorem dX4_foldKept_75 : decode cX4_foldKept 75 = .ok (.iadd, 1) := by decide +kernel
theorem dX4_foldKept_76 : decode cX4_foldKept 76 = .ok (.iastore, 1) := by decide +kernel
theorem dX4_foldKept_77 : decode cX4_foldKept 77 = .ok (.iinc 3 1, 3) := by decide +kernel
theorem dX4_foldKept_80 : decode cX4_foldKept 80 = .ok (.goto (-43), 3) := by decide +kernel
theorem dX4_foldKept_83 : decode cX4_foldKept 83 = .ok (.iinc 2 1, 3) := by decide +kernel
theorem dX4_foldKept_86 : decode cX4_foldKept 86 = .ok (.goto (-59), 3) := by decide +kernel
theorem dX4_foldKept_89 : decode cX4_foldKept 89 = .ok (.iconst 0, 1) := by decide +kernel
theorem dX4_foldKept_90 : decode cX4_foldKept 90 = .ok (.istore_n 2, 1) := by decide +kernel
theorem dX4_foldKept_91 : decode cX4_foldKept 91 = .ok (.iload_n 2, 1) := by decide +kernel
theorem dX4_foldKept_92 : decode cX4_foldKept 92 = .ok (.aload_n 0, 1) := by decide +kernel
theorem dX4_foldKept_93 : decode cX4_foldKept 93 = .ok (.getfield 7, 3) := by decide +kernel
theorem dX4_foldKept_96 : decode cX4_foldKept 96 = .ok (.if_icmp .ge 18, 3) := by decide +kernel
theorem dX4_foldKept_99 : decode cX4_foldKept 99 = .ok (.aload_n 0, 1) := by decide +kernel
theorem dX4_foldKept_100 : decode cX4_foldKept 100 = .ok (.getfield 27, 3) := by decide +kernel
theorem dX4_foldKept_103 : decode cX4_foldKept 103 = .ok (.iload_n 2, 1) := by decide +kernel
theorem dX4_foldKept_104 : decode cX4_foldKept 104 = .ok (.aload_n 1, 1) := by decide +kernel
theorem dX4_foldKept_105 : decode cX4_foldKept 105 = .ok (.iload_n 2, 1) := by decide +kernel
theorem dX4_foldKept_106 : decode cX4_foldKept 106 = .ok (.iaload, 1) := by decide +kernel
theorem dX4_foldKept_107 : decode cX4_foldKept 107 = .ok (.iastore, 1) := by decide +kernel
theorem dX4_foldKept_108 : decode cX4_foldKept 108 = .ok (.iinc 2 1, 3) := by decide +kernel
theorem dX4_foldKept_111 : decode cX4_foldKept 111 = .ok (.goto (-20), 3) := by decide +kernel
theorem dX4_foldKept_114 : decode cX4_foldKept 114 = .ok (.return_, 1) := by decide +kernel
set_option maxRecDepth 20000 in
theorem ggX4_power_X4_foldKept : GoodIn wsX4_power wsX4_foldKept := goodIn_r _ [10, 11, 2, 3, 5, 12, 13, 14, 15, 16, 17, 18, 19, 20, 21] (by decide +kernel) (by decide +kernel)
set_option maxRecDepth 20000 in
theorem gX4_power_X4_foldKept : GoodIn wsX4_power (wsV RX4 54 RX4 yX4_foldKept wsX4_foldKept) := goodIn_app (goodIn_of _ (by decide +kernel)) ggX4_power_X4_foldKept
theorem dX4_power_0 : decode cX4_power 0 = .ok (.aload_n 0, 1) := by decide +kernel
theorem dX4_power_1 : decode cX4_power 1 = .ok (.iload_n 1, 1) := by decide +kernel
theorem dX4_power_2 : decode cX4_power 2 = .ok (.iconst 1, 1) := by decide +kernel
theorem dX4_power_3 : decode cX4_power 3 = .ok (.if_icmp .lt 10, 3) := by decide +kernel
theorem dX4_power_6 : decode cX4_power 6 = .ok (.iload_n 1, 1) := by decide +kernel
theorem dX4_power_7 : decode cX4_power 7 = .ok (.sipush 1000, 3) := by decide +kernel
theorem dX4_power_10 : decode cX4_power 10 = .ok (.if_icmp .le 7, 3) := by decide +kernel
theorem dX4_power_13 : decode cX4_power 13 = .ok (.iconst 1, 1) := by decide +kernel
theorem dX4_power_14 : decode cX4_power 14 = .ok (.goto 4, 3) := by decide +kernel
theorem dX4_power_17 : decode cX4_power 17 = .ok (.iconst 0, 1) := by decide +kernel
theorem dX4_power_18 : decode cX4_power 18 = .ok (.putfield 36, 3) := by decide +kernel
theorem dX4_power_21 : decode cX4_power 21 = .ok (.aload_n 0, 1) := by decide +kernel
theorem dX4_power_22 : decode cX4_power 22 = .ok (.getfield 36, 3) := by decide +kernel
theorem dX4_power_25 : decode cX4_power 25 = .ok (.ifCond .le 5, 3) := by decide +kernel
theorem dX4_power_28 : decode cX4_power 28 = .ok (.iconst 0, 1) := by decide +kernel
theorem dX4_power_29 : decode cX4_power 29 = .ok (.ireturn, 1) := by decide +kernel
theorem dX4_power_30 : decode cX4_power 30 = .ok (.iconst 0, 1) := by decide +kernel
theorem dX4_power_31 : decode cX4_power 31 = .ok (.istore_n 2, 1) := by decide +kernel
theorem dX4_power_32 : decode cX4_power 32 = .ok (.iload_n 2, 1) := by decide +kernel
theorem dX4_power_33 : decode cX4_power 33 = .ok (.aload_n 0, 1) := by decide +kernel
theorem dX4_power_34 : decode cX4_power 34 = .ok (.getfield 7, 3) := by decide +kernel
theorem dX4_power_37 : decode cX4_power 37 = .ok (.if_icmp .ge 21, 3) := by decide +kernel
theorem dX4_power_40 : decode cX4_power 40 = .ok (.aload_n 0, 1) := by decide +kernel
theorem dX4_power_41 : decode cX4_power 41 = .ok (.getfield 27, 3) := by decide +kernel
theorem dX4_power_44 : decode cX4_power 44 = .ok (.iload_n 2, 1) := by decide +kernel
theorem dX4_power_45 : decode cX4_power 45 = .ok (.aload_n 0, 1) := by decide +kernel
theorem dX4_power_46 : decode cX4_power 46 = .ok (.getfield 13, 3) := by decide +kernel
theorem dX4_power_49 : decode cX4_power 49 = .ok (.iload_n 2, 1) := by decide +kernel
theorem dX4_power_50 : decode cX4_power 50 = .ok (.iaload, 1) := by decide +kernel
theorem dX4_power_51 : decode cX4_power 51 = .ok (.iastore, 1) := by decide +kernel
theorem dX4_power_52 : decode cX4_power 52 = .ok (.iinc 2 1, 3) := by decide +kernel
theorem dX4_power_55 : decode cX4_power 55 = .ok (.goto (-23), 3) := by decide +kernel
theorem dX4_power_58 : decode cX4_power 58 = .ok (.bipush 9, 2) := by decide +kernel
theorem dX4_power_60 : decode cX4_power 60 = .ok (.istore_n 2, 1) := by decide +kernel
theorem dX4_power_61 : decode cX4_power 61 = .ok (.iload_n 1, 1) := by decide +kernel
theorem dX4_power_62 : decode cX4_power 62 = .ok (.iload_n 2, 1) := by decide +kernel
theorem dX4_power_63 : decode cX4_power 63 = .ok (.ishr, 1) := by decide +kernel
theorem dX4_power_64 : decode cX4_power 64 = .ok (.iconst 1, 1) := by decide +kernel
theorem dX4_power_65 : decode cX4_power 65 = .ok (.iand, 1) := by decide +kernel
theorem dX4_power_66 : decode cX4_power 66 = .ok (.ifCond .ne 9, 3) := by decide +kernel
theorem dX4_power_69 : decode cX4_power 69 = .ok (.iinc 2 (-1), 3) := by decide +kernel
theorem dX4_power_72 : decode cX4_power 72 = .ok (.goto (-11), 3) := by decide +kernel
theorem dX4_power_75 : decode cX4_power 75 = .ok (.iload_n 2, 1) := by decide +kernel
theorem dX4_power_76 : decode cX4_power 76 = .ok (.iconst 1, 1) := by decide +kernel
theorem dX4_power_77 : decode cX4_power 77 = .ok (.isub, 1) := by decide +kernel
theorem dX4_power_78 : decode cX4_power 78 = .ok (.istore_n 3, 1) := by decide +kernel
theorem dX4_power_79 : decode cX4_power 79 = .ok (.iload_n 3, 1) := by decide +kernel
theorem dX4_power_80 : decode cX4_power 80 = .ok (.ifCond .lt 90, 3) := by decide +kernel
theorem dX4_power_83 : decode cX4_power 83 = .ok (.iconst 0, 1) := by decide +kernel
theorem dX4_power_84 : decode cX4_power 84 = .ok (.istore 4, 2) := by decide +kernel
theorem dX4_power_86 : decode cX4_power 86 = .ok (.iload 4, 2) := by decide +kernel
theorem dX4_power_88 : decode cX4_power 88 = .ok (.aload_n 0, 1) := by decide +kernel
theorem dX4_power_89 : decode cX4_power 89 = .ok (.getfield 7, 3) := by decide +kernel
theorem dX4_power_92 : decode cX4_power 92 = .ok (.if_icmp .ge 23, 3) := by decide +kernel
theorem dX4_power_95 : decode cX4_power 95 = .ok (.aload_n 0, 1) := by decide +kernel
theorem dX4_power_96 : decode cX4_power 96 = .ok (.getfield 30, 3) := by decide +kernel
theorem dX4_power_99 : decode cX4_power 99 = .ok (.iload 4, 2) := by decide +kernel
theorem dX4_power_101 : decode cX4_power 101 = .ok (.aload_n 0, 1) := by decide +kernel
theorem dX4_power_102 : decode cX4_power 102 = .ok (.getfield 27, 3) := by decide +kernel
theorem dX4_power_105 : decode cX4_power 105 = .ok (.iload 4, 2) := by decide +kernel
theorem dX4_power_107 : decode cX4_power 107 = .ok (.iaload, 1) := by decide +kernel
theorem dX4_power_108 : decode cX4_power 108 = .ok (.iastore, 1) := by decide +kernel
theorem dX4_power_109 : decode cX4_power 109 = .ok (.iinc 4 1, 3) := by decide +kernel
theorem dX4_power_112 : decode cX4_power 112 = .ok (.goto (-26), 3) := by decide +kernel
theorem dX4_power_115 : decode cX4_power 115 = .ok (.aload_n 0, 1) := by decide +kernel
theorem dX4_power_116 : decode cX4_power 116 = .ok (.invokevirtual 54, 3) := by decide +kernel
theorem dX4_power_119 : decode cX4_power 119 = .ok (.iload_n 1, 1) := by decide +kernel
theorem dX4_power_120 : decode cX4_power 120 = .ok (.iload_n 3, 1) := by decide +kernel
theorem dX4_power_121 : decode cX4_power 121 = .ok (.ishr, 1) := by decide +kernel
theorem dX4_power_122 : decode cX4_power 122 = .ok (.iconst 1, 1) := by decide +kernel
theorem dX4_power_123 : decode cX4_power 123 = .ok (.iand, 1) := by decide +kernel
theorem dX4_power_124 : decode cX4_power 124 = .ok (.iconst 1, 1) := by decide +kernel
theorem dX4_power_125 : decode cX4_power 125 = .ok (.if_icmp .ne 39, 3) := by decide +kernel
theorem dX4_power_128 : decode cX4_power 128 = .ok (.iconst 0, 1) := by decide +kernel
theorem dX4_power_129 : decode cX4_power 129 = .ok (.istore 4, 2) := by decide +kernel
theorem dX4_power_131 : decode cX4_power 131 = .ok (.iload 4, 2) := by decide +kernel
theorem dX4_power_133 : decode cX4_power 133 = .ok (.aload_n 0, 1) := by decide +kernel
theorem dX4_power_134 : decode cX4_power 134 = .ok (.getfield 7, 3) := by decide +kernel
theorem dX4_power_137 : decode cX4_power 137 = .ok (.if_icmp .ge 23, 3) := by decide +kernel
theorem dX4_power_140 : decode cX4_power 140 = .ok (.aload_n 0, 1) := by decide +kernel
theorem dX4_power_141 : decode cX4_power 141 = .ok (.getfield 30, 3) := by decide +kernel
theorem dX4_power_144 : decode cX4_power 144 = .ok (.iload 4, 2) := by decide +kernel
theorem dX4_power_146 : decode cX4_power 146 = .ok (.aload_n 0, 1) := by decide +kernel
theorem dX4_power_147 : decode cX4_power 147 = .ok (.getfield 13, 3) := by decide +kernel
theorem dX4_power_150 : decode cX4_power 150 = .ok (.iload 4, 2) := by decide +kernel
theorem dX4_power_152 : decode cX4_power 152 = .ok (.iaload, 1) := by decide +kernel
theorem dX4_power_153 : decode cX4_power 153 = .ok (.iastore, 1) := by decide +kernel
theorem dX4_power_154 : decode cX4_power 154 = .ok (.iinc 4 1, 3) := by decide +kernel
theorem dX4_power_157 : decode cX4_power 157 = .ok (.goto (-26), 3) := by decide +kernel
theorem dX4_power_160 : decode cX4_power 160 = .ok (.aload_n 0, 1) := by decide +kernel
theorem dX4_power_161 : decode cX4_power 161 = .ok (.invokevirtual 54, 3) := by decide +kernel
theorem dX4_power_164 : decode cX4_power 164 = .ok (.iinc 3 (-1), 3) := by decide +kernel
theorem dX4_power_167 : decode cX4_power 167 = .ok (.goto (-88), 3) := by decide +kernel
theorem dX4_power_170 : decode cX4_power 170 = .ok (.iconst 0, 1) := by decide +kernel
theorem dX4_power_171 : decode cX4_power 171 = .ok (.istore_n 3, 1) := by decide +kernel
theorem dX4_power_172 : decode cX4_power 172 = .ok (.iload_n 3, 1) := by decide +kernel
theorem dX4_power_173 : decode cX4_power 173 = .ok (.aload_n 0, 1) := by decide +kernel
theorem dX4_power_174 : decode cX4_power 174 = .ok (.getfield 7, 3) := by decide +kernel
theorem dX4_power_177 : decode cX4_power 177 = .ok (.if_icmp .ge 21, 3) := by decide +kernel
theorem dX4_power_180 : decode cX4_power 180 = .ok (.aload_n 0, 1) := by decide +kernel
theorem dX4_power_181 : decode cX4_power 181 = .ok (.getfield 13, 3) := by decide +kernel
theorem dX4_power_184 : decode cX4_power 184 = .ok (.iload_n 3, 1) := by decide +kernel
theorem dX4_power_185 : decode cX4_power 185 = .ok (.aload_n 0, 1) := by decide +kernel
theorem dX4_power_186 : decode cX4_power 186 = .ok (.getfield 27, 3) := by decide +kernel
theorem dX4_power_189 : decode cX4_power 189 = .ok (.iload_n 3, 1) := by decide +kernel
theorem dX4_power_190 : decode cX4_power 190 = .ok (.iaload, 1) := by decide +kernel
theorem dX4_power_191 : decode cX4_power 191 = .ok (.iastore, 1) := by decide +kernel
theorem dX4_power_192 : decode cX4_power 192 = .ok (.iinc 3 1, 3) := by decide +kernel
theorem dX4_power_195 : decode cX4_power 195 = .ok (.goto (-23), 3) := by decide +kernel
theorem dX4_power_198 : decode cX4_power 198 = .ok (.aload_n 0, 1) := by decide +kernel
theorem dX4_power_199 : decode cX4_power 199 = .ok (.getfield 13, 3) := by decide +kernel
theorem dX4_power_202 : decode cX4_power 202 = .ok (.iconst 0, 1) := by decide +kernel
theorem dX4_power_203 : decode cX4_power 203 = .ok (.iaload, 1) := by decide +kernel
theorem dX4_power_204 : decode cX4_power 204 = .ok (.ireturn, 1) := by decide +kernel
theorem dX4_noResult_0 : decode cX4_noResult 0 = .ok (.iload_n 1, 1) := by decide +kernel
theorem dX4_noResult_1 : decode cX4_noResult 1 = .ok (.ifCond .lt 11, 3) := by decide +kernel
theorem dX4_noResult_4 : decode cX4_noResult 4 = .ok (.iload_n 1, 1) := by decide +kernel
theorem dX4_noResult_5 : decode cX4_noResult 5 = .ok (.aload_n 0, 1) := by decide +kernel
theorem dX4_noResult_6 : decode cX4_noResult 6 = .ok (.getfield 39, 3) := by decide +kernel
theorem dX4_noResult_9 : decode cX4_noResult 9 = .ok (.if_icmp .lt 7, 3) := by decide +kernel
theorem dX4_noResult_12 : decode cX4_noResult 12 = .ok (.iconst 1, 1) := by decide +kernel
theorem dX4_noResult_13 : decode cX4_noResult 13 = .ok (.goto 4, 3) := by decide +kernel
theorem dX4_noResult_16 : decode cX4_noResult 16 = .ok (.iconst 0, 1) := by decide +kernel
theorem dX4_noResult_17 : decode cX4_noResult 17 = .ok (.ireturn, 1) := by decide +kernel
set_option maxRecDepth 20000 in
theorem ggX4_low_X4_noResult : GoodIn wsX4_low wsX4_noResult := goodIn_r _ [7, 8, 9, 10, 11, 12, 13, 14, 15, 16, 17, 18] (by decide +kernel) (by decide +kernel)
set_option maxRecDepth 20000 in
theorem gX4_low_X4_noResult : GoodIn wsX4_low (wsV RX4 57 RX4 yX4_noResult wsX4_noResult) := goodIn_app (goodIn_of _ (by decide +kernel)) ggX4_low_X4_noResult
theorem dX4_low_0 : decode cX4_low 0 = .ok (.aload_n 0, 1) := by decide +kernel
theorem dX4_low_1 : decode cX4_low 1 = .ok (.aload_n 0, 1) := by decide +kernel
theorem dX4_low_2 : decode cX4_low 2 = .ok (.iload_n 1, 1) := by decide +kernel
theorem dX4_low_3 : decode cX4_low 3 = .ok (.invokevirtual 57, 3) := by decide +kernel
theorem dX4_low_6 : decode cX4_low 6 = .ok (.ifCond .eq 7, 3) := by decide +kernel
theorem dX4_low_9 : decode cX4_low 9 = .ok (.iconst 1, 1) := by decide +kernel
theorem dX4_low_10 : decode cX4_low 10 = .ok (.goto 4, 3) := by decide +kernel
theorem dX4_low_13 : decode cX4_low 13 = .ok (.iconst 0, 1) := by decide +kernel
theorem dX4_low_14 : decode cX4_low 14 = .ok (.putfield 36, 3) := by decide +kernel
theorem dX4_low_17 : decode cX4_low 17 = .ok (.aload_n 0, 1) := by decide +kernel
theorem dX4_low_18 : decode cX4_low 18 = .ok (.getfield 36, 3) := by decide +kernel
theorem dX4_low_21 : decode cX4_low 21 = .ok (.ifCond .le 7, 3) := by decide +kernel
theorem dX4_low_24 : decode cX4_low 24 = .ok (.lconst 0, 1) := by decide +kernel
theorem dX4_low_25 : decode cX4_low 25 = .ok (.goto 9, 3) := by decide +kernel
theorem dX4_low_28 : decode cX4_low 28 = .ok (.aload_n 0, 1) := by decide +kernel
theorem dX4_low_29 : decode cX4_low 29 = .ok (.getfield 20, 3) := by decide +kernel
theorem dX4_low_32 : decode cX4_low 32 = .ok (.iload_n 1, 1) := by decide +kernel
theorem dX4_low_33 : decode cX4_low 33 = .ok (.laload, 1) := by decide +kernel
theorem dX4_low_34 : decode cX4_low 34 = .ok (.lreturn, 1) := by decide +kernel
set_option maxRecDepth 20000 in
theorem ggX4_high_X4_noResult : GoodIn wsX4_high wsX4_noResult := goodIn_r _ [7, 8, 9, 10, 11, 12, 13, 14, 15, 16, 17, 18] (by decide +kernel) (by decide +kernel)
set_option maxRecDepth 20000 in
theorem gX4_high_X4_noResult : GoodIn wsX4_high (wsV RX4 57 RX4 yX4_noResult wsX4_noResult) := goodIn_app (goodIn_of _ (by decide +kernel)) ggX4_high_X4_noResult
theorem dX4_high_0 : decode cX4_high 0 = .ok (.aload_n 0, 1) := by decide +kernel
theorem dX4_high_1 : decode cX4_high 1 = .ok (.aload_n 0, 1) := by decide +kernel
theorem dX4_high_2 : decode cX4_high 2 = .ok (.iload_n 1, 1) := by decide +kernel
theorem dX4_high_3 : decode cX4_high 3 = .ok (.invokevirtual 57, 3) := by decide +kernel
theorem dX4_high_6 : decode cX4_high 6 = .ok (.ifCond .eq 7, 3) := by decide +kernel
theorem dX4_high_9 : decode cX4_high 9 = .ok (.iconst 1, 1) := by decide +kernel
theorem dX4_high_10 : decode cX4_high 10 = .ok (.goto 4, 3) := by decide +kernel
theorem dX4_high_13 : decode cX4_high 13 = .ok (.iconst 0, 1) := by decide +kernel
theorem dX4_high_14 : decode cX4_high 14 = .ok (.putfield 36, 3) := by decide +kernel
theorem dX4_high_17 : decode cX4_high 17 = .ok (.aload_n 0, 1) := by decide +kernel
theorem dX4_high_18 : decode cX4_high 18 = .ok (.getfield 36, 3) := by decide +kernel
theorem dX4_high_21 : decode cX4_high 21 = .ok (.ifCond .le 7, 3) := by decide +kernel
theorem dX4_high_24 : decode cX4_high 24 = .ok (.iconst 0, 1) := by decide +kernel
theorem dX4_high_25 : decode cX4_high 25 = .ok (.goto 10, 3) := by decide +kernel
theorem dX4_high_28 : decode cX4_high 28 = .ok (.aload_n 0, 1) := by decide +kernel
theorem dX4_high_29 : decode cX4_high 29 = .ok (.getfield 24, 3) := by decide +kernel
theorem dX4_high_32 : decode cX4_high 32 = .ok (.iload_n 1, 1) := by decide +kernel
theorem dX4_high_33 : decode cX4_high 33 = .ok (.laload, 1) := by decide +kernel
theorem dX4_high_34 : decode cX4_high 34 = .ok (.l2i, 1) := by decide +kernel
theorem dX4_high_35 : decode cX4_high 35 = .ok (.ireturn, 1) := by decide +kernel
theorem dX4_prime_0 : decode cX4_prime 0 = .ok (.iload_n 0, 1) := by decide +kernel
theorem dX4_prime_1 : decode cX4_prime 1 = .ok (.ifCond .ne 9, 3) := by decide +kernel
theorem dX4_prime_4 : decode cX4_prime 4 = .ok (.ldc2_w 60, 3) := by decide +kernel
theorem dX4_prime_7 : decode cX4_prime 7 = .ok (.goto 17, 3) := by decide +kernel
theorem dX4_prime_10 : decode cX4_prime 10 = .ok (.iload_n 0, 1) := by decide +kernel
theorem dX4_prime_11 : decode cX4_prime 11 = .ok (.iconst 1, 1) := by decide +kernel
theorem dX4_prime_12 : decode cX4_prime 12 = .ok (.if_icmp .ne 9, 3) := by decide +kernel
theorem dX4_prime_15 : decode cX4_prime 15 = .ok (.ldc2_w 62, 3) := by decide +kernel
theorem dX4_prime_18 : decode cX4_prime 18 = .ok (.goto 6, 3) := by decide +kernel
theorem dX4_prime_21 : decode cX4_prime 21 = .ok (.ldc2_w 64, 3) := by decide +kernel
theorem dX4_prime_24 : decode cX4_prime 24 = .ok (.lreturn, 1) := by decide +kernel
theorem dX4_noPrime_0 : decode cX4_noPrime 0 = .ok (.iload_n 0, 1) := by decide +kernel
theorem dX4_noPrime_1 : decode cX4_noPrime 1 = .ok (.ifCond .lt 8, 3) := by decide +kernel
theorem dX4_noPrime_4 : decode cX4_noPrime 4 = .ok (.iload_n 0, 1) := by decide +kernel
theorem dX4_noPrime_5 : decode cX4_noPrime 5 = .ok (.iconst 2, 1) := by decide +kernel
theorem dX4_noPrime_6 : decode cX4_noPrime 6 = .ok (.if_icmp .le 7, 3) := by decide +kernel
theorem dX4_noPrime_9 : decode cX4_noPrime 9 = .ok (.iconst 1, 1) := by decide +kernel
theorem dX4_noPrime_10 : decode cX4_noPrime 10 = .ok (.goto 4, 3) := by decide +kernel
theorem dX4_noPrime_13 : decode cX4_noPrime 13 = .ok (.iconst 0, 1) := by decide +kernel
theorem dX4_noPrime_14 : decode cX4_noPrime 14 = .ok (.ireturn, 1) := by decide +kernel
theorem dX4_restOf_0 : decode cX4_restOf 0 = .ok (.lload_n 0, 1) := by decide +kernel
theorem dX4_restOf_1 : decode cX4_restOf 1 = .ok (.lload_n 2, 1) := by decide +kernel
theorem dX4_restOf_2 : decode cX4_restOf 2 = .ok (.lrem, 1) := by decide +kernel
theorem dX4_restOf_3 : decode cX4_restOf 3 = .ok (.lstore 4, 2) := by decide +kernel
theorem dX4_restOf_5 : decode cX4_restOf 5 = .ok (.lload 4, 2) := by decide +kernel
theorem dX4_restOf_7 : decode cX4_restOf 7 = .ok (.lconst 0, 1) := by decide +kernel
theorem dX4_restOf_8 : decode cX4_restOf 8 = .ok (.lcmp, 1) := by decide +kernel
theorem dX4_restOf_9 : decode cX4_restOf 9 = .ok (.ifCond .ge 10, 3) := by decide +kernel
theorem dX4_restOf_12 : decode cX4_restOf 12 = .ok (.lload 4, 2) := by decide +kernel
theorem dX4_restOf_14 : decode cX4_restOf 14 = .ok (.lload_n 2, 1) := by decide +kernel
theorem dX4_restOf_15 : decode cX4_restOf 15 = .ok (.ladd, 1) := by decide +kernel
theorem dX4_restOf_16 : decode cX4_restOf 16 = .ok (.goto 5, 3) := by decide +kernel
theorem dX4_restOf_19 : decode cX4_restOf 19 = .ok (.lload 4, 2) := by decide +kernel
theorem dX4_restOf_21 : decode cX4_restOf 21 = .ok (.lreturn, 1) := by decide +kernel
set_option maxRecDepth 20000 in
theorem ggX4_rest_X4_noPrime : GoodIn wsX4_rest wsX4_noPrime := goodIn_r _ [8] (by decide +kernel) (by decide +kernel)
set_option maxRecDepth 20000 in
theorem gX4_rest_X4_noPrime : GoodIn wsX4_rest (va_wsS RX4 66 yX4_noPrime wsX4_noPrime) := goodIn_app (goodIn_of _ (by decide +kernel)) ggX4_rest_X4_noPrime
set_option maxRecDepth 20000 in
theorem ggX4_rest_X4_noResult : GoodIn wsX4_rest wsX4_noResult := goodIn_r _ [12, 13, 23, 24, 25, 26, 27, 28, 29, 30, 31, 32] (by decide +kernel) (by decide +kernel)
set_option maxRecDepth 20000 in
theorem gX4_rest_X4_noResult : GoodIn wsX4_rest (wsV RX4 57 RX4 yX4_noResult wsX4_noResult) := goodIn_app (goodIn_of _ (by decide +kernel)) ggX4_rest_X4_noResult
set_option maxRecDepth 20000 in
theorem ggX4_rest_X4_prime : GoodIn wsX4_rest wsX4_prime := goodIn_r _ [16, 17, 18, 19] (by decide +kernel) (by decide +kernel)
set_option maxRecDepth 20000 in
theorem gX4_rest_X4_prime : GoodIn wsX4_rest (va_wsS RX4 69 yX4_prime wsX4_prime) := goodIn_app (goodIn_of _ (by decide +kernel)) ggX4_rest_X4_prime
set_option maxRecDepth 20000 in
theorem ggX4_rest_X4_restOf : GoodIn wsX4_rest wsX4_restOf := goodIn_r _ [22] (by decide +kernel) (by decide +kernel)
set_option maxRecDepth 20000 in
theorem gX4_rest_X4_restOf : GoodIn wsX4_rest (va_wsS RX4 73 yX4_restOf wsX4_restOf) := goodIn_app (goodIn_of _ (by decide +kernel)) ggX4_rest_X4_restOf
theorem dX4_rest_0 : decode cX4_rest 0 = .ok (.aload_n 0, 1) := by decide +kernel
theorem dX4_rest_1 : decode cX4_rest 1 = .ok (.iload_n 1, 1) := by decide +kernel
theorem dX4_rest_2 : decode cX4_rest 2 = .ok (.invokestatic 66, 3) := by decide +kernel
theorem dX4_rest_5 : decode cX4_rest 5 = .ok (.ifCond .eq 7, 3) := by decide +kernel
theorem dX4_rest_8 : decode cX4_rest 8 = .ok (.iconst 1, 1) := by decide +kernel
theorem dX4_rest_9 : decode cX4_rest 9 = .ok (.goto 16, 3) := by decide +kernel
theorem dX4_rest_12 : decode cX4_rest 12 = .ok (.aload_n 0, 1) := by decide +kernel
theorem dX4_rest_13 : decode cX4_rest 13 = .ok (.iload_n 2, 1) := by decide +kernel
theorem dX4_rest_14 : decode cX4_rest 14 = .ok (.invokevirtual 57, 3) := by decide +kernel
theorem dX4_rest_17 : decode cX4_rest 17 = .ok (.ifCond .eq 7, 3) := by decide +kernel
theorem dX4_rest_20 : decode cX4_rest 20 = .ok (.iconst 2, 1) := by decide +kernel
theorem dX4_rest_21 : decode cX4_rest 21 = .ok (.goto 4, 3) := by decide +kernel
theorem dX4_rest_24 : decode cX4_rest 24 = .ok (.iconst 0, 1) := by decide +kernel
theorem dX4_rest_25 : decode cX4_rest 25 = .ok (.putfield 36, 3) := by decide +kernel
theorem dX4_rest_28 : decode cX4_rest 28 = .ok (.aload_n 0, 1) := by decide +kernel
theorem dX4_rest_29 : decode cX4_rest 29 = .ok (.getfield 36, 3) := by decide +kernel
theorem dX4_rest_32 : decode cX4_rest 32 = .ok (.ifCond .le 5, 3) := by decide +kernel
theorem dX4_rest_35 : decode cX4_rest 35 = .ok (.iconst 0, 1) := by decide +kernel
theorem dX4_rest_36 : decode cX4_rest 36 = .ok (.ireturn, 1) := by decide +kernel
theorem dX4_rest_37 : decode cX4_rest 37 = .ok (.iload_n 1, 1) := by decide +kernel
theorem dX4_rest_38 : decode cX4_rest 38 = .ok (.invokestatic 69, 3) := by decide +kernel
theorem dX4_rest_41 : decode cX4_rest 41 = .ok (.lstore_n 3, 1) := by decide +kernel
theorem dX4_rest_42 : decode cX4_rest 42 = .ok (.aload_n 0, 1) := by decide +kernel
theorem dX4_rest_43 : decode cX4_rest 43 = .ok (.getfield 24, 3) := by decide +kernel
theorem dX4_rest_46 : decode cX4_rest 46 = .ok (.iload_n 2, 1) := by decide +kernel
theorem dX4_rest_47 : decode cX4_rest 47 = .ok (.laload, 1) := by decide +kernel
theorem dX4_rest_48 : decode cX4_rest 48 = .ok (.lload_n 3, 1) := by decide +kernel
theorem dX4_rest_49 : decode cX4_rest 49 = .ok (.invokestatic 73, 3) := by decide +kernel
theorem dX4_rest_52 : decode cX4_rest 52 = .ok (.lstore 5, 2) := by decide +kernel
theorem dX4_rest_54 : decode cX4_rest 54 = .ok (.bipush 63, 2) := by decide +kernel
theorem dX4_rest_56 : decode cX4_rest 56 = .ok (.istore 7, 2) := by decide +kernel
theorem dX4_rest_58 : decode cX4_rest 58 = .ok (.iload 7, 2) := by decide +kernel
theorem dX4_rest_60 : decode cX4_rest 60 = .ok (.ifCond .lt 31, 3) := by decide +kernel
theorem dX4_rest_63 : decode cX4_rest 63 = .ok (.ldc2_w 77, 3) := by decide +kernel
theorem dX4_rest_66 : decode cX4_rest 66 = .ok (.lload 5, 2) := by decide +kernel
theorem dX4_rest_68 : decode cX4_rest 68 = .ok (.lmul, 1) := by decide +kernel
theorem dX4_rest_69 : decode cX4_rest 69 = .ok (.aload_n 0, 1) := by decide +kernel
theorem dX4_rest_70 : decode cX4_rest 70 = .ok (.getfield 20, 3) := by decide +kernel
theorem dX4_rest_73 : decode cX4_rest 73 = .ok (.iload_n 2, 1) := by decide +kernel
theorem dX4_rest_74 : decode cX4_rest 74 = .ok (.laload, 1) := by decide +kernel
theorem dX4_rest_75 : decode cX4_rest 75 = .ok (.iload 7, 2) := by decide +kernel
theorem dX4_rest_77 : decode cX4_rest 77 = .ok (.lushr, 1) := by decide +kernel
theorem dX4_rest_78 : decode cX4_rest 78 = .ok (.lconst 1, 1) := by decide +kernel
theorem dX4_rest_79 : decode cX4_rest 79 = .ok (.land, 1) := by decide +kernel
theorem dX4_rest_80 : decode cX4_rest 80 = .ok (.ladd, 1) := by decide +kernel
theorem dX4_rest_81 : decode cX4_rest 81 = .ok (.lload_n 3, 1) := by decide +kernel
theorem dX4_rest_82 : decode cX4_rest 82 = .ok (.lrem, 1) := by decide +kernel
theorem dX4_rest_83 : decode cX4_rest 83 = .ok (.lstore 5, 2) := by decide +kernel
theorem dX4_rest_85 : decode cX4_rest 85 = .ok (.iinc 7 (-1), 3) := by decide +kernel
theorem dX4_rest_88 : decode cX4_rest 88 = .ok (.goto (-30), 3) := by decide +kernel
theorem dX4_rest_91 : decode cX4_rest 91 = .ok (.lload 5, 2) := by decide +kernel
theorem dX4_rest_93 : decode cX4_rest 93 = .ok (.l2i, 1) := by decide +kernel
theorem dX4_rest_94 : decode cX4_rest 94 = .ok (.ireturn, 1) := by decide +kernel
theorem dX4_raised_0 : decode cX4_raised 0 = .ok (.lconst 1, 1) := by decide +kernel
theorem dX4_raised_1 : decode cX4_raised 1 = .ok (.lstore 6, 2) := by decide +kernel
theorem dX4_raised_3 : decode cX4_raised 3 = .ok (.lload_n 0, 1) := by decide +kernel
theorem dX4_raised_4 : decode cX4_raised 4 = .ok (.lstore 8, 2) := by decide +kernel
theorem dX4_raised_6 : decode cX4_raised 6 = .ok (.lload_n 2, 1) := by decide +kernel
theorem dX4_raised_7 : decode cX4_raised 7 = .ok (.lstore 10, 2) := by decide +kernel
theorem dX4_raised_9 : decode cX4_raised 9 = .ok (.lload 10, 2) := by decide +kernel
theorem dX4_raised_11 : decode cX4_raised 11 = .ok (.lconst 0, 1) := by decide +kernel
theorem dX4_raised_12 : decode cX4_raised 12 = .ok (.lcmp, 1) := by decide +kernel
theorem dX4_raised_13 : decode cX4_raised 13 = .ok (.ifCond .le 50, 3) := by decide +kernel
theorem dX4_raised_16 : decode cX4_raised 16 = .ok (.lload 10, 2) := by decide +kernel
theorem dX4_raised_18 : decode cX4_raised 18 = .ok (.ldc2_w 77, 3) := by decide +kernel
theorem dX4_raised_21 : decode cX4_raised 21 = .ok (.lrem, 1) := by decide +kernel
theorem dX4_raised_22 : decode cX4_raised 22 = .ok (.lconst 1, 1) := by decide +kernel
theorem dX4_raised_23 : decode cX4_raised 23 = .ok (.lcmp, 1) := by decide +kernel
theorem dX4_raised_24 : decode cX4_raised 24 = .ok (.ifCond .ne 14, 3) := by decide +kernel
theorem dX4_raised_27 : decode cX4_raised 27 = .ok (.lload 6, 2) := by decide +kernel
theorem dX4_raised_29 : decode cX4_raised 29 = .ok (.lload 8, 2) := by decide +kernel
theorem dX4_raised_31 : decode cX4_raised 31 = .ok (.lmul, 1) := by decide +kernel
theorem dX4_raised_32 : decode cX4_raised 32 = .ok (.lload 4, 2) := by decide +kernel
theorem dX4_raised_34 : decode cX4_raised 34 = .ok (.lrem, 1) := by decide +kernel
theorem dX4_raised_35 : decode cX4_raised 35 = .ok (.goto 5, 3) := by decide +kernel
theorem dX4_raised_38 : decode cX4_raised 38 = .ok (.lload 6, 2) := by decide +kernel
theorem dX4_raised_40 : decode cX4_raised 40 = .ok (.lstore 6, 2) := by decide +kernel
theorem dX4_raised_42 : decode cX4_raised 42 = .ok (.lload 8, 2) := by decide +kernel
theorem dX4_raised_44 : decode cX4_raised 44 = .ok (.lload 8, 2) := by decide +kernel
theorem dX4_raised_46 : decode cX4_raised 46 = .ok (.lmul, 1) := by decide +kernel
theorem dX4_raised_47 : decode cX4_raised 47 = .ok (.lload 4, 2) := by decide +kernel
theorem dX4_raised_49 : decode cX4_raised 49 = .ok (.lrem, 1) := by decide +kernel
theorem dX4_raised_50 : decode cX4_raised 50 = .ok (.lstore 8, 2) := by decide +kernel
theorem dX4_raised_52 : decode cX4_raised 52 = .ok (.lload 10, 2) := by decide +kernel
theorem dX4_raised_54 : decode cX4_raised 54 = .ok (.ldc2_w 77, 3) := by decide +kernel
theorem dX4_raised_57 : decode cX4_raised 57 = .ok (.ldiv, 1) := by decide +kernel
theorem dX4_raised_58 : decode cX4_raised 58 = .ok (.lstore 10, 2) := by decide +kernel
theorem dX4_raised_60 : decode cX4_raised 60 = .ok (.goto (-51), 3) := by decide +kernel
theorem dX4_raised_63 : decode cX4_raised 63 = .ok (.lload 6, 2) := by decide +kernel
theorem dX4_raised_65 : decode cX4_raised 65 = .ok (.lreturn, 1) := by decide +kernel
set_option maxRecDepth 20000 in
theorem ggX4_rootOf_X4_prime : GoodIn wsX4_rootOf wsX4_prime := goodIn_r _ [6, 7, 8, 9] (by decide +kernel) (by decide +kernel)
set_option maxRecDepth 20000 in
theorem gX4_rootOf_X4_prime : GoodIn wsX4_rootOf (va_wsS RX4 69 yX4_prime wsX4_prime) := goodIn_app (goodIn_of _ (by decide +kernel)) ggX4_rootOf_X4_prime
set_option maxRecDepth 20000 in
theorem ggX4_rootOf_X4_raised : GoodIn wsX4_rootOf wsX4_raised := goodIn_r _ [12, 13] (by decide +kernel) (by decide +kernel)
set_option maxRecDepth 20000 in
theorem gX4_rootOf_X4_raised : GoodIn wsX4_rootOf (va_wsS RX4 81 yX4_raised wsX4_raised) := goodIn_app (goodIn_of _ (by decide +kernel)) ggX4_rootOf_X4_raised
theorem dX4_rootOf_0 : decode cX4_rootOf 0 = .ok (.iload_n 1, 1) := by decide +kernel
theorem dX4_rootOf_1 : decode cX4_rootOf 1 = .ok (.invokestatic 69, 3) := by decide +kernel
theorem dX4_rootOf_4 : decode cX4_rootOf 4 = .ok (.lstore_n 2, 1) := by decide +kernel
theorem dX4_rootOf_5 : decode cX4_rootOf 5 = .ok (.ldc2_w 79, 3) := by decide +kernel
theorem dX4_rootOf_8 : decode cX4_rootOf 8 = .ok (.lload_n 2, 1) := by decide +kernel
theorem dX4_rootOf_9 : decode cX4_rootOf 9 = .ok (.lconst 1, 1) := by decide +kernel
theorem dX4_rootOf_10 : decode cX4_rootOf 10 = .ok (.lsub, 1) := by decide +kernel
theorem dX4_rootOf_11 : decode cX4_rootOf 11 = .ok (.aload_n 0, 1) := by decide +kernel
theorem dX4_rootOf_12 : decode cX4_rootOf 12 = .ok (.getfield 7, 3) := by decide +kernel
theorem dX4_rootOf_15 : decode cX4_rootOf 15 = .ok (.i2l, 1) := by decide +kernel
theorem dX4_rootOf_16 : decode cX4_rootOf 16 = .ok (.ldiv, 1) := by decide +kernel
theorem dX4_rootOf_17 : decode cX4_rootOf 17 = .ok (.lload_n 2, 1) := by decide +kernel
theorem dX4_rootOf_18 : decode cX4_rootOf 18 = .ok (.invokestatic 81, 3) := by decide +kernel
theorem dX4_rootOf_21 : decode cX4_rootOf 21 = .ok (.lreturn, 1) := by decide +kernel
set_option maxRecDepth 20000 in
theorem ggX4_sumOf_X4_prime : GoodIn wsX4_sumOf wsX4_prime := goodIn_r _ [6, 7, 8, 9] (by decide +kernel) (by decide +kernel)
set_option maxRecDepth 20000 in
theorem gX4_sumOf_X4_prime : GoodIn wsX4_sumOf (va_wsS RX4 69 yX4_prime wsX4_prime) := goodIn_app (goodIn_of _ (by decide +kernel)) ggX4_sumOf_X4_prime
set_option maxRecDepth 20000 in
theorem ggX4_sumOf_X4_rootOf : GoodIn wsX4_sumOf wsX4_rootOf := goodIn_r _ [13, 14, 1, 3, 4, 5, 6, 7, 8, 9, 15, 16, 17, 18, 22, 23, 24, 25, 26, 27, 28, 29, 30, 31] (by decide +kernel) (by decide +kernel)
set_option maxRecDepth 20000 in
theorem gX4_sumOf_X4_rootOf : GoodIn wsX4_sumOf (wsV RX4 85 RX4 yX4_rootOf wsX4_rootOf) := goodIn_app (goodIn_of _ (by decide +kernel)) ggX4_sumOf_X4_rootOf
set_option maxRecDepth 20000 in
theorem ggX4_sumOf_X4_raised : GoodIn wsX4_sumOf wsX4_raised := goodIn_r _ [17, 18] (by decide +kernel) (by decide +kernel)
set_option maxRecDepth 20000 in
theorem gX4_sumOf_X4_raised : GoodIn wsX4_sumOf (va_wsS RX4 81 yX4_raised wsX4_raised) := goodIn_app (goodIn_of _ (by decide +kernel)) ggX4_sumOf_X4_raised
set_option maxRecDepth 20000 in
theorem ggX4_sumOf_X4_restOf : GoodIn wsX4_sumOf wsX4_restOf := goodIn_r _ [21] (by decide +kernel) (by decide +kernel)
set_option maxRecDepth 20000 in
theorem gX4_sumOf_X4_restOf : GoodIn wsX4_sumOf (va_wsS RX4 73 yX4_restOf wsX4_restOf) := goodIn_app (goodIn_of _ (by decide +kernel)) ggX4_sumOf_X4_restOf
theorem dX4_sumOf_0 : decode cX4_sumOf 0 = .ok (.iload_n 1, 1) := by decide +kernel
theorem dX4_sumOf_1 : decode cX4_sumOf 1 = .ok (.invokestatic 69, 3) := by decide +kernel
theorem dX4_sumOf_4 : decode cX4_sumOf 4 = .ok (.lstore 4, 2) := by decide +kernel
theorem dX4_sumOf_6 : decode cX4_sumOf 6 = .ok (.aload_n 0, 1) := by decide +kernel
theorem dX4_sumOf_7 : decode cX4_sumOf 7 = .ok (.iload_n 1, 1) := by decide +kernel
theorem dX4_sumOf_8 : decode cX4_sumOf 8 = .ok (.invokevirtual 85, 3) := by decide +kernel
theorem dX4_sumOf_11 : decode cX4_sumOf 11 = .ok (.iload_n 3, 1) := by decide +kernel
theorem dX4_sumOf_12 : decode cX4_sumOf 12 = .ok (.ifCond .eq 18, 3) := by decide +kernel
theorem dX4_sumOf_15 : decode cX4_sumOf 15 = .ok (.aload_n 0, 1) := by decide +kernel
theorem dX4_sumOf_16 : decode cX4_sumOf 16 = .ok (.getfield 7, 3) := by decide +kernel
theorem dX4_sumOf_19 : decode cX4_sumOf 19 = .ok (.iload_n 2, 1) := by decide +kernel
theorem dX4_sumOf_20 : decode cX4_sumOf 20 = .ok (.isub, 1) := by decide +kernel
theorem dX4_sumOf_21 : decode cX4_sumOf 21 = .ok (.aload_n 0, 1) := by decide +kernel
theorem dX4_sumOf_22 : decode cX4_sumOf 22 = .ok (.getfield 7, 3) := by decide +kernel
theorem dX4_sumOf_25 : decode cX4_sumOf 25 = .ok (.irem, 1) := by decide +kernel
theorem dX4_sumOf_26 : decode cX4_sumOf 26 = .ok (.i2l, 1) := by decide +kernel
theorem dX4_sumOf_27 : decode cX4_sumOf 27 = .ok (.goto 5, 3) := by decide +kernel
theorem dX4_sumOf_30 : decode cX4_sumOf 30 = .ok (.iload_n 2, 1) := by decide +kernel
theorem dX4_sumOf_31 : decode cX4_sumOf 31 = .ok (.i2l, 1) := by decide +kernel
theorem dX4_sumOf_32 : decode cX4_sumOf 32 = .ok (.lload 4, 2) := by decide +kernel
theorem dX4_sumOf_34 : decode cX4_sumOf 34 = .ok (.invokestatic 81, 3) := by decide +kernel
theorem dX4_sumOf_37 : decode cX4_sumOf 37 = .ok (.lstore 6, 2) := by decide +kernel
theorem dX4_sumOf_39 : decode cX4_sumOf 39 = .ok (.lconst 1, 1) := by decide +kernel
theorem dX4_sumOf_40 : decode cX4_sumOf 40 = .ok (.lstore 8, 2) := by decide +kernel
theorem dX4_sumOf_42 : decode cX4_sumOf 42 = .ok (.lconst 0, 1) := by decide +kernel
theorem dX4_sumOf_43 : decode cX4_sumOf 43 = .ok (.lstore 10, 2) := by decide +kernel
theorem dX4_sumOf_45 : decode cX4_sumOf 45 = .ok (.iconst 0, 1) := by decide +kernel
theorem dX4_sumOf_46 : decode cX4_sumOf 46 = .ok (.istore 12, 2) := by decide +kernel
theorem dX4_sumOf_48 : decode cX4_sumOf 48 = .ok (.iload 12, 2) := by decide +kernel
theorem dX4_sumOf_50 : decode cX4_sumOf 50 = .ok (.aload_n 0, 1) := by decide +kernel
theorem dX4_sumOf_51 : decode cX4_sumOf 51 = .ok (.getfield 7, 3) := by decide +kernel
theorem dX4_sumOf_54 : decode cX4_sumOf 54 = .ok (.if_icmp .ge 43, 3) := by decide +kernel
theorem dX4_sumOf_57 : decode cX4_sumOf 57 = .ok (.lload 10, 2) := by decide +kernel
theorem dX4_sumOf_59 : decode cX4_sumOf 59 = .ok (.aload_n 0, 1) := by decide +kernel
theorem dX4_sumOf_60 : decode cX4_sumOf 60 = .ok (.getfield 13, 3) := by decide +kernel
theorem dX4_sumOf_63 : decode cX4_sumOf 63 = .ok (.iload 12, 2) := by decide +kernel
theorem dX4_sumOf_65 : decode cX4_sumOf 65 = .ok (.iaload, 1) := by decide +kernel
theorem dX4_sumOf_66 : decode cX4_sumOf 66 = .ok (.i2l, 1) := by decide +kernel
theorem dX4_sumOf_67 : decode cX4_sumOf 67 = .ok (.lload 4, 2) := by decide +kernel
theorem dX4_sumOf_69 : decode cX4_sumOf 69 = .ok (.invokestatic 73, 3) := by decide +kernel
theorem dX4_sumOf_72 : decode cX4_sumOf 72 = .ok (.lload 8, 2) := by decide +kernel
theorem dX4_sumOf_74 : decode cX4_sumOf 74 = .ok (.lmul, 1) := by decide +kernel
theorem dX4_sumOf_75 : decode cX4_sumOf 75 = .ok (.ladd, 1) := by decide +kernel
theorem dX4_sumOf_76 : decode cX4_sumOf 76 = .ok (.lload 4, 2) := by decide +kernel
theorem dX4_sumOf_78 : decode cX4_sumOf 78 = .ok (.lrem, 1) := by decide +kernel
theorem dX4_sumOf_79 : decode cX4_sumOf 79 = .ok (.lstore 10, 2) := by decide +kernel
theorem dX4_sumOf_81 : decode cX4_sumOf 81 = .ok (.lload 8, 2) := by decide +kernel
theorem dX4_sumOf_83 : decode cX4_sumOf 83 = .ok (.lload 6, 2) := by decide +kernel
theorem dX4_sumOf_85 : decode cX4_sumOf 85 = .ok (.lmul, 1) := by decide +kernel
theorem dX4_sumOf_86 : decode cX4_sumOf 86 = .ok (.lload 4, 2) := by decide +kernel
theorem dX4_sumOf_88 : decode cX4_sumOf 88 = .ok (.lrem, 1) := by decide +kernel
theorem dX4_sumOf_89 : decode cX4_sumOf 89 = .ok (.lstore 8, 2) := by decide +kernel
theorem dX4_sumOf_91 : decode cX4_sumOf 91 = .ok (.iinc 12 1, 3) := by decide +kernel
theorem dX4_sumOf_94 : decode cX4_sumOf 94 = .ok (.goto (-46), 3) := by decide +kernel
theorem dX4_sumOf_97 : decode cX4_sumOf 97 = .ok (.lload 10, 2) := by decide +kernel
theorem dX4_sumOf_99 : decode cX4_sumOf 99 = .ok (.lreturn, 1) := by decide +kernel
set_option maxRecDepth 20000 in
theorem ggX4_value_X4_noPrime : GoodIn wsX4_value wsX4_noPrime := goodIn_r _ [6] (by decide +kernel) (by decide +kernel)
set_option maxRecDepth 20000 in
theorem gX4_value_X4_noPrime : GoodIn wsX4_value (va_wsS RX4 66 yX4_noPrime wsX4_noPrime) := goodIn_app (goodIn_of _ (by decide +kernel)) ggX4_value_X4_noPrime
set_option maxRecDepth 20000 in
theorem ggX4_value_X4_sumOf : GoodIn wsX4_value wsX4_sumOf := goodIn_r _ [10, 1, 11, 12, 13, 5, 14, 15, 16, 17, 18, 19, 20, 21, 22, 23, 24, 25, 26, 27, 28, 29, 30, 31, 32, 33, 34, 35, 36, 37, 38, 39] (by decide +kernel) (by decide +kernel)
set_option maxRecDepth 20000 in
theorem gX4_value_X4_sumOf : GoodIn wsX4_value (wsV RX4 88 RX4 yX4_sumOf wsX4_sumOf) := goodIn_app (goodIn_of _ (by decide +kernel)) ggX4_value_X4_sumOf
theorem dX4_value_0 : decode cX4_value 0 = .ok (.aload_n 0, 1) := by decide +kernel
theorem dX4_value_1 : decode cX4_value 1 = .ok (.iload_n 1, 1) := by decide +kernel
theorem dX4_value_2 : decode cX4_value 2 = .ok (.invokestatic 66, 3) := by decide +kernel
theorem dX4_value_5 : decode cX4_value 5 = .ok (.ifCond .eq 7, 3) := by decide +kernel
theorem dX4_value_8 : decode cX4_value 8 = .ok (.iconst 1, 1) := by decide +kernel
theorem dX4_value_9 : decode cX4_value 9 = .ok (.goto 20, 3) := by decide +kernel
theorem dX4_value_12 : decode cX4_value 12 = .ok (.iload_n 2, 1) := by decide +kernel
theorem dX4_value_13 : decode cX4_value 13 = .ok (.ifCond .lt 11, 3) := by decide +kernel
theorem dX4_value_16 : decode cX4_value 16 = .ok (.iload_n 2, 1) := by decide +kernel
theorem dX4_value_17 : decode cX4_value 17 = .ok (.aload_n 0, 1) := by decide +kernel
theorem dX4_value_18 : decode cX4_value 18 = .ok (.getfield 7, 3) := by decide +kernel
theorem dX4_value_21 : decode cX4_value 21 = .ok (.if_icmp .lt 7, 3) := by decide +kernel
theorem dX4_value_24 : decode cX4_value 24 = .ok (.iconst 2, 1) := by decide +kernel
theorem dX4_value_25 : decode cX4_value 25 = .ok (.goto 4, 3) := by decide +kernel
theorem dX4_value_28 : decode cX4_value 28 = .ok (.iconst 0, 1) := by decide +kernel
theorem dX4_value_29 : decode cX4_value 29 = .ok (.putfield 36, 3) := by decide +kernel
theorem dX4_value_32 : decode cX4_value 32 = .ok (.aload_n 0, 1) := by decide +kernel
theorem dX4_value_33 : decode cX4_value 33 = .ok (.getfield 36, 3) := by decide +kernel
theorem dX4_value_36 : decode cX4_value 36 = .ok (.ifCond .le 7, 3) := by decide +kernel
theorem dX4_value_39 : decode cX4_value 39 = .ok (.iconst 0, 1) := by decide +kernel
theorem dX4_value_40 : decode cX4_value 40 = .ok (.goto 11, 3) := by decide +kernel
theorem dX4_value_43 : decode cX4_value 43 = .ok (.aload_n 0, 1) := by decide +kernel
theorem dX4_value_44 : decode cX4_value 44 = .ok (.iload_n 1, 1) := by decide +kernel
theorem dX4_value_45 : decode cX4_value 45 = .ok (.iload_n 2, 1) := by decide +kernel
theorem dX4_value_46 : decode cX4_value 46 = .ok (.iconst 0, 1) := by decide +kernel
theorem dX4_value_47 : decode cX4_value 47 = .ok (.invokevirtual 88, 3) := by decide +kernel
theorem dX4_value_50 : decode cX4_value 50 = .ok (.l2i, 1) := by decide +kernel
theorem dX4_value_51 : decode cX4_value 51 = .ok (.ireturn, 1) := by decide +kernel
set_option maxRecDepth 20000 in
theorem ggX4_back_X4_noPrime : GoodIn wsX4_back wsX4_noPrime := goodIn_r _ [7] (by decide +kernel) (by decide +kernel)
set_option maxRecDepth 20000 in
theorem gX4_back_X4_noPrime : GoodIn wsX4_back (va_wsS RX4 66 yX4_noPrime wsX4_noPrime) := goodIn_app (goodIn_of _ (by decide +kernel)) ggX4_back_X4_noPrime
set_option maxRecDepth 20000 in
theorem ggX4_back_X4_prime : GoodIn wsX4_back wsX4_prime := goodIn_r _ [10, 11, 12, 13] (by decide +kernel) (by decide +kernel)
set_option maxRecDepth 20000 in
theorem gX4_back_X4_prime : GoodIn wsX4_back (va_wsS RX4 69 yX4_prime wsX4_prime) := goodIn_app (goodIn_of _ (by decide +kernel)) ggX4_back_X4_prime
set_option maxRecDepth 20000 in
theorem ggX4_back_X4_sumOf : GoodIn wsX4_back wsX4_sumOf := goodIn_r _ [17, 1, 18, 8, 9, 6, 10, 11, 12, 13, 19, 20, 21, 22, 23, 24, 25, 26, 3, 27, 28, 29, 30, 31, 32, 33, 34, 35, 36, 37, 38, 39] (by decide +kernel) (by decide +kernel)
set_option maxRecDepth 20000 in
theorem gX4_back_X4_sumOf : GoodIn wsX4_back (wsV RX4 88 RX4 yX4_sumOf wsX4_sumOf) := goodIn_app (goodIn_of _ (by decide +kernel)) ggX4_back_X4_sumOf
set_option maxRecDepth 20000 in
theorem ggX4_back_X4_raised : GoodIn wsX4_back wsX4_raised := goodIn_r _ [26, 3] (by decide +kernel) (by decide +kernel)
set_option maxRecDepth 20000 in
theorem gX4_back_X4_raised : GoodIn wsX4_back (va_wsS RX4 81 yX4_raised wsX4_raised) := goodIn_app (goodIn_of _ (by decide +kernel)) ggX4_back_X4_raised
theorem dX4_back_0 : decode cX4_back 0 = .ok (.aload_n 0, 1) := by decide +kernel
theorem dX4_back_1 : decode cX4_back 1 = .ok (.iload_n 1, 1) := by decide +kernel
theorem dX4_back_2 : decode cX4_back 2 = .ok (.invokestatic 66, 3) := by decide +kernel
theorem dX4_back_5 : decode cX4_back 5 = .ok (.ifCond .eq 7, 3) := by decide +kernel
theorem dX4_back_8 : decode cX4_back 8 = .ok (.iconst 1, 1) := by decide +kernel
theorem dX4_back_9 : decode cX4_back 9 = .ok (.goto 20, 3) := by decide +kernel
theorem dX4_back_12 : decode cX4_back 12 = .ok (.iload_n 2, 1) := by decide +kernel
theorem dX4_back_13 : decode cX4_back 13 = .ok (.ifCond .lt 11, 3) := by decide +kernel
theorem dX4_back_16 : decode cX4_back 16 = .ok (.iload_n 2, 1) := by decide +kernel
theorem dX4_back_17 : decode cX4_back 17 = .ok (.aload_n 0, 1) := by decide +kernel
theorem dX4_back_18 : decode cX4_back 18 = .ok (.getfield 7, 3) := by decide +kernel
theorem dX4_back_21 : decode cX4_back 21 = .ok (.if_icmp .lt 7, 3) := by decide +kernel
theorem dX4_back_24 : decode cX4_back 24 = .ok (.iconst 2, 1) := by decide +kernel
theorem dX4_back_25 : decode cX4_back 25 = .ok (.goto 4, 3) := by decide +kernel
theorem dX4_back_28 : decode cX4_back 28 = .ok (.iconst 0, 1) := by decide +kernel
theorem dX4_back_29 : decode cX4_back 29 = .ok (.putfield 36, 3) := by decide +kernel
theorem dX4_back_32 : decode cX4_back 32 = .ok (.aload_n 0, 1) := by decide +kernel
theorem dX4_back_33 : decode cX4_back 33 = .ok (.getfield 36, 3) := by decide +kernel
theorem dX4_back_36 : decode cX4_back 36 = .ok (.ifCond .le 5, 3) := by decide +kernel
theorem dX4_back_39 : decode cX4_back 39 = .ok (.iconst 0, 1) := by decide +kernel
theorem dX4_back_40 : decode cX4_back 40 = .ok (.ireturn, 1) := by decide +kernel
theorem dX4_back_41 : decode cX4_back 41 = .ok (.iload_n 1, 1) := by decide +kernel
theorem dX4_back_42 : decode cX4_back 42 = .ok (.invokestatic 69, 3) := by decide +kernel
theorem dX4_back_45 : decode cX4_back 45 = .ok (.lstore_n 3, 1) := by decide +kernel
theorem dX4_back_46 : decode cX4_back 46 = .ok (.aload_n 0, 1) := by decide +kernel
theorem dX4_back_47 : decode cX4_back 47 = .ok (.iload_n 1, 1) := by decide +kernel
theorem dX4_back_48 : decode cX4_back 48 = .ok (.iload_n 2, 1) := by decide +kernel
theorem dX4_back_49 : decode cX4_back 49 = .ok (.iconst 1, 1) := by decide +kernel
theorem dX4_back_50 : decode cX4_back 50 = .ok (.invokevirtual 88, 3) := by decide +kernel
theorem dX4_back_53 : decode cX4_back 53 = .ok (.aload_n 0, 1) := by decide +kernel
theorem dX4_back_54 : decode cX4_back 54 = .ok (.getfield 7, 3) := by decide +kernel
theorem dX4_back_57 : decode cX4_back 57 = .ok (.i2l, 1) := by decide +kernel
theorem dX4_back_58 : decode cX4_back 58 = .ok (.lload_n 3, 1) := by decide +kernel
theorem dX4_back_59 : decode cX4_back 59 = .ok (.ldc2_w 77, 3) := by decide +kernel
theorem dX4_back_62 : decode cX4_back 62 = .ok (.lsub, 1) := by decide +kernel
theorem dX4_back_63 : decode cX4_back 63 = .ok (.lload_n 3, 1) := by decide +kernel
theorem dX4_back_64 : decode cX4_back 64 = .ok (.invokestatic 81, 3) := by decide +kernel
theorem dX4_back_67 : decode cX4_back 67 = .ok (.lmul, 1) := by decide +kernel
theorem dX4_back_68 : decode cX4_back 68 = .ok (.lload_n 3, 1) := by decide +kernel
theorem dX4_back_69 : decode cX4_back 69 = .ok (.lrem, 1) := by decide +kernel
theorem dX4_back_70 : decode cX4_back 70 = .ok (.l2i, 1) := by decide +kernel
theorem dX4_back_71 : decode cX4_back 71 = .ok (.ireturn, 1) := by decide +kernel
theorem dX4_keep_0 : decode cX4_keep 0 = .ok (.aload_n 0, 1) := by decide +kernel
theorem dX4_keep_1 : decode cX4_keep 1 = .ok (.aload_n 0, 1) := by decide +kernel
theorem dX4_keep_2 : decode cX4_keep 2 = .ok (.getfield 39, 3) := by decide +kernel
theorem dX4_keep_5 : decode cX4_keep 5 = .ok (.ifCond .ne 7, 3) := by decide +kernel
theorem dX4_keep_8 : decode cX4_keep 8 = .ok (.iconst 1, 1) := by decide +kernel
theorem dX4_keep_9 : decode cX4_keep 9 = .ok (.goto 4, 3) := by decide +kernel
theorem dX4_keep_12 : decode cX4_keep 12 = .ok (.iconst 0, 1) := by decide +kernel
theorem dX4_keep_13 : decode cX4_keep 13 = .ok (.putfield 36, 3) := by decide +kernel
theorem dX4_keep_16 : decode cX4_keep 16 = .ok (.iconst 0, 1) := by decide +kernel
theorem dX4_keep_17 : decode cX4_keep 17 = .ok (.istore_n 1, 1) := by decide +kernel
theorem dX4_keep_18 : decode cX4_keep 18 = .ok (.iload_n 1, 1) := by decide +kernel
theorem dX4_keep_19 : decode cX4_keep 19 = .ok (.aload_n 0, 1) := by decide +kernel
theorem dX4_keep_20 : decode cX4_keep 20 = .ok (.getfield 7, 3) := by decide +kernel
theorem dX4_keep_23 : decode cX4_keep 23 = .ok (.if_icmp .ge 29, 3) := by decide +kernel
theorem dX4_keep_26 : decode cX4_keep 26 = .ok (.aload_n 0, 1) := by decide +kernel
theorem dX4_keep_27 : decode cX4_keep 27 = .ok (.getfield 36, 3) := by decide +kernel
theorem dX4_keep_30 : decode cX4_keep 30 = .ok (.ifCond .ne 22, 3) := by decide +kernel
theorem dX4_keep_33 : decode cX4_keep 33 = .ok (.aload_n 0, 1) := by decide +kernel
theorem dX4_keep_34 : decode cX4_keep 34 = .ok (.getfield 13, 3) := by decide +kernel
theorem dX4_keep_37 : decode cX4_keep 37 = .ok (.iload_n 1, 1) := by decide +kernel
theorem dX4_keep_38 : decode cX4_keep 38 = .ok (.aload_n 0, 1) := by decide +kernel
theorem dX4_keep_39 : decode cX4_keep 39 = .ok (.getfield 20, 3) := by decide +kernel
theorem dX4_keep_42 : decode cX4_keep 42 = .ok (.iload_n 1, 1) := by decide +kernel
theorem dX4_keep_43 : decode cX4_keep 43 = .ok (.laload, 1) := by decide +kernel
theorem dX4_keep_44 : decode cX4_keep 44 = .ok (.l2i, 1) := by decide +kernel
theorem dX4_keep_45 : decode cX4_keep 45 = .ok (.iastore, 1) := by decide +kernel
theorem dX4_keep_46 : decode cX4_keep 46 = .ok (.iinc 1 1, 3) := by decide +kernel
theorem dX4_keep_49 : decode cX4_keep 49 = .ok (.goto (-31), 3) := by decide +kernel
theorem dX4_keep_52 : decode cX4_keep 52 = .ok (.return_, 1) := by decide +kernel
set_option maxRecDepth 20000 in
theorem ggX4_product_X4_noPrime : GoodIn wsX4_product wsX4_noPrime := goodIn_r _ [5] (by decide +kernel) (by decide +kernel)
set_option maxRecDepth 20000 in
theorem gX4_product_X4_noPrime : GoodIn wsX4_product (va_wsS RX4 66 yX4_noPrime wsX4_noPrime) := goodIn_app (goodIn_of _ (by decide +kernel)) ggX4_product_X4_noPrime
set_option maxRecDepth 20000 in
theorem ggX4_product_X4_prime : GoodIn wsX4_product wsX4_prime := goodIn_r _ [8, 9, 10, 11] (by decide +kernel) (by decide +kernel)
set_option maxRecDepth 20000 in
theorem gX4_product_X4_prime : GoodIn wsX4_product (va_wsS RX4 69 yX4_prime wsX4_prime) := goodIn_app (goodIn_of _ (by decide +kernel)) ggX4_product_X4_prime
set_option maxRecDepth 20000 in
theorem ggX4_product_X4_restOf : GoodIn wsX4_product wsX4_restOf := goodIn_r _ [14] (by decide +kernel) (by decide +kernel)
set_option maxRecDepth 20000 in
theorem gX4_product_X4_restOf : GoodIn wsX4_product (va_wsS RX4 73 yX4_restOf wsX4_restOf) := goodIn_app (goodIn_of _ (by decide +kernel)) ggX4_product_X4_restOf
theorem dX4_product_0 : decode cX4_product 0 = .ok (.aload_n 0, 1) := by decide +kernel
theorem dX4_product_1 : decode cX4_product 1 = .ok (.iload_n 1, 1) := by decide +kernel
theorem dX4_product_2 : decode cX4_product 2 = .ok (.invokestatic 66, 3) := by decide +kernel
theorem dX4_product_5 : decode cX4_product 5 = .ok (.ifCond .eq 7, 3) := by decide +kernel
theorem dX4_product_8 : decode cX4_product 8 = .ok (.iconst 1, 1) := by decide +kernel
theorem dX4_product_9 : decode cX4_product 9 = .ok (.goto 4, 3) := by decide +kernel
theorem dX4_product_12 : decode cX4_product 12 = .ok (.iconst 0, 1) := by decide +kernel
theorem dX4_product_13 : decode cX4_product 13 = .ok (.putfield 36, 3) := by decide +kernel
theorem dX4_product_16 : decode cX4_product 16 = .ok (.aload_n 0, 1) := by decide +kernel
theorem dX4_product_17 : decode cX4_product 17 = .ok (.getfield 36, 3) := by decide +kernel
theorem dX4_product_20 : decode cX4_product 20 = .ok (.ifCond .le 5, 3) := by decide +kernel
theorem dX4_product_23 : decode cX4_product 23 = .ok (.iconst 0, 1) := by decide +kernel
theorem dX4_product_24 : decode cX4_product 24 = .ok (.ireturn, 1) := by decide +kernel
theorem dX4_product_25 : decode cX4_product 25 = .ok (.iload_n 1, 1) := by decide +kernel
theorem dX4_product_26 : decode cX4_product 26 = .ok (.invokestatic 69, 3) := by decide +kernel
theorem dX4_product_29 : decode cX4_product 29 = .ok (.lstore 4, 2) := by decide +kernel
theorem dX4_product_31 : decode cX4_product 31 = .ok (.iload_n 2, 1) := by decide +kernel
theorem dX4_product_32 : decode cX4_product 32 = .ok (.i2l, 1) := by decide +kernel
theorem dX4_product_33 : decode cX4_product 33 = .ok (.lload 4, 2) := by decide +kernel
theorem dX4_product_35 : decode cX4_product 35 = .ok (.invokestatic 73, 3) := by decide +kernel
theorem dX4_product_38 : decode cX4_product 38 = .ok (.iload_n 3, 1) := by decide +kernel
theorem dX4_product_39 : decode cX4_product 39 = .ok (.i2l, 1) := by decide +kernel
theorem dX4_product_40 : decode cX4_product 40 = .ok (.lload 4, 2) := by decide +kernel
theorem dX4_product_42 : decode cX4_product 42 = .ok (.invokestatic 73, 3) := by decide +kernel
theorem dX4_product_45 : decode cX4_product 45 = .ok (.lmul, 1) := by decide +kernel
theorem dX4_product_46 : decode cX4_product 46 = .ok (.lload 4, 2) := by decide +kernel
theorem dX4_product_48 : decode cX4_product 48 = .ok (.lrem, 1) := by decide +kernel
theorem dX4_product_49 : decode cX4_product 49 = .ok (.l2i, 1) := by decide +kernel
theorem dX4_product_50 : decode cX4_product 50 = .ok (.ireturn, 1) := by decide +kernel
set_option maxRecDepth 20000 in
theorem ggX4_root_X4_noPrime : GoodIn wsX4_root wsX4_noPrime := goodIn_r _ [6] (by decide +kernel) (by decide +kernel)
set_option maxRecDepth 20000 in
theorem gX4_root_X4_noPrime : GoodIn wsX4_root (va_wsS RX4 66 yX4_noPrime wsX4_noPrime) := goodIn_app (goodIn_of _ (by decide +kernel)) ggX4_root_X4_noPrime
set_option maxRecDepth 20000 in
theorem ggX4_root_X4_restOf : GoodIn wsX4_root wsX4_restOf := goodIn_r _ [9] (by decide +kernel) (by decide +kernel)
set_option maxRecDepth 20000 in
theorem gX4_root_X4_restOf : GoodIn wsX4_root (va_wsS RX4 73 yX4_restOf wsX4_restOf) := goodIn_app (goodIn_of _ (by decide +kernel)) ggX4_root_X4_restOf
set_option maxRecDepth 20000 in
theorem ggX4_root_X4_rootOf : GoodIn wsX4_root wsX4_rootOf := goodIn_r _ [13, 14, 2, 15, 16, 5, 17, 18, 19, 20, 21, 22, 23, 24, 25, 26, 27, 28, 29, 30, 31, 32, 33, 34] (by decide +kernel) (by decide +kernel)
set_option maxRecDepth 20000 in
theorem gX4_root_X4_rootOf : GoodIn wsX4_root (wsV RX4 85 RX4 yX4_rootOf wsX4_rootOf) := goodIn_app (goodIn_of _ (by decide +kernel)) ggX4_root_X4_rootOf
set_option maxRecDepth 20000 in
theorem ggX4_root_X4_prime : GoodIn wsX4_root wsX4_prime := goodIn_r _ [17, 18, 19, 20] (by decide +kernel) (by decide +kernel)
set_option maxRecDepth 20000 in
theorem gX4_root_X4_prime : GoodIn wsX4_root (va_wsS RX4 69 yX4_prime wsX4_prime) := goodIn_app (goodIn_of _ (by decide +kernel)) ggX4_root_X4_prime
set_option maxRecDepth 20000 in
theorem ggX4_root_X4_raised : GoodIn wsX4_root wsX4_raised := goodIn_r _ [23, 24] (by decide +kernel) (by decide +kernel)
set_option maxRecDepth 20000 in
theorem gX4_root_X4_raised : GoodIn wsX4_root (va_wsS RX4 81 yX4_raised wsX4_raised) := goodIn_app (goodIn_of _ (by decide +kernel)) ggX4_root_X4_raised
theorem dX4_root_0 : decode cX4_root 0 = .ok (.aload_n 0, 1) := by decide +kernel
theorem dX4_root_1 : decode cX4_root 1 = .ok (.iload_n 1, 1) := by decide +kernel
theorem dX4_root_2 : decode cX4_root 2 = .ok (.invokestatic 66, 3) := by decide +kernel
theorem dX4_root_5 : decode cX4_root 5 = .ok (.ifCond .eq 7, 3) := by decide +kernel
theorem dX4_root_8 : decode cX4_root 8 = .ok (.iconst 1, 1) := by decide +kernel
theorem dX4_root_9 : decode cX4_root 9 = .ok (.goto 4, 3) := by decide +kernel
theorem dX4_root_12 : decode cX4_root 12 = .ok (.iconst 0, 1) := by decide +kernel
theorem dX4_root_13 : decode cX4_root 13 = .ok (.putfield 36, 3) := by decide +kernel
theorem dX4_root_16 : decode cX4_root 16 = .ok (.aload_n 0, 1) := by decide +kernel
theorem dX4_root_17 : decode cX4_root 17 = .ok (.getfield 36, 3) := by decide +kernel
theorem dX4_root_20 : decode cX4_root 20 = .ok (.ifCond .le 5, 3) := by decide +kernel
theorem dX4_root_23 : decode cX4_root 23 = .ok (.iconst 0, 1) := by decide +kernel
theorem dX4_root_24 : decode cX4_root 24 = .ok (.ireturn, 1) := by decide +kernel
theorem dX4_root_25 : decode cX4_root 25 = .ok (.iload_n 2, 1) := by decide +kernel
theorem dX4_root_26 : decode cX4_root 26 = .ok (.i2l, 1) := by decide +kernel
theorem dX4_root_27 : decode cX4_root 27 = .ok (.aload_n 0, 1) := by decide +kernel
theorem dX4_root_28 : decode cX4_root 28 = .ok (.getfield 7, 3) := by decide +kernel
theorem dX4_root_31 : decode cX4_root 31 = .ok (.i2l, 1) := by decide +kernel
theorem dX4_root_32 : decode cX4_root 32 = .ok (.invokestatic 73, 3) := by decide +kernel
theorem dX4_root_35 : decode cX4_root 35 = .ok (.lstore_n 3, 1) := by decide +kernel
theorem dX4_root_36 : decode cX4_root 36 = .ok (.aload_n 0, 1) := by decide +kernel
theorem dX4_root_37 : decode cX4_root 37 = .ok (.iload_n 1, 1) := by decide +kernel
theorem dX4_root_38 : decode cX4_root 38 = .ok (.invokevirtual 85, 3) := by decide +kernel
theorem dX4_root_41 : decode cX4_root 41 = .ok (.lload_n 3, 1) := by decide +kernel
theorem dX4_root_42 : decode cX4_root 42 = .ok (.iload_n 1, 1) := by decide +kernel
theorem dX4_root_43 : decode cX4_root 43 = .ok (.invokestatic 69, 3) := by decide +kernel
theorem dX4_root_46 : decode cX4_root 46 = .ok (.invokestatic 81, 3) := by decide +kernel
theorem dX4_root_49 : decode cX4_root 49 = .ok (.l2i, 1) := by decide +kernel
theorem dX4_root_50 : decode cX4_root 50 = .ok (.ireturn, 1) := by decide +kernel
set_option maxRecDepth 20000 in
theorem ggL_size_X3_size : GoodIn wsL_size wsX3_size := goodIn_ca (goodIn_r _ [6, 7, 8, 9, 10, 11, 12, 13, 14, 15, 5, 16, 17, 18, 19, 20, 21, 22, 23, 24] (by decide +kernel) (by decide +kernel)) (goodIn_sub (fun _ h => List.mem_cons_of_mem _ (List.mem_append_right _ h)) (by decide +kernel))
set_option maxRecDepth 20000 in
theorem gL_size_X3_size : GoodIn wsL_size (wsV RL 7 RX3 yX3_size wsX3_size) := goodIn_app (goodIn_of _ (by decide +kernel)) ggL_size_X3_size
