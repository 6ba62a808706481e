set_option maxRecDepth 20000 in
theorem ggX0_init_X2_init : GoodIn wsX0_init wsX2_init := goodIn_r _ [3, 4, 5, 6, 7, 8, 9, 10, 11, 12, 13, 14, 15, 16, 17, 18, 19, 20, 21, 22, 23, 24, 25, 26, 27, 28, 29, 30, 31, 32, 33, 34, 35, 36, 37, 38, 39, 40, 41, 42, 43, 44, 45, 46] (by decide +kernel) (by decide +kernel)
set_option maxRecDepth 20000 in
theorem gX0_init_X2_init_n3 : GoodIn wsX0_init (wsX2_init) := ggX0_init_X2_init
theorem dX0_init_0 : decode cX0_init 0 = .ok (.aload_n 0, 1) := by decide +kernel
theorem dX0_init_1 : decode cX0_init 1 = .ok (.invokespecial 3, 3) := by decide +kernel
theorem dX0_init_4 : decode cX0_init 4 = .ok (.return_, 1) := by decide +kernel
set_option maxRecDepth 20000 in
theorem ggX0_give_X5_fail : GoodIn wsX0_give wsX5_fail := goodIn_r _ [11, 12, 28, 29, 30, 31, 32, 33, 34, 35, 36, 37, 38, 39, 40, 41, 42, 43, 44, 45, 46, 47, 48, 49, 50, 51, 52, 53, 54, 55, 56, 57, 58, 59, 60, 61, 62] (by decide +kernel) (by decide +kernel)
set_option maxRecDepth 20000 in
theorem gX0_give_X5_fail_u19X0 : GoodIn wsX0_give (va_wsU RX0 19 RX0 "CallWays2$Instrument" ⟨"CallWays2$Bell", "fail", "(I)D"⟩ yX5_fail wsX5_fail) := goodIn_app (goodIn_of _ (by decide +kernel)) ggX0_give_X5_fail
set_option maxRecDepth 20000 in
theorem ggX0_give_X2_give : GoodIn wsX0_give wsX2_give := goodIn_r _ [18, 19, 20, 21, 22, 23, 24, 25, 26, 9, 10, 11, 12, 27, 28, 29, 30, 31, 32, 33, 34, 35, 36, 37, 38, 39, 40, 41, 42, 43, 44, 45, 46, 47, 48, 49, 50, 51, 52, 53, 54, 55, 56, 57, 58, 59, 60, 61, 62] (by decide +kernel) (by decide +kernel)
set_option maxRecDepth 20000 in
theorem gX0_give_X2_give_s23 : GoodIn wsX0_give (va_wsSU RX0 23 yX2_give wsX2_give) := goodIn_app (goodIn_of _ (by decide +kernel)) ggX0_give_X2_give
theorem dX0_give_0 : decode cX0_give 0 = .ok (.aload_n 0, 1) := by decide +kernel
theorem dX0_give_1 : decode cX0_give 1 = .ok (.getfield 9, 3) := by decide +kernel
theorem dX0_give_4 : decode cX0_give 4 = .ok (.aload_n 0, 1) := by decide +kernel
theorem dX0_give_5 : decode cX0_give 5 = .ok (.getfield 15, 3) := by decide +kernel
theorem dX0_give_8 : decode cX0_give 8 = .ok (.iconst 2, 1) := by decide +kernel
theorem dX0_give_9 : decode cX0_give 9 = .ok (.iaload, 1) := by decide +kernel
theorem dX0_give_10 : decode cX0_give 10 = .ok (.if_icmp .ne 10, 3) := by decide +kernel
theorem dX0_give_13 : decode cX0_give 13 = .ok (.aload_n 0, 1) := by decide +kernel
theorem dX0_give_14 : decode cX0_give 14 = .ok (.bipush (-3), 2) := by decide +kernel
theorem dX0_give_16 : decode cX0_give 16 = .ok (.invokevirtual 19, 3) := by decide +kernel
theorem dX0_give_19 : decode cX0_give 19 = .ok (.dreturn, 1) := by decide +kernel
theorem dX0_give_20 : decode cX0_give 20 = .ok (.aload_n 0, 1) := by decide +kernel
theorem dX0_give_21 : decode cX0_give 21 = .ok (.invokespecial 23, 3) := by decide +kernel
theorem dX0_give_24 : decode cX0_give 24 = .ok (.dstore_n 1, 1) := by decide +kernel
theorem dX0_give_25 : decode cX0_give 25 = .ok (.aload_n 0, 1) := by decide +kernel
theorem dX0_give_26 : decode cX0_give 26 = .ok (.getfield 9, 3) := by decide +kernel
theorem dX0_give_29 : decode cX0_give 29 = .ok (.iconst 1, 1) := by decide +kernel
theorem dX0_give_30 : decode cX0_give 30 = .ok (.iand, 1) := by decide +kernel
theorem dX0_give_31 : decode cX0_give 31 = .ok (.ifCond .ne 7, 3) := by decide +kernel
theorem dX0_give_34 : decode cX0_give 34 = .ok (.dload_n 1, 1) := by decide +kernel
theorem dX0_give_35 : decode cX0_give 35 = .ok (.goto 8, 3) := by decide +kernel
theorem dX0_give_38 : decode cX0_give 38 = .ok (.ldc2_w 27, 3) := by decide +kernel
theorem dX0_give_41 : decode cX0_give 41 = .ok (.dload_n 1, 1) := by decide +kernel
theorem dX0_give_42 : decode cX0_give 42 = .ok (.dmul, 1) := by decide +kernel
theorem dX0_give_43 : decode cX0_give 43 = .ok (.dreturn, 1) := by decide +kernel
set_option maxRecDepth 20000 in
theorem ggX1_ofDouble_X1_isNegative : GoodIn wsX1_ofDouble wsX1_isNegative := goodIn_r _ [5] (by decide +kernel) (by decide +kernel)
set_option maxRecDepth 20000 in
theorem gX1_ofDouble_X1_isNegative : GoodIn wsX1_ofDouble (va_wsS RX1 7 yX1_isNegative wsX1_isNegative) := goodIn_app (goodIn_of _ (by decide +kernel)) ggX1_ofDouble_X1_isNegative
set_option maxRecDepth 20000 in
theorem ggX1_ofDouble_X1_magnitude : GoodIn wsX1_ofDouble wsX1_magnitude := goodIn_r _ [8, 9, 10] (by decide +kernel) (by decide +kernel)
set_option maxRecDepth 20000 in
theorem gX1_ofDouble_X1_magnitude : GoodIn wsX1_ofDouble (va_wsS RX1 17 yX1_magnitude wsX1_magnitude) := goodIn_app (goodIn_of _ (by decide +kernel)) ggX1_ofDouble_X1_magnitude
theorem dX1_ofDouble_0 : decode cX1_ofDouble 0 = .ok (.dload_n 0, 1) := by decide +kernel
theorem dX1_ofDouble_1 : decode cX1_ofDouble 1 = .ok (.invokestatic 7, 3) := by decide +kernel
theorem dX1_ofDouble_4 : decode cX1_ofDouble 4 = .ok (.ifCond .eq 9, 3) := by decide +kernel
theorem dX1_ofDouble_7 : decode cX1_ofDouble 7 = .ok (.ldc2_w 15, 3) := by decide +kernel
theorem dX1_ofDouble_10 : decode cX1_ofDouble 10 = .ok (.goto 4, 3) := by decide +kernel
theorem dX1_ofDouble_13 : decode cX1_ofDouble 13 = .ok (.lconst 0, 1) := by decide +kernel
theorem dX1_ofDouble_14 : decode cX1_ofDouble 14 = .ok (.dload_n 0, 1) := by decide +kernel
theorem dX1_ofDouble_15 : decode cX1_ofDouble 15 = .ok (.dconst 0, 1) := by decide +kernel
theorem dX1_ofDouble_16 : decode cX1_ofDouble 16 = .ok (.dcmp .g, 1) := by decide +kernel
theorem dX1_ofDouble_17 : decode cX1_ofDouble 17 = .ok (.ifCond .ge 8, 3) := by decide +kernel
theorem dX1_ofDouble_20 : decode cX1_ofDouble 20 = .ok (.dload_n 0, 1) := by decide +kernel
theorem dX1_ofDouble_21 : decode cX1_ofDouble 21 = .ok (.dneg, 1) := by decide +kernel
theorem dX1_ofDouble_22 : decode cX1_ofDouble 22 = .ok (.goto 4, 3) := by decide +kernel
theorem dX1_ofDouble_25 : decode cX1_ofDouble 25 = .ok (.dload_n 0, 1) := by decide +kernel
theorem dX1_ofDouble_26 : decode cX1_ofDouble 26 = .ok (.sipush 1023, 3) := by decide +kernel
theorem dX1_ofDouble_29 : decode cX1_ofDouble 29 = .ok (.bipush 52, 2) := by decide +kernel
theorem dX1_ofDouble_31 : decode cX1_ofDouble 31 = .ok (.invokestatic 17, 3) := by decide +kernel
theorem dX1_ofDouble_34 : decode cX1_ofDouble 34 = .ok (.lor, 1) := by decide +kernel
theorem dX1_ofDouble_35 : decode cX1_ofDouble 35 = .ok (.lreturn, 1) := by decide +kernel
set_option maxRecDepth 20000 in
theorem ggX1_ofFloat_X1_isNegative : GoodIn wsX1_ofFloat wsX1_isNegative := goodIn_r _ [5] (by decide +kernel) (by decide +kernel)
set_option maxRecDepth 20000 in
theorem gX1_ofFloat_X1_isNegative : GoodIn wsX1_ofFloat (va_wsS RX1 7 yX1_isNegative wsX1_isNegative) := goodIn_app (goodIn_of _ (by decide +kernel)) ggX1_ofFloat_X1_isNegative
set_option maxRecDepth 20000 in
theorem ggX1_ofFloat_X1_magnitude : GoodIn wsX1_ofFloat wsX1_magnitude := goodIn_r _ [8, 9, 10] (by decide +kernel) (by decide +kernel)
set_option maxRecDepth 20000 in
theorem gX1_ofFloat_X1_magnitude : GoodIn wsX1_ofFloat (va_wsS RX1 17 yX1_magnitude wsX1_magnitude) := goodIn_app (goodIn_of _ (by decide +kernel)) ggX1_ofFloat_X1_magnitude
theorem dX1_ofFloat_0 : decode cX1_ofFloat 0 = .ok (.dload_n 0, 1) := by decide +kernel
theorem dX1_ofFloat_1 : decode cX1_ofFloat 1 = .ok (.invokestatic 7, 3) := by decide +kernel
theorem dX1_ofFloat_4 : decode cX1_ofFloat 4 = .ok (.ifCond .eq 8, 3) := by decide +kernel
theorem dX1_ofFloat_7 : decode cX1_ofFloat 7 = .ok (.ldc 23, 2) := by decide +kernel
theorem dX1_ofFloat_9 : decode cX1_ofFloat 9 = .ok (.goto 4, 3) := by decide +kernel
theorem dX1_ofFloat_12 : decode cX1_ofFloat 12 = .ok (.iconst 0, 1) := by decide +kernel
theorem dX1_ofFloat_13 : decode cX1_ofFloat 13 = .ok (.dload_n 0, 1) := by decide +kernel
theorem dX1_ofFloat_14 : decode cX1_ofFloat 14 = .ok (.dconst 0, 1) := by decide +kernel
theorem dX1_ofFloat_15 : decode cX1_ofFloat 15 = .ok (.dcmp .g, 1) := by decide +kernel
theorem dX1_ofFloat_16 : decode cX1_ofFloat 16 = .ok (.ifCond .ge 8, 3) := by decide +kernel
theorem dX1_ofFloat_19 : decode cX1_ofFloat 19 = .ok (.dload_n 0, 1) := by decide +kernel
theorem dX1_ofFloat_20 : decode cX1_ofFloat 20 = .ok (.dneg, 1) := by decide +kernel
theorem dX1_ofFloat_21 : decode cX1_ofFloat 21 = .ok (.goto 4, 3) := by decide +kernel
theorem dX1_ofFloat_24 : decode cX1_ofFloat 24 = .ok (.dload_n 0, 1) := by decide +kernel
theorem dX1_ofFloat_25 : decode cX1_ofFloat 25 = .ok (.bipush 127, 2) := by decide +kernel
theorem dX1_ofFloat_27 : decode cX1_ofFloat 27 = .ok (.bipush 23, 2) := by decide +kernel
theorem dX1_ofFloat_29 : decode cX1_ofFloat 29 = .ok (.invokestatic 17, 3) := by decide +kernel
theorem dX1_ofFloat_32 : decode cX1_ofFloat 32 = .ok (.l2i, 1) := by decide +kernel
theorem dX1_ofFloat_33 : decode cX1_ofFloat 33 = .ok (.ior, 1) := by decide +kernel
theorem dX1_ofFloat_34 : decode cX1_ofFloat 34 = .ok (.ireturn, 1) := by decide +kernel
theorem dX1_isNegative_0 : decode cX1_isNegative 0 = .ok (.dload_n 0, 1) := by decide +kernel
theorem dX1_isNegative_1 : decode cX1_isNegative 1 = .ok (.dconst 0, 1) := by decide +kernel
theorem dX1_isNegative_2 : decode cX1_isNegative 2 = .ok (.dcmp .g, 1) := by decide +kernel
theorem dX1_isNegative_3 : decode cX1_isNegative 3 = .ok (.ifCond .lt 17, 3) := by decide +kernel
theorem dX1_isNegative_6 : decode cX1_isNegative 6 = .ok (.dload_n 0, 1) := by decide +kernel
theorem dX1_isNegative_7 : decode cX1_isNegative 7 = .ok (.dconst 0, 1) := by decide +kernel
theorem dX1_isNegative_8 : decode cX1_isNegative 8 = .ok (.dcmp .l, 1) := by decide +kernel
theorem dX1_isNegative_9 : decode cX1_isNegative 9 = .ok (.ifCond .ne 15, 3) := by decide +kernel
theorem dX1_isNegative_12 : decode cX1_isNegative 12 = .ok (.dconst 1, 1) := by decide +kernel
theorem dX1_isNegative_13 : decode cX1_isNegative 13 = .ok (.dload_n 0, 1) := by decide +kernel
theorem dX1_isNegative_14 : decode cX1_isNegative 14 = .ok (.ddiv, 1) := by decide +kernel
theorem dX1_isNegative_15 : decode cX1_isNegative 15 = .ok (.dconst 0, 1) := by decide +kernel
theorem dX1_isNegative_16 : decode cX1_isNegative 16 = .ok (.dcmp .g, 1) := by decide +kernel
theorem dX1_isNegative_17 : decode cX1_isNegative 17 = .ok (.ifCond .ge 7, 3) := by decide +kernel
theorem dX1_isNegative_20 : decode cX1_isNegative 20 = .ok (.iconst 1, 1) := by decide +kernel
theorem dX1_isNegative_21 : decode cX1_isNegative 21 = .ok (.goto 4, 3) := by decide +kernel
theorem dX1_isNegative_24 : decode cX1_isNegative 24 = .ok (.iconst 0, 1) := by decide +kernel
theorem dX1_isNegative_25 : decode cX1_isNegative 25 = .ok (.ireturn, 1) := by decide +kernel
theorem dX1_magnitude_0 : decode cX1_magnitude 0 = .ok (.dload_n 0, 1) := by decide +kernel
theorem dX1_magnitude_1 : decode cX1_magnitude 1 = .ok (.dconst 0, 1) := by decide +kernel
theorem dX1_magnitude_2 : decode cX1_magnitude 2 = .ok (.dcmp .l, 1) := by decide +kernel
theorem dX1_magnitude_3 : decode cX1_magnitude 3 = .ok (.ifCond .ne 5, 3) := by decide +kernel
theorem dX1_magnitude_6 : decode cX1_magnitude 6 = .ok (.lconst 0, 1) := by decide +kernel
theorem dX1_magnitude_7 : decode cX1_magnitude 7 = .ok (.lreturn, 1) := by decide +kernel
theorem dX1_magnitude_8 : decode cX1_magnitude 8 = .ok (.dload_n 0, 1) := by decide +kernel
theorem dX1_magnitude_9 : decode cX1_magnitude 9 = .ok (.dstore 4, 2) := by decide +kernel
theorem dX1_magnitude_11 : decode cX1_magnitude 11 = .ok (.iload_n 2, 1) := by decide +kernel
theorem dX1_magnitude_12 : decode cX1_magnitude 12 = .ok (.istore 6, 2) := by decide +kernel
theorem dX1_magnitude_14 : decode cX1_magnitude 14 = .ok (.dload 4, 2) := by decide +kernel
theorem dX1_magnitude_16 : decode cX1_magnitude 16 = .ok (.ldc2_w 24, 3) := by decide +kernel
theorem dX1_magnitude_19 : decode cX1_magnitude 19 = .ok (.dcmp .l, 1) := by decide +kernel
theorem dX1_magnitude_20 : decode cX1_magnitude 20 = .ok (.ifCond .lt 25, 3) := by decide +kernel
theorem dX1_magnitude_23 : decode cX1_magnitude 23 = .ok (.iload 6, 2) := by decide +kernel
theorem dX1_magnitude_25 : decode cX1_magnitude 25 = .ok (.iconst 2, 1) := by decide +kernel
theorem dX1_magnitude_26 : decode cX1_magnitude 26 = .ok (.iload_n 2, 1) := by decide +kernel
theorem dX1_magnitude_27 : decode cX1_magnitude 27 = .ok (.imul, 1) := by decide +kernel
theorem dX1_magnitude_28 : decode cX1_magnitude 28 = .ok (.if_icmp .ge 17, 3) := by decide +kernel
theorem dX1_magnitude_31 : decode cX1_magnitude 31 = .ok (.dload 4, 2) := by decide +kernel
theorem dX1_magnitude_33 : decode cX1_magnitude 33 = .ok (.ldc2_w 24, 3) := by decide +kernel
theorem dX1_magnitude_36 : decode cX1_magnitude 36 = .ok (.ddiv, 1) := by decide +kernel
theorem dX1_magnitude_37 : decode cX1_magnitude 37 = .ok (.dstore 4, 2) := by decide +kernel
theorem dX1_magnitude_39 : decode cX1_magnitude 39 = .ok (.iinc 6 1, 3) := by decide +kernel
theorem dX1_magnitude_42 : decode cX1_magnitude 42 = .ok (.goto (-28), 3) := by decide +kernel
theorem dX1_magnitude_45 : decode cX1_magnitude 45 = .ok (.dload 4, 2) := by decide +kernel
theorem dX1_magnitude_47 : decode cX1_magnitude 47 = .ok (.ldc2_w 26, 3) := by decide +kernel
theorem dX1_magnitude_50 : decode cX1_magnitude 50 = .ok (.dmul, 1) := by decide +kernel
theorem dX1_magnitude_51 : decode cX1_magnitude 51 = .ok (.dconst 1, 1) := by decide +kernel
theorem dX1_magnitude_52 : decode cX1_magnitude 52 = .ok (.dcmp .g, 1) := by decide +kernel
theorem dX1_magnitude_53 : decode cX1_magnitude 53 = .ok (.ifCond .ge 24, 3) := by decide +kernel
theorem dX1_magnitude_56 : decode cX1_magnitude 56 = .ok (.iload 6, 2) := by decide +kernel
theorem dX1_magnitude_58 : decode cX1_magnitude 58 = .ok (.bipush 64, 2) := by decide +kernel
theorem dX1_magnitude_60 : decode cX1_magnitude 60 = .ok (.if_icmp .le 17, 3) := by decide +kernel
theorem dX1_magnitude_63 : decode cX1_magnitude 63 = .ok (.dload 4, 2) := by decide +kernel
theorem dX1_magnitude_65 : decode cX1_magnitude 65 = .ok (.ldc2_w 26, 3) := by decide +kernel
theorem dX1_magnitude_68 : decode cX1_magnitude 68 = .ok (.dmul, 1) := by decide +kernel
theorem dX1_magnitude_69 : decode cX1_magnitude 69 = .ok (.dstore 4, 2) := by decide +kernel
theorem dX1_magnitude_71 : decode cX1_magnitude 71 = .ok (.iinc 6 (-64), 3) := by decide +kernel
theorem dX1_magnitude_74 : decode cX1_magnitude 74 = .ok (.goto (-29), 3) := by decide +kernel
theorem dX1_magnitude_77 : decode cX1_magnitude 77 = .ok (.dload 4, 2) := by decide +kernel
theorem dX1_magnitude_79 : decode cX1_magnitude 79 = .ok (.dconst 1, 1) := by decide +kernel
theorem dX1_magnitude_80 : decode cX1_magnitude 80 = .ok (.dcmp .g, 1) := by decide +kernel
theorem dX1_magnitude_81 : decode cX1_magnitude 81 = .ok (.ifCond .ge 23, 3) := by decide +kernel
theorem dX1_magnitude_84 : decode cX1_magnitude 84 = .ok (.iload 6, 2) := by decide +kernel
theorem dX1_magnitude_86 : decode cX1_magnitude 86 = .ok (.iconst 1, 1) := by decide +kernel
theorem dX1_magnitude_87 : decode cX1_magnitude 87 = .ok (.if_icmp .le 17, 3) := by decide +kernel
theorem dX1_magnitude_90 : decode cX1_magnitude 90 = .ok (.dload 4, 2) := by decide +kernel
theorem dX1_magnitude_92 : decode cX1_magnitude 92 = .ok (.ldc2_w 24, 3) := by decide +kernel
theorem dX1_magnitude_95 : decode cX1_magnitude 95 = .ok (.dmul, 1) := by decide +kernel
theorem dX1_magnitude_96 : decode cX1_magnitude 96 = .ok (.dstore 4, 2) := by decide +kernel
theorem dX1_magnitude_98 : decode cX1_magnitude 98 = .ok (.iinc 6 (-1), 3) := by decide +kernel
theorem dX1_magnitude_101 : decode cX1_magnitude 101 = .ok (.goto (-24), 3) := by decide +kernel
theorem dX1_magnitude_104 : decode cX1_magnitude 104 = .ok (.iload 6, 2) := by decide +kernel
theorem dX1_magnitude_106 : decode cX1_magnitude 106 = .ok (.iconst 1, 1) := by decide +kernel
theorem dX1_magnitude_107 : decode cX1_magnitude 107 = .ok (.isub, 1) := by decide +kernel
theorem dX1_magnitude_108 : decode cX1_magnitude 108 = .ok (.i2l, 1) := by decide +kernel
theorem dX1_magnitude_109 : decode cX1_magnitude 109 = .ok (.iload_n 3, 1) := by decide +kernel
theorem dX1_magnitude_110 : decode cX1_magnitude 110 = .ok (.lshl, 1) := by decide +kernel
theorem dX1_magnitude_111 : decode cX1_magnitude 111 = .ok (.dload 4, 2) := by decide +kernel
theorem dX1_magnitude_113 : decode cX1_magnitude 113 = .ok (.lconst 1, 1) := by decide +kernel
theorem dX1_magnitude_114 : decode cX1_magnitude 114 = .ok (.iload_n 3, 1) := by decide +kernel
theorem dX1_magnitude_115 : decode cX1_magnitude 115 = .ok (.lshl, 1) := by decide +kernel
theorem dX1_magnitude_116 : decode cX1_magnitude 116 = .ok (.l2d, 1) := by decide +kernel
theorem dX1_magnitude_117 : decode cX1_magnitude 117 = .ok (.dmul, 1) := by decide +kernel
theorem dX1_magnitude_118 : decode cX1_magnitude 118 = .ok (.d2l, 1) := by decide +kernel
theorem dX1_magnitude_119 : decode cX1_magnitude 119 = .ok (.ladd, 1) := by decide +kernel
theorem dX1_magnitude_120 : decode cX1_magnitude 120 = .ok (.lreturn, 1) := by decide +kernel
set_option maxRecDepth 20000 in
theorem ggX2_init_X5_init : GoodIn wsX2_init wsX5_init := goodIn_r _ [3, 4, 5, 6, 7, 8, 9, 10, 11, 12, 13, 14, 15, 16, 17, 18, 19, 20, 21, 22, 23, 24, 25, 26, 27, 28, 29, 30, 31, 32, 33, 34, 35, 36, 37, 38, 39, 40, 41, 42, 43] (by decide +kernel) (by decide +kernel)
set_option maxRecDepth 20000 in
theorem gX2_init_X5_init_n3 : GoodIn wsX2_init (wsX5_init) := ggX2_init_X5_init
theorem dX2_init_0 : decode cX2_init 0 = .ok (.aload_n 0, 1) := by decide +kernel
theorem dX2_init_1 : decode cX2_init 1 = .ok (.invokespecial 3, 3) := by decide +kernel
theorem dX2_init_4 : decode cX2_init 4 = .ok (.return_, 1) := by decide +kernel
set_option maxRecDepth 20000 in
theorem ggX2_strike_X5_strike : GoodIn wsX2_strike wsX5_strike := goodIn_r _ [8, 9, 10, 11, 12, 13, 14, 15, 16, 17, 18, 19, 20, 21, 22, 23, 24, 25, 26, 27, 28, 29, 30, 31, 32, 33, 34, 35, 36, 37, 38, 39, 40, 41, 42, 43, 44, 45] (by decide +kernel) (by decide +kernel)
set_option maxRecDepth 20000 in
theorem gX2_strike_X5_strike_s9 : GoodIn wsX2_strike (va_wsSU RX2 9 yX5_strike wsX5_strike) := goodIn_app (goodIn_of _ (by decide +kernel)) ggX2_strike_X5_strike
theorem dX2_strike_0 : decode cX2_strike 0 = .ok (.aload_n 0, 1) := by decide +kernel
theorem dX2_strike_1 : decode cX2_strike 1 = .ok (.iload_n 1, 1) := by decide +kernel
theorem dX2_strike_2 : decode cX2_strike 2 = .ok (.iload_n 2, 1) := by decide +kernel
theorem dX2_strike_3 : decode cX2_strike 3 = .ok (.invokespecial 9, 3) := by decide +kernel
theorem dX2_strike_6 : decode cX2_strike 6 = .ok (.iload_n 2, 1) := by decide +kernel
theorem dX2_strike_7 : decode cX2_strike 7 = .ok (.ifCond .eq 9, 3) := by decide +kernel
theorem dX2_strike_10 : decode cX2_strike 10 = .ok (.aload_n 0, 1) := by decide +kernel
theorem dX2_strike_11 : decode cX2_strike 11 = .ok (.iload_n 1, 1) := by decide +kernel
theorem dX2_strike_12 : decode cX2_strike 12 = .ok (.i2d, 1) := by decide +kernel
theorem dX2_strike_13 : decode cX2_strike 13 = .ok (.putfield 13, 3) := by decide +kernel
theorem dX2_strike_16 : decode cX2_strike 16 = .ok (.return_, 1) := by decide +kernel
set_option maxRecDepth 20000 in
theorem ggX2_give_X5_fail : GoodIn wsX2_give wsX5_fail := goodIn_r _ [11, 12, 14, 15, 16, 17, 18, 19, 20, 21, 22, 23, 24, 25, 26, 27, 28, 29, 30, 31, 32, 33, 34, 35, 36, 37, 38, 39, 40, 41, 42, 43, 44, 45, 46, 47, 48] (by decide +kernel) (by decide +kernel)
set_option maxRecDepth 20000 in
theorem gX2_give_X5_fail_u23X0 : GoodIn wsX2_give (va_wsU RX2 23 RX0 "CallWays2$Instrument" ⟨"CallWays2$Drum", "fail", "(I)D"⟩ yX5_fail wsX5_fail) := goodIn_app (goodIn_of _ (by decide +kernel)) ggX2_give_X5_fail
set_option maxRecDepth 20000 in
theorem gX2_give_X5_fail_u23X2 : GoodIn wsX2_give (va_wsU RX2 23 RX2 "CallWays2$Instrument" ⟨"CallWays2$Drum", "fail", "(I)D"⟩ yX5_fail wsX5_fail) := goodIn_app (goodIn_of _ (by decide +kernel)) ggX2_give_X5_fail
theorem dX2_give_0 : decode cX2_give 0 = .ok (.aload_n 0, 1) := by decide +kernel
theorem dX2_give_1 : decode cX2_give 1 = .ok (.getfield 19, 3) := by decide +kernel
theorem dX2_give_4 : decode cX2_give 4 = .ok (.iconst 1, 1) := by decide +kernel
theorem dX2_give_5 : decode cX2_give 5 = .ok (.iaload, 1) := by decide +kernel
theorem dX2_give_6 : decode cX2_give 6 = .ok (.istore_n 1, 1) := by decide +kernel
theorem dX2_give_7 : decode cX2_give 7 = .ok (.iload_n 1, 1) := by decide +kernel
theorem dX2_give_8 : decode cX2_give 8 = .ok (.ifCond .ne 10, 3) := by decide +kernel
theorem dX2_give_11 : decode cX2_give 11 = .ok (.aload_n 0, 1) := by decide +kernel
theorem dX2_give_12 : decode cX2_give 12 = .ok (.bipush (-4), 2) := by decide +kernel
theorem dX2_give_14 : decode cX2_give 14 = .ok (.invokevirtual 23, 3) := by decide +kernel
theorem dX2_give_17 : decode cX2_give 17 = .ok (.dreturn, 1) := by decide +kernel
theorem dX2_give_18 : decode cX2_give 18 = .ok (.aload_n 0, 1) := by decide +kernel
theorem dX2_give_19 : decode cX2_give 19 = .ok (.getfield 13, 3) := by decide +kernel
theorem dX2_give_22 : decode cX2_give 22 = .ok (.dstore_n 2, 1) := by decide +kernel
theorem dX2_give_23 : decode cX2_give 23 = .ok (.aload_n 0, 1) := by decide +kernel
theorem dX2_give_24 : decode cX2_give 24 = .ok (.aload_n 0, 1) := by decide +kernel
theorem dX2_give_25 : decode cX2_give 25 = .ok (.getfield 13, 3) := by decide +kernel
theorem dX2_give_28 : decode cX2_give 28 = .ok (.sipush 1000, 3) := by decide +kernel
theorem dX2_give_31 : decode cX2_give 31 = .ok (.iload_n 1, 1) := by decide +kernel
theorem dX2_give_32 : decode cX2_give 32 = .ok (.idiv, 1) := by decide +kernel
theorem dX2_give_33 : decode cX2_give 33 = .ok (.i2d, 1) := by decide +kernel
theorem dX2_give_34 : decode cX2_give 34 = .ok (.dmul, 1) := by decide +kernel
theorem dX2_give_35 : decode cX2_give 35 = .ok (.ldc2_w 27, 3) := by decide +kernel
theorem dX2_give_38 : decode cX2_give 38 = .ok (.ddiv, 1) := by decide +kernel
theorem dX2_give_39 : decode cX2_give 39 = .ok (.putfield 13, 3) := by decide +kernel
theorem dX2_give_42 : decode cX2_give 42 = .ok (.dload_n 2, 1) := by decide +kernel
theorem dX2_give_43 : decode cX2_give 43 = .ok (.dreturn, 1) := by decide +kernel
theorem dX3_init_0 : decode cX3_init 0 = .ok (.aload_n 0, 1) := by decide +kernel
theorem dX3_init_1 : decode cX3_init 1 = .ok (.invokespecial 3, 3) := by decide +kernel
theorem dX3_init_4 : decode cX3_init 4 = .ok (.aload_n 0, 1) := by decide +kernel
theorem dX3_init_5 : decode cX3_init 5 = .ok (.iload_n 1, 1) := by decide +kernel
theorem dX3_init_6 : decode cX3_init 6 = .ok (.putfield 9, 3) := by decide +kernel
theorem dX3_init_9 : decode cX3_init 9 = .ok (.aload_n 0, 1) := by decide +kernel
theorem dX3_init_10 : decode cX3_init 10 = .ok (.iload_n 2, 1) := by decide +kernel
theorem dX3_init_11 : decode cX3_init 11 = .ok (.i2d, 1) := by decide +kernel
theorem dX3_init_12 : decode cX3_init 12 = .ok (.putfield 15, 3) := by decide +kernel
theorem dX3_init_15 : decode cX3_init 15 = .ok (.return_, 1) := by decide +kernel
theorem dX3_refuses_0 : decode cX3_refuses 0 = .ok (.aload_n 0, 1) := by decide +kernel
theorem dX3_refuses_1 : decode cX3_refuses 1 = .ok (.getfield 9, 3) := by decide +kernel
theorem dX3_refuses_4 : decode cX3_refuses 4 = .ok (.iconst 5, 1) := by decide +kernel
theorem dX3_refuses_5 : decode cX3_refuses 5 = .ok (.if_icmp .ne 16, 3) := by decide +kernel
theorem dX3_refuses_8 : decode cX3_refuses 8 = .ok (.dload_n 1, 1) := by decide +kernel
theorem dX3_refuses_9 : decode cX3_refuses 9 = .ok (.aload_n 0, 1) := by decide +kernel
theorem dX3_refuses_10 : decode cX3_refuses 10 = .ok (.getfield 15, 3) := by decide +kernel
theorem dX3_refuses_13 : decode cX3_refuses 13 = .ok (.dcmp .l, 1) := by decide +kernel
theorem dX3_refuses_14 : decode cX3_refuses 14 = .ok (.ifCond .ne 7, 3) := by decide +kernel
theorem dX3_refuses_17 : decode cX3_refuses 17 = .ok (.iconst 1, 1) := by decide +kernel
theorem dX3_refuses_18 : decode cX3_refuses 18 = .ok (.goto 4, 3) := by decide +kernel
theorem dX3_refuses_21 : decode cX3_refuses 21 = .ok (.iconst 0, 1) := by decide +kernel
theorem dX3_refuses_22 : decode cX3_refuses 22 = .ok (.ireturn, 1) := by decide +kernel
theorem dX3_pass_0 : decode cX3_pass 0 = .ok (.aload_n 0, 1) := by decide +kernel
theorem dX3_pass_1 : decode cX3_pass 1 = .ok (.getfield 9, 3) := by decide +kernel
theorem dX3_pass_4 : decode cX3_pass 4 = .ok (.tableswitch 82 0 3 #[32, 39, 46, 64], 32) := by decide +kernel
theorem dX3_pass_36 : decode cX3_pass 36 = .ok (.dload_n 1, 1) := by decide +kernel
theorem dX3_pass_37 : decode cX3_pass 37 = .ok (.aload_n 0, 1) := by decide +kernel
theorem dX3_pass_38 : decode cX3_pass 38 = .ok (.getfield 15, 3) := by decide +kernel
theorem dX3_pass_41 : decode cX3_pass 41 = .ok (.dadd, 1) := by decide +kernel
theorem dX3_pass_42 : decode cX3_pass 42 = .ok (.dreturn, 1) := by decide +kernel
theorem dX3_pass_43 : decode cX3_pass 43 = .ok (.dload_n 1, 1) := by decide +kernel
theorem dX3_pass_44 : decode cX3_pass 44 = .ok (.aload_n 0, 1) := by decide +kernel
theorem dX3_pass_45 : decode cX3_pass 45 = .ok (.getfield 15, 3) := by decide +kernel
theorem dX3_pass_48 : decode cX3_pass 48 = .ok (.dmul, 1) := by decide +kernel
theorem dX3_pass_49 : decode cX3_pass 49 = .ok (.dreturn, 1) := by decide +kernel
theorem dX3_pass_50 : decode cX3_pass 50 = .ok (.dload_n 1, 1) := by decide +kernel
theorem dX3_pass_51 : decode cX3_pass 51 = .ok (.aload_n 0, 1) := by decide +kernel
theorem dX3_pass_52 : decode cX3_pass 52 = .ok (.getfield 15, 3) := by decide +kernel
theorem dX3_pass_55 : decode cX3_pass 55 = .ok (.dcmp .g, 1) := by decide +kernel
theorem dX3_pass_56 : decode cX3_pass 56 = .ok (.ifCond .gt 7, 3) := by decide +kernel
theorem dX3_pass_59 : decode cX3_pass 59 = .ok (.dload_n 1, 1) := by decide +kernel
theorem dX3_pass_60 : decode cX3_pass 60 = .ok (.goto 7, 3) := by decide +kernel
theorem dX3_pass_63 : decode cX3_pass 63 = .ok (.aload_n 0, 1) := by decide +kernel
theorem dX3_pass_64 : decode cX3_pass 64 = .ok (.getfield 15, 3) := by decide +kernel
theorem dX3_pass_67 : decode cX3_pass 67 = .ok (.dreturn, 1) := by decide +kernel
theorem dX3_pass_68 : decode cX3_pass 68 = .ok (.dload_n 1, 1) := by decide +kernel
theorem dX3_pass_69 : decode cX3_pass 69 = .ok (.aload_n 0, 1) := by decide +kernel
theorem dX3_pass_70 : decode cX3_pass 70 = .ok (.getfield 15, 3) := by decide +kernel
theorem dX3_pass_73 : decode cX3_pass 73 = .ok (.dcmp .l, 1) := by decide +kernel
theorem dX3_pass_74 : decode cX3_pass 74 = .ok (.ifCond .le 7, 3) := by decide +kernel
theorem dX3_pass_77 : decode cX3_pass 77 = .ok (.dload_n 1, 1) := by decide +kernel
theorem dX3_pass_78 : decode cX3_pass 78 = .ok (.goto 7, 3) := by decide +kernel
theorem dX3_pass_81 : decode cX3_pass 81 = .ok (.aload_n 0, 1) := by decide +kernel
theorem dX3_pass_82 : decode cX3_pass 82 = .ok (.getfield 15, 3) := by decide +kernel
theorem dX3_pass_85 : decode cX3_pass 85 = .ok (.dreturn, 1) := by decide +kernel
theorem dX3_pass_86 : decode cX3_pass 86 = .ok (.dload_n 1, 1) := by decide +kernel
theorem dX3_pass_87 : decode cX3_pass 87 = .ok (.dreturn, 1) := by decide +kernel
set_option maxRecDepth 20000 in
theorem ggX4_init_X8_init : GoodIn wsX4_init wsX8_init := goodIn_r _ [3, 4, 5, 6, 7, 8, 9, 10, 11, 12, 13, 14, 15, 16, 17, 18, 19, 20, 21, 22, 23, 24, 25, 26, 27, 28, 29, 30, 31, 32, 33, 34, 35, 36, 37, 38, 39, 40, 41, 42, 43, 44, 45, 46] (by decide +kernel) (by decide +kernel)
set_option maxRecDepth 20000 in
theorem gX4_init_X8_init_n1 : GoodIn wsX4_init (wsX8_init) := ggX4_init_X8_init
theorem dX4_init_0 : decode cX4_init 0 = .ok (.aload_n 0, 1) := by decide +kernel
theorem dX4_init_1 : decode cX4_init 1 = .ok (.invokespecial 1, 3) := by decide +kernel
theorem dX4_init_4 : decode cX4_init 4 = .ok (.return_, 1) := by decide +kernel
set_option maxRecDepth 20000 in
theorem ggX4_give_X8_give : GoodIn wsX4_give wsX8_give := goodIn_r _ [9, 10, 11, 12, 13, 14, 15, 16, 17, 18, 19, 20, 21, 22, 23, 24, 25, 26, 27, 28, 29, 30, 31, 32, 33, 34, 35, 36, 37, 38, 39, 40, 41, 42, 43, 44, 45, 46, 47, 48, 49, 50] (by decide +kernel) (by decide +kernel)
set_option maxRecDepth 20000 in
theorem gX4_give_X8_give_s9 : GoodIn wsX4_give (va_wsSU RX4 9 yX8_give wsX8_give) := goodIn_app (goodIn_of _ (by decide +kernel)) ggX4_give_X8_give
theorem dX4_give_0 : decode cX4_give 0 = .ok (.ldc2_w 7, 3) := by decide +kernel
theorem dX4_give_3 : decode cX4_give 3 = .ok (.aload_n 0, 1) := by decide +kernel
theorem dX4_give_4 : decode cX4_give 4 = .ok (.invokespecial 9, 3) := by decide +kernel
theorem dX4_give_7 : decode cX4_give 7 = .ok (.dmul, 1) := by decide +kernel
theorem dX4_give_8 : decode cX4_give 8 = .ok (.aload_n 0, 1) := by decide +kernel
theorem dX4_give_9 : decode cX4_give 9 = .ok (.getfield 13, 3) := by decide +kernel
theorem dX4_give_12 : decode cX4_give 12 = .ok (.iconst 0, 1) := by decide +kernel
theorem dX4_give_13 : decode cX4_give 13 = .ok (.iaload, 1) := by decide +kernel
theorem dX4_give_14 : decode cX4_give 14 = .ok (.i2d, 1) := by decide +kernel
theorem dX4_give_15 : decode cX4_give 15 = .ok (.dadd, 1) := by decide +kernel
theorem dX4_give_16 : decode cX4_give 16 = .ok (.dreturn, 1) := by decide +kernel
theorem dX5_init_0 : decode cX5_init 0 = .ok (.aload_n 0, 1) := by decide +kernel
theorem dX5_init_1 : decode cX5_init 1 = .ok (.invokespecial 3, 3) := by decide +kernel
theorem dX5_init_4 : decode cX5_init 4 = .ok (.aload_n 0, 1) := by decide +kernel
theorem dX5_init_5 : decode cX5_init 5 = .ok (.iconst 4, 1) := by decide +kernel
theorem dX5_init_6 : decode cX5_init 6 = .ok (.newarray .int, 2) := by decide +kernel
theorem dX5_init_8 : decode cX5_init 8 = .ok (.putfield 9, 3) := by decide +kernel
theorem dX5_init_11 : decode cX5_init 11 = .ok (.return_, 1) := by decide +kernel
theorem dX5_strike_0 : decode cX5_strike 0 = .ok (.aload_n 0, 1) := by decide +kernel
theorem dX5_strike_1 : decode cX5_strike 1 = .ok (.iload_n 1, 1) := by decide +kernel
theorem dX5_strike_2 : decode cX5_strike 2 = .ok (.putfield 15, 3) := by decide +kernel
theorem dX5_strike_5 : decode cX5_strike 5 = .ok (.aload_n 0, 1) := by decide +kernel
theorem dX5_strike_6 : decode cX5_strike 6 = .ok (.iload_n 2, 1) := by decide +kernel
theorem dX5_strike_7 : decode cX5_strike 7 = .ok (.putfield 19, 3) := by decide +kernel
theorem dX5_strike_10 : decode cX5_strike 10 = .ok (.return_, 1) := by decide +kernel
set_option maxRecDepth 20000 in
theorem ggX5_ask_X0_give : GoodIn wsX5_ask wsX0_give := goodIn_r _ [8, 9, 10, 11, 12, 13, 14, 15, 16, 17, 18, 19, 1, 20, 21, 22, 23, 24, 25, 26, 27, 28, 29, 30, 31, 32, 33, 34, 79, 80, 81, 82, 83, 84, 85, 86, 87, 88, 89, 90, 91, 92, 93, 94, 95, 96, 97, 98, 99, 100, 101, 102, 103, 104, 105, 106, 107, 108, 109, 110, 111, 112, 113] (by decide +kernel) (by decide +kernel)
set_option maxRecDepth 20000 in
theorem gX5_ask_X0_give_u26X0 : GoodIn wsX5_ask (va_wsU RX5 26 RX0 "CallWays2$Instrument" ⟨"CallWays2$Instrument", "give", "()D"⟩ yX0_give wsX0_give) := goodIn_app (goodIn_of _ (by decide +kernel)) ggX5_ask_X0_give
set_option maxRecDepth 20000 in
theorem ggX5_ask_X2_give : GoodIn wsX5_ask wsX2_give := goodIn_r _ [25, 26, 27, 28, 29, 30, 31, 32, 33, 17, 18, 19, 1, 34, 79, 80, 81, 82, 83, 84, 85, 86, 87, 88, 89, 90, 91, 92, 93, 94, 95, 96, 97, 98, 99, 100, 101, 102, 103, 104, 105, 106, 107, 108, 109, 110, 111, 112, 113] (by decide +kernel) (by decide +kernel)
set_option maxRecDepth 20000 in
theorem gX5_ask_X2_give_u26X2 : GoodIn wsX5_ask (va_wsU RX5 26 RX2 "CallWays2$Instrument" ⟨"CallWays2$Instrument", "give", "()D"⟩ yX2_give wsX2_give) := goodIn_app (goodIn_of _ (by decide +kernel)) ggX5_ask_X2_give
set_option maxRecDepth 20000 in
theorem ggX5_ask_X4_give : GoodIn wsX5_ask wsX4_give := goodIn_r _ [39, 40, 41, 42, 43, 44, 45, 46, 47, 48, 49, 50, 51, 52, 53, 54, 79, 80, 81, 82, 83, 84, 85, 86, 87, 88, 89, 90, 91, 92, 93, 94, 95, 96, 97, 98, 99, 100, 101, 102, 103, 104, 105, 106, 107, 108, 109, 110, 111, 112, 113] (by decide +kernel) (by decide +kernel)
set_option maxRecDepth 20000 in
theorem gX5_ask_X4_give_u26X4 : GoodIn wsX5_ask (va_wsU RX5 26 RX4 "CallWays2$Instrument" ⟨"CallWays2$Instrument", "give", "()D"⟩ yX4_give wsX4_give) := goodIn_app (goodIn_of _ (by decide +kernel)) ggX5_ask_X4_give
set_option maxRecDepth 20000 in
theorem ggX5_ask_X6_give : GoodIn wsX5_ask wsX6_give := goodIn_r _ [58, 59, 60, 61, 62, 63, 64, 65, 66, 67, 68, 69, 70, 71, 17, 18, 19, 1, 72, 73, 74, 75, 76, 77, 79, 80, 81, 82, 83, 84, 85, 86, 87, 88, 89, 90, 91, 92, 93, 94, 95, 96, 97, 98, 99, 100, 101, 102, 103, 104, 105, 106, 107, 108, 109, 110, 111, 112, 113, 114, 115] (by decide +kernel) (by decide +kernel)
set_option maxRecDepth 20000 in
theorem gX5_ask_X6_give_u26X6 : GoodIn wsX5_ask (va_wsU RX5 26 RX6 "CallWays2$Instrument" ⟨"CallWays2$Instrument", "give", "()D"⟩ yX6_give wsX6_give) := goodIn_app (goodIn_of _ (by decide +kernel)) ggX5_ask_X6_give
set_option maxRecDepth 20000 in
theorem ggX5_ask_X8_give : GoodIn wsX5_ask wsX8_give := goodIn_r _ [48, 49, 50, 51, 52, 53, 54, 79, 80, 81, 82, 83, 84, 85, 86, 87, 88, 89, 90, 91, 92, 93, 94, 95, 96, 97, 98, 99, 100, 101, 102, 103, 104, 105, 106, 107, 108, 109, 110, 111, 112, 113] (by decide +kernel) (by decide +kernel)
set_option maxRecDepth 20000 in
theorem gX5_ask_X8_give_u26X8 : GoodIn wsX5_ask (va_wsU RX5 26 RX8 "CallWays2$Instrument" ⟨"CallWays2$Instrument", "give", "()D"⟩ yX8_give wsX8_give) := goodIn_app (goodIn_of _ (by decide +kernel)) ggX5_ask_X8_give
theorem dX5_ask_0 : decode cX5_ask 0 = .ok (.aload_n 0, 1) := by decide +kernel
theorem dX5_ask_1 : decode cX5_ask 1 = .ok (.iconst 0, 1) := by decide +kernel
theorem dX5_ask_2 : decode cX5_ask 2 = .ok (.putfield 23, 3) := by decide +kernel
theorem dX5_ask_5 : decode cX5_ask 5 = .ok (.aload_n 0, 1) := by decide +kernel
theorem dX5_ask_6 : decode cX5_ask 6 = .ok (.invokevirtual 26, 3) := by decide +kernel
theorem dX5_ask_9 : decode cX5_ask 9 = .ok (.dstore_n 1, 1) := by decide +kernel
theorem dX5_ask_10 : decode cX5_ask 10 = .ok (.aload_n 0, 1) := by decide +kernel
theorem dX5_ask_11 : decode cX5_ask 11 = .ok (.dup, 1) := by decide +kernel
theorem dX5_ask_12 : decode cX5_ask 12 = .ok (.getfield 30, 3) := by decide +kernel
theorem dX5_ask_15 : decode cX5_ask 15 = .ok (.iconst 1, 1) := by decide +kernel
theorem dX5_ask_16 : decode cX5_ask 16 = .ok (.iadd, 1) := by decide +kernel
theorem dX5_ask_17 : decode cX5_ask 17 = .ok (.putfield 30, 3) := by decide +kernel
theorem dX5_ask_20 : decode cX5_ask 20 = .ok (.dload_n 1, 1) := by decide +kernel
theorem dX5_ask_21 : decode cX5_ask 21 = .ok (.dreturn, 1) := by decide +kernel
theorem dX5_fail_0 : decode cX5_fail 0 = .ok (.aload_n 0, 1) := by decide +kernel
theorem dX5_fail_1 : decode cX5_fail 1 = .ok (.iload_n 1, 1) := by decide +kernel
theorem dX5_fail_2 : decode cX5_fail 2 = .ok (.putfield 23, 3) := by decide +kernel
theorem dX5_fail_5 : decode cX5_fail 5 = .ok (.dconst 0, 1) := by decide +kernel
theorem dX5_fail_6 : decode cX5_fail 6 = .ok (.dreturn, 1) := by decide +kernel
theorem dX5_goBack_0 : decode cX5_goBack 0 = .ok (.aload_n 0, 1) := by decide +kernel
theorem dX5_goBack_1 : decode cX5_goBack 1 = .ok (.iload_n 1, 1) := by decide +kernel
theorem dX5_goBack_2 : decode cX5_goBack 2 = .ok (.putfield 30, 3) := by decide +kernel
theorem dX5_goBack_5 : decode cX5_goBack 5 = .ok (.aload_n 0, 1) := by decide +kernel
theorem dX5_goBack_6 : decode cX5_goBack 6 = .ok (.dload_n 2, 1) := by decide +kernel
theorem dX5_goBack_7 : decode cX5_goBack 7 = .ok (.putfield 33, 3) := by decide +kernel
theorem dX5_goBack_10 : decode cX5_goBack 10 = .ok (.return_, 1) := by decide +kernel
set_option maxRecDepth 20000 in
theorem ggX6_init_X5_init : GoodIn wsX6_init wsX5_init := goodIn_r _ [3, 4, 5, 6, 7, 8, 9, 10, 11, 12, 13, 14, 15, 16, 17, 18, 19, 20, 21, 22, 23, 24, 25, 26, 27, 28, 29, 30, 31, 32, 33, 34, 35, 36, 37, 38, 39, 40, 41, 42, 43] (by decide +kernel) (by decide +kernel)
set_option maxRecDepth 20000 in
theorem gX6_init_X5_init_n3 : GoodIn wsX6_init (wsX5_init) := ggX6_init_X5_init
theorem dX6_init_0 : decode cX6_init 0 = .ok (.aload_n 0, 1) := by decide +kernel
theorem dX6_init_1 : decode cX6_init 1 = .ok (.invokespecial 3, 3) := by decide +kernel
theorem dX6_init_4 : decode cX6_init 4 = .ok (.return_, 1) := by decide +kernel
set_option maxRecDepth 20000 in
theorem ggX6_give_X5_fail : GoodIn wsX6_give wsX5_fail := goodIn_r _ [16, 17, 24, 25, 26, 27, 28, 29, 30, 31, 32, 33, 34, 35, 36, 37, 38, 39, 40, 41, 42, 43, 44, 45, 46, 47, 48, 49, 50, 51, 52, 53, 54, 55, 56, 57, 58] (by decide +kernel) (by decide +kernel)
set_option maxRecDepth 20000 in
theorem gX6_give_X5_fail_u19X6 : GoodIn wsX6_give (va_wsU RX6 19 RX6 "CallWays2$Instrument" ⟨"CallWays2$Reader", "fail", "(I)D"⟩ yX5_fail wsX5_fail) := goodIn_app (goodIn_of _ (by decide +kernel)) ggX6_give_X5_fail
set_option maxRecDepth 20000 in
theorem ggX6_give_X7_has : GoodIn wsX6_give wsX7_has := goodIn_r _ [22, 23, 59, 60] (by decide +kernel) (by decide +kernel)
set_option maxRecDepth 20000 in
theorem gX6_give_X7_has : GoodIn wsX6_give (wsV RX6 36 RX7 yX7_has wsX7_has) := goodIn_app (goodIn_of _ (by decide +kernel)) ggX6_give_X7_has
theorem dX6_give_0 : decode cX6_give 0 = .ok (.aload_n 0, 1) := by decide +kernel
theorem dX6_give_1 : decode cX6_give 1 = .ok (.getfield 9, 3) := by decide +kernel
theorem dX6_give_4 : decode cX6_give 4 = .ok (.ifCond .ne 20, 3) := by decide +kernel
theorem dX6_give_7 : decode cX6_give 7 = .ok (.aload_n 0, 1) := by decide +kernel
theorem dX6_give_8 : decode cX6_give 8 = .ok (.getfield 15, 3) := by decide +kernel
theorem dX6_give_11 : decode cX6_give 11 = .ok (.bipush 8, 2) := by decide +kernel
theorem dX6_give_13 : decode cX6_give 13 = .ok (.irem, 1) := by decide +kernel
theorem dX6_give_14 : decode cX6_give 14 = .ok (.ifCond .ge 10, 3) := by decide +kernel
theorem dX6_give_17 : decode cX6_give 17 = .ok (.aload_n 0, 1) := by decide +kernel
theorem dX6_give_18 : decode cX6_give 18 = .ok (.bipush (-8), 2) := by decide +kernel
theorem dX6_give_20 : decode cX6_give 20 = .ok (.invokevirtual 19, 3) := by decide +kernel
theorem dX6_give_23 : decode cX6_give 23 = .ok (.dreturn, 1) := by decide +kernel
theorem dX6_give_24 : decode cX6_give 24 = .ok (.aload_n 0, 1) := by decide +kernel
theorem dX6_give_25 : decode cX6_give 25 = .ok (.getfield 23, 3) := by decide +kernel
theorem dX6_give_28 : decode cX6_give 28 = .ok (.ifnonnull 10, 3) := by decide +kernel
theorem dX6_give_31 : decode cX6_give 31 = .ok (.aload_n 0, 1) := by decide +kernel
theorem dX6_give_32 : decode cX6_give 32 = .ok (.bipush (-5), 2) := by decide +kernel
theorem dX6_give_34 : decode cX6_give 34 = .ok (.invokevirtual 19, 3) := by decide +kernel
theorem dX6_give_37 : decode cX6_give 37 = .ok (.dreturn, 1) := by decide +kernel
theorem dX6_give_38 : decode cX6_give 38 = .ok (.aload_n 0, 1) := by decide +kernel
theorem dX6_give_39 : decode cX6_give 39 = .ok (.getfield 23, 3) := by decide +kernel
theorem dX6_give_42 : decode cX6_give 42 = .ok (.getfield 27, 3) := by decide +kernel
theorem dX6_give_45 : decode cX6_give 45 = .ok (.iconst 1, 1) := by decide +kernel
theorem dX6_give_46 : decode cX6_give 46 = .ok (.if_icmp .eq 10, 3) := by decide +kernel
theorem dX6_give_49 : decode cX6_give 49 = .ok (.aload_n 0, 1) := by decide +kernel
theorem dX6_give_50 : decode cX6_give 50 = .ok (.bipush (-6), 2) := by decide +kernel
theorem dX6_give_52 : decode cX6_give 52 = .ok (.invokevirtual 19, 3) := by decide +kernel
theorem dX6_give_55 : decode cX6_give 55 = .ok (.dreturn, 1) := by decide +kernel
theorem dX6_give_56 : decode cX6_give 56 = .ok (.aload_n 0, 1) := by decide +kernel
theorem dX6_give_57 : decode cX6_give 57 = .ok (.getfield 15, 3) := by decide +kernel
theorem dX6_give_60 : decode cX6_give 60 = .ok (.aload_n 0, 1) := by decide +kernel
theorem dX6_give_61 : decode cX6_give 61 = .ok (.getfield 32, 3) := by decide +kernel
theorem dX6_give_64 : decode cX6_give 64 = .ok (.iconst 0, 1) := by decide +kernel
theorem dX6_give_65 : decode cX6_give 65 = .ok (.iaload, 1) := by decide +kernel
theorem dX6_give_66 : decode cX6_give 66 = .ok (.iadd, 1) := by decide +kernel
theorem dX6_give_67 : decode cX6_give 67 = .ok (.istore_n 1, 1) := by decide +kernel
theorem dX6_give_68 : decode cX6_give 68 = .ok (.aload_n 0, 1) := by decide +kernel
theorem dX6_give_69 : decode cX6_give 69 = .ok (.getfield 23, 3) := by decide +kernel
theorem dX6_give_72 : decode cX6_give 72 = .ok (.iload_n 1, 1) := by decide +kernel
theorem dX6_give_73 : decode cX6_give 73 = .ok (.invokevirtual 36, 3) := by decide +kernel
theorem dX6_give_76 : decode cX6_give 76 = .ok (.ifCond .eq 15, 3) := by decide +kernel
theorem dX6_give_79 : decode cX6_give 79 = .ok (.aload_n 0, 1) := by decide +kernel
theorem dX6_give_80 : decode cX6_give 80 = .ok (.getfield 23, 3) := by decide +kernel
theorem dX6_give_83 : decode cX6_give 83 = .ok (.getfield 40, 3) := by decide +kernel
theorem dX6_give_86 : decode cX6_give 86 = .ok (.iload_n 1, 1) := by decide +kernel
theorem dX6_give_87 : decode cX6_give 87 = .ok (.daload, 1) := by decide +kernel
theorem dX6_give_88 : decode cX6_give 88 = .ok (.goto 9, 3) := by decide +kernel
theorem dX6_give_91 : decode cX6_give 91 = .ok (.aload_n 0, 1) := by decide +kernel
theorem dX6_give_92 : decode cX6_give 92 = .ok (.bipush (-7), 2) := by decide +kernel
theorem dX6_give_94 : decode cX6_give 94 = .ok (.invokevirtual 19, 3) := by decide +kernel
theorem dX6_give_97 : decode cX6_give 97 = .ok (.dreturn, 1) := by decide +kernel
theorem dX7_init_0 : decode cX7_init 0 = .ok (.aload_n 0, 1) := by decide +kernel
theorem dX7_init_1 : decode cX7_init 1 = .ok (.invokespecial 3, 3) := by decide +kernel
theorem dX7_init_4 : decode cX7_init 4 = .ok (.aload_n 0, 1) := by decide +kernel
theorem dX7_init_5 : decode cX7_init 5 = .ok (.iload_n 1, 1) := by decide +kernel
theorem dX7_init_6 : decode cX7_init 6 = .ok (.putfield 9, 3) := by decide +kernel
theorem dX7_init_9 : decode cX7_init 9 = .ok (.aload_n 0, 1) := by decide +kernel
theorem dX7_init_10 : decode cX7_init 10 = .ok (.aload_n 2, 1) := by decide +kernel
theorem dX7_init_11 : decode cX7_init 11 = .ok (.putfield 15, 3) := by decide +kernel
theorem dX7_init_14 : decode cX7_init 14 = .ok (.return_, 1) := by decide +kernel
set_option maxRecDepth 20000 in
theorem ggX7_twin_X7_init : GoodIn wsX7_twin wsX7_init := goodIn_r _ [14, 15, 16, 17, 4, 5, 18, 19] (by decide +kernel) (by decide +kernel)
set_option maxRecDepth 20000 in
theorem gX7_twin_X7_init : GoodIn wsX7_twin (wsX7_init) := ggX7_twin_X7_init
theorem dX7_twin_0 : decode cX7_twin 0 = .ok (.new 10, 3) := by decide +kernel
theorem dX7_twin_3 : decode cX7_twin 3 = .ok (.dup, 1) := by decide +kernel
theorem dX7_twin_4 : decode cX7_twin 4 = .ok (.aload_n 0, 1) := by decide +kernel
theorem dX7_twin_5 : decode cX7_twin 5 = .ok (.getfield 9, 3) := by decide +kernel
theorem dX7_twin_8 : decode cX7_twin 8 = .ok (.aload_n 0, 1) := by decide +kernel
theorem dX7_twin_9 : decode cX7_twin 9 = .ok (.getfield 15, 3) := by decide +kernel
theorem dX7_twin_12 : decode cX7_twin 12 = .ok (.invokevirtual 19, 3) := by decide +kernel
theorem dX7_twin_15 : decode cX7_twin 15 = .ok (.checkcast 20, 3) := by decide +kernel
theorem dX7_twin_18 : decode cX7_twin 18 = .ok (.invokespecial 24, 3) := by decide +kernel
theorem dX7_twin_21 : decode cX7_twin 21 = .ok (.areturn, 1) := by decide +kernel
theorem dX7_has_0 : decode cX7_has 0 = .ok (.iload_n 1, 1) := by decide +kernel
theorem dX7_has_1 : decode cX7_has 1 = .ok (.ifCond .lt 16, 3) := by decide +kernel
theorem dX7_has_4 : decode cX7_has 4 = .ok (.iload_n 1, 1) := by decide +kernel
theorem dX7_has_5 : decode cX7_has 5 = .ok (.aload_n 0, 1) := by decide +kernel
theorem dX7_has_6 : decode cX7_has 6 = .ok (.getfield 15, 3) := by decide +kernel
theorem dX7_has_9 : decode cX7_has 9 = .ok (.arraylength, 1) := by decide +kernel
theorem dX7_has_10 : decode cX7_has 10 = .ok (.if_icmp .ge 7, 3) := by decide +kernel
theorem dX7_has_13 : decode cX7_has 13 = .ok (.iconst 1, 1) := by decide +kernel
theorem dX7_has_14 : decode cX7_has 14 = .ok (.goto 4, 3) := by decide +kernel
theorem dX7_has_17 : decode cX7_has 17 = .ok (.iconst 0, 1) := by decide +kernel
theorem dX7_has_18 : decode cX7_has 18 = .ok (.ireturn, 1) := by decide +kernel
theorem dX7_spans_0 : decode cX7_spans 0 = .ok (.iload_n 1, 1) := by decide +kernel
theorem dX7_spans_1 : decode cX7_spans 1 = .ok (.ifCond .lt 31, 3) := by decide +kernel
theorem dX7_spans_4 : decode cX7_spans 4 = .ok (.iload_n 2, 1) := by decide +kernel
theorem dX7_spans_5 : decode cX7_spans 5 = .ok (.ifCond .lt 27, 3) := by decide +kernel
theorem dX7_spans_8 : decode cX7_spans 8 = .ok (.iload_n 2, 1) := by decide +kernel
theorem dX7_spans_9 : decode cX7_spans 9 = .ok (.aload_n 0, 1) := by decide +kernel
theorem dX7_spans_10 : decode cX7_spans 10 = .ok (.getfield 15, 3) := by decide +kernel
theorem dX7_spans_13 : decode cX7_spans 13 = .ok (.arraylength, 1) := by decide +kernel
theorem dX7_spans_14 : decode cX7_spans 14 = .ok (.if_icmp .gt 18, 3) := by decide +kernel
theorem dX7_spans_17 : decode cX7_spans 17 = .ok (.iload_n 1, 1) := by decide +kernel
theorem dX7_spans_18 : decode cX7_spans 18 = .ok (.aload_n 0, 1) := by decide +kernel
theorem dX7_spans_19 : decode cX7_spans 19 = .ok (.getfield 15, 3) := by decide +kernel
theorem dX7_spans_22 : decode cX7_spans 22 = .ok (.arraylength, 1) := by decide +kernel
theorem dX7_spans_23 : decode cX7_spans 23 = .ok (.iload_n 2, 1) := by decide +kernel
theorem dX7_spans_24 : decode cX7_spans 24 = .ok (.isub, 1) := by decide +kernel
theorem dX7_spans_25 : decode cX7_spans 25 = .ok (.if_icmp .gt 7, 3) := by decide +kernel
theorem dX7_spans_28 : decode cX7_spans 28 = .ok (.iconst 1, 1) := by decide +kernel
theorem dX7_spans_29 : decode cX7_spans 29 = .ok (.goto 4, 3) := by decide +kernel
theorem dX7_spans_32 : decode cX7_spans 32 = .ok (.iconst 0, 1) := by decide +kernel
theorem dX7_spans_33 : decode cX7_spans 33 = .ok (.ireturn, 1) := by decide +kernel
set_option maxRecDepth 20000 in
theorem ggX7_set_X7_turned : GoodIn wsX7_set wsX7_turned := goodIn_r _ [6, 7, 8, 9] (by decide +kernel) (by decide +kernel)
set_option maxRecDepth 20000 in
theorem gX7_set_X7_turned : GoodIn wsX7_set (wsV RX7 27 RX7 yX7_turned wsX7_turned) := goodIn_app (goodIn_of _ (by decide +kernel)) ggX7_set_X7_turned
theorem dX7_set_0 : decode cX7_set 0 = .ok (.aload_n 0, 1) := by decide +kernel
theorem dX7_set_1 : decode cX7_set 1 = .ok (.getfield 15, 3) := by decide +kernel
theorem dX7_set_4 : decode cX7_set 4 = .ok (.iload_n 1, 1) := by decide +kernel
theorem dX7_set_5 : decode cX7_set 5 = .ok (.aload_n 0, 1) := by decide +kernel
theorem dX7_set_6 : decode cX7_set 6 = .ok (.dload_n 2, 1) := by decide +kernel
theorem dX7_set_7 : decode cX7_set 7 = .ok (.invokevirtual 27, 3) := by decide +kernel
theorem dX7_set_10 : decode cX7_set 10 = .ok (.dastore, 1) := by decide +kernel
theorem dX7_set_11 : decode cX7_set 11 = .ok (.return_, 1) := by decide +kernel
theorem dX7_turned_0 : decode cX7_turned 0 = .ok (.aload_n 0, 1) := by decide +kernel
theorem dX7_turned_1 : decode cX7_turned 1 = .ok (.getfield 9, 3) := by decide +kernel
theorem dX7_turned_4 : decode cX7_turned 4 = .ok (.tableswitch 41 0 2 #[28, 33, 37], 28) := by decide +kernel
theorem dX7_turned_32 : decode cX7_turned 32 = .ok (.dload_n 1, 1) := by decide +kernel
theorem dX7_turned_33 : decode cX7_turned 33 = .ok (.d2i, 1) := by decide +kernel
theorem dX7_turned_34 : decode cX7_turned 34 = .ok (.i2s, 1) := by decide +kernel
theorem dX7_turned_35 : decode cX7_turned 35 = .ok (.i2d, 1) := by decide +kernel
theorem dX7_turned_36 : decode cX7_turned 36 = .ok (.dreturn, 1) := by decide +kernel
theorem dX7_turned_37 : decode cX7_turned 37 = .ok (.dload_n 1, 1) := by decide +kernel
theorem dX7_turned_38 : decode cX7_turned 38 = .ok (.d2i, 1) := by decide +kernel
theorem dX7_turned_39 : decode cX7_turned 39 = .ok (.i2d, 1) := by decide +kernel
theorem dX7_turned_40 : decode cX7_turned 40 = .ok (.dreturn, 1) := by decide +kernel
theorem dX7_turned_41 : decode cX7_turned 41 = .ok (.dload_n 1, 1) := by decide +kernel
theorem dX7_turned_42 : decode cX7_turned 42 = .ok (.d2f, 1) := by decide +kernel
theorem dX7_turned_43 : decode cX7_turned 43 = .ok (.f2d, 1) := by decide +kernel
theorem dX7_turned_44 : decode cX7_turned 44 = .ok (.dreturn, 1) := by decide +kernel
theorem dX7_turned_45 : decode cX7_turned 45 = .ok (.dload_n 1, 1) := by decide +kernel
theorem dX7_turned_46 : decode cX7_turned 46 = .ok (.dreturn, 1) := by decide +kernel
set_option maxRecDepth 20000 in
theorem ggX7_bits_X1_ofFloat : GoodIn wsX7_bits wsX1_ofFloat := goodIn_r _ [6, 7, 8, 9, 5, 10, 11, 12, 13, 14, 15] (by decide +kernel) (by decide +kernel)
set_option maxRecDepth 20000 in
theorem gX7_bits_X1_ofFloat : GoodIn wsX7_bits (va_wsS RX7 31 yX1_ofFloat wsX1_ofFloat) := goodIn_app (goodIn_of _ (by decide +kernel)) ggX7_bits_X1_ofFloat
set_option maxRecDepth 20000 in
theorem ggX7_bits_X1_ofDouble : GoodIn wsX7_bits wsX1_ofDouble := goodIn_r _ [18, 19, 8, 9, 5, 10, 11, 12, 13, 14, 15] (by decide +kernel) (by decide +kernel)
set_option maxRecDepth 20000 in
theorem gX7_bits_X1_ofDouble : GoodIn wsX7_bits (va_wsS RX7 37 yX1_ofDouble wsX1_ofDouble) := goodIn_app (goodIn_of _ (by decide +kernel)) ggX7_bits_X1_ofDouble
theorem dX7_bits_0 : decode cX7_bits 0 = .ok (.aload_n 0, 1) := by decide +kernel
theorem dX7_bits_1 : decode cX7_bits 1 = .ok (.getfield 9, 3) := by decide +kernel
theorem dX7_bits_4 : decode cX7_bits 4 = .ok (.lookupswitch 49 #[(2, 28), (3, 39)], 28) := by decide +kernel
theorem dX7_bits_32 : decode cX7_bits 32 = .ok (.aload_n 0, 1) := by decide +kernel
theorem dX7_bits_33 : decode cX7_bits 33 = .ok (.getfield 15, 3) := by decide +kernel
theorem dX7_bits_36 : decode cX7_bits 36 = .ok (.iload_n 1, 1) := by decide +kernel
theorem dX7_bits_37 : decode cX7_bits 37 = .ok (.daload, 1) := by decide +kernel
theorem dX7_bits_38 : decode cX7_bits 38 = .ok (.invokestatic 31, 3) := by decide +kernel
theorem dX7_bits_41 : decode cX7_bits 41 = .ok (.i2l, 1) := by decide +kernel
theorem dX7_bits_42 : decode cX7_bits 42 = .ok (.lreturn, 1) := by decide +kernel
theorem dX7_bits_43 : decode cX7_bits 43 = .ok (.aload_n 0, 1) := by decide +kernel
theorem dX7_bits_44 : decode cX7_bits 44 = .ok (.getfield 15, 3) := by decide +kernel
theorem dX7_bits_47 : decode cX7_bits 47 = .ok (.iload_n 1, 1) := by decide +kernel
theorem dX7_bits_48 : decode cX7_bits 48 = .ok (.daload, 1) := by decide +kernel
theorem dX7_bits_49 : decode cX7_bits 49 = .ok (.invokestatic 37, 3) := by decide +kernel
theorem dX7_bits_52 : decode cX7_bits 52 = .ok (.lreturn, 1) := by decide +kernel
theorem dX7_bits_53 : decode cX7_bits 53 = .ok (.aload_n 0, 1) := by decide +kernel
theorem dX7_bits_54 : decode cX7_bits 54 = .ok (.getfield 15, 3) := by decide +kernel
theorem dX7_bits_57 : decode cX7_bits 57 = .ok (.iload_n 1, 1) := by decide +kernel
theorem dX7_bits_58 : decode cX7_bits 58 = .ok (.daload, 1) := by decide +kernel
theorem dX7_bits_59 : decode cX7_bits 59 = .ok (.d2l, 1) := by decide +kernel
theorem dX7_bits_60 : decode cX7_bits 60 = .ok (.lreturn, 1) := by decide +kernel
set_option maxRecDepth 20000 in
theorem ggX8_init_X5_init : GoodIn wsX8_init wsX5_init := goodIn_r _ [3, 4, 5, 6, 7, 8, 9, 10, 11, 12, 13, 14, 15, 16, 17, 18, 19, 20, 21, 22, 23, 24, 25, 26, 27, 28, 29, 30, 31, 32, 33, 34, 35, 36, 37, 38, 39, 40, 41, 42, 43] (by decide +kernel) (by decide +kernel)
set_option maxRecDepth 20000 in
theorem gX8_init_X5_init_n1 : GoodIn wsX8_init (wsX5_init) := ggX8_init_X5_init
theorem dX8_init_0 : decode cX8_init 0 = .ok (.aload_n 0, 1) := by decide +kernel
theorem dX8_init_1 : decode cX8_init 1 = .ok (.invokespecial 1, 3) := by decide +kernel
theorem dX8_init_4 : decode cX8_init 4 = .ok (.return_, 1) := by decide +kernel
theorem dX8_give_0 : decode cX8_give 0 = .ok (.aload_n 0, 1) := by decide +kernel
theorem dX8_give_1 : decode cX8_give 1 = .ok (.getfield 7, 3) := by decide +kernel
theorem dX8_give_4 : decode cX8_give 4 = .ok (.ifCond .eq 24, 3) := by decide +kernel
theorem dX8_give_7 : decode cX8_give 7 = .ok (.aload_n 0, 1) := by decide +kernel
theorem dX8_give_8 : decode cX8_give 8 = .ok (.getfield 13, 3) := by decide +kernel
theorem dX8_give_11 : decode cX8_give 11 = .ok (.aload_n 0, 1) := by decide +kernel
theorem dX8_give_12 : decode cX8_give 12 = .ok (.getfield 17, 3) := by decide +kernel
theorem dX8_give_15 : decode cX8_give 15 = .ok (.imul, 1) := by decide +kernel
theorem dX8_give_16 : decode cX8_give 16 = .ok (.sipush 256, 3) := by decide +kernel
theorem dX8_give_19 : decode cX8_give 19 = .ok (.irem, 1) := by decide +kernel
theorem dX8_give_20 : decode cX8_give 20 = .ok (.sipush 128, 3) := by decide +kernel
theorem dX8_give_23 : decode cX8_give 23 = .ok (.isub, 1) := by decide +kernel
theorem dX8_give_24 : decode cX8_give 24 = .ok (.i2d, 1) := by decide +kernel
theorem dX8_give_25 : decode cX8_give 25 = .ok (.goto 4, 3) := by decide +kernel
theorem dX8_give_28 : decode cX8_give 28 = .ok (.dconst 0, 1) := by decide +kernel
theorem dX8_give_29 : decode cX8_give 29 = .ok (.dreturn, 1) := by decide +kernel
theorem dX9_init_0 : decode cX9_init 0 = .ok (.aload_n 0, 1) := by decide +kernel
theorem dX9_init_1 : decode cX9_init 1 = .ok (.invokespecial 1, 3) := by decide +kernel
theorem dX9_init_4 : decode cX9_init 4 = .ok (.aload_n 0, 1) := by decide +kernel
theorem dX9_init_5 : decode cX9_init 5 = .ok (.bipush 12, 2) := by decide +kernel
theorem dX9_init_7 : decode cX9_init 7 = .ok (.anewarray 9, 3) := by decide +kernel
theorem dX9_init_10 : decode cX9_init 10 = .ok (.putfield 11, 3) := by decide +kernel
theorem dX9_init_13 : decode cX9_init 13 = .ok (.aload_n 0, 1) := by decide +kernel
theorem dX9_init_14 : decode cX9_init 14 = .ok (.bipush 10, 2) := by decide +kernel
theorem dX9_init_16 : decode cX9_init 16 = .ok (.anewarray 15, 3) := by decide +kernel
theorem dX9_init_19 : decode cX9_init 19 = .ok (.putfield 17, 3) := by decide +kernel
theorem dX9_init_22 : decode cX9_init 22 = .ok (.aload_n 0, 1) := by decide +kernel
theorem dX9_init_23 : decode cX9_init 23 = .ok (.bipush 8, 2) := by decide +kernel
theorem dX9_init_25 : decode cX9_init 25 = .ok (.anewarray 21, 3) := by decide +kernel
theorem dX9_init_28 : decode cX9_init 28 = .ok (.putfield 23, 3) := by decide +kernel
theorem dX9_init_31 : decode cX9_init 31 = .ok (.aload_n 0, 1) := by decide +kernel
theorem dX9_init_32 : decode cX9_init 32 = .ok (.bipush 40, 2) := by decide +kernel
theorem dX9_init_34 : decode cX9_init 34 = .ok (.newarray .double, 2) := by decide +kernel
theorem dX9_init_36 : decode cX9_init 36 = .ok (.putfield 27, 3) := by decide +kernel
theorem dX9_init_39 : decode cX9_init 39 = .ok (.aload_n 0, 1) := by decide +kernel
theorem dX9_init_40 : decode cX9_init 40 = .ok (.iconst (-1), 1) := by decide +kernel
theorem dX9_init_41 : decode cX9_init 41 = .ok (.putfield 31, 3) := by decide +kernel
theorem dX9_init_44 : decode cX9_init 44 = .ok (.return_, 1) := by decide +kernel
set_option maxRecDepth 20000 in
theorem ggX9_instrument_X9_newInstrument : GoodIn wsX9_instrument wsX9_newInstrument := goodIn_r _ [6, 7, 8, 9, 10, 11, 12, 13, 14, 15, 16, 17, 18, 19, 20, 21, 22, 23, 24, 25, 26, 27, 28, 29, 30, 31, 32, 33, 34, 35, 36, 37, 38, 39, 51, 52, 53, 54, 55, 56, 57, 58, 59, 60, 61, 62, 63, 64, 65, 66, 67, 68, 69, 70, 71, 72, 73, 74, 75, 76, 77, 78, 79, 80, 81, 82, 83, 84, 85] (by decide +kernel) (by decide +kernel)
set_option maxRecDepth 20000 in
theorem gX9_instrument_X9_newInstrument : GoodIn wsX9_instrument (va_wsS RX9 38 yX9_newInstrument wsX9_newInstrument) := goodIn_app (goodIn_of _ (by decide +kernel)) ggX9_instrument_X9_newInstrument
theorem dX9_instrument_0 : decode cX9_instrument 0 = .ok (.iload_n 1, 1) := by decide +kernel
theorem dX9_instrument_1 : decode cX9_instrument 1 = .ok (.ifCond .lt 8, 3) := by decide +kernel
theorem dX9_instrument_4 : decode cX9_instrument 4 = .ok (.iload_n 1, 1) := by decide +kernel
theorem dX9_instrument_5 : decode cX9_instrument 5 = .ok (.iconst 4, 1) := by decide +kernel
theorem dX9_instrument_6 : decode cX9_instrument 6 = .ok (.if_icmp .le 5, 3) := by decide +kernel
theorem dX9_instrument_9 : decode cX9_instrument 9 = .ok (.iconst (-1), 1) := by decide +kernel
theorem dX9_instrument_10 : decode cX9_instrument 10 = .ok (.ireturn, 1) := by decide +kernel
theorem dX9_instrument_11 : decode cX9_instrument 11 = .ok (.aload_n 0, 1) := by decide +kernel
theorem dX9_instrument_12 : decode cX9_instrument 12 = .ok (.getfield 35, 3) := by decide +kernel
theorem dX9_instrument_15 : decode cX9_instrument 15 = .ok (.bipush 12, 2) := by decide +kernel
theorem dX9_instrument_17 : decode cX9_instrument 17 = .ok (.if_icmp .lt 6, 3) := by decide +kernel
theorem dX9_instrument_20 : decode cX9_instrument 20 = .ok (.bipush (-2), 2) := by decide +kernel
theorem dX9_instrument_22 : decode cX9_instrument 22 = .ok (.ireturn, 1) := by decide +kernel
theorem dX9_instrument_23 : decode cX9_instrument 23 = .ok (.aload_n 0, 1) := by decide +kernel
theorem dX9_instrument_24 : decode cX9_instrument 24 = .ok (.getfield 11, 3) := by decide +kernel
theorem dX9_instrument_27 : decode cX9_instrument 27 = .ok (.aload_n 0, 1) := by decide +kernel
theorem dX9_instrument_28 : decode cX9_instrument 28 = .ok (.getfield 35, 3) := by decide +kernel
theorem dX9_instrument_31 : decode cX9_instrument 31 = .ok (.iload_n 1, 1) := by decide +kernel
theorem dX9_instrument_32 : decode cX9_instrument 32 = .ok (.invokestatic 38, 3) := by decide +kernel
theorem dX9_instrument_35 : decode cX9_instrument 35 = .ok (.aastore, 1) := by decide +kernel
theorem dX9_instrument_36 : decode cX9_instrument 36 = .ok (.aload_n 0, 1) := by decide +kernel
theorem dX9_instrument_37 : decode cX9_instrument 37 = .ok (.dup, 1) := by decide +kernel
theorem dX9_instrument_38 : decode cX9_instrument 38 = .ok (.getfield 35, 3) := by decide +kernel
theorem dX9_instrument_41 : decode cX9_instrument 41 = .ok (.iconst 1, 1) := by decide +kernel
theorem dX9_instrument_42 : decode cX9_instrument 42 = .ok (.iadd, 1) := by decide +kernel
theorem dX9_instrument_43 : decode cX9_instrument 43 = .ok (.putfield 35, 3) := by decide +kernel
theorem dX9_instrument_46 : decode cX9_instrument 46 = .ok (.aload_n 0, 1) := by decide +kernel
theorem dX9_instrument_47 : decode cX9_instrument 47 = .ok (.getfield 35, 3) := by decide +kernel
theorem dX9_instrument_50 : decode cX9_instrument 50 = .ok (.iconst 1, 1) := by decide +kernel
theorem dX9_instrument_51 : decode cX9_instrument 51 = .ok (.isub, 1) := by decide +kernel
theorem dX9_instrument_52 : decode cX9_instrument 52 = .ok (.ireturn, 1) := by decide +kernel
set_option maxRecDepth 20000 in
theorem ggX9_note_X9_instrumentAt : GoodIn wsX9_note wsX9_instrumentAt := goodIn_r _ [6, 7, 8, 64, 65, 66, 67, 68, 69, 70, 71, 72, 73, 74] (by decide +kernel) (by decide +kernel)
set_option maxRecDepth 20000 in
theorem gX9_note_X9_instrumentAt : GoodIn wsX9_note (wsV RX9 42 RX9 yX9_instrumentAt wsX9_instrumentAt) := goodIn_app (goodIn_of _ (by decide +kernel)) ggX9_note_X9_instrumentAt
set_option maxRecDepth 20000 in
theorem ggX9_note_X2_strike : GoodIn wsX9_note wsX2_strike := goodIn_r _ [15, 16, 17, 18, 10, 19, 20, 21, 22, 23, 24, 29, 30, 31, 32, 33, 34, 35, 36, 37, 38, 39, 40, 41, 42, 43, 44, 45, 46, 47, 48, 49, 50, 51, 52, 53, 54, 55, 56, 57, 58, 59, 60, 61, 62, 63] (by decide +kernel) (by decide +kernel)
set_option maxRecDepth 20000 in
theorem gX9_note_X2_strike_u49X0 : GoodIn wsX9_note (va_wsO RX9 49 RX0 "CallWays2$Instrument" ⟨"CallWays2$Instrument", "strike", "(IZ)V"⟩ yX2_strike wsX2_strike) := goodIn_app (goodIn_of _ (by decide +kernel)) ggX9_note_X2_strike
set_option maxRecDepth 20000 in
theorem gX9_note_X2_strike_u49X2 : GoodIn wsX9_note (va_wsO RX9 49 RX2 "CallWays2$Instrument" ⟨"CallWays2$Instrument", "strike", "(IZ)V"⟩ yX2_strike wsX2_strike) := goodIn_app (goodIn_of _ (by decide +kernel)) ggX9_note_X2_strike
set_option maxRecDepth 20000 in
theorem ggX9_note_X5_strike : GoodIn wsX9_note wsX5_strike := goodIn_r _ [22, 23, 24, 29, 30, 31, 32, 33, 34, 35, 36, 37, 38, 39, 40, 41, 42, 43, 44, 45, 46, 47, 48, 49, 50, 51, 52, 53, 54, 55, 56, 57, 58, 59, 60, 61, 62, 63] (by decide +kernel) (by decide +kernel)
set_option maxRecDepth 20000 in
theorem gX9_note_X5_strike_u49X4 : GoodIn wsX9_note (va_wsU RX9 49 RX4 "CallWays2$Instrument" ⟨"CallWays2$Instrument", "strike", "(IZ)V"⟩ yX5_strike wsX5_strike) := goodIn_app (goodIn_of _ (by decide +kernel)) ggX9_note_X5_strike
set_option maxRecDepth 20000 in
theorem gX9_note_X5_strike_u49X6 : GoodIn wsX9_note (va_wsU RX9 49 RX6 "CallWays2$Instrument" ⟨"CallWays2$Instrument", "strike", "(IZ)V"⟩ yX5_strike wsX5_strike) := goodIn_app (goodIn_of _ (by decide +kernel)) ggX9_note_X5_strike
set_option maxRecDepth 20000 in
theorem gX9_note_X5_strike_u49X8 : GoodIn wsX9_note (va_wsU RX9 49 RX8 "CallWays2$Instrument" ⟨"CallWays2$Instrument", "strike", "(IZ)V"⟩ yX5_strike wsX5_strike) := goodIn_app (goodIn_of _ (by decide +kernel)) ggX9_note_X5_strike
theorem dX9_note_0 : decode cX9_note 0 = .ok (.aload_n 0, 1) := by decide +kernel
theorem dX9_note_1 : decode cX9_note 1 = .ok (.iload_n 1, 1) := by decide +kernel
theorem dX9_note_2 : decode cX9_note 2 = .ok (.invokevirtual 42, 3) := by decide +kernel
theorem dX9_note_5 : decode cX9_note 5 = .ok (.astore 4, 2) := by decide +kernel
theorem dX9_note_7 : decode cX9_note 7 = .ok (.aload 4, 2) := by decide +kernel
theorem dX9_note_9 : decode cX9_note 9 = .ok (.ifnull 13, 3) := by decide +kernel
theorem dX9_note_12 : decode cX9_note 12 = .ok (.iload_n 2, 1) := by decide +kernel
theorem dX9_note_13 : decode cX9_note 13 = .ok (.ifCond .lt 9, 3) := by decide +kernel
theorem dX9_note_16 : decode cX9_note 16 = .ok (.iload_n 2, 1) := by decide +kernel
theorem dX9_note_17 : decode cX9_note 17 = .ok (.bipush 127, 2) := by decide +kernel
theorem dX9_note_19 : decode cX9_note 19 = .ok (.if_icmp .le 5, 3) := by decide +kernel
theorem dX9_note_22 : decode cX9_note 22 = .ok (.iconst (-1), 1) := by decide +kernel
theorem dX9_note_23 : decode cX9_note 23 = .ok (.ireturn, 1) := by decide +kernel
theorem dX9_note_24 : decode cX9_note 24 = .ok (.aload 4, 2) := by decide +kernel
theorem dX9_note_26 : decode cX9_note 26 = .ok (.getfield 45, 3) := by decide +kernel
theorem dX9_note_29 : decode cX9_note 29 = .ok (.ifCond .eq 7, 3) := by decide +kernel
theorem dX9_note_32 : decode cX9_note 32 = .ok (.iconst 1, 1) := by decide +kernel
theorem dX9_note_33 : decode cX9_note 33 = .ok (.goto 4, 3) := by decide +kernel
theorem dX9_note_36 : decode cX9_note 36 = .ok (.iconst 0, 1) := by decide +kernel
theorem dX9_note_37 : decode cX9_note 37 = .ok (.istore 5, 2) := by decide +kernel
theorem dX9_note_39 : decode cX9_note 39 = .ok (.aload 4, 2) := by decide +kernel
theorem dX9_note_41 : decode cX9_note 41 = .ok (.iload_n 2, 1) := by decide +kernel
theorem dX9_note_42 : decode cX9_note 42 = .ok (.iload_n 3, 1) := by decide +kernel
theorem dX9_note_43 : decode cX9_note 43 = .ok (.invokevirtual 49, 3) := by decide +kernel
theorem dX9_note_46 : decode cX9_note 46 = .ok (.iload 5, 2) := by decide +kernel
theorem dX9_note_48 : decode cX9_note 48 = .ok (.ireturn, 1) := by decide +kernel
set_option maxRecDepth 20000 in
theorem ggX9_knob_X9_instrumentAt : GoodIn wsX9_knob wsX9_instrumentAt := goodIn_r _ [7, 8, 9, 10, 11, 12, 13, 14, 15, 16, 17, 18, 19, 20] (by decide +kernel) (by decide +kernel)
set_option maxRecDepth 20000 in
theorem gX9_knob_X9_instrumentAt : GoodIn wsX9_knob (wsV RX9 42 RX9 yX9_instrumentAt wsX9_instrumentAt) := goodIn_app (goodIn_of _ (by decide +kernel)) ggX9_knob_X9_instrumentAt
theorem dX9_knob_0 : decode cX9_knob 0 = .ok (.aload_n 0, 1) := by decide +kernel
theorem dX9_knob_1 : decode cX9_knob 1 = .ok (.iload_n 1, 1) := by decide +kernel
theorem dX9_knob_2 : decode cX9_knob 2 = .ok (.invokevirtual 42, 3) := by decide +kernel
theorem dX9_knob_5 : decode cX9_knob 5 = .ok (.astore 4, 2) := by decide +kernel
theorem dX9_knob_7 : decode cX9_knob 7 = .ok (.aload 4, 2) := by decide +kernel
theorem dX9_knob_9 : decode cX9_knob 9 = .ok (.ifnull 12, 3) := by decide +kernel
theorem dX9_knob_12 : decode cX9_knob 12 = .ok (.iload_n 2, 1) := by decide +kernel
theorem dX9_knob_13 : decode cX9_knob 13 = .ok (.ifCond .lt 8, 3) := by decide +kernel
theorem dX9_knob_16 : decode cX9_knob 16 = .ok (.iload_n 2, 1) := by decide +kernel
theorem dX9_knob_17 : decode cX9_knob 17 = .ok (.iconst 4, 1) := by decide +kernel
theorem dX9_knob_18 : decode cX9_knob 18 = .ok (.if_icmp .lt 10, 3) := by decide +kernel
theorem dX9_knob_21 : decode cX9_knob 21 = .ok (.aload_n 0, 1) := by decide +kernel
theorem dX9_knob_22 : decode cX9_knob 22 = .ok (.iconst (-1), 1) := by decide +kernel
theorem dX9_knob_23 : decode cX9_knob 23 = .ok (.putfield 53, 3) := by decide +kernel
theorem dX9_knob_26 : decode cX9_knob 26 = .ok (.iconst 0, 1) := by decide +kernel
theorem dX9_knob_27 : decode cX9_knob 27 = .ok (.ireturn, 1) := by decide +kernel
theorem dX9_knob_28 : decode cX9_knob 28 = .ok (.aload 4, 2) := by decide +kernel
theorem dX9_knob_30 : decode cX9_knob 30 = .ok (.getfield 56, 3) := by decide +kernel
theorem dX9_knob_33 : decode cX9_knob 33 = .ok (.iload_n 2, 1) := by decide +kernel
theorem dX9_knob_34 : decode cX9_knob 34 = .ok (.iaload, 1) := by decide +kernel
theorem dX9_knob_35 : decode cX9_knob 35 = .ok (.istore 5, 2) := by decide +kernel
theorem dX9_knob_37 : decode cX9_knob 37 = .ok (.aload 4, 2) := by decide +kernel
theorem dX9_knob_39 : decode cX9_knob 39 = .ok (.getfield 56, 3) := by decide +kernel
theorem dX9_knob_42 : decode cX9_knob 42 = .ok (.iload_n 2, 1) := by decide +kernel
theorem dX9_knob_43 : decode cX9_knob 43 = .ok (.iload_n 3, 1) := by decide +kernel
theorem dX9_knob_44 : decode cX9_knob 44 = .ok (.iastore, 1) := by decide +kernel
theorem dX9_knob_45 : decode cX9_knob 45 = .ok (.aload_n 0, 1) := by decide +kernel
theorem dX9_knob_46 : decode cX9_knob 46 = .ok (.iconst 0, 1) := by decide +kernel
theorem dX9_knob_47 : decode cX9_knob 47 = .ok (.putfield 53, 3) := by decide +kernel
theorem dX9_knob_50 : decode cX9_knob 50 = .ok (.iload 5, 2) := by decide +kernel
theorem dX9_knob_52 : decode cX9_knob 52 = .ok (.ireturn, 1) := by decide +kernel
set_option maxRecDepth 20000 in
theorem ggX9_phase_X9_instrumentAt : GoodIn wsX9_phase wsX9_instrumentAt := goodIn_r _ [7, 8, 9, 10, 11, 12, 13, 14, 15, 16, 17, 18, 19, 20] (by decide +kernel) (by decide +kernel)
set_option maxRecDepth 20000 in
theorem gX9_phase_X9_instrumentAt : GoodIn wsX9_phase (wsV RX9 42 RX9 yX9_instrumentAt wsX9_instrumentAt) := goodIn_app (goodIn_of _ (by decide +kernel)) ggX9_phase_X9_instrumentAt
theorem dX9_phase_0 : decode cX9_phase 0 = .ok (.aload_n 0, 1) := by decide +kernel
theorem dX9_phase_1 : decode cX9_phase 1 = .ok (.iload_n 1, 1) := by decide +kernel
theorem dX9_phase_2 : decode cX9_phase 2 = .ok (.invokevirtual 42, 3) := by decide +kernel
theorem dX9_phase_5 : decode cX9_phase 5 = .ok (.astore_n 3, 1) := by decide +kernel
theorem dX9_phase_6 : decode cX9_phase 6 = .ok (.aload_n 3, 1) := by decide +kernel
theorem dX9_phase_7 : decode cX9_phase 7 = .ok (.ifnonnull 10, 3) := by decide +kernel
theorem dX9_phase_10 : decode cX9_phase 10 = .ok (.aload_n 0, 1) := by decide +kernel
theorem dX9_phase_11 : decode cX9_phase 11 = .ok (.iconst (-1), 1) := by decide +kernel
theorem dX9_phase_12 : decode cX9_phase 12 = .ok (.putfield 53, 3) := by decide +kernel
theorem dX9_phase_15 : decode cX9_phase 15 = .ok (.iconst 0, 1) := by decide +kernel
theorem dX9_phase_16 : decode cX9_phase 16 = .ok (.ireturn, 1) := by decide +kernel
theorem dX9_phase_17 : decode cX9_phase 17 = .ok (.aload_n 3, 1) := by decide +kernel
theorem dX9_phase_18 : decode cX9_phase 18 = .ok (.getfield 60, 3) := by decide +kernel
theorem dX9_phase_21 : decode cX9_phase 21 = .ok (.istore 4, 2) := by decide +kernel
theorem dX9_phase_23 : decode cX9_phase 23 = .ok (.aload_n 3, 1) := by decide +kernel
theorem dX9_phase_24 : decode cX9_phase 24 = .ok (.iload_n 2, 1) := by decide +kernel
theorem dX9_phase_25 : decode cX9_phase 25 = .ok (.putfield 60, 3) := by decide +kernel
theorem dX9_phase_28 : decode cX9_phase 28 = .ok (.aload_n 0, 1) := by decide +kernel
theorem dX9_phase_29 : decode cX9_phase 29 = .ok (.iconst 0, 1) := by decide +kernel
theorem dX9_phase_30 : decode cX9_phase 30 = .ok (.putfield 53, 3) := by decide +kernel
theorem dX9_phase_33 : decode cX9_phase 33 = .ok (.iload 4, 2) := by decide +kernel
theorem dX9_phase_35 : decode cX9_phase 35 = .ok (.ireturn, 1) := by decide +kernel
set_option maxRecDepth 20000 in
theorem ggX9_table_X9_instrumentAt : GoodIn wsX9_table wsX9_instrumentAt := goodIn_r _ [6, 7, 8, 76, 77, 78, 79, 80, 81, 82, 83, 84, 85, 86] (by decide +kernel) (by decide +kernel)
set_option maxRecDepth 20000 in
theorem gX9_table_X9_instrumentAt : GoodIn wsX9_table (wsV RX9 42 RX9 yX9_instrumentAt wsX9_instrumentAt) := goodIn_app (goodIn_of _ (by decide +kernel)) ggX9_table_X9_instrumentAt
set_option maxRecDepth 20000 in
theorem ggX9_table_X9_isBlock : GoodIn wsX9_table wsX9_isBlock := goodIn_r _ [11] (by decide +kernel) (by decide +kernel)
set_option maxRecDepth 20000 in
theorem gX9_table_X9_isBlock : GoodIn wsX9_table (va_wsS RX9 63 yX9_isBlock wsX9_isBlock) := goodIn_app (goodIn_of _ (by decide +kernel)) ggX9_table_X9_isBlock
set_option maxRecDepth 20000 in
theorem ggX9_table_X9_heldBy : GoodIn wsX9_table wsX9_heldBy := goodIn_r _ [15, 16, 9, 10, 5, 11, 76, 77, 78, 79, 80, 81, 82, 83, 84, 85, 86] (by decide +kernel) (by decide +kernel)
set_option maxRecDepth 20000 in
theorem gX9_table_X9_heldBy : GoodIn wsX9_table (wsV RX9 67 RX9 yX9_heldBy wsX9_heldBy) := goodIn_app (goodIn_of _ (by decide +kernel)) ggX9_table_X9_heldBy
set_option maxRecDepth 20000 in
theorem ggX9_table_X9_lentOrTwin : GoodIn wsX9_table wsX9_lentOrTwin := goodIn_r _ [19, 20, 21, 22, 23, 24, 25, 26, 27, 28, 29, 30, 31, 32, 33, 34, 35, 36, 37, 38, 39, 40, 87, 88] (by decide +kernel) (by decide +kernel)
set_option maxRecDepth 20000 in
theorem gX9_table_X9_lentOrTwin : GoodIn wsX9_table (va_wsS RX9 71 yX9_lentOrTwin wsX9_lentOrTwin) := goodIn_app (goodIn_of _ (by decide +kernel)) ggX9_table_X9_lentOrTwin
theorem dX9_table_0 : decode cX9_table 0 = .ok (.aload_n 0, 1) := by decide +kernel
theorem dX9_table_1 : decode cX9_table 1 = .ok (.iload_n 1, 1) := by decide +kernel
theorem dX9_table_2 : decode cX9_table 2 = .ok (.invokevirtual 42, 3) := by decide +kernel
theorem dX9_table_5 : decode cX9_table 5 = .ok (.astore 4, 2) := by decide +kernel
theorem dX9_table_7 : decode cX9_table 7 = .ok (.aload 4, 2) := by decide +kernel
theorem dX9_table_9 : decode cX9_table 9 = .ok (.ifnull 15, 3) := by decide +kernel
theorem dX9_table_12 : decode cX9_table 12 = .ok (.iload_n 2, 1) := by decide +kernel
theorem dX9_table_13 : decode cX9_table 13 = .ok (.iconst (-1), 1) := by decide +kernel
theorem dX9_table_14 : decode cX9_table 14 = .ok (.if_icmp .eq 12, 3) := by decide +kernel
theorem dX9_table_17 : decode cX9_table 17 = .ok (.iload_n 2, 1) := by decide +kernel
theorem dX9_table_18 : decode cX9_table 18 = .ok (.invokestatic 63, 3) := by decide +kernel
theorem dX9_table_21 : decode cX9_table 21 = .ok (.ifCond .ne 5, 3) := by decide +kernel
theorem dX9_table_24 : decode cX9_table 24 = .ok (.iconst (-1), 1) := by decide +kernel
theorem dX9_table_25 : decode cX9_table 25 = .ok (.ireturn, 1) := by decide +kernel
theorem dX9_table_26 : decode cX9_table 26 = .ok (.aload 4, 2) := by decide +kernel
theorem dX9_table_28 : decode cX9_table 28 = .ok (.aload_n 0, 1) := by decide +kernel
theorem dX9_table_29 : decode cX9_table 29 = .ok (.iload_n 2, 1) := by decide +kernel
theorem dX9_table_30 : decode cX9_table 30 = .ok (.invokevirtual 67, 3) := by decide +kernel
theorem dX9_table_33 : decode cX9_table 33 = .ok (.iload_n 3, 1) := by decide +kernel
theorem dX9_table_34 : decode cX9_table 34 = .ok (.invokestatic 71, 3) := by decide +kernel
theorem dX9_table_37 : decode cX9_table 37 = .ok (.putfield 75, 3) := by decide +kernel
theorem dX9_table_40 : decode cX9_table 40 = .ok (.iconst 1, 1) := by decide +kernel
theorem dX9_table_41 : decode cX9_table 41 = .ok (.ireturn, 1) := by decide +kernel
set_option maxRecDepth 20000 in
theorem ggX9_block_X9_isBlock : GoodIn wsX9_block wsX9_isBlock := goodIn_r _ [9] (by decide +kernel) (by decide +kernel)
set_option maxRecDepth 20000 in
theorem gX9_block_X9_isBlock : GoodIn wsX9_block (va_wsS RX9 63 yX9_isBlock wsX9_isBlock) := goodIn_app (goodIn_of _ (by decide +kernel)) ggX9_block_X9_isBlock
set_option maxRecDepth 20000 in
theorem ggX9_block_X9_isLane : GoodIn wsX9_block wsX9_isLane := goodIn_r _ [12] (by decide +kernel) (by decide +kernel)
set_option maxRecDepth 20000 in
theorem gX9_block_X9_isLane : GoodIn wsX9_block (va_wsS RX9 79 yX9_isLane wsX9_isLane) := goodIn_app (goodIn_of _ (by decide +kernel)) ggX9_block_X9_isLane
set_option maxRecDepth 20000 in
theorem ggX9_block_X7_init : GoodIn wsX9_block wsX7_init := goodIn_r _ [15, 16, 17, 18, 19, 20, 32, 33] (by decide +kernel) (by decide +kernel)
set_option maxRecDepth 20000 in
theorem gX9_block_X7_init : GoodIn wsX9_block (wsX7_init) := ggX9_block_X7_init
theorem dX9_block_0 : decode cX9_block 0 = .ok (.iload_n 1, 1) := by decide +kernel
theorem dX9_block_1 : decode cX9_block 1 = .ok (.invokestatic 63, 3) := by decide +kernel
theorem dX9_block_4 : decode cX9_block 4 = .ok (.ifCond .eq 16, 3) := by decide +kernel
theorem dX9_block_7 : decode cX9_block 7 = .ok (.iload_n 2, 1) := by decide +kernel
theorem dX9_block_8 : decode cX9_block 8 = .ok (.invokestatic 79, 3) := by decide +kernel
theorem dX9_block_11 : decode cX9_block 11 = .ok (.ifCond .eq 9, 3) := by decide +kernel
theorem dX9_block_14 : decode cX9_block 14 = .ok (.iload_n 3, 1) := by decide +kernel
theorem dX9_block_15 : decode cX9_block 15 = .ok (.bipush 40, 2) := by decide +kernel
theorem dX9_block_17 : decode cX9_block 17 = .ok (.if_icmp .le 5, 3) := by decide +kernel
theorem dX9_block_20 : decode cX9_block 20 = .ok (.iconst (-1), 1) := by decide +kernel
theorem dX9_block_21 : decode cX9_block 21 = .ok (.ireturn, 1) := by decide +kernel
theorem dX9_block_22 : decode cX9_block 22 = .ok (.iload_n 3, 1) := by decide +kernel
theorem dX9_block_23 : decode cX9_block 23 = .ok (.ifCond .ge 6, 3) := by decide +kernel
theorem dX9_block_26 : decode cX9_block 26 = .ok (.bipush (-8), 2) := by decide +kernel
theorem dX9_block_28 : decode cX9_block 28 = .ok (.ireturn, 1) := by decide +kernel
theorem dX9_block_29 : decode cX9_block 29 = .ok (.aload_n 0, 1) := by decide +kernel
theorem dX9_block_30 : decode cX9_block 30 = .ok (.getfield 17, 3) := by decide +kernel
theorem dX9_block_33 : decode cX9_block 33 = .ok (.iload_n 1, 1) := by decide +kernel
theorem dX9_block_34 : decode cX9_block 34 = .ok (.new 15, 3) := by decide +kernel
theorem dX9_block_37 : decode cX9_block 37 = .ok (.dup, 1) := by decide +kernel
theorem dX9_block_38 : decode cX9_block 38 = .ok (.iload_n 2, 1) := by decide +kernel
theorem dX9_block_39 : decode cX9_block 39 = .ok (.iload_n 3, 1) := by decide +kernel
theorem dX9_block_40 : decode cX9_block 40 = .ok (.newarray .double, 2) := by decide +kernel
theorem dX9_block_42 : decode cX9_block 42 = .ok (.invokespecial 82, 3) := by decide +kernel
theorem dX9_block_45 : decode cX9_block 45 = .ok (.aastore, 1) := by decide +kernel
theorem dX9_block_46 : decode cX9_block 46 = .ok (.iconst 1, 1) := by decide +kernel
theorem dX9_block_47 : decode cX9_block 47 = .ok (.ireturn, 1) := by decide +kernel
set_option maxRecDepth 20000 in
theorem ggX9_lend_X9_isBlock : GoodIn wsX9_lend wsX9_isBlock := goodIn_r _ [5] (by decide +kernel) (by decide +kernel)
set_option maxRecDepth 20000 in
theorem gX9_lend_X9_isBlock : GoodIn wsX9_lend (va_wsS RX9 63 yX9_isBlock wsX9_isBlock) := goodIn_app (goodIn_of _ (by decide +kernel)) ggX9_lend_X9_isBlock
set_option maxRecDepth 20000 in
theorem ggX9_lend_X9_heldBy : GoodIn wsX9_lend wsX9_heldBy := goodIn_r _ [9, 1, 2, 3, 4, 5, 34, 35, 36, 37, 38, 39, 40, 41, 42, 43, 44] (by decide +kernel) (by decide +kernel)
set_option maxRecDepth 20000 in
theorem gX9_lend_X9_heldBy : GoodIn wsX9_lend (wsV RX9 67 RX9 yX9_heldBy wsX9_heldBy) := goodIn_app (goodIn_of _ (by decide +kernel)) ggX9_lend_X9_heldBy
set_option maxRecDepth 20000 in
theorem ggX9_lend_X9_lentOrTwin : GoodIn wsX9_lend wsX9_lentOrTwin := goodIn_r _ [12, 13, 14, 15, 16, 17, 18, 19, 20, 21, 22, 23, 24, 25, 26, 27, 28, 29, 30, 31, 32, 33, 45, 46] (by decide +kernel) (by decide +kernel)
set_option maxRecDepth 20000 in
theorem gX9_lend_X9_lentOrTwin : GoodIn wsX9_lend (va_wsS RX9 71 yX9_lentOrTwin wsX9_lentOrTwin) := goodIn_app (goodIn_of _ (by decide +kernel)) ggX9_lend_X9_lentOrTwin
theorem dX9_lend_0 : decode cX9_lend 0 = .ok (.iload_n 1, 1) := by decide +kernel
theorem dX9_lend_1 : decode cX9_lend 1 = .ok (.invokestatic 63, 3) := by decide +kernel
theorem dX9_lend_4 : decode cX9_lend 4 = .ok (.ifCond .eq 10, 3) := by decide +kernel
theorem dX9_lend_7 : decode cX9_lend 7 = .ok (.iload_n 2, 1) := by decide +kernel
theorem dX9_lend_8 : decode cX9_lend 8 = .ok (.invokestatic 63, 3) := by decide +kernel
theorem dX9_lend_11 : decode cX9_lend 11 = .ok (.ifCond .ne 5, 3) := by decide +kernel
theorem dX9_lend_14 : decode cX9_lend 14 = .ok (.iconst (-1), 1) := by decide +kernel
theorem dX9_lend_15 : decode cX9_lend 15 = .ok (.ireturn, 1) := by decide +kernel
theorem dX9_lend_16 : decode cX9_lend 16 = .ok (.aload_n 0, 1) := by decide +kernel
theorem dX9_lend_17 : decode cX9_lend 17 = .ok (.iload_n 2, 1) := by decide +kernel
theorem dX9_lend_18 : decode cX9_lend 18 = .ok (.invokevirtual 67, 3) := by decide +kernel
theorem dX9_lend_21 : decode cX9_lend 21 = .ok (.astore 4, 2) := by decide +kernel
theorem dX9_lend_23 : decode cX9_lend 23 = .ok (.aload 4, 2) := by decide +kernel
theorem dX9_lend_25 : decode cX9_lend 25 = .ok (.ifnonnull 10, 3) := by decide +kernel
theorem dX9_lend_28 : decode cX9_lend 28 = .ok (.iload_n 3, 1) := by decide +kernel
theorem dX9_lend_29 : decode cX9_lend 29 = .ok (.ifCond .ne 6, 3) := by decide +kernel
theorem dX9_lend_32 : decode cX9_lend 32 = .ok (.bipush (-5), 2) := by decide +kernel
theorem dX9_lend_34 : decode cX9_lend 34 = .ok (.ireturn, 1) := by decide +kernel
theorem dX9_lend_35 : decode cX9_lend 35 = .ok (.aload_n 0, 1) := by decide +kernel
theorem dX9_lend_36 : decode cX9_lend 36 = .ok (.getfield 17, 3) := by decide +kernel
theorem dX9_lend_39 : decode cX9_lend 39 = .ok (.iload_n 1, 1) := by decide +kernel
theorem dX9_lend_40 : decode cX9_lend 40 = .ok (.aload 4, 2) := by decide +kernel
theorem dX9_lend_42 : decode cX9_lend 42 = .ok (.iload_n 3, 1) := by decide +kernel
theorem dX9_lend_43 : decode cX9_lend 43 = .ok (.invokestatic 71, 3) := by decide +kernel
theorem dX9_lend_46 : decode cX9_lend 46 = .ok (.aastore, 1) := by decide +kernel
theorem dX9_lend_47 : decode cX9_lend 47 = .ok (.iconst 1, 1) := by decide +kernel
theorem dX9_lend_48 : decode cX9_lend 48 = .ok (.ireturn, 1) := by decide +kernel
set_option maxRecDepth 20000 in
theorem ggX9_isLent_X9_isBlock : GoodIn wsX9_isLent wsX9_isBlock := goodIn_r _ [4] (by decide +kernel) (by decide +kernel)
set_option maxRecDepth 20000 in
theorem gX9_isLent_X9_isBlock : GoodIn wsX9_isLent (va_wsS RX9 63 yX9_isBlock wsX9_isBlock) := goodIn_app (goodIn_of _ (by decide +kernel)) ggX9_isLent_X9_isBlock
set_option maxRecDepth 20000 in
theorem ggX9_isLent_X9_heldBy : GoodIn wsX9_isLent wsX9_heldBy := goodIn_r _ [8, 9, 1, 2, 3, 4, 10, 11, 12, 13, 14, 15, 16, 17, 18, 19, 20] (by decide +kernel) (by decide +kernel)
set_option maxRecDepth 20000 in
theorem gX9_isLent_X9_heldBy : GoodIn wsX9_isLent (wsV RX9 67 RX9 yX9_heldBy wsX9_heldBy) := goodIn_app (goodIn_of _ (by decide +kernel)) ggX9_isLent_X9_heldBy
theorem dX9_isLent_0 : decode cX9_isLent 0 = .ok (.iload_n 1, 1) := by decide +kernel
theorem dX9_isLent_1 : decode cX9_isLent 1 = .ok (.invokestatic 63, 3) := by decide +kernel
theorem dX9_isLent_4 : decode cX9_isLent 4 = .ok (.ifCond .eq 27, 3) := by decide +kernel
theorem dX9_isLent_7 : decode cX9_isLent 7 = .ok (.iload_n 2, 1) := by decide +kernel
theorem dX9_isLent_8 : decode cX9_isLent 8 = .ok (.invokestatic 63, 3) := by decide +kernel
theorem dX9_isLent_11 : decode cX9_isLent 11 = .ok (.ifCond .eq 20, 3) := by decide +kernel
theorem dX9_isLent_14 : decode cX9_isLent 14 = .ok (.aload_n 0, 1) := by decide +kernel
theorem dX9_isLent_15 : decode cX9_isLent 15 = .ok (.iload_n 1, 1) := by decide +kernel
theorem dX9_isLent_16 : decode cX9_isLent 16 = .ok (.invokevirtual 67, 3) := by decide +kernel
theorem dX9_isLent_19 : decode cX9_isLent 19 = .ok (.aload_n 0, 1) := by decide +kernel
theorem dX9_isLent_20 : decode cX9_isLent 20 = .ok (.iload_n 2, 1) := by decide +kernel
theorem dX9_isLent_21 : decode cX9_isLent 21 = .ok (.invokevirtual 67, 3) := by decide +kernel
theorem dX9_isLent_24 : decode cX9_isLent 24 = .ok (.if_acmp .ne 7, 3) := by decide +kernel
theorem dX9_isLent_27 : decode cX9_isLent 27 = .ok (.iconst 1, 1) := by decide +kernel
theorem dX9_isLent_28 : decode cX9_isLent 28 = .ok (.goto 4, 3) := by decide +kernel
theorem dX9_isLent_31 : decode cX9_isLent 31 = .ok (.iconst 0, 1) := by decide +kernel
theorem dX9_isLent_32 : decode cX9_isLent 32 = .ok (.ireturn, 1) := by decide +kernel
set_option maxRecDepth 20000 in
theorem ggX9_of_X9_isBlock : GoodIn wsX9_of wsX9_isBlock := goodIn_r _ [6] (by decide +kernel) (by decide +kernel)
set_option maxRecDepth 20000 in
theorem gX9_of_X9_isBlock : GoodIn wsX9_of (va_wsS RX9 63 yX9_isBlock wsX9_isBlock) := goodIn_app (goodIn_of _ (by decide +kernel)) ggX9_of_X9_isBlock
set_option maxRecDepth 20000 in
theorem ggX9_of_X9_heldBy : GoodIn wsX9_of wsX9_heldBy := goodIn_r _ [10, 11, 3, 4, 5, 6, 14, 15, 16, 17, 18, 19, 20, 21, 22, 23, 24] (by decide +kernel) (by decide +kernel)
set_option maxRecDepth 20000 in
theorem gX9_of_X9_heldBy : GoodIn wsX9_of (wsV RX9 67 RX9 yX9_heldBy wsX9_heldBy) := goodIn_app (goodIn_of _ (by decide +kernel)) ggX9_of_X9_heldBy
theorem dX9_of_0 : decode cX9_of 0 = .ok (.iload_n 1, 1) := by decide +kernel
theorem dX9_of_1 : decode cX9_of 1 = .ok (.invokestatic 63, 3) := by decide +kernel
theorem dX9_of_4 : decode cX9_of 4 = .ok (.ifCond .eq 12, 3) := by decide +kernel
theorem dX9_of_7 : decode cX9_of 7 = .ok (.iload_n 2, 1) := by decide +kernel
theorem dX9_of_8 : decode cX9_of 8 = .ok (.ifCond .lt 8, 3) := by decide +kernel
theorem dX9_of_11 : decode cX9_of 11 = .ok (.iload_n 2, 1) := by decide +kernel
theorem dX9_of_12 : decode cX9_of 12 = .ok (.iconst 1, 1) := by decide +kernel
theorem dX9_of_13 : decode cX9_of 13 = .ok (.if_icmp .le 5, 3) := by decide +kernel
theorem dX9_of_16 : decode cX9_of 16 = .ok (.iconst (-1), 1) := by decide +kernel
theorem dX9_of_17 : decode cX9_of 17 = .ok (.ireturn, 1) := by decide +kernel
theorem dX9_of_18 : decode cX9_of 18 = .ok (.aload_n 0, 1) := by decide +kernel
theorem dX9_of_19 : decode cX9_of 19 = .ok (.iload_n 1, 1) := by decide +kernel
theorem dX9_of_20 : decode cX9_of 20 = .ok (.invokevirtual 67, 3) := by decide +kernel
theorem dX9_of_23 : decode cX9_of 23 = .ok (.astore_n 3, 1) := by decide +kernel
theorem dX9_of_24 : decode cX9_of 24 = .ok (.aload_n 3, 1) := by decide +kernel
theorem dX9_of_25 : decode cX9_of 25 = .ok (.ifnonnull 6, 3) := by decide +kernel
theorem dX9_of_28 : decode cX9_of 28 = .ok (.bipush (-5), 2) := by decide +kernel
theorem dX9_of_30 : decode cX9_of 30 = .ok (.ireturn, 1) := by decide +kernel
theorem dX9_of_31 : decode cX9_of 31 = .ok (.iload_n 2, 1) := by decide +kernel
theorem dX9_of_32 : decode cX9_of 32 = .ok (.ifCond .ne 10, 3) := by decide +kernel
theorem dX9_of_35 : decode cX9_of 35 = .ok (.aload_n 3, 1) := by decide +kernel
theorem dX9_of_36 : decode cX9_of 36 = .ok (.getfield 85, 3) := by decide +kernel
theorem dX9_of_39 : decode cX9_of 39 = .ok (.goto 8, 3) := by decide +kernel
theorem dX9_of_42 : decode cX9_of 42 = .ok (.aload_n 3, 1) := by decide +kernel
theorem dX9_of_43 : decode cX9_of 43 = .ok (.getfield 88, 3) := by decide +kernel
theorem dX9_of_46 : decode cX9_of 46 = .ok (.arraylength, 1) := by decide +kernel
theorem dX9_of_47 : decode cX9_of 47 = .ok (.ireturn, 1) := by decide +kernel
set_option maxRecDepth 20000 in
theorem ggX9_at_X9_againstPlace : GoodIn wsX9_at wsX9_againstPlace := goodIn_r _ [7, 2, 8, 9, 6, 10, 11, 12, 13, 14, 15, 16, 39, 40, 41, 42, 43, 44, 45, 46, 47, 48, 49, 50, 51] (by decide +kernel) (by decide +kernel)
set_option maxRecDepth 20000 in
theorem gX9_at_X9_againstPlace : GoodIn wsX9_at (wsV RX9 91 RX9 yX9_againstPlace wsX9_againstPlace) := goodIn_app (goodIn_of _ (by decide +kernel)) ggX9_at_X9_againstPlace
set_option maxRecDepth 20000 in
theorem ggX9_at_X7_bits : GoodIn wsX9_at wsX7_bits := goodIn_r _ [20, 21, 16, 22, 23, 24, 25, 26, 27, 28, 29, 30, 31, 32, 33, 34, 35, 36, 37, 38, 50, 51] (by decide +kernel) (by decide +kernel)
set_option maxRecDepth 20000 in
theorem gX9_at_X7_bits : GoodIn wsX9_at (wsV RX9 95 RX7 yX7_bits wsX7_bits) := goodIn_app (goodIn_of _ (by decide +kernel)) ggX9_at_X7_bits
theorem dX9_at_0 : decode cX9_at 0 = .ok (.aload_n 0, 1) := by decide +kernel
theorem dX9_at_1 : decode cX9_at 1 = .ok (.aload_n 0, 1) := by decide +kernel
theorem dX9_at_2 : decode cX9_at 2 = .ok (.iload_n 1, 1) := by decide +kernel
theorem dX9_at_3 : decode cX9_at 3 = .ok (.iload_n 2, 1) := by decide +kernel
theorem dX9_at_4 : decode cX9_at 4 = .ok (.invokevirtual 91, 3) := by decide +kernel
theorem dX9_at_7 : decode cX9_at 7 = .ok (.putfield 53, 3) := by decide +kernel
theorem dX9_at_10 : decode cX9_at 10 = .ok (.aload_n 0, 1) := by decide +kernel
theorem dX9_at_11 : decode cX9_at 11 = .ok (.getfield 53, 3) := by decide +kernel
theorem dX9_at_14 : decode cX9_at 14 = .ok (.ifCond .ne 16, 3) := by decide +kernel
theorem dX9_at_17 : decode cX9_at 17 = .ok (.aload_n 0, 1) := by decide +kernel
theorem dX9_at_18 : decode cX9_at 18 = .ok (.getfield 17, 3) := by decide +kernel
theorem dX9_at_21 : decode cX9_at 21 = .ok (.iload_n 1, 1) := by decide +kernel
theorem dX9_at_22 : decode cX9_at 22 = .ok (.aaload, 1) := by decide +kernel
theorem dX9_at_23 : decode cX9_at 23 = .ok (.iload_n 2, 1) := by decide +kernel
theorem dX9_at_24 : decode cX9_at 24 = .ok (.invokevirtual 95, 3) := by decide +kernel
theorem dX9_at_27 : decode cX9_at 27 = .ok (.goto 4, 3) := by decide +kernel
theorem dX9_at_30 : decode cX9_at 30 = .ok (.lconst 0, 1) := by decide +kernel
theorem dX9_at_31 : decode cX9_at 31 = .ok (.lreturn, 1) := by decide +kernel
set_option maxRecDepth 20000 in
theorem ggX9_put_X9_againstPlace : GoodIn wsX9_put wsX9_againstPlace := goodIn_r _ [7, 2, 8, 9, 6, 10, 11, 12, 13, 14, 15, 16, 26, 27, 28, 29, 30, 31, 32, 33, 34, 35, 36, 37, 38] (by decide +kernel) (by decide +kernel)
set_option maxRecDepth 20000 in
theorem gX9_put_X9_againstPlace : GoodIn wsX9_put (wsV RX9 91 RX9 yX9_againstPlace wsX9_againstPlace) := goodIn_app (goodIn_of _ (by decide +kernel)) ggX9_put_X9_againstPlace
set_option maxRecDepth 20000 in
theorem ggX9_put_X7_set : GoodIn wsX9_put wsX7_set := goodIn_r _ [20, 16, 21, 22, 23, 14, 24, 25, 37, 38] (by decide +kernel) (by decide +kernel)
set_option maxRecDepth 20000 in
theorem gX9_put_X7_set : GoodIn wsX9_put (wsV RX9 99 RX7 yX7_set wsX7_set) := goodIn_app (goodIn_of _ (by decide +kernel)) ggX9_put_X7_set
theorem dX9_put_0 : decode cX9_put 0 = .ok (.aload_n 0, 1) := by decide +kernel
theorem dX9_put_1 : decode cX9_put 1 = .ok (.aload_n 0, 1) := by decide +kernel
theorem dX9_put_2 : decode cX9_put 2 = .ok (.iload_n 1, 1) := by decide +kernel
theorem dX9_put_3 : decode cX9_put 3 = .ok (.iload_n 2, 1) := by decide +kernel
theorem dX9_put_4 : decode cX9_put 4 = .ok (.invokevirtual 91, 3) := by decide +kernel
theorem dX9_put_7 : decode cX9_put 7 = .ok (.putfield 53, 3) := by decide +kernel
theorem dX9_put_10 : decode cX9_put 10 = .ok (.aload_n 0, 1) := by decide +kernel
theorem dX9_put_11 : decode cX9_put 11 = .ok (.getfield 53, 3) := by decide +kernel
theorem dX9_put_14 : decode cX9_put 14 = .ok (.ifCond .eq 8, 3) := by decide +kernel
theorem dX9_put_17 : decode cX9_put 17 = .ok (.aload_n 0, 1) := by decide +kernel
theorem dX9_put_18 : decode cX9_put 18 = .ok (.getfield 53, 3) := by decide +kernel
theorem dX9_put_21 : decode cX9_put 21 = .ok (.ireturn, 1) := by decide +kernel
theorem dX9_put_22 : decode cX9_put 22 = .ok (.aload_n 0, 1) := by decide +kernel
theorem dX9_put_23 : decode cX9_put 23 = .ok (.getfield 17, 3) := by decide +kernel
theorem dX9_put_26 : decode cX9_put 26 = .ok (.iload_n 1, 1) := by decide +kernel
theorem dX9_put_27 : decode cX9_put 27 = .ok (.aaload, 1) := by decide +kernel
theorem dX9_put_28 : decode cX9_put 28 = .ok (.iload_n 2, 1) := by decide +kernel
theorem dX9_put_29 : decode cX9_put 29 = .ok (.iload_n 3, 1) := by decide +kernel
theorem dX9_put_30 : decode cX9_put 30 = .ok (.i2d, 1) := by decide +kernel
theorem dX9_put_31 : decode cX9_put 31 = .ok (.invokevirtual 99, 3) := by decide +kernel
theorem dX9_put_34 : decode cX9_put 34 = .ok (.iconst 1, 1) := by decide +kernel
theorem dX9_put_35 : decode cX9_put 35 = .ok (.ireturn, 1) := by decide +kernel
set_option maxRecDepth 20000 in
theorem ggX9_copy_X9_heldBy : GoodIn wsX9_copy wsX9_heldBy := goodIn_r _ [12, 13, 14, 15, 11, 16, 23, 24, 25, 26, 27, 28, 29, 30, 31, 32, 33] (by decide +kernel) (by decide +kernel)
set_option maxRecDepth 20000 in
theorem gX9_copy_X9_heldBy : GoodIn wsX9_copy (wsV RX9 67 RX9 yX9_heldBy wsX9_heldBy) := goodIn_app (goodIn_of _ (by decide +kernel)) ggX9_copy_X9_heldBy
set_option maxRecDepth 20000 in
theorem ggX9_copy_X9_isBlock : GoodIn wsX9_copy wsX9_isBlock := goodIn_r _ [16] (by decide +kernel) (by decide +kernel)
set_option maxRecDepth 20000 in
theorem gX9_copy_X9_isBlock : GoodIn wsX9_copy (va_wsS RX9 63 yX9_isBlock wsX9_isBlock) := goodIn_app (goodIn_of _ (by decide +kernel)) ggX9_copy_X9_isBlock
set_option maxRecDepth 20000 in
theorem ggX9_copy_X7_spans : GoodIn wsX9_copy wsX7_spans := goodIn_r _ [21, 22, 34, 35] (by decide +kernel) (by decide +kernel)
set_option maxRecDepth 20000 in
theorem gX9_copy_X7_spans : GoodIn wsX9_copy (wsV RX9 103 RX7 yX7_spans wsX7_spans) := goodIn_app (goodIn_of _ (by decide +kernel)) ggX9_copy_X7_spans
theorem dX9_copy_0 : decode cX9_copy 0 = .ok (.aload_n 0, 1) := by decide +kernel
theorem dX9_copy_1 : decode cX9_copy 1 = .ok (.iload_n 1, 1) := by decide +kernel
theorem dX9_copy_2 : decode cX9_copy 2 = .ok (.invokevirtual 67, 3) := by decide +kernel
theorem dX9_copy_5 : decode cX9_copy 5 = .ok (.astore 6, 2) := by decide +kernel
theorem dX9_copy_7 : decode cX9_copy 7 = .ok (.aload_n 0, 1) := by decide +kernel
theorem dX9_copy_8 : decode cX9_copy 8 = .ok (.iload_n 3, 1) := by decide +kernel
theorem dX9_copy_9 : decode cX9_copy 9 = .ok (.invokevirtual 67, 3) := by decide +kernel
theorem dX9_copy_12 : decode cX9_copy 12 = .ok (.astore 7, 2) := by decide +kernel
theorem dX9_copy_14 : decode cX9_copy 14 = .ok (.iload_n 1, 1) := by decide +kernel
theorem dX9_copy_15 : decode cX9_copy 15 = .ok (.invokestatic 63, 3) := by decide +kernel
theorem dX9_copy_18 : decode cX9_copy 18 = .ok (.ifCond .eq 10, 3) := by decide +kernel
theorem dX9_copy_21 : decode cX9_copy 21 = .ok (.iload_n 3, 1) := by decide +kernel
theorem dX9_copy_22 : decode cX9_copy 22 = .ok (.invokestatic 63, 3) := by decide +kernel
theorem dX9_copy_25 : decode cX9_copy 25 = .ok (.ifCond .ne 11, 3) := by decide +kernel
theorem dX9_copy_28 : decode cX9_copy 28 = .ok (.aload_n 0, 1) := by decide +kernel
theorem dX9_copy_29 : decode cX9_copy 29 = .ok (.iconst (-1), 1) := by decide +kernel
theorem dX9_copy_30 : decode cX9_copy 30 = .ok (.putfield 53, 3) := by decide +kernel
theorem dX9_copy_33 : decode cX9_copy 33 = .ok (.goto 99, 3) := by decide +kernel
theorem dX9_copy_36 : decode cX9_copy 36 = .ok (.aload 6, 2) := by decide +kernel
theorem dX9_copy_38 : decode cX9_copy 38 = .ok (.ifnull 8, 3) := by decide +kernel
theorem dX9_copy_41 : decode cX9_copy 41 = .ok (.aload 7, 2) := by decide +kernel
theorem dX9_copy_43 : decode cX9_copy 43 = .ok (.ifnonnull 12, 3) := by decide +kernel
theorem dX9_copy_46 : decode cX9_copy 46 = .ok (.aload_n 0, 1) := by decide +kernel
theorem dX9_copy_47 : decode cX9_copy 47 = .ok (.bipush (-5), 2) := by decide +kernel
theorem dX9_copy_49 : decode cX9_copy 49 = .ok (.putfield 53, 3) := by decide +kernel
theorem dX9_copy_52 : decode cX9_copy 52 = .ok (.goto 80, 3) := by decide +kernel
theorem dX9_copy_55 : decode cX9_copy 55 = .ok (.aload 6, 2) := by decide +kernel
theorem dX9_copy_57 : decode cX9_copy 57 = .ok (.getfield 85, 3) := by decide +kernel
theorem dX9_copy_60 : decode cX9_copy 60 = .ok (.aload 7, 2) := by decide +kernel
theorem dX9_copy_62 : decode cX9_copy 62 = .ok (.getfield 85, 3) := by decide +kernel
theorem dX9_copy_65 : decode cX9_copy 65 = .ok (.if_icmp .eq 12, 3) := by decide +kernel
theorem dX9_copy_68 : decode cX9_copy 68 = .ok (.aload_n 0, 1) := by decide +kernel
theorem dX9_copy_69 : decode cX9_copy 69 = .ok (.bipush (-9), 2) := by decide +kernel
theorem dX9_copy_71 : decode cX9_copy 71 = .ok (.putfield 53, 3) := by decide +kernel
theorem dX9_copy_74 : decode cX9_copy 74 = .ok (.goto 58, 3) := by decide +kernel
theorem dX9_copy_77 : decode cX9_copy 77 = .ok (.aload 6, 2) := by decide +kernel
theorem dX9_copy_79 : decode cX9_copy 79 = .ok (.iload_n 2, 1) := by decide +kernel
theorem dX9_copy_80 : decode cX9_copy 80 = .ok (.iload 5, 2) := by decide +kernel
theorem dX9_copy_82 : decode cX9_copy 82 = .ok (.invokevirtual 103, 3) := by decide +kernel
theorem dX9_copy_85 : decode cX9_copy 85 = .ok (.ifCond .eq 15, 3) := by decide +kernel
theorem dX9_copy_88 : decode cX9_copy 88 = .ok (.aload 7, 2) := by decide +kernel
theorem dX9_copy_90 : decode cX9_copy 90 = .ok (.iload 4, 2) := by decide +kernel
theorem dX9_copy_92 : decode cX9_copy 92 = .ok (.iload 5, 2) := by decide +kernel
theorem dX9_copy_94 : decode cX9_copy 94 = .ok (.invokevirtual 103, 3) := by decide +kernel
theorem dX9_copy_97 : decode cX9_copy 97 = .ok (.ifCond .ne 12, 3) := by decide +kernel
theorem dX9_copy_100 : decode cX9_copy 100 = .ok (.aload_n 0, 1) := by decide +kernel
theorem dX9_copy_101 : decode cX9_copy 101 = .ok (.bipush (-7), 2) := by decide +kernel
theorem dX9_copy_103 : decode cX9_copy 103 = .ok (.putfield 53, 3) := by decide +kernel
theorem dX9_copy_106 : decode cX9_copy 106 = .ok (.goto 26, 3) := by decide +kernel
theorem dX9_copy_109 : decode cX9_copy 109 = .ok (.aload 6, 2) := by decide +kernel
theorem dX9_copy_111 : decode cX9_copy 111 = .ok (.getfield 88, 3) := by decide +kernel
theorem dX9_copy_114 : decode cX9_copy 114 = .ok (.iload_n 2, 1) := by decide +kernel
theorem dX9_copy_115 : decode cX9_copy 115 = .ok (.aload 7, 2) := by decide +kernel
theorem dX9_copy_117 : decode cX9_copy 117 = .ok (.getfield 88, 3) := by decide +kernel
theorem dX9_copy_120 : decode cX9_copy 120 = .ok (.iload 4, 2) := by decide +kernel
theorem dX9_copy_122 : decode cX9_copy 122 = .ok (.iload 5, 2) := by decide +kernel
theorem dX9_copy_124 : decode cX9_copy 124 = .ok (.invokestatic 107, 3) := by decide +kernel
theorem dX9_copy_127 : decode cX9_copy 127 = .ok (.aload_n 0, 1) := by decide +kernel
theorem dX9_copy_128 : decode cX9_copy 128 = .ok (.iconst 0, 1) := by decide +kernel
theorem dX9_copy_129 : decode cX9_copy 129 = .ok (.putfield 53, 3) := by decide +kernel
theorem dX9_copy_132 : decode cX9_copy 132 = .ok (.aload_n 0, 1) := by decide +kernel
theorem dX9_copy_133 : decode cX9_copy 133 = .ok (.getfield 53, 3) := by decide +kernel
theorem dX9_copy_136 : decode cX9_copy 136 = .ok (.ifCond .ne 7, 3) := by decide +kernel
theorem dX9_copy_139 : decode cX9_copy 139 = .ok (.iconst 1, 1) := by decide +kernel
theorem dX9_copy_140 : decode cX9_copy 140 = .ok (.goto 7, 3) := by decide +kernel
theorem dX9_copy_143 : decode cX9_copy 143 = .ok (.aload_n 0, 1) := by decide +kernel
theorem dX9_copy_144 : decode cX9_copy 144 = .ok (.getfield 53, 3) := by decide +kernel
theorem dX9_copy_147 : decode cX9_copy 147 = .ok (.ireturn, 1) := by decide +kernel
set_option maxRecDepth 20000 in
theorem ggX9_bind_X9_isLane : GoodIn wsX9_bind wsX9_isLane := goodIn_r _ [5] (by decide +kernel) (by decide +kernel)
set_option maxRecDepth 20000 in
theorem gX9_bind_X9_isLane : GoodIn wsX9_bind (va_wsS RX9 79 yX9_isLane wsX9_isLane) := goodIn_app (goodIn_of _ (by decide +kernel)) ggX9_bind_X9_isLane
theorem dX9_bind_0 : decode cX9_bind 0 = .ok (.iload_n 1, 1) := by decide +kernel
theorem dX9_bind_1 : decode cX9_bind 1 = .ok (.invokestatic 79, 3) := by decide +kernel
theorem dX9_bind_4 : decode cX9_bind 4 = .ok (.ifCond .ne 6, 3) := by decide +kernel
theorem dX9_bind_7 : decode cX9_bind 7 = .ok (.bipush (-2), 2) := by decide +kernel
theorem dX9_bind_9 : decode cX9_bind 9 = .ok (.ireturn, 1) := by decide +kernel
theorem dX9_bind_10 : decode cX9_bind 10 = .ok (.aload_n 0, 1) := by decide +kernel
theorem dX9_bind_11 : decode cX9_bind 11 = .ok (.getfield 31, 3) := by decide +kernel
theorem dX9_bind_14 : decode cX9_bind 14 = .ok (.istore_n 2, 1) := by decide +kernel
theorem dX9_bind_15 : decode cX9_bind 15 = .ok (.aload_n 0, 1) := by decide +kernel
theorem dX9_bind_16 : decode cX9_bind 16 = .ok (.iload_n 1, 1) := by decide +kernel
theorem dX9_bind_17 : decode cX9_bind 17 = .ok (.putfield 31, 3) := by decide +kernel
theorem dX9_bind_20 : decode cX9_bind 20 = .ok (.iload_n 2, 1) := by decide +kernel
theorem dX9_bind_21 : decode cX9_bind 21 = .ok (.ireturn, 1) := by decide +kernel
set_option maxRecDepth 20000 in
theorem ggX9_function_X3_init : GoodIn wsX9_function wsX3_init := goodIn_r _ [8, 9, 10, 11, 12, 13, 25, 26] (by decide +kernel) (by decide +kernel)
set_option maxRecDepth 20000 in
theorem gX9_function_X3_init : GoodIn wsX9_function (wsX3_init) := ggX9_function_X3_init
theorem dX9_function_0 : decode cX9_function 0 = .ok (.iload_n 1, 1) := by decide +kernel
theorem dX9_function_1 : decode cX9_function 1 = .ok (.ifCond .lt 8, 3) := by decide +kernel
theorem dX9_function_4 : decode cX9_function 4 = .ok (.iload_n 1, 1) := by decide +kernel
theorem dX9_function_5 : decode cX9_function 5 = .ok (.iconst 5, 1) := by decide +kernel
theorem dX9_function_6 : decode cX9_function 6 = .ok (.if_icmp .le 5, 3) := by decide +kernel
theorem dX9_function_9 : decode cX9_function 9 = .ok (.iconst (-1), 1) := by decide +kernel
theorem dX9_function_10 : decode cX9_function 10 = .ok (.ireturn, 1) := by decide +kernel
theorem dX9_function_11 : decode cX9_function 11 = .ok (.aload_n 0, 1) := by decide +kernel
theorem dX9_function_12 : decode cX9_function 12 = .ok (.getfield 113, 3) := by decide +kernel
theorem dX9_function_15 : decode cX9_function 15 = .ok (.bipush 8, 2) := by decide +kernel
theorem dX9_function_17 : decode cX9_function 17 = .ok (.if_icmp .lt 6, 3) := by decide +kernel
theorem dX9_function_20 : decode cX9_function 20 = .ok (.bipush (-2), 2) := by decide +kernel
theorem dX9_function_22 : decode cX9_function 22 = .ok (.ireturn, 1) := by decide +kernel
theorem dX9_function_23 : decode cX9_function 23 = .ok (.aload_n 0, 1) := by decide +kernel
theorem dX9_function_24 : decode cX9_function 24 = .ok (.getfield 23, 3) := by decide +kernel
theorem dX9_function_27 : decode cX9_function 27 = .ok (.aload_n 0, 1) := by decide +kernel
theorem dX9_function_28 : decode cX9_function 28 = .ok (.getfield 113, 3) := by decide +kernel
theorem dX9_function_31 : decode cX9_function 31 = .ok (.new 21, 3) := by decide +kernel
theorem dX9_function_34 : decode cX9_function 34 = .ok (.dup, 1) := by decide +kernel
theorem dX9_function_35 : decode cX9_function 35 = .ok (.iload_n 1, 1) := by decide +kernel
theorem dX9_function_36 : decode cX9_function 36 = .ok (.iload_n 2, 1) := by decide +kernel
theorem dX9_function_37 : decode cX9_function 37 = .ok (.invokespecial 116, 3) := by decide +kernel
theorem dX9_function_40 : decode cX9_function 40 = .ok (.aastore, 1) := by decide +kernel
theorem dX9_function_41 : decode cX9_function 41 = .ok (.aload_n 0, 1) := by decide +kernel
theorem dX9_function_42 : decode cX9_function 42 = .ok (.dup, 1) := by decide +kernel
theorem dX9_function_43 : decode cX9_function 43 = .ok (.getfield 113, 3) := by decide +kernel
theorem dX9_function_46 : decode cX9_function 46 = .ok (.iconst 1, 1) := by decide +kernel
theorem dX9_function_47 : decode cX9_function 47 = .ok (.iadd, 1) := by decide +kernel
theorem dX9_function_48 : decode cX9_function 48 = .ok (.putfield 113, 3) := by decide +kernel
theorem dX9_function_51 : decode cX9_function 51 = .ok (.aload_n 0, 1) := by decide +kernel
theorem dX9_function_52 : decode cX9_function 52 = .ok (.getfield 113, 3) := by decide +kernel
theorem dX9_function_55 : decode cX9_function 55 = .ok (.iconst 1, 1) := by decide +kernel
theorem dX9_function_56 : decode cX9_function 56 = .ok (.isub, 1) := by decide +kernel
theorem dX9_function_57 : decode cX9_function 57 = .ok (.ireturn, 1) := by decide +kernel
set_option maxRecDepth 20000 in
theorem ggX9_play_X9_instrumentAt : GoodIn wsX9_play wsX9_instrumentAt := goodIn_r _ [8, 9, 10, 153, 154, 155, 156, 157, 158, 159, 160, 161, 162, 163] (by decide +kernel) (by decide +kernel)
set_option maxRecDepth 20000 in
theorem gX9_play_X9_instrumentAt : GoodIn wsX9_play (wsV RX9 42 RX9 yX9_instrumentAt wsX9_instrumentAt) := goodIn_app (goodIn_of _ (by decide +kernel)) ggX9_play_X9_instrumentAt
set_option maxRecDepth 20000 in
theorem ggX9_play_X9_functionAt : GoodIn wsX9_play wsX9_functionAt := goodIn_r _ [14, 15, 16, 153, 154, 155, 156, 157, 158, 159, 160, 161, 162, 163] (by decide +kernel) (by decide +kernel)
set_option maxRecDepth 20000 in
theorem gX9_play_X9_functionAt : GoodIn wsX9_play (wsV RX9 119 RX9 yX9_functionAt wsX9_functionAt) := goodIn_app (goodIn_of _ (by decide +kernel)) ggX9_play_X9_functionAt
set_option maxRecDepth 20000 in
theorem ggX9_play_X9_isBlock : GoodIn wsX9_play wsX9_isBlock := goodIn_r _ [19] (by decide +kernel) (by decide +kernel)
set_option maxRecDepth 20000 in
theorem gX9_play_X9_isBlock : GoodIn wsX9_play (va_wsS RX9 63 yX9_isBlock wsX9_isBlock) := goodIn_app (goodIn_of _ (by decide +kernel)) ggX9_play_X9_isBlock
set_option maxRecDepth 20000 in
theorem ggX9_play_X9_heldBy : GoodIn wsX9_play wsX9_heldBy := goodIn_r _ [23, 24, 17, 18, 7, 19, 153, 154, 155, 156, 157, 158, 159, 160, 161, 162, 163] (by decide +kernel) (by decide +kernel)
set_option maxRecDepth 20000 in
theorem gX9_play_X9_heldBy : GoodIn wsX9_play (wsV RX9 67 RX9 yX9_heldBy wsX9_heldBy) := goodIn_app (goodIn_of _ (by decide +kernel)) ggX9_play_X9_heldBy
set_option maxRecDepth 20000 in
theorem ggX9_play_X9_againstBlock : GoodIn wsX9_play wsX9_againstBlock := goodIn_r _ [28, 29, 30, 31, 32, 33, 34, 35, 36, 164, 165, 153, 154, 155, 156, 157, 158, 159, 160, 161, 162, 163] (by decide +kernel) (by decide +kernel)
set_option maxRecDepth 20000 in
theorem gX9_play_X9_againstBlock : GoodIn wsX9_play (wsV RX9 123 RX9 yX9_againstBlock wsX9_againstBlock) := goodIn_app (goodIn_of _ (by decide +kernel)) ggX9_play_X9_againstBlock
set_option maxRecDepth 20000 in
theorem ggX9_play_X9_gather : GoodIn wsX9_play wsX9_gather := goodIn_r _ [40, 41, 42, 43, 44, 45, 46, 47, 48, 49, 50, 51, 52, 53, 54, 55, 56, 57, 58, 59, 60, 61, 62, 63, 64, 65, 66, 67, 68, 69, 70, 71, 72, 73, 74, 75, 76, 77, 78, 79, 80, 81, 82, 83, 84, 85, 86, 87, 88, 89, 90, 91, 92, 93, 94, 95, 96, 97, 98, 99, 100, 101, 102, 103, 104, 105, 106, 107, 108, 109, 110, 111, 112, 113, 114, 115, 116, 117, 118, 119, 120, 121, 122, 34, 123, 36, 124, 125, 126, 127, 128, 129, 130, 131, 132, 133, 134, 135, 136, 137, 138, 139, 153, 154, 155, 156, 157, 158, 159, 160, 161, 162, 163, 166, 167, 168, 169, 170, 171, 172, 173, 174, 175, 176, 177, 178, 179, 180, 181, 182, 183, 184, 185, 186, 187, 188, 189, 190, 191, 192, 193, 194, 195, 196, 197, 198, 199, 200, 164, 165, 201, 202] (by decide +kernel) (by decide +kernel)
set_option maxRecDepth 20000 in
theorem gX9_play_X9_gather : GoodIn wsX9_play (wsV RX9 127 RX9 yX9_gather wsX9_gather) := goodIn_app (goodIn_of _ (by decide +kernel)) ggX9_play_X9_gather
set_option maxRecDepth 20000 in
theorem ggX9_play_X9_deliver : GoodIn wsX9_play wsX9_deliver := goodIn_r _ [143, 43, 144, 145, 146, 34, 147, 36, 148, 149, 150, 151, 152, 153, 154, 155, 156, 157, 158, 159, 160, 161, 162, 163, 164, 165] (by decide +kernel) (by decide +kernel)
set_option maxRecDepth 20000 in
theorem gX9_play_X9_deliver : GoodIn wsX9_play (wsV RX9 131 RX9 yX9_deliver wsX9_deliver) := goodIn_app (goodIn_of _ (by decide +kernel)) ggX9_play_X9_deliver
theorem dX9_play_0 : decode cX9_play 0 = .ok (.aload_n 0, 1) := by decide +kernel
theorem dX9_play_1 : decode cX9_play 1 = .ok (.iload_n 1, 1) := by decide +kernel
theorem dX9_play_2 : decode cX9_play 2 = .ok (.invokevirtual 42, 3) := by decide +kernel
theorem dX9_play_5 : decode cX9_play 5 = .ok (.astore 7, 2) := by decide +kernel
theorem dX9_play_7 : decode cX9_play 7 = .ok (.iload_n 2, 1) := by decide +kernel
theorem dX9_play_8 : decode cX9_play 8 = .ok (.iconst 2, 1) := by decide +kernel
theorem dX9_play_9 : decode cX9_play 9 = .ok (.if_icmp .ne 11, 3) := by decide +kernel
theorem dX9_play_12 : decode cX9_play 12 = .ok (.aload_n 0, 1) := by decide +kernel
theorem dX9_play_13 : decode cX9_play 13 = .ok (.iload_n 3, 1) := by decide +kernel
theorem dX9_play_14 : decode cX9_play 14 = .ok (.invokevirtual 119, 3) := by decide +kernel
theorem dX9_play_17 : decode cX9_play 17 = .ok (.goto 4, 3) := by decide +kernel
theorem dX9_play_20 : decode cX9_play 20 = .ok (.aconst_null, 1) := by decide +kernel
theorem dX9_play_21 : decode cX9_play 21 = .ok (.astore 8, 2) := by decide +kernel
theorem dX9_play_23 : decode cX9_play 23 = .ok (.iload_n 2, 1) := by decide +kernel
theorem dX9_play_24 : decode cX9_play 24 = .ok (.ifCond .eq 13, 3) := by decide +kernel
theorem dX9_play_27 : decode cX9_play 27 = .ok (.iload_n 2, 1) := by decide +kernel
theorem dX9_play_28 : decode cX9_play 28 = .ok (.iconst 1, 1) := by decide +kernel
theorem dX9_play_29 : decode cX9_play 29 = .ok (.if_icmp .eq 8, 3) := by decide +kernel
theorem dX9_play_32 : decode cX9_play 32 = .ok (.aload 8, 2) := by decide +kernel
theorem dX9_play_34 : decode cX9_play 34 = .ok (.ifnull 7, 3) := by decide +kernel
theorem dX9_play_37 : decode cX9_play 37 = .ok (.iconst 1, 1) := by decide +kernel
theorem dX9_play_38 : decode cX9_play 38 = .ok (.goto 4, 3) := by decide +kernel
theorem dX9_play_41 : decode cX9_play 41 = .ok (.iconst 0, 1) := by decide +kernel
theorem dX9_play_42 : decode cX9_play 42 = .ok (.istore 9, 2) := by decide +kernel
theorem dX9_play_44 : decode cX9_play 44 = .ok (.aload 7, 2) := by decide +kernel
theorem dX9_play_46 : decode cX9_play 46 = .ok (.ifnull 16, 3) := by decide +kernel
theorem dX9_play_49 : decode cX9_play 49 = .ok (.iload 9, 2) := by decide +kernel
theorem dX9_play_51 : decode cX9_play 51 = .ok (.ifCond .eq 11, 3) := by decide +kernel
theorem dX9_play_54 : decode cX9_play 54 = .ok (.iload 4, 2) := by decide +kernel
theorem dX9_play_56 : decode cX9_play 56 = .ok (.invokestatic 63, 3) := by decide +kernel
theorem dX9_play_59 : decode cX9_play 59 = .ok (.ifCond .ne 10, 3) := by decide +kernel
theorem dX9_play_62 : decode cX9_play 62 = .ok (.aload_n 0, 1) := by decide +kernel
theorem dX9_play_63 : decode cX9_play 63 = .ok (.iconst (-1), 1) := by decide +kernel
theorem dX9_play_64 : decode cX9_play 64 = .ok (.putfield 53, 3) := by decide +kernel
theorem dX9_play_67 : decode cX9_play 67 = .ok (.iconst (-1), 1) := by decide +kernel
theorem dX9_play_68 : decode cX9_play 68 = .ok (.ireturn, 1) := by decide +kernel
theorem dX9_play_69 : decode cX9_play 69 = .ok (.aload_n 0, 1) := by decide +kernel
theorem dX9_play_70 : decode cX9_play 70 = .ok (.iload 4, 2) := by decide +kernel
theorem dX9_play_72 : decode cX9_play 72 = .ok (.invokevirtual 67, 3) := by decide +kernel
theorem dX9_play_75 : decode cX9_play 75 = .ok (.astore 10, 2) := by decide +kernel
theorem dX9_play_77 : decode cX9_play 77 = .ok (.aload_n 0, 1) := by decide +kernel
theorem dX9_play_78 : decode cX9_play 78 = .ok (.aload 10, 2) := by decide +kernel
theorem dX9_play_80 : decode cX9_play 80 = .ok (.iload_n 2, 1) := by decide +kernel
theorem dX9_play_81 : decode cX9_play 81 = .ok (.iload 5, 2) := by decide +kernel
theorem dX9_play_83 : decode cX9_play 83 = .ok (.iload 6, 2) := by decide +kernel
theorem dX9_play_85 : decode cX9_play 85 = .ok (.invokevirtual 123, 3) := by decide +kernel
theorem dX9_play_88 : decode cX9_play 88 = .ok (.istore 11, 2) := by decide +kernel
theorem dX9_play_90 : decode cX9_play 90 = .ok (.iload 11, 2) := by decide +kernel
theorem dX9_play_92 : decode cX9_play 92 = .ok (.ifCond .ne 27, 3) := by decide +kernel
theorem dX9_play_95 : decode cX9_play 95 = .ok (.aload_n 0, 1) := by decide +kernel
theorem dX9_play_96 : decode cX9_play 96 = .ok (.aload 7, 2) := by decide +kernel
theorem dX9_play_98 : decode cX9_play 98 = .ok (.aload 8, 2) := by decide +kernel
theorem dX9_play_100 : decode cX9_play 100 = .ok (.iload 6, 2) := by decide +kernel
theorem dX9_play_102 : decode cX9_play 102 = .ok (.invokevirtual 127, 3) := by decide +kernel
theorem dX9_play_105 : decode cX9_play 105 = .ok (.istore 11, 2) := by decide +kernel
theorem dX9_play_107 : decode cX9_play 107 = .ok (.aload_n 0, 1) := by decide +kernel
theorem dX9_play_108 : decode cX9_play 108 = .ok (.aload 10, 2) := by decide +kernel
theorem dX9_play_110 : decode cX9_play 110 = .ok (.iload 5, 2) := by decide +kernel
theorem dX9_play_112 : decode cX9_play 112 = .ok (.iload 6, 2) := by decide +kernel
theorem dX9_play_114 : decode cX9_play 114 = .ok (.iload 11, 2) := by decide +kernel
theorem dX9_play_116 : decode cX9_play 116 = .ok (.invokevirtual 131, 3) := by decide +kernel
theorem dX9_play_119 : decode cX9_play 119 = .ok (.aload_n 0, 1) := by decide +kernel
theorem dX9_play_120 : decode cX9_play 120 = .ok (.iload 11, 2) := by decide +kernel
theorem dX9_play_122 : decode cX9_play 122 = .ok (.putfield 53, 3) := by decide +kernel
theorem dX9_play_125 : decode cX9_play 125 = .ok (.iload 11, 2) := by decide +kernel
theorem dX9_play_127 : decode cX9_play 127 = .ok (.ifCond .eq 16, 3) := by decide +kernel
theorem dX9_play_130 : decode cX9_play 130 = .ok (.aload_n 0, 1) := by decide +kernel
theorem dX9_play_131 : decode cX9_play 131 = .ok (.dup, 1) := by decide +kernel
theorem dX9_play_132 : decode cX9_play 132 = .ok (.getfield 135, 3) := by decide +kernel
theorem dX9_play_135 : decode cX9_play 135 = .ok (.iconst 1, 1) := by decide +kernel
theorem dX9_play_136 : decode cX9_play 136 = .ok (.iadd, 1) := by decide +kernel
theorem dX9_play_137 : decode cX9_play 137 = .ok (.putfield 135, 3) := by decide +kernel
theorem dX9_play_140 : decode cX9_play 140 = .ok (.iload 11, 2) := by decide +kernel
theorem dX9_play_142 : decode cX9_play 142 = .ok (.ireturn, 1) := by decide +kernel
theorem dX9_play_143 : decode cX9_play 143 = .ok (.aload_n 0, 1) := by decide +kernel
theorem dX9_play_144 : decode cX9_play 144 = .ok (.dup, 1) := by decide +kernel
theorem dX9_play_145 : decode cX9_play 145 = .ok (.getfield 138, 3) := by decide +kernel
theorem dX9_play_148 : decode cX9_play 148 = .ok (.iconst 1, 1) := by decide +kernel
theorem dX9_play_149 : decode cX9_play 149 = .ok (.iadd, 1) := by decide +kernel
theorem dX9_play_150 : decode cX9_play 150 = .ok (.putfield 138, 3) := by decide +kernel
theorem dX9_play_153 : decode cX9_play 153 = .ok (.iload 6, 2) := by decide +kernel
theorem dX9_play_155 : decode cX9_play 155 = .ok (.ireturn, 1) := by decide +kernel
set_option maxRecDepth 20000 in
theorem ggX9_agree_X9_instrumentAt : GoodIn wsX9_agree wsX9_instrumentAt := goodIn_r _ [7, 8, 9, 163, 164, 165, 166, 167, 168, 169, 170, 171, 172, 173] (by decide +kernel) (by decide +kernel)
set_option maxRecDepth 20000 in
theorem gX9_agree_X9_instrumentAt : GoodIn wsX9_agree (wsV RX9 42 RX9 yX9_instrumentAt wsX9_instrumentAt) := goodIn_app (goodIn_of _ (by decide +kernel)) ggX9_agree_X9_instrumentAt
set_option maxRecDepth 20000 in
theorem ggX9_agree_X9_functionAt : GoodIn wsX9_agree wsX9_functionAt := goodIn_r _ [13, 14, 15, 163, 164, 165, 166, 167, 168, 169, 170, 171, 172, 173] (by decide +kernel) (by decide +kernel)
set_option maxRecDepth 20000 in
theorem gX9_agree_X9_functionAt : GoodIn wsX9_agree (wsV RX9 119 RX9 yX9_functionAt wsX9_functionAt) := goodIn_app (goodIn_of _ (by decide +kernel)) ggX9_agree_X9_functionAt
set_option maxRecDepth 20000 in
theorem ggX9_agree_X9_staysAlike : GoodIn wsX9_agree wsX9_staysAlike := goodIn_r _ [18, 19, 20, 21, 22, 23, 24, 25, 26, 27, 28, 29, 30, 31, 32, 33, 34, 35, 36, 37, 38, 39, 40, 41, 42, 43, 44, 45, 46, 47, 48, 49, 50, 51, 52, 53, 54, 55, 56, 57, 58, 59, 60, 61, 62, 63, 64, 65, 66, 67, 68, 69, 70, 71, 72, 73, 74, 75, 76, 77, 78, 79, 80, 81, 82, 83, 84, 85, 86, 87, 88, 89, 90, 91, 92, 93, 94, 95, 96, 97, 98, 99, 100, 101, 102, 103, 104, 105, 106, 107, 108, 109, 110, 111, 112, 113, 114, 115, 116, 117, 128, 129, 130, 131, 132, 133, 134, 135, 136, 137, 138, 139, 140, 141, 142, 143, 144, 145, 146, 147, 148, 149, 150, 151, 152, 153, 154, 155, 156, 157, 158, 159, 160, 161, 162, 174, 175, 176, 177] (by decide +kernel) (by decide +kernel)
set_option maxRecDepth 20000 in
theorem gX9_agree_X9_staysAlike : GoodIn wsX9_agree (va_wsS RX9 145 yX9_staysAlike wsX9_staysAlike) := goodIn_app (goodIn_of _ (by decide +kernel)) ggX9_agree_X9_staysAlike
set_option maxRecDepth 20000 in
theorem ggX9_agree_X5_goBack : GoodIn wsX9_agree wsX5_goBack := goodIn_r _ [122, 27, 123, 128, 129, 130, 131, 132, 133, 134, 135, 136, 137, 138, 139, 140, 141, 142, 143, 144, 145, 146, 147, 148, 149, 150, 151, 152, 153, 154, 155, 156, 157, 158, 159, 160, 161, 162] (by decide +kernel) (by decide +kernel)
set_option maxRecDepth 20000 in
theorem gX9_agree_X5_goBack_u149X0 : GoodIn wsX9_agree (va_wsU RX9 149 RX0 "CallWays2$Instrument" ⟨"CallWays2$Instrument", "goBack", "(ID)V"⟩ yX5_goBack wsX5_goBack) := goodIn_app (goodIn_of _ (by decide +kernel)) ggX9_agree_X5_goBack
set_option maxRecDepth 20000 in
theorem gX9_agree_X5_goBack_u149X2 : GoodIn wsX9_agree (va_wsU RX9 149 RX2 "CallWays2$Instrument" ⟨"CallWays2$Instrument", "goBack", "(ID)V"⟩ yX5_goBack wsX5_goBack) := goodIn_app (goodIn_of _ (by decide +kernel)) ggX9_agree_X5_goBack
set_option maxRecDepth 20000 in
theorem gX9_agree_X5_goBack_u149X4 : GoodIn wsX9_agree (va_wsU RX9 149 RX4 "CallWays2$Instrument" ⟨"CallWays2$Instrument", "goBack", "(ID)V"⟩ yX5_goBack wsX5_goBack) := goodIn_app (goodIn_of _ (by decide +kernel)) ggX9_agree_X5_goBack
set_option maxRecDepth 20000 in
theorem gX9_agree_X5_goBack_u149X6 : GoodIn wsX9_agree (va_wsU RX9 149 RX6 "CallWays2$Instrument" ⟨"CallWays2$Instrument", "goBack", "(ID)V"⟩ yX5_goBack wsX5_goBack) := goodIn_app (goodIn_of _ (by decide +kernel)) ggX9_agree_X5_goBack
set_option maxRecDepth 20000 in
theorem gX9_agree_X5_goBack_u149X8 : GoodIn wsX9_agree (va_wsU RX9 149 RX8 "CallWays2$Instrument" ⟨"CallWays2$Instrument", "goBack", "(ID)V"⟩ yX5_goBack wsX5_goBack) := goodIn_app (goodIn_of _ (by decide +kernel)) ggX9_agree_X5_goBack
theorem dX9_agree_0 : decode cX9_agree 0 = .ok (.aload_n 0, 1) := by decide +kernel
theorem dX9_agree_1 : decode cX9_agree 1 = .ok (.iload_n 1, 1) := by decide +kernel
theorem dX9_agree_2 : decode cX9_agree 2 = .ok (.invokevirtual 42, 3) := by decide +kernel
theorem dX9_agree_5 : decode cX9_agree 5 = .ok (.astore 4, 2) := by decide +kernel
theorem dX9_agree_7 : decode cX9_agree 7 = .ok (.aload_n 0, 1) := by decide +kernel
theorem dX9_agree_8 : decode cX9_agree 8 = .ok (.iload_n 2, 1) := by decide +kernel
theorem dX9_agree_9 : decode cX9_agree 9 = .ok (.invokevirtual 119, 3) := by decide +kernel
theorem dX9_agree_12 : decode cX9_agree 12 = .ok (.astore 5, 2) := by decide +kernel
theorem dX9_agree_14 : decode cX9_agree 14 = .ok (.aload 4, 2) := by decide +kernel
theorem dX9_agree_16 : decode cX9_agree 16 = .ok (.ifnull 18, 3) := by decide +kernel
theorem dX9_agree_19 : decode cX9_agree 19 = .ok (.aload 5, 2) := by decide +kernel
theorem dX9_agree_21 : decode cX9_agree 21 = .ok (.ifnull 13, 3) := by decide +kernel
theorem dX9_agree_24 : decode cX9_agree 24 = .ok (.iload_n 3, 1) := by decide +kernel
theorem dX9_agree_25 : decode cX9_agree 25 = .ok (.ifCond .lt 9, 3) := by decide +kernel
theorem dX9_agree_28 : decode cX9_agree 28 = .ok (.iload_n 3, 1) := by decide +kernel
theorem dX9_agree_29 : decode cX9_agree 29 = .ok (.bipush 40, 2) := by decide +kernel
theorem dX9_agree_31 : decode cX9_agree 31 = .ok (.if_icmp .le 5, 3) := by decide +kernel
theorem dX9_agree_34 : decode cX9_agree 34 = .ok (.iconst 0, 1) := by decide +kernel
theorem dX9_agree_35 : decode cX9_agree 35 = .ok (.ireturn, 1) := by decide +kernel
theorem dX9_agree_36 : decode cX9_agree 36 = .ok (.aload 4, 2) := by decide +kernel
theorem dX9_agree_38 : decode cX9_agree 38 = .ok (.getfield 60, 3) := by decide +kernel
theorem dX9_agree_41 : decode cX9_agree 41 = .ok (.istore 6, 2) := by decide +kernel
theorem dX9_agree_43 : decode cX9_agree 43 = .ok (.aload 4, 2) := by decide +kernel
theorem dX9_agree_45 : decode cX9_agree 45 = .ok (.getfield 141, 3) := by decide +kernel
theorem dX9_agree_48 : decode cX9_agree 48 = .ok (.dstore 7, 2) := by decide +kernel
theorem dX9_agree_50 : decode cX9_agree 50 = .ok (.aload 4, 2) := by decide +kernel
theorem dX9_agree_52 : decode cX9_agree 52 = .ok (.aload 5, 2) := by decide +kernel
theorem dX9_agree_54 : decode cX9_agree 54 = .ok (.iload_n 3, 1) := by decide +kernel
theorem dX9_agree_55 : decode cX9_agree 55 = .ok (.invokestatic 145, 3) := by decide +kernel
theorem dX9_agree_58 : decode cX9_agree 58 = .ok (.istore 9, 2) := by decide +kernel
theorem dX9_agree_60 : decode cX9_agree 60 = .ok (.aload 4, 2) := by decide +kernel
theorem dX9_agree_62 : decode cX9_agree 62 = .ok (.iload 6, 2) := by decide +kernel
theorem dX9_agree_64 : decode cX9_agree 64 = .ok (.dload 7, 2) := by decide +kernel
theorem dX9_agree_66 : decode cX9_agree 66 = .ok (.invokevirtual 149, 3) := by decide +kernel
theorem dX9_agree_69 : decode cX9_agree 69 = .ok (.iload 9, 2) := by decide +kernel
theorem dX9_agree_71 : decode cX9_agree 71 = .ok (.ireturn, 1) := by decide +kernel
set_option maxRecDepth 20000 in
theorem ggX9_find_X3_refuses : GoodIn wsX9_find wsX3_refuses := goodIn_r _ [7, 8, 9, 25, 26] (by decide +kernel) (by decide +kernel)
set_option maxRecDepth 20000 in
theorem gX9_find_X3_refuses : GoodIn wsX9_find (wsV RX9 152 RX3 yX3_refuses wsX3_refuses) := goodIn_app (goodIn_of _ (by decide +kernel)) ggX9_find_X3_refuses
set_option maxRecDepth 20000 in
theorem ggX9_find_X3_pass : GoodIn wsX9_find wsX3_pass := goodIn_r _ [13, 8, 9, 25, 26] (by decide +kernel) (by decide +kernel)
set_option maxRecDepth 20000 in
theorem gX9_find_X3_pass : GoodIn wsX9_find (wsV RX9 156 RX3 yX3_pass wsX3_pass) := goodIn_app (goodIn_of _ (by decide +kernel)) ggX9_find_X3_pass
theorem dX9_find_0 : decode cX9_find 0 = .ok (.iconst 0, 1) := by decide +kernel
theorem dX9_find_1 : decode cX9_find 1 = .ok (.istore_n 3, 1) := by decide +kernel
theorem dX9_find_2 : decode cX9_find 2 = .ok (.iload_n 3, 1) := by decide +kernel
theorem dX9_find_3 : decode cX9_find 3 = .ok (.aload_n 0, 1) := by decide +kernel
theorem dX9_find_4 : decode cX9_find 4 = .ok (.getfield 113, 3) := by decide +kernel
theorem dX9_find_7 : decode cX9_find 7 = .ok (.if_icmp .ge 42, 3) := by decide +kernel
theorem dX9_find_10 : decode cX9_find 10 = .ok (.aload_n 0, 1) := by decide +kernel
theorem dX9_find_11 : decode cX9_find 11 = .ok (.getfield 23, 3) := by decide +kernel
theorem dX9_find_14 : decode cX9_find 14 = .ok (.iload_n 3, 1) := by decide +kernel
theorem dX9_find_15 : decode cX9_find 15 = .ok (.aaload, 1) := by decide +kernel
theorem dX9_find_16 : decode cX9_find 16 = .ok (.iload_n 1, 1) := by decide +kernel
theorem dX9_find_17 : decode cX9_find 17 = .ok (.i2d, 1) := by decide +kernel
theorem dX9_find_18 : decode cX9_find 18 = .ok (.invokevirtual 152, 3) := by decide +kernel
theorem dX9_find_21 : decode cX9_find 21 = .ok (.ifCond .ne 22, 3) := by decide +kernel
theorem dX9_find_24 : decode cX9_find 24 = .ok (.aload_n 0, 1) := by decide +kernel
theorem dX9_find_25 : decode cX9_find 25 = .ok (.getfield 23, 3) := by decide +kernel
theorem dX9_find_28 : decode cX9_find 28 = .ok (.iload_n 3, 1) := by decide +kernel
theorem dX9_find_29 : decode cX9_find 29 = .ok (.aaload, 1) := by decide +kernel
theorem dX9_find_30 : decode cX9_find 30 = .ok (.iload_n 1, 1) := by decide +kernel
theorem dX9_find_31 : decode cX9_find 31 = .ok (.i2d, 1) := by decide +kernel
theorem dX9_find_32 : decode cX9_find 32 = .ok (.invokevirtual 156, 3) := by decide +kernel
theorem dX9_find_35 : decode cX9_find 35 = .ok (.iload_n 2, 1) := by decide +kernel
theorem dX9_find_36 : decode cX9_find 36 = .ok (.i2d, 1) := by decide +kernel
theorem dX9_find_37 : decode cX9_find 37 = .ok (.dcmp .l, 1) := by decide +kernel
theorem dX9_find_38 : decode cX9_find 38 = .ok (.ifCond .ne 5, 3) := by decide +kernel
theorem dX9_find_41 : decode cX9_find 41 = .ok (.iload_n 3, 1) := by decide +kernel
theorem dX9_find_42 : decode cX9_find 42 = .ok (.ireturn, 1) := by decide +kernel
theorem dX9_find_43 : decode cX9_find 43 = .ok (.iinc 3 1, 3) := by decide +kernel
theorem dX9_find_46 : decode cX9_find 46 = .ok (.goto (-44), 3) := by decide +kernel
theorem dX9_find_49 : decode cX9_find 49 = .ok (.iconst (-1), 1) := by decide +kernel
theorem dX9_find_50 : decode cX9_find 50 = .ok (.ireturn, 1) := by decide +kernel
set_option maxRecDepth 20000 in
theorem ggX9_next_X9_instrumentAt : GoodIn wsX9_next wsX9_instrumentAt := goodIn_r _ [9, 10, 11, 122, 123, 124, 125, 126, 127, 128, 129, 130, 131, 132] (by decide +kernel) (by decide +kernel)
set_option maxRecDepth 20000 in
theorem gX9_next_X9_instrumentAt : GoodIn wsX9_next (wsV RX9 42 RX9 yX9_instrumentAt wsX9_instrumentAt) := goodIn_app (goodIn_of _ (by decide +kernel)) ggX9_next_X9_instrumentAt
set_option maxRecDepth 20000 in
theorem ggX9_next_X5_ask : GoodIn wsX9_next wsX5_ask := goodIn_r _ [17, 18, 19, 20, 21, 22, 23, 24, 25, 26, 27, 28, 29, 30, 31, 32, 33, 34, 16, 35, 36, 37, 38, 39, 40, 41, 42, 43, 44, 45, 46, 47, 48, 49, 50, 51, 52, 53, 54, 55, 56, 57, 58, 59, 60, 61, 62, 63, 64, 65, 66, 67, 68, 69, 70, 71, 72, 73, 74, 75, 76, 77, 78, 79, 80, 81, 82, 83, 84, 85, 86, 87, 88, 89, 90, 91, 92, 93, 94, 133, 134, 135, 136, 137, 138, 139, 140, 141, 142, 143, 144, 145, 146, 147, 148, 149, 150, 151, 152, 153, 154, 155, 156, 157, 158, 159, 160, 161, 162, 163, 164, 165, 166, 167, 168, 169] (by decide +kernel) (by decide +kernel)
set_option maxRecDepth 20000 in
theorem gX9_next_X5_ask_u160X0 : GoodIn wsX9_next (va_wsU RX9 160 RX0 "CallWays2$Instrument" ⟨"CallWays2$Instrument", "ask", "()D"⟩ yX5_ask wsX5_ask) := goodIn_app (goodIn_of _ (by decide +kernel)) ggX9_next_X5_ask
set_option maxRecDepth 20000 in
theorem gX9_next_X5_ask_u160X2 : GoodIn wsX9_next (va_wsU RX9 160 RX2 "CallWays2$Instrument" ⟨"CallWays2$Instrument", "ask", "()D"⟩ yX5_ask wsX5_ask) := goodIn_app (goodIn_of _ (by decide +kernel)) ggX9_next_X5_ask
set_option maxRecDepth 20000 in
theorem gX9_next_X5_ask_u160X4 : GoodIn wsX9_next (va_wsU RX9 160 RX4 "CallWays2$Instrument" ⟨"CallWays2$Instrument", "ask", "()D"⟩ yX5_ask wsX5_ask) := goodIn_app (goodIn_of _ (by decide +kernel)) ggX9_next_X5_ask
set_option maxRecDepth 20000 in
theorem gX9_next_X5_ask_u160X6 : GoodIn wsX9_next (va_wsU RX9 160 RX6 "CallWays2$Instrument" ⟨"CallWays2$Instrument", "ask", "()D"⟩ yX5_ask wsX5_ask) := goodIn_app (goodIn_of _ (by decide +kernel)) ggX9_next_X5_ask
set_option maxRecDepth 20000 in
theorem gX9_next_X5_ask_u160X8 : GoodIn wsX9_next (va_wsU RX9 160 RX8 "CallWays2$Instrument" ⟨"CallWays2$Instrument", "ask", "()D"⟩ yX5_ask wsX5_ask) := goodIn_app (goodIn_of _ (by decide +kernel)) ggX9_next_X5_ask
set_option maxRecDepth 20000 in
theorem ggX9_next_X5_goBack : GoodIn wsX9_next wsX5_goBack := goodIn_r _ [103, 19, 104, 133, 134, 135, 136, 137, 138, 139, 140, 141, 142, 143, 144, 145, 146, 147, 148, 149, 150, 151, 152, 153, 154, 155, 156, 157, 158, 159, 160, 161, 162, 163, 164, 165, 166, 167] (by decide +kernel) (by decide +kernel)
set_option maxRecDepth 20000 in
theorem gX9_next_X5_goBack_u149X0 : GoodIn wsX9_next (va_wsU RX9 149 RX0 "CallWays2$Instrument" ⟨"CallWays2$Instrument", "goBack", "(ID)V"⟩ yX5_goBack wsX5_goBack) := goodIn_app (goodIn_of _ (by decide +kernel)) ggX9_next_X5_goBack
set_option maxRecDepth 20000 in
theorem gX9_next_X5_goBack_u149X2 : GoodIn wsX9_next (va_wsU RX9 149 RX2 "CallWays2$Instrument" ⟨"CallWays2$Instrument", "goBack", "(ID)V"⟩ yX5_goBack wsX5_goBack) := goodIn_app (goodIn_of _ (by decide +kernel)) ggX9_next_X5_goBack
set_option maxRecDepth 20000 in
theorem gX9_next_X5_goBack_u149X4 : GoodIn wsX9_next (va_wsU RX9 149 RX4 "CallWays2$Instrument" ⟨"CallWays2$Instrument", "goBack", "(ID)V"⟩ yX5_goBack wsX5_goBack) := goodIn_app (goodIn_of _ (by decide +kernel)) ggX9_next_X5_goBack
set_option maxRecDepth 20000 in
theorem gX9_next_X5_goBack_u149X6 : GoodIn wsX9_next (va_wsU RX9 149 RX6 "CallWays2$Instrument" ⟨"CallWays2$Instrument", "goBack", "(ID)V"⟩ yX5_goBack wsX5_goBack) := goodIn_app (goodIn_of _ (by decide +kernel)) ggX9_next_X5_goBack
set_option maxRecDepth 20000 in
theorem gX9_next_X5_goBack_u149X8 : GoodIn wsX9_next (va_wsU RX9 149 RX8 "CallWays2$Instrument" ⟨"CallWays2$Instrument", "goBack", "(ID)V"⟩ yX5_goBack wsX5_goBack) := goodIn_app (goodIn_of _ (by decide +kernel)) ggX9_next_X5_goBack
set_option maxRecDepth 20000 in
theorem ggX9_next_X1_ofDouble : GoodIn wsX9_next wsX1_ofDouble := goodIn_r _ [112, 113, 114, 115, 111, 116, 117, 118, 119, 120, 121] (by decide +kernel) (by decide +kernel)
set_option maxRecDepth 20000 in
theorem gX9_next_X1_ofDouble : GoodIn wsX9_next (va_wsS RX9 167 yX1_ofDouble wsX1_ofDouble) := goodIn_app (goodIn_of _ (by decide +kernel)) ggX9_next_X1_ofDouble
theorem dX9_next_0 : decode cX9_next 0 = .ok (.aload_n 0, 1) := by decide +kernel
theorem dX9_next_1 : decode cX9_next 1 = .ok (.iload_n 1, 1) := by decide +kernel
theorem dX9_next_2 : decode cX9_next 2 = .ok (.invokevirtual 42, 3) := by decide +kernel
theorem dX9_next_5 : decode cX9_next 5 = .ok (.astore_n 2, 1) := by decide +kernel
theorem dX9_next_6 : decode cX9_next 6 = .ok (.aload_n 2, 1) := by decide +kernel
theorem dX9_next_7 : decode cX9_next 7 = .ok (.ifnonnull 10, 3) := by decide +kernel
theorem dX9_next_10 : decode cX9_next 10 = .ok (.aload_n 0, 1) := by decide +kernel
theorem dX9_next_11 : decode cX9_next 11 = .ok (.iconst (-1), 1) := by decide +kernel
theorem dX9_next_12 : decode cX9_next 12 = .ok (.putfield 53, 3) := by decide +kernel
theorem dX9_next_15 : decode cX9_next 15 = .ok (.lconst 0, 1) := by decide +kernel
theorem dX9_next_16 : decode cX9_next 16 = .ok (.lreturn, 1) := by decide +kernel
theorem dX9_next_17 : decode cX9_next 17 = .ok (.aload_n 2, 1) := by decide +kernel
theorem dX9_next_18 : decode cX9_next 18 = .ok (.getfield 60, 3) := by decide +kernel
theorem dX9_next_21 : decode cX9_next 21 = .ok (.istore_n 3, 1) := by decide +kernel
theorem dX9_next_22 : decode cX9_next 22 = .ok (.aload_n 2, 1) := by decide +kernel
theorem dX9_next_23 : decode cX9_next 23 = .ok (.getfield 141, 3) := by decide +kernel
theorem dX9_next_26 : decode cX9_next 26 = .ok (.dstore 4, 2) := by decide +kernel
theorem dX9_next_28 : decode cX9_next 28 = .ok (.aload_n 2, 1) := by decide +kernel
theorem dX9_next_29 : decode cX9_next 29 = .ok (.invokevirtual 160, 3) := by decide +kernel
theorem dX9_next_32 : decode cX9_next 32 = .ok (.dstore 6, 2) := by decide +kernel
theorem dX9_next_34 : decode cX9_next 34 = .ok (.aload_n 2, 1) := by decide +kernel
theorem dX9_next_35 : decode cX9_next 35 = .ok (.iload_n 3, 1) := by decide +kernel
theorem dX9_next_36 : decode cX9_next 36 = .ok (.dload 4, 2) := by decide +kernel
theorem dX9_next_38 : decode cX9_next 38 = .ok (.invokevirtual 149, 3) := by decide +kernel
theorem dX9_next_41 : decode cX9_next 41 = .ok (.aload_n 0, 1) := by decide +kernel
theorem dX9_next_42 : decode cX9_next 42 = .ok (.aload_n 2, 1) := by decide +kernel
theorem dX9_next_43 : decode cX9_next 43 = .ok (.getfield 164, 3) := by decide +kernel
theorem dX9_next_46 : decode cX9_next 46 = .ok (.putfield 53, 3) := by decide +kernel
theorem dX9_next_49 : decode cX9_next 49 = .ok (.aload_n 0, 1) := by decide +kernel
theorem dX9_next_50 : decode cX9_next 50 = .ok (.getfield 53, 3) := by decide +kernel
theorem dX9_next_53 : decode cX9_next 53 = .ok (.ifCond .ne 11, 3) := by decide +kernel
theorem dX9_next_56 : decode cX9_next 56 = .ok (.dload 6, 2) := by decide +kernel
theorem dX9_next_58 : decode cX9_next 58 = .ok (.invokestatic 167, 3) := by decide +kernel
theorem dX9_next_61 : decode cX9_next 61 = .ok (.goto 4, 3) := by decide +kernel
theorem dX9_next_64 : decode cX9_next 64 = .ok (.lconst 0, 1) := by decide +kernel
theorem dX9_next_65 : decode cX9_next 65 = .ok (.lreturn, 1) := by decide +kernel
theorem dX9_state_0 : decode cX9_state 0 = .ok (.aload_n 0, 1) := by decide +kernel
theorem dX9_state_1 : decode cX9_state 1 = .ok (.getfield 53, 3) := by decide +kernel
theorem dX9_state_4 : decode cX9_state 4 = .ok (.ireturn, 1) := by decide +kernel
theorem dX9_count_0 : decode cX9_count 0 = .ok (.iload_n 1, 1) := by decide +kernel
theorem dX9_count_1 : decode cX9_count 1 = .ok (.tableswitch 60 0 4 #[35, 40, 45, 50, 55], 35) := by decide +kernel
theorem dX9_count_36 : decode cX9_count 36 = .ok (.aload_n 0, 1) := by decide +kernel
theorem dX9_count_37 : decode cX9_count 37 = .ok (.getfield 35, 3) := by decide +kernel
theorem dX9_count_40 : decode cX9_count 40 = .ok (.ireturn, 1) := by decide +kernel
theorem dX9_count_41 : decode cX9_count 41 = .ok (.aload_n 0, 1) := by decide +kernel
theorem dX9_count_42 : decode cX9_count 42 = .ok (.getfield 113, 3) := by decide +kernel
theorem dX9_count_45 : decode cX9_count 45 = .ok (.ireturn, 1) := by decide +kernel
theorem dX9_count_46 : decode cX9_count 46 = .ok (.aload_n 0, 1) := by decide +kernel
theorem dX9_count_47 : decode cX9_count 47 = .ok (.getfield 138, 3) := by decide +kernel
theorem dX9_count_50 : decode cX9_count 50 = .ok (.ireturn, 1) := by decide +kernel
theorem dX9_count_51 : decode cX9_count 51 = .ok (.aload_n 0, 1) := by decide +kernel
theorem dX9_count_52 : decode cX9_count 52 = .ok (.getfield 135, 3) := by decide +kernel
theorem dX9_count_55 : decode cX9_count 55 = .ok (.ireturn, 1) := by decide +kernel
theorem dX9_count_56 : decode cX9_count 56 = .ok (.aload_n 0, 1) := by decide +kernel
theorem dX9_count_57 : decode cX9_count 57 = .ok (.getfield 173, 3) := by decide +kernel
theorem dX9_count_60 : decode cX9_count 60 = .ok (.ireturn, 1) := by decide +kernel
theorem dX9_count_61 : decode cX9_count 61 = .ok (.iconst (-1), 1) := by decide +kernel
theorem dX9_count_62 : decode cX9_count 62 = .ok (.ireturn, 1) := by decide +kernel
theorem dX9_isBlock_0 : decode cX9_isBlock 0 = .ok (.iload_n 0, 1) := by decide +kernel
theorem dX9_isBlock_1 : decode cX9_isBlock 1 = .ok (.ifCond .lt 13, 3) := by decide +kernel
theorem dX9_isBlock_4 : decode cX9_isBlock 4 = .ok (.iload_n 0, 1) := by decide +kernel
theorem dX9_isBlock_5 : decode cX9_isBlock 5 = .ok (.bipush 10, 2) := by decide +kernel
theorem dX9_isBlock_7 : decode cX9_isBlock 7 = .ok (.if_icmp .ge 7, 3) := by decide +kernel
theorem dX9_isBlock_10 : decode cX9_isBlock 10 = .ok (.iconst 1, 1) := by decide +kernel
theorem dX9_isBlock_11 : decode cX9_isBlock 11 = .ok (.goto 4, 3) := by decide +kernel
theorem dX9_isBlock_14 : decode cX9_isBlock 14 = .ok (.iconst 0, 1) := by decide +kernel
theorem dX9_isBlock_15 : decode cX9_isBlock 15 = .ok (.ireturn, 1) := by decide +kernel
theorem dX9_isLane_0 : decode cX9_isLane 0 = .ok (.iload_n 0, 1) := by decide +kernel
theorem dX9_isLane_1 : decode cX9_isLane 1 = .ok (.ifCond .lt 12, 3) := by decide +kernel
theorem dX9_isLane_4 : decode cX9_isLane 4 = .ok (.iload_n 0, 1) := by decide +kernel
theorem dX9_isLane_5 : decode cX9_isLane 5 = .ok (.iconst 3, 1) := by decide +kernel
theorem dX9_isLane_6 : decode cX9_isLane 6 = .ok (.if_icmp .gt 7, 3) := by decide +kernel
theorem dX9_isLane_9 : decode cX9_isLane 9 = .ok (.iconst 1, 1) := by decide +kernel
theorem dX9_isLane_10 : decode cX9_isLane 10 = .ok (.goto 4, 3) := by decide +kernel
theorem dX9_isLane_13 : decode cX9_isLane 13 = .ok (.iconst 0, 1) := by decide +kernel
theorem dX9_isLane_14 : decode cX9_isLane 14 = .ok (.ireturn, 1) := by decide +kernel
theorem dX9_instrumentAt_0 : decode cX9_instrumentAt 0 = .ok (.iload_n 1, 1) := by decide +kernel
theorem dX9_instrumentAt_1 : decode cX9_instrumentAt 1 = .ok (.ifCond .lt 20, 3) := by decide +kernel
theorem dX9_instrumentAt_4 : decode cX9_instrumentAt 4 = .ok (.iload_n 1, 1) := by decide +kernel
theorem dX9_instrumentAt_5 : decode cX9_instrumentAt 5 = .ok (.aload_n 0, 1) := by decide +kernel
theorem dX9_instrumentAt_6 : decode cX9_instrumentAt 6 = .ok (.getfield 35, 3) := by decide +kernel
theorem dX9_instrumentAt_9 : decode cX9_instrumentAt 9 = .ok (.if_icmp .ge 12, 3) := by decide +kernel
theorem dX9_instrumentAt_12 : decode cX9_instrumentAt 12 = .ok (.aload_n 0, 1) := by decide +kernel
theorem dX9_instrumentAt_13 : decode cX9_instrumentAt 13 = .ok (.getfield 11, 3) := by decide +kernel
theorem dX9_instrumentAt_16 : decode cX9_instrumentAt 16 = .ok (.iload_n 1, 1) := by decide +kernel
theorem dX9_instrumentAt_17 : decode cX9_instrumentAt 17 = .ok (.aaload, 1) := by decide +kernel
theorem dX9_instrumentAt_18 : decode cX9_instrumentAt 18 = .ok (.goto 4, 3) := by decide +kernel
theorem dX9_instrumentAt_21 : decode cX9_instrumentAt 21 = .ok (.aconst_null, 1) := by decide +kernel
theorem dX9_instrumentAt_22 : decode cX9_instrumentAt 22 = .ok (.areturn, 1) := by decide +kernel
theorem dX9_functionAt_0 : decode cX9_functionAt 0 = .ok (.iload_n 1, 1) := by decide +kernel
theorem dX9_functionAt_1 : decode cX9_functionAt 1 = .ok (.ifCond .lt 20, 3) := by decide +kernel
theorem dX9_functionAt_4 : decode cX9_functionAt 4 = .ok (.iload_n 1, 1) := by decide +kernel
theorem dX9_functionAt_5 : decode cX9_functionAt 5 = .ok (.aload_n 0, 1) := by decide +kernel
theorem dX9_functionAt_6 : decode cX9_functionAt 6 = .ok (.getfield 113, 3) := by decide +kernel
theorem dX9_functionAt_9 : decode cX9_functionAt 9 = .ok (.if_icmp .ge 12, 3) := by decide +kernel
theorem dX9_functionAt_12 : decode cX9_functionAt 12 = .ok (.aload_n 0, 1) := by decide +kernel
theorem dX9_functionAt_13 : decode cX9_functionAt 13 = .ok (.getfield 23, 3) := by decide +kernel
theorem dX9_functionAt_16 : decode cX9_functionAt 16 = .ok (.iload_n 1, 1) := by decide +kernel
theorem dX9_functionAt_17 : decode cX9_functionAt 17 = .ok (.aaload, 1) := by decide +kernel
theorem dX9_functionAt_18 : decode cX9_functionAt 18 = .ok (.goto 4, 3) := by decide +kernel
theorem dX9_functionAt_21 : decode cX9_functionAt 21 = .ok (.aconst_null, 1) := by decide +kernel
theorem dX9_functionAt_22 : decode cX9_functionAt 22 = .ok (.areturn, 1) := by decide +kernel
set_option maxRecDepth 20000 in
theorem ggX9_heldBy_X9_isBlock : GoodIn wsX9_heldBy wsX9_isBlock := goodIn_r _ [5] (by decide +kernel) (by decide +kernel)
set_option maxRecDepth 20000 in
theorem gX9_heldBy_X9_isBlock : GoodIn wsX9_heldBy (va_wsS RX9 63 yX9_isBlock wsX9_isBlock) := goodIn_app (goodIn_of _ (by decide +kernel)) ggX9_heldBy_X9_isBlock
theorem dX9_heldBy_0 : decode cX9_heldBy 0 = .ok (.iload_n 1, 1) := by decide +kernel
theorem dX9_heldBy_1 : decode cX9_heldBy 1 = .ok (.invokestatic 63, 3) := by decide +kernel
theorem dX9_heldBy_4 : decode cX9_heldBy 4 = .ok (.ifCond .eq 12, 3) := by decide +kernel
theorem dX9_heldBy_7 : decode cX9_heldBy 7 = .ok (.aload_n 0, 1) := by decide +kernel
theorem dX9_heldBy_8 : decode cX9_heldBy 8 = .ok (.getfield 17, 3) := by decide +kernel
theorem dX9_heldBy_11 : decode cX9_heldBy 11 = .ok (.iload_n 1, 1) := by decide +kernel
theorem dX9_heldBy_12 : decode cX9_heldBy 12 = .ok (.aaload, 1) := by decide +kernel
theorem dX9_heldBy_13 : decode cX9_heldBy 13 = .ok (.goto 4, 3) := by decide +kernel
theorem dX9_heldBy_16 : decode cX9_heldBy 16 = .ok (.aconst_null, 1) := by decide +kernel
theorem dX9_heldBy_17 : decode cX9_heldBy 17 = .ok (.areturn, 1) := by decide +kernel
set_option maxRecDepth 20000 in
theorem ggX9_newInstrument_X4_init : GoodIn wsX9_newInstrument wsX4_init := goodIn_r _ [17, 18, 15, 19, 20, 21, 22, 23, 24, 25, 26, 27, 48, 49, 50, 51, 52, 53, 54, 41, 42, 43, 44, 45, 46, 47, 34, 35, 36, 37, 38, 39, 40, 55, 56, 57, 58, 59, 60, 61, 62, 63, 64, 65, 66, 67, 68] (by decide +kernel) (by decide +kernel)
set_option maxRecDepth 20000 in
theorem gX9_newInstrument_X4_init_n178 : GoodIn wsX9_newInstrument (wsX4_init) := ggX9_newInstrument_X4_init
set_option maxRecDepth 20000 in
theorem ggX9_newInstrument_X2_init : GoodIn wsX9_newInstrument wsX2_init := goodIn_r _ [29, 20, 21, 22, 23, 24, 25, 26, 27, 48, 49, 50, 51, 52, 53, 54, 41, 42, 43, 44, 45, 46, 47, 34, 35, 36, 37, 38, 39, 40, 55, 56, 57, 58, 59, 60, 61, 62, 63, 64, 65, 66, 67, 68] (by decide +kernel) (by decide +kernel)
set_option maxRecDepth 20000 in
theorem gX9_newInstrument_X2_init_n181 : GoodIn wsX9_newInstrument (wsX2_init) := ggX9_newInstrument_X2_init
set_option maxRecDepth 20000 in
theorem ggX9_newInstrument_X0_init : GoodIn wsX9_newInstrument wsX0_init := goodIn_r _ [31, 28, 6, 29, 20, 21, 22, 23, 24, 25, 26, 27, 48, 49, 50, 51, 52, 53, 54, 41, 42, 43, 44, 45, 46, 47, 34, 35, 36, 37, 38, 39, 40, 55, 56, 57, 58, 59, 60, 61, 62, 63, 64, 65, 66, 67, 68] (by decide +kernel) (by decide +kernel)
set_option maxRecDepth 20000 in
theorem gX9_newInstrument_X0_init_n184 : GoodIn wsX9_newInstrument (wsX0_init) := ggX9_newInstrument_X0_init
set_option maxRecDepth 20000 in
theorem ggX9_newInstrument_X6_init : GoodIn wsX9_newInstrument wsX6_init := goodIn_r _ [33, 20, 21, 22, 23, 24, 25, 26, 27, 48, 49, 50, 51, 52, 53, 54, 41, 42, 43, 44, 45, 46, 47, 34, 35, 36, 37, 38, 39, 40, 55, 56, 57, 58, 59, 60, 61, 62, 63, 64, 65, 66, 67, 68] (by decide +kernel) (by decide +kernel)
set_option maxRecDepth 20000 in
theorem gX9_newInstrument_X6_init_n187 : GoodIn wsX9_newInstrument (wsX6_init) := ggX9_newInstrument_X6_init
set_option maxRecDepth 20000 in
theorem ggX9_newInstrument_X8_init : GoodIn wsX9_newInstrument wsX8_init := goodIn_r _ [19, 20, 21, 22, 23, 24, 25, 26, 27, 48, 49, 50, 51, 52, 53, 54, 41, 42, 43, 44, 45, 46, 47, 34, 35, 36, 37, 38, 39, 40, 55, 56, 57, 58, 59, 60, 61, 62, 63, 64, 65, 66, 67, 68] (by decide +kernel) (by decide +kernel)
set_option maxRecDepth 20000 in
theorem gX9_newInstrument_X8_init_n190 : GoodIn wsX9_newInstrument (wsX8_init) := ggX9_newInstrument_X8_init
theorem dX9_newInstrument_0 : decode cX9_newInstrument 0 = .ok (.iload_n 0, 1) := by decide +kernel
theorem dX9_newInstrument_1 : decode cX9_newInstrument 1 = .ok (.tableswitch 63 1 4 #[31, 39, 47, 55], 31) := by decide +kernel
theorem dX9_newInstrument_32 : decode cX9_newInstrument 32 = .ok (.new 176, 3) := by decide +kernel
theorem dX9_newInstrument_35 : decode cX9_newInstrument 35 = .ok (.dup, 1) := by decide +kernel
theorem dX9_newInstrument_36 : decode cX9_newInstrument 36 = .ok (.invokespecial 178, 3) := by decide +kernel
theorem dX9_newInstrument_39 : decode cX9_newInstrument 39 = .ok (.areturn, 1) := by decide +kernel
theorem dX9_newInstrument_40 : decode cX9_newInstrument 40 = .ok (.new 179, 3) := by decide +kernel
theorem dX9_newInstrument_43 : decode cX9_newInstrument 43 = .ok (.dup, 1) := by decide +kernel
theorem dX9_newInstrument_44 : decode cX9_newInstrument 44 = .ok (.invokespecial 181, 3) := by decide +kernel
theorem dX9_newInstrument_47 : decode cX9_newInstrument 47 = .ok (.areturn, 1) := by decide +kernel
theorem dX9_newInstrument_48 : decode cX9_newInstrument 48 = .ok (.new 182, 3) := by decide +kernel
theorem dX9_newInstrument_51 : decode cX9_newInstrument 51 = .ok (.dup, 1) := by decide +kernel
theorem dX9_newInstrument_52 : decode cX9_newInstrument 52 = .ok (.invokespecial 184, 3) := by decide +kernel
theorem dX9_newInstrument_55 : decode cX9_newInstrument 55 = .ok (.areturn, 1) := by decide +kernel
theorem dX9_newInstrument_56 : decode cX9_newInstrument 56 = .ok (.new 185, 3) := by decide +kernel
theorem dX9_newInstrument_59 : decode cX9_newInstrument 59 = .ok (.dup, 1) := by decide +kernel
theorem dX9_newInstrument_60 : decode cX9_newInstrument 60 = .ok (.invokespecial 187, 3) := by decide +kernel
theorem dX9_newInstrument_63 : decode cX9_newInstrument 63 = .ok (.areturn, 1) := by decide +kernel
theorem dX9_newInstrument_64 : decode cX9_newInstrument 64 = .ok (.new 188, 3) := by decide +kernel
theorem dX9_newInstrument_67 : decode cX9_newInstrument 67 = .ok (.dup, 1) := by decide +kernel
theorem dX9_newInstrument_68 : decode cX9_newInstrument 68 = .ok (.invokespecial 190, 3) := by decide +kernel
theorem dX9_newInstrument_71 : decode cX9_newInstrument 71 = .ok (.areturn, 1) := by decide +kernel
set_option maxRecDepth 20000 in
theorem ggX9_lentOrTwin_X7_twin : GoodIn wsX9_lentOrTwin wsX7_twin := goodIn_r _ [5, 6, 7, 4, 8, 9, 10, 11, 12, 13, 14, 15, 16, 17, 18, 19, 20, 21, 22, 23] (by decide +kernel) (by decide +kernel)
set_option maxRecDepth 20000 in
theorem gX9_lentOrTwin_X7_twin : GoodIn wsX9_lentOrTwin (wsV RX9 191 RX7 yX7_twin wsX7_twin) := goodIn_app (goodIn_of _ (by decide +kernel)) ggX9_lentOrTwin_X7_twin
theorem dX9_lentOrTwin_0 : decode cX9_lentOrTwin 0 = .ok (.aload_n 0, 1) := by decide +kernel
theorem dX9_lentOrTwin_1 : decode cX9_lentOrTwin 1 = .ok (.ifnull 7, 3) := by decide +kernel
theorem dX9_lentOrTwin_4 : decode cX9_lentOrTwin 4 = .ok (.iload_n 1, 1) := by decide +kernel
theorem dX9_lentOrTwin_5 : decode cX9_lentOrTwin 5 = .ok (.ifCond .eq 7, 3) := by decide +kernel
theorem dX9_lentOrTwin_8 : decode cX9_lentOrTwin 8 = .ok (.aload_n 0, 1) := by decide +kernel
theorem dX9_lentOrTwin_9 : decode cX9_lentOrTwin 9 = .ok (.goto 7, 3) := by decide +kernel
theorem dX9_lentOrTwin_12 : decode cX9_lentOrTwin 12 = .ok (.aload_n 0, 1) := by decide +kernel
theorem dX9_lentOrTwin_13 : decode cX9_lentOrTwin 13 = .ok (.invokevirtual 191, 3) := by decide +kernel
theorem dX9_lentOrTwin_16 : decode cX9_lentOrTwin 16 = .ok (.areturn, 1) := by decide +kernel
set_option maxRecDepth 20000 in
theorem ggX9_againstPlace_X9_isBlock : GoodIn wsX9_againstPlace wsX9_isBlock := goodIn_r _ [5] (by decide +kernel) (by decide +kernel)
set_option maxRecDepth 20000 in
theorem gX9_againstPlace_X9_isBlock : GoodIn wsX9_againstPlace (va_wsS RX9 63 yX9_isBlock wsX9_isBlock) := goodIn_app (goodIn_of _ (by decide +kernel)) ggX9_againstPlace_X9_isBlock
set_option maxRecDepth 20000 in
theorem ggX9_againstPlace_X7_has : GoodIn wsX9_againstPlace wsX7_has := goodIn_r _ [10, 11, 23, 24] (by decide +kernel) (by decide +kernel)
set_option maxRecDepth 20000 in
theorem gX9_againstPlace_X7_has : GoodIn wsX9_againstPlace (wsV RX9 195 RX7 yX7_has wsX7_has) := goodIn_app (goodIn_of _ (by decide +kernel)) ggX9_againstPlace_X7_has
theorem dX9_againstPlace_0 : decode cX9_againstPlace 0 = .ok (.iload_n 1, 1) := by decide +kernel
theorem dX9_againstPlace_1 : decode cX9_againstPlace 1 = .ok (.invokestatic 63, 3) := by decide +kernel
theorem dX9_againstPlace_4 : decode cX9_againstPlace 4 = .ok (.ifCond .ne 5, 3) := by decide +kernel
theorem dX9_againstPlace_7 : decode cX9_againstPlace 7 = .ok (.iconst (-1), 1) := by decide +kernel
theorem dX9_againstPlace_8 : decode cX9_againstPlace 8 = .ok (.ireturn, 1) := by decide +kernel
theorem dX9_againstPlace_9 : decode cX9_againstPlace 9 = .ok (.aload_n 0, 1) := by decide +kernel
theorem dX9_againstPlace_10 : decode cX9_againstPlace 10 = .ok (.getfield 17, 3) := by decide +kernel
theorem dX9_againstPlace_13 : decode cX9_againstPlace 13 = .ok (.iload_n 1, 1) := by decide +kernel
theorem dX9_againstPlace_14 : decode cX9_againstPlace 14 = .ok (.aaload, 1) := by decide +kernel
theorem dX9_againstPlace_15 : decode cX9_againstPlace 15 = .ok (.astore_n 3, 1) := by decide +kernel
theorem dX9_againstPlace_16 : decode cX9_againstPlace 16 = .ok (.aload_n 3, 1) := by decide +kernel
theorem dX9_againstPlace_17 : decode cX9_againstPlace 17 = .ok (.ifnonnull 6, 3) := by decide +kernel
theorem dX9_againstPlace_20 : decode cX9_againstPlace 20 = .ok (.bipush (-5), 2) := by decide +kernel
theorem dX9_againstPlace_22 : decode cX9_againstPlace 22 = .ok (.ireturn, 1) := by decide +kernel
theorem dX9_againstPlace_23 : decode cX9_againstPlace 23 = .ok (.aload_n 3, 1) := by decide +kernel
theorem dX9_againstPlace_24 : decode cX9_againstPlace 24 = .ok (.iload_n 2, 1) := by decide +kernel
theorem dX9_againstPlace_25 : decode cX9_againstPlace 25 = .ok (.invokevirtual 195, 3) := by decide +kernel
theorem dX9_againstPlace_28 : decode cX9_againstPlace 28 = .ok (.ifCond .eq 7, 3) := by decide +kernel
theorem dX9_againstPlace_31 : decode cX9_againstPlace 31 = .ok (.iconst 0, 1) := by decide +kernel
theorem dX9_againstPlace_32 : decode cX9_againstPlace 32 = .ok (.goto 5, 3) := by decide +kernel
theorem dX9_againstPlace_35 : decode cX9_againstPlace 35 = .ok (.bipush (-7), 2) := by decide +kernel
theorem dX9_againstPlace_37 : decode cX9_againstPlace 37 = .ok (.ireturn, 1) := by decide +kernel
set_option maxRecDepth 20000 in
theorem ggX9_againstBlock_X7_spans : GoodIn wsX9_againstBlock wsX7_spans := goodIn_r _ [7, 8, 9, 10] (by decide +kernel) (by decide +kernel)
set_option maxRecDepth 20000 in
theorem gX9_againstBlock_X7_spans : GoodIn wsX9_againstBlock (wsV RX9 103 RX7 yX7_spans wsX7_spans) := goodIn_app (goodIn_of _ (by decide +kernel)) ggX9_againstBlock_X7_spans
theorem dX9_againstBlock_0 : decode cX9_againstBlock 0 = .ok (.aload_n 1, 1) := by decide +kernel
theorem dX9_againstBlock_1 : decode cX9_againstBlock 1 = .ok (.ifnonnull 6, 3) := by decide +kernel
theorem dX9_againstBlock_4 : decode cX9_againstBlock 4 = .ok (.bipush (-5), 2) := by decide +kernel
theorem dX9_againstBlock_6 : decode cX9_againstBlock 6 = .ok (.ireturn, 1) := by decide +kernel
theorem dX9_againstBlock_7 : decode cX9_againstBlock 7 = .ok (.iload_n 2, 1) := by decide +kernel
theorem dX9_againstBlock_8 : decode cX9_againstBlock 8 = .ok (.iconst 1, 1) := by decide +kernel
theorem dX9_againstBlock_9 : decode cX9_againstBlock 9 = .ok (.if_icmp .ne 17, 3) := by decide +kernel
theorem dX9_againstBlock_12 : decode cX9_againstBlock 12 = .ok (.aload_n 1, 1) := by decide +kernel
theorem dX9_againstBlock_13 : decode cX9_againstBlock 13 = .ok (.getfield 85, 3) := by decide +kernel
theorem dX9_againstBlock_16 : decode cX9_againstBlock 16 = .ok (.aload_n 0, 1) := by decide +kernel
theorem dX9_againstBlock_17 : decode cX9_againstBlock 17 = .ok (.getfield 31, 3) := by decide +kernel
theorem dX9_againstBlock_20 : decode cX9_againstBlock 20 = .ok (.if_icmp .eq 6, 3) := by decide +kernel
theorem dX9_againstBlock_23 : decode cX9_againstBlock 23 = .ok (.bipush (-6), 2) := by decide +kernel
theorem dX9_againstBlock_25 : decode cX9_againstBlock 25 = .ok (.ireturn, 1) := by decide +kernel
theorem dX9_againstBlock_26 : decode cX9_againstBlock 26 = .ok (.iload 4, 2) := by decide +kernel
theorem dX9_againstBlock_28 : decode cX9_againstBlock 28 = .ok (.ifCond .ge 6, 3) := by decide +kernel
theorem dX9_againstBlock_31 : decode cX9_againstBlock 31 = .ok (.bipush (-8), 2) := by decide +kernel
theorem dX9_againstBlock_33 : decode cX9_againstBlock 33 = .ok (.ireturn, 1) := by decide +kernel
theorem dX9_againstBlock_34 : decode cX9_againstBlock 34 = .ok (.aload_n 1, 1) := by decide +kernel
theorem dX9_againstBlock_35 : decode cX9_againstBlock 35 = .ok (.iload_n 3, 1) := by decide +kernel
theorem dX9_againstBlock_36 : decode cX9_againstBlock 36 = .ok (.iload 4, 2) := by decide +kernel
theorem dX9_againstBlock_38 : decode cX9_againstBlock 38 = .ok (.invokevirtual 103, 3) := by decide +kernel
theorem dX9_againstBlock_41 : decode cX9_againstBlock 41 = .ok (.ifCond .eq 7, 3) := by decide +kernel
theorem dX9_againstBlock_44 : decode cX9_againstBlock 44 = .ok (.iconst 0, 1) := by decide +kernel
theorem dX9_againstBlock_45 : decode cX9_againstBlock 45 = .ok (.goto 5, 3) := by decide +kernel
theorem dX9_againstBlock_48 : decode cX9_againstBlock 48 = .ok (.bipush (-7), 2) := by decide +kernel
theorem dX9_againstBlock_50 : decode cX9_againstBlock 50 = .ok (.ireturn, 1) := by decide +kernel
set_option maxRecDepth 20000 in
theorem ggX9_gather_X5_ask : GoodIn wsX9_gather wsX5_ask := goodIn_r _ [9, 10, 11, 12, 13, 14, 15, 16, 17, 18, 19, 20, 21, 22, 23, 24, 25, 26, 8, 27, 28, 29, 30, 31, 32, 33, 34, 35, 36, 37, 38, 39, 40, 41, 42, 43, 44, 45, 46, 47, 48, 49, 50, 51, 52, 53, 54, 55, 56, 57, 58, 59, 60, 61, 62, 63, 64, 65, 66, 67, 68, 69, 70, 71, 72, 73, 74, 75, 76, 77, 78, 79, 80, 81, 82, 83, 84, 85, 86, 113, 114, 115, 116, 117, 118, 119, 120, 121, 122, 123, 124, 125, 126, 127, 128, 129, 130, 131, 132, 133, 134, 135, 136, 137, 138, 139, 140, 141, 142, 143, 144, 145, 146, 147, 148, 149] (by decide +kernel) (by decide +kernel)
set_option maxRecDepth 20000 in
theorem gX9_gather_X5_ask_u160X0 : GoodIn wsX9_gather (va_wsU RX9 160 RX0 "CallWays2$Instrument" ⟨"CallWays2$Instrument", "ask", "()D"⟩ yX5_ask wsX5_ask) := goodIn_app (goodIn_of _ (by decide +kernel)) ggX9_gather_X5_ask
set_option maxRecDepth 20000 in
theorem gX9_gather_X5_ask_u160X2 : GoodIn wsX9_gather (va_wsU RX9 160 RX2 "CallWays2$Instrument" ⟨"CallWays2$Instrument", "ask", "()D"⟩ yX5_ask wsX5_ask) := goodIn_app (goodIn_of _ (by decide +kernel)) ggX9_gather_X5_ask
set_option maxRecDepth 20000 in
theorem gX9_gather_X5_ask_u160X4 : GoodIn wsX9_gather (va_wsU RX9 160 RX4 "CallWays2$Instrument" ⟨"CallWays2$Instrument", "ask", "()D"⟩ yX5_ask wsX5_ask) := goodIn_app (goodIn_of _ (by decide +kernel)) ggX9_gather_X5_ask
set_option maxRecDepth 20000 in
theorem gX9_gather_X5_ask_u160X6 : GoodIn wsX9_gather (va_wsU RX9 160 RX6 "CallWays2$Instrument" ⟨"CallWays2$Instrument", "ask", "()D"⟩ yX5_ask wsX5_ask) := goodIn_app (goodIn_of _ (by decide +kernel)) ggX9_gather_X5_ask
set_option maxRecDepth 20000 in
theorem gX9_gather_X5_ask_u160X8 : GoodIn wsX9_gather (va_wsU RX9 160 RX8 "CallWays2$Instrument" ⟨"CallWays2$Instrument", "ask", "()D"⟩ yX5_ask wsX5_ask) := goodIn_app (goodIn_of _ (by decide +kernel)) ggX9_gather_X5_ask
set_option maxRecDepth 20000 in
theorem ggX9_gather_X3_refuses : GoodIn wsX9_gather wsX3_refuses := goodIn_r _ [95, 96, 97, 150, 151] (by decide +kernel) (by decide +kernel)
set_option maxRecDepth 20000 in
theorem gX9_gather_X3_refuses : GoodIn wsX9_gather (wsV RX9 152 RX3 yX3_refuses wsX3_refuses) := goodIn_app (goodIn_of _ (by decide +kernel)) ggX9_gather_X3_refuses
set_option maxRecDepth 20000 in
theorem ggX9_gather_X3_pass : GoodIn wsX9_gather wsX3_pass := goodIn_r _ [101, 96, 97, 150, 151] (by decide +kernel) (by decide +kernel)
set_option maxRecDepth 20000 in
theorem gX9_gather_X3_pass : GoodIn wsX9_gather (wsV RX9 156 RX3 yX3_pass wsX3_pass) := goodIn_app (goodIn_of _ (by decide +kernel)) ggX9_gather_X3_pass
theorem dX9_gather_0 : decode cX9_gather 0 = .ok (.iconst 0, 1) := by decide +kernel
theorem dX9_gather_1 : decode cX9_gather 1 = .ok (.istore 4, 2) := by decide +kernel
theorem dX9_gather_3 : decode cX9_gather 3 = .ok (.iload 4, 2) := by decide +kernel
theorem dX9_gather_5 : decode cX9_gather 5 = .ok (.iload_n 3, 1) := by decide +kernel
theorem dX9_gather_6 : decode cX9_gather 6 = .ok (.if_icmp .ge 75, 3) := by decide +kernel
theorem dX9_gather_9 : decode cX9_gather 9 = .ok (.aload_n 1, 1) := by decide +kernel
theorem dX9_gather_10 : decode cX9_gather 10 = .ok (.invokevirtual 160, 3) := by decide +kernel
theorem dX9_gather_13 : decode cX9_gather 13 = .ok (.dstore 5, 2) := by decide +kernel
theorem dX9_gather_15 : decode cX9_gather 15 = .ok (.aload_n 0, 1) := by decide +kernel
theorem dX9_gather_16 : decode cX9_gather 16 = .ok (.dup, 1) := by decide +kernel
theorem dX9_gather_17 : decode cX9_gather 17 = .ok (.getfield 173, 3) := by decide +kernel
theorem dX9_gather_20 : decode cX9_gather 20 = .ok (.iconst 1, 1) := by decide +kernel
theorem dX9_gather_21 : decode cX9_gather 21 = .ok (.iadd, 1) := by decide +kernel
theorem dX9_gather_22 : decode cX9_gather 22 = .ok (.putfield 173, 3) := by decide +kernel
theorem dX9_gather_25 : decode cX9_gather 25 = .ok (.aload_n 1, 1) := by decide +kernel
theorem dX9_gather_26 : decode cX9_gather 26 = .ok (.getfield 164, 3) := by decide +kernel
theorem dX9_gather_29 : decode cX9_gather 29 = .ok (.ifCond .eq 8, 3) := by decide +kernel
theorem dX9_gather_32 : decode cX9_gather 32 = .ok (.aload_n 1, 1) := by decide +kernel
theorem dX9_gather_33 : decode cX9_gather 33 = .ok (.getfield 164, 3) := by decide +kernel
theorem dX9_gather_36 : decode cX9_gather 36 = .ok (.ireturn, 1) := by decide +kernel
theorem dX9_gather_37 : decode cX9_gather 37 = .ok (.aload_n 2, 1) := by decide +kernel
theorem dX9_gather_38 : decode cX9_gather 38 = .ok (.ifnull 15, 3) := by decide +kernel
theorem dX9_gather_41 : decode cX9_gather 41 = .ok (.aload_n 2, 1) := by decide +kernel
theorem dX9_gather_42 : decode cX9_gather 42 = .ok (.dload 5, 2) := by decide +kernel
theorem dX9_gather_44 : decode cX9_gather 44 = .ok (.invokevirtual 152, 3) := by decide +kernel
theorem dX9_gather_47 : decode cX9_gather 47 = .ok (.ifCond .eq 6, 3) := by decide +kernel
theorem dX9_gather_50 : decode cX9_gather 50 = .ok (.bipush (-3), 2) := by decide +kernel
theorem dX9_gather_52 : decode cX9_gather 52 = .ok (.ireturn, 1) := by decide +kernel
theorem dX9_gather_53 : decode cX9_gather 53 = .ok (.aload_n 0, 1) := by decide +kernel
theorem dX9_gather_54 : decode cX9_gather 54 = .ok (.getfield 27, 3) := by decide +kernel
theorem dX9_gather_57 : decode cX9_gather 57 = .ok (.iload 4, 2) := by decide +kernel
theorem dX9_gather_59 : decode cX9_gather 59 = .ok (.aload_n 2, 1) := by decide +kernel
theorem dX9_gather_60 : decode cX9_gather 60 = .ok (.ifnonnull 8, 3) := by decide +kernel
theorem dX9_gather_63 : decode cX9_gather 63 = .ok (.dload 5, 2) := by decide +kernel
theorem dX9_gather_65 : decode cX9_gather 65 = .ok (.goto 9, 3) := by decide +kernel
theorem dX9_gather_68 : decode cX9_gather 68 = .ok (.aload_n 2, 1) := by decide +kernel
theorem dX9_gather_69 : decode cX9_gather 69 = .ok (.dload 5, 2) := by decide +kernel
theorem dX9_gather_71 : decode cX9_gather 71 = .ok (.invokevirtual 156, 3) := by decide +kernel
theorem dX9_gather_74 : decode cX9_gather 74 = .ok (.dastore, 1) := by decide +kernel
theorem dX9_gather_75 : decode cX9_gather 75 = .ok (.iinc 4 1, 3) := by decide +kernel
theorem dX9_gather_78 : decode cX9_gather 78 = .ok (.goto (-75), 3) := by decide +kernel
theorem dX9_gather_81 : decode cX9_gather 81 = .ok (.iconst 0, 1) := by decide +kernel
theorem dX9_gather_82 : decode cX9_gather 82 = .ok (.ireturn, 1) := by decide +kernel
set_option maxRecDepth 20000 in
theorem ggX9_deliver_X7_set : GoodIn wsX9_deliver wsX7_set := goodIn_r _ [6, 7, 8, 9, 10, 5, 11, 12, 24, 25] (by decide +kernel) (by decide +kernel)
set_option maxRecDepth 20000 in
theorem gX9_deliver_X7_set : GoodIn wsX9_deliver (wsV RX9 99 RX7 yX7_set wsX7_set) := goodIn_app (goodIn_of _ (by decide +kernel)) ggX9_deliver_X7_set
theorem dX9_deliver_0 : decode cX9_deliver 0 = .ok (.iconst 0, 1) := by decide +kernel
theorem dX9_deliver_1 : decode cX9_deliver 1 = .ok (.istore 5, 2) := by decide +kernel
theorem dX9_deliver_3 : decode cX9_deliver 3 = .ok (.iload 5, 2) := by decide +kernel
theorem dX9_deliver_5 : decode cX9_deliver 5 = .ok (.iload_n 3, 1) := by decide +kernel
theorem dX9_deliver_6 : decode cX9_deliver 6 = .ok (.if_icmp .ge 33, 3) := by decide +kernel
theorem dX9_deliver_9 : decode cX9_deliver 9 = .ok (.aload_n 1, 1) := by decide +kernel
theorem dX9_deliver_10 : decode cX9_deliver 10 = .ok (.iload_n 2, 1) := by decide +kernel
theorem dX9_deliver_11 : decode cX9_deliver 11 = .ok (.iload 5, 2) := by decide +kernel
theorem dX9_deliver_13 : decode cX9_deliver 13 = .ok (.iadd, 1) := by decide +kernel
theorem dX9_deliver_14 : decode cX9_deliver 14 = .ok (.iload 4, 2) := by decide +kernel
theorem dX9_deliver_16 : decode cX9_deliver 16 = .ok (.ifCond .ne 13, 3) := by decide +kernel
theorem dX9_deliver_19 : decode cX9_deliver 19 = .ok (.aload_n 0, 1) := by decide +kernel
theorem dX9_deliver_20 : decode cX9_deliver 20 = .ok (.getfield 27, 3) := by decide +kernel
theorem dX9_deliver_23 : decode cX9_deliver 23 = .ok (.iload 5, 2) := by decide +kernel
theorem dX9_deliver_25 : decode cX9_deliver 25 = .ok (.daload, 1) := by decide +kernel
theorem dX9_deliver_26 : decode cX9_deliver 26 = .ok (.goto 4, 3) := by decide +kernel
theorem dX9_deliver_29 : decode cX9_deliver 29 = .ok (.dconst 0, 1) := by decide +kernel
theorem dX9_deliver_30 : decode cX9_deliver 30 = .ok (.invokevirtual 99, 3) := by decide +kernel
theorem dX9_deliver_33 : decode cX9_deliver 33 = .ok (.iinc 5 1, 3) := by decide +kernel
theorem dX9_deliver_36 : decode cX9_deliver 36 = .ok (.goto (-33), 3) := by decide +kernel
theorem dX9_deliver_39 : decode cX9_deliver 39 = .ok (.return_, 1) := by decide +kernel
set_option maxRecDepth 20000 in
theorem ggX9_staysAlike_X5_ask : GoodIn wsX9_staysAlike wsX5_ask := goodIn_r _ [7, 8, 9, 10, 11, 12, 13, 14, 15, 16, 17, 18, 19, 20, 21, 22, 23, 24, 6, 25, 26, 27, 28, 29, 30, 31, 32, 33, 34, 35, 36, 37, 38, 39, 40, 41, 42, 43, 44, 45, 46, 47, 48, 49, 50, 51, 52, 53, 54, 55, 56, 57, 58, 59, 60, 61, 62, 63, 64, 65, 66, 67, 68, 69, 70, 71, 72, 73, 74, 75, 76, 77, 78, 79, 80, 81, 82, 83, 84, 100, 101, 102, 103, 104, 105, 106, 107, 108, 109, 110, 111, 112, 113, 114, 115, 116, 117, 118, 119, 120, 121, 122, 123, 124, 125, 126, 127, 128, 129, 130, 131, 132, 133, 134, 135, 136] (by decide +kernel) (by decide +kernel)
set_option maxRecDepth 20000 in
theorem gX9_staysAlike_X5_ask_u160X0 : GoodIn wsX9_staysAlike (va_wsU RX9 160 RX0 "CallWays2$Instrument" ⟨"CallWays2$Instrument", "ask", "()D"⟩ yX5_ask wsX5_ask) := goodIn_app (goodIn_of _ (by decide +kernel)) ggX9_staysAlike_X5_ask
set_option maxRecDepth 20000 in
theorem gX9_staysAlike_X5_ask_u160X2 : GoodIn wsX9_staysAlike (va_wsU RX9 160 RX2 "CallWays2$Instrument" ⟨"CallWays2$Instrument", "ask", "()D"⟩ yX5_ask wsX5_ask) := goodIn_app (goodIn_of _ (by decide +kernel)) ggX9_staysAlike_X5_ask
set_option maxRecDepth 20000 in
theorem gX9_staysAlike_X5_ask_u160X4 : GoodIn wsX9_staysAlike (va_wsU RX9 160 RX4 "CallWays2$Instrument" ⟨"CallWays2$Instrument", "ask", "()D"⟩ yX5_ask wsX5_ask) := goodIn_app (goodIn_of _ (by decide +kernel)) ggX9_staysAlike_X5_ask
set_option maxRecDepth 20000 in
theorem gX9_staysAlike_X5_ask_u160X6 : GoodIn wsX9_staysAlike (va_wsU RX9 160 RX6 "CallWays2$Instrument" ⟨"CallWays2$Instrument", "ask", "()D"⟩ yX5_ask wsX5_ask) := goodIn_app (goodIn_of _ (by decide +kernel)) ggX9_staysAlike_X5_ask
set_option maxRecDepth 20000 in
theorem gX9_staysAlike_X5_ask_u160X8 : GoodIn wsX9_staysAlike (va_wsU RX9 160 RX8 "CallWays2$Instrument" ⟨"CallWays2$Instrument", "ask", "()D"⟩ yX5_ask wsX5_ask) := goodIn_app (goodIn_of _ (by decide +kernel)) ggX9_staysAlike_X5_ask
set_option maxRecDepth 20000 in
theorem ggX9_staysAlike_X3_refuses : GoodIn wsX9_staysAlike wsX3_refuses := goodIn_r _ [93, 94, 95, 137, 138] (by decide +kernel) (by decide +kernel)
set_option maxRecDepth 20000 in
theorem gX9_staysAlike_X3_refuses : GoodIn wsX9_staysAlike (wsV RX9 152 RX3 yX3_refuses wsX3_refuses) := goodIn_app (goodIn_of _ (by decide +kernel)) ggX9_staysAlike_X3_refuses
set_option maxRecDepth 20000 in
theorem ggX9_staysAlike_X3_pass : GoodIn wsX9_staysAlike wsX3_pass := goodIn_r _ [99, 94, 95, 137, 138] (by decide +kernel) (by decide +kernel)
set_option maxRecDepth 20000 in
theorem gX9_staysAlike_X3_pass : GoodIn wsX9_staysAlike (wsV RX9 156 RX3 yX3_pass wsX3_pass) := goodIn_app (goodIn_of _ (by decide +kernel)) ggX9_staysAlike_X3_pass
theorem dX9_staysAlike_0 : decode cX9_staysAlike 0 = .ok (.iconst 0, 1) := by decide +kernel
theorem dX9_staysAlike_1 : decode cX9_staysAlike 1 = .ok (.istore_n 3, 1) := by decide +kernel
theorem dX9_staysAlike_2 : decode cX9_staysAlike 2 = .ok (.iload_n 3, 1) := by decide +kernel
theorem dX9_staysAlike_3 : decode cX9_staysAlike 3 = .ok (.iload_n 2, 1) := by decide +kernel
theorem dX9_staysAlike_4 : decode cX9_staysAlike 4 = .ok (.if_icmp .ge 47, 3) := by decide +kernel
theorem dX9_staysAlike_7 : decode cX9_staysAlike 7 = .ok (.aload_n 0, 1) := by decide +kernel
theorem dX9_staysAlike_8 : decode cX9_staysAlike 8 = .ok (.invokevirtual 160, 3) := by decide +kernel
theorem dX9_staysAlike_11 : decode cX9_staysAlike 11 = .ok (.dstore 4, 2) := by decide +kernel
theorem dX9_staysAlike_13 : decode cX9_staysAlike 13 = .ok (.aload_n 0, 1) := by decide +kernel
theorem dX9_staysAlike_14 : decode cX9_staysAlike 14 = .ok (.getfield 164, 3) := by decide +kernel
theorem dX9_staysAlike_17 : decode cX9_staysAlike 17 = .ok (.ifCond .eq 5, 3) := by decide +kernel
theorem dX9_staysAlike_20 : decode cX9_staysAlike 20 = .ok (.iconst 1, 1) := by decide +kernel
theorem dX9_staysAlike_21 : decode cX9_staysAlike 21 = .ok (.ireturn, 1) := by decide +kernel
theorem dX9_staysAlike_22 : decode cX9_staysAlike 22 = .ok (.aload_n 1, 1) := by decide +kernel
theorem dX9_staysAlike_23 : decode cX9_staysAlike 23 = .ok (.dload 4, 2) := by decide +kernel
theorem dX9_staysAlike_25 : decode cX9_staysAlike 25 = .ok (.invokevirtual 152, 3) := by decide +kernel
theorem dX9_staysAlike_28 : decode cX9_staysAlike 28 = .ok (.ifCond .ne 15, 3) := by decide +kernel
theorem dX9_staysAlike_31 : decode cX9_staysAlike 31 = .ok (.aload_n 1, 1) := by decide +kernel
theorem dX9_staysAlike_32 : decode cX9_staysAlike 32 = .ok (.dload 4, 2) := by decide +kernel
theorem dX9_staysAlike_34 : decode cX9_staysAlike 34 = .ok (.invokevirtual 156, 3) := by decide +kernel
theorem dX9_staysAlike_37 : decode cX9_staysAlike 37 = .ok (.dload 4, 2) := by decide +kernel
theorem dX9_staysAlike_39 : decode cX9_staysAlike 39 = .ok (.dcmp .l, 1) := by decide +kernel
theorem dX9_staysAlike_40 : decode cX9_staysAlike 40 = .ok (.ifCond .eq 5, 3) := by decide +kernel
theorem dX9_staysAlike_43 : decode cX9_staysAlike 43 = .ok (.iconst 0, 1) := by decide +kernel
theorem dX9_staysAlike_44 : decode cX9_staysAlike 44 = .ok (.ireturn, 1) := by decide +kernel
theorem dX9_staysAlike_45 : decode cX9_staysAlike 45 = .ok (.iinc 3 1, 3) := by decide +kernel
theorem dX9_staysAlike_48 : decode cX9_staysAlike 48 = .ok (.goto (-46), 3) := by decide +kernel
theorem dX9_staysAlike_51 : decode cX9_staysAlike 51 = .ok (.iconst 1, 1) := by decide +kernel
theorem dX9_staysAlike_52 : decode cX9_staysAlike 52 = .ok (.ireturn, 1) := by decide +kernel
