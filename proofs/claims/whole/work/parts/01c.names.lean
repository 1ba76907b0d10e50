theorem dX5_turnBack_108 : decode cX5_turnBack 108 = .ok (.iload 6, 2) := by decide +kernel
theorem dX5_turnBack_110 : decode cX5_turnBack 110 = .ok (.ineg, 1) := by decide +kernel
theorem dX5_turnBack_111 : decode cX5_turnBack 111 = .ok (.goto 5, 3) := by decide +kernel
theorem dX5_turnBack_114 : decode cX5_turnBack 114 = .ok (.iload 6, 2) := by decide +kernel
theorem dX5_turnBack_116 : decode cX5_turnBack 116 = .ok (.iastore, 1) := by decide +kernel
theorem dX5_turnBack_117 : decode cX5_turnBack 117 = .ok (.iinc 2 1, 3) := by decide +kernel
theorem dX5_turnBack_120 : decode cX5_turnBack 120 = .ok (.goto (-118), 3) := by decide +kernel
theorem dX5_turnBack_123 : decode cX5_turnBack 123 = .ok (.return_, 1) := by decide +kernel
theorem dX5_squaresOfX_0 : decode cX5_squaresOfX 0 = .ok (.lconst 0, 1) := by decide +kernel
theorem dX5_squaresOfX_1 : decode cX5_squaresOfX 1 = .ok (.lstore_n 1, 1) := by decide +kernel
theorem dX5_squaresOfX_2 : decode cX5_squaresOfX 2 = .ok (.iconst 0, 1) := by decide +kernel
theorem dX5_squaresOfX_3 : decode cX5_squaresOfX 3 = .ok (.istore_n 3, 1) := by decide +kernel
theorem dX5_squaresOfX_4 : decode cX5_squaresOfX 4 = .ok (.iload_n 3, 1) := by decide +kernel
theorem dX5_squaresOfX_5 : decode cX5_squaresOfX 5 = .ok (.aload_n 0, 1) := by decide +kernel
theorem dX5_squaresOfX_6 : decode cX5_squaresOfX 6 = .ok (.getfield 24, 3) := by decide +kernel
theorem dX5_squaresOfX_9 : decode cX5_squaresOfX 9 = .ok (.if_icmp .ge 27, 3) := by decide +kernel
theorem dX5_squaresOfX_12 : decode cX5_squaresOfX 12 = .ok (.lload_n 1, 1) := by decide +kernel
theorem dX5_squaresOfX_13 : decode cX5_squaresOfX 13 = .ok (.aload_n 0, 1) := by decide +kernel
theorem dX5_squaresOfX_14 : decode cX5_squaresOfX 14 = .ok (.getfield 9, 3) := by decide +kernel
theorem dX5_squaresOfX_17 : decode cX5_squaresOfX 17 = .ok (.iload_n 3, 1) := by decide +kernel
theorem dX5_squaresOfX_18 : decode cX5_squaresOfX 18 = .ok (.iaload, 1) := by decide +kernel
theorem dX5_squaresOfX_19 : decode cX5_squaresOfX 19 = .ok (.i2l, 1) := by decide +kernel
theorem dX5_squaresOfX_20 : decode cX5_squaresOfX 20 = .ok (.aload_n 0, 1) := by decide +kernel
theorem dX5_squaresOfX_21 : decode cX5_squaresOfX 21 = .ok (.getfield 9, 3) := by decide +kernel
theorem dX5_squaresOfX_24 : decode cX5_squaresOfX 24 = .ok (.iload_n 3, 1) := by decide +kernel
theorem dX5_squaresOfX_25 : decode cX5_squaresOfX 25 = .ok (.iaload, 1) := by decide +kernel
theorem dX5_squaresOfX_26 : decode cX5_squaresOfX 26 = .ok (.i2l, 1) := by decide +kernel
theorem dX5_squaresOfX_27 : decode cX5_squaresOfX 27 = .ok (.lmul, 1) := by decide +kernel
theorem dX5_squaresOfX_28 : decode cX5_squaresOfX 28 = .ok (.ladd, 1) := by decide +kernel
theorem dX5_squaresOfX_29 : decode cX5_squaresOfX 29 = .ok (.lstore_n 1, 1) := by decide +kernel
theorem dX5_squaresOfX_30 : decode cX5_squaresOfX 30 = .ok (.iinc 3 1, 3) := by decide +kernel
theorem dX5_squaresOfX_33 : decode cX5_squaresOfX 33 = .ok (.goto (-29), 3) := by decide +kernel
theorem dX5_squaresOfX_36 : decode cX5_squaresOfX 36 = .ok (.lload_n 1, 1) := by decide +kernel
theorem dX5_squaresOfX_37 : decode cX5_squaresOfX 37 = .ok (.lreturn, 1) := by decide +kernel
set_option maxRecDepth 20000 in
theorem ggX6_init_X5_init : GoodIn wsX6_init wsX5_init := goodIn_r _ [31, 32, 2, 3, 33, 34, 35, 36, 37, 38, 81, 82, 83, 84, 85] (by decide +kernel) (by decide +kernel)
set_option maxRecDepth 20000 in
theorem gX6_init_X5_init_n23 : GoodIn wsX6_init (wsX5_init) := ggX6_init_X5_init
set_option maxRecDepth 20000 in
theorem ggX6_init_X4_init : GoodIn wsX6_init wsX4_init := goodIn_r _ [40, 41, 2, 3, 42, 43, 44, 45, 46, 86, 87, 88, 89] (by decide +kernel) (by decide +kernel)
set_option maxRecDepth 20000 in
theorem gX6_init_X4_init_n30 : GoodIn wsX6_init (wsX4_init) := ggX6_init_X4_init
set_option maxRecDepth 20000 in
theorem ggX6_init_X1_init : GoodIn wsX6_init wsX1_init := goodIn_r _ [48, 49, 2, 3, 33, 50, 51, 52, 53, 54, 90, 91, 92, 93, 94] (by decide +kernel) (by decide +kernel)
set_option maxRecDepth 20000 in
theorem gX6_init_X1_init_n37 : GoodIn wsX6_init (wsX1_init) := ggX6_init_X1_init
set_option maxRecDepth 20000 in
theorem ggX6_init_X0_init : GoodIn wsX6_init wsX0_init := goodIn_r _ [56, 57, 2, 3, 33, 58, 59, 60, 95, 96, 97] (by decide +kernel) (by decide +kernel)
set_option maxRecDepth 20000 in
theorem gX6_init_X0_init_n44 : GoodIn wsX6_init (wsX0_init) := ggX6_init_X0_init
set_option maxRecDepth 20000 in
theorem ggX6_init_X3_init : GoodIn wsX6_init wsX3_init := goodIn_r _ [62, 63, 2, 3, 33, 64, 65, 98, 99] (by decide +kernel) (by decide +kernel)
set_option maxRecDepth 20000 in
theorem gX6_init_X3_init_n56 : GoodIn wsX6_init (wsX3_init) := ggX6_init_X3_init
set_option maxRecDepth 20000 in
theorem ggX6_init_X2_init : GoodIn wsX6_init wsX2_init := goodIn_r _ [67, 68, 2, 3, 33, 69, 70, 71, 72, 100, 101, 102, 103] (by decide +kernel) (by decide +kernel)
set_option maxRecDepth 20000 in
theorem gX6_init_X2_init_n57 : GoodIn wsX6_init (wsX2_init) := ggX6_init_X2_init
theorem dX6_init_0 : decode cX6_init 0 = .ok (.aload_n 0, 1) := by decide +kernel
theorem dX6_init_1 : decode cX6_init 1 = .ok (.invokespecial 1, 3) := by decide +kernel
theorem dX6_init_4 : decode cX6_init 4 = .ok (.aload_n 0, 1) := by decide +kernel
theorem dX6_init_5 : decode cX6_init 5 = .ok (.bipush 8, 2) := by decide +kernel
theorem dX6_init_7 : decode cX6_init 7 = .ok (.anewarray 9, 3) := by decide +kernel
theorem dX6_init_10 : decode cX6_init 10 = .ok (.putfield 11, 3) := by decide +kernel
theorem dX6_init_13 : decode cX6_init 13 = .ok (.aload_n 0, 1) := by decide +kernel
theorem dX6_init_14 : decode cX6_init 14 = .ok (.iconst 4, 1) := by decide +kernel
theorem dX6_init_15 : decode cX6_init 15 = .ok (.anewarray 15, 3) := by decide +kernel
theorem dX6_init_18 : decode cX6_init 18 = .ok (.putfield 17, 3) := by decide +kernel
theorem dX6_init_21 : decode cX6_init 21 = .ok (.aload_n 0, 1) := by decide +kernel
theorem dX6_init_22 : decode cX6_init 22 = .ok (.new 21, 3) := by decide +kernel
theorem dX6_init_25 : decode cX6_init 25 = .ok (.dup, 1) := by decide +kernel
theorem dX6_init_26 : decode cX6_init 26 = .ok (.invokespecial 23, 3) := by decide +kernel
theorem dX6_init_29 : decode cX6_init 29 = .ok (.putfield 24, 3) := by decide +kernel
theorem dX6_init_32 : decode cX6_init 32 = .ok (.aload_n 0, 1) := by decide +kernel
theorem dX6_init_33 : decode cX6_init 33 = .ok (.new 28, 3) := by decide +kernel
theorem dX6_init_36 : decode cX6_init 36 = .ok (.dup, 1) := by decide +kernel
theorem dX6_init_37 : decode cX6_init 37 = .ok (.invokespecial 30, 3) := by decide +kernel
theorem dX6_init_40 : decode cX6_init 40 = .ok (.putfield 31, 3) := by decide +kernel
theorem dX6_init_43 : decode cX6_init 43 = .ok (.aload_n 0, 1) := by decide +kernel
theorem dX6_init_44 : decode cX6_init 44 = .ok (.new 35, 3) := by decide +kernel
theorem dX6_init_47 : decode cX6_init 47 = .ok (.dup, 1) := by decide +kernel
theorem dX6_init_48 : decode cX6_init 48 = .ok (.invokespecial 37, 3) := by decide +kernel
theorem dX6_init_51 : decode cX6_init 51 = .ok (.putfield 38, 3) := by decide +kernel
theorem dX6_init_54 : decode cX6_init 54 = .ok (.aload_n 0, 1) := by decide +kernel
theorem dX6_init_55 : decode cX6_init 55 = .ok (.new 42, 3) := by decide +kernel
theorem dX6_init_58 : decode cX6_init 58 = .ok (.dup, 1) := by decide +kernel
theorem dX6_init_59 : decode cX6_init 59 = .ok (.invokespecial 44, 3) := by decide +kernel
theorem dX6_init_62 : decode cX6_init 62 = .ok (.putfield 45, 3) := by decide +kernel
theorem dX6_init_65 : decode cX6_init 65 = .ok (.aload_n 0, 1) := by decide +kernel
theorem dX6_init_66 : decode cX6_init 66 = .ok (.bipush 50, 2) := by decide +kernel
theorem dX6_init_68 : decode cX6_init 68 = .ok (.putfield 49, 3) := by decide +kernel
theorem dX6_init_71 : decode cX6_init 71 = .ok (.aload_n 0, 1) := by decide +kernel
theorem dX6_init_72 : decode cX6_init 72 = .ok (.iconst 0, 1) := by decide +kernel
theorem dX6_init_73 : decode cX6_init 73 = .ok (.putfield 53, 3) := by decide +kernel
theorem dX6_init_76 : decode cX6_init 76 = .ok (.iconst 0, 1) := by decide +kernel
theorem dX6_init_77 : decode cX6_init 77 = .ok (.istore_n 1, 1) := by decide +kernel
theorem dX6_init_78 : decode cX6_init 78 = .ok (.iload_n 1, 1) := by decide +kernel
theorem dX6_init_79 : decode cX6_init 79 = .ok (.bipush 8, 2) := by decide +kernel
theorem dX6_init_81 : decode cX6_init 81 = .ok (.if_icmp .ge 22, 3) := by decide +kernel
theorem dX6_init_84 : decode cX6_init 84 = .ok (.aload_n 0, 1) := by decide +kernel
theorem dX6_init_85 : decode cX6_init 85 = .ok (.getfield 11, 3) := by decide +kernel
theorem dX6_init_88 : decode cX6_init 88 = .ok (.iload_n 1, 1) := by decide +kernel
theorem dX6_init_89 : decode cX6_init 89 = .ok (.new 9, 3) := by decide +kernel
theorem dX6_init_92 : decode cX6_init 92 = .ok (.dup, 1) := by decide +kernel
theorem dX6_init_93 : decode cX6_init 93 = .ok (.invokespecial 56, 3) := by decide +kernel
theorem dX6_init_96 : decode cX6_init 96 = .ok (.aastore, 1) := by decide +kernel
theorem dX6_init_97 : decode cX6_init 97 = .ok (.iinc 1 1, 3) := by decide +kernel
theorem dX6_init_100 : decode cX6_init 100 = .ok (.goto (-22), 3) := by decide +kernel
theorem dX6_init_103 : decode cX6_init 103 = .ok (.iconst 0, 1) := by decide +kernel
theorem dX6_init_104 : decode cX6_init 104 = .ok (.istore_n 1, 1) := by decide +kernel
theorem dX6_init_105 : decode cX6_init 105 = .ok (.iload_n 1, 1) := by decide +kernel
theorem dX6_init_106 : decode cX6_init 106 = .ok (.iconst 4, 1) := by decide +kernel
theorem dX6_init_107 : decode cX6_init 107 = .ok (.if_icmp .ge 22, 3) := by decide +kernel
theorem dX6_init_110 : decode cX6_init 110 = .ok (.aload_n 0, 1) := by decide +kernel
theorem dX6_init_111 : decode cX6_init 111 = .ok (.getfield 17, 3) := by decide +kernel
theorem dX6_init_114 : decode cX6_init 114 = .ok (.iload_n 1, 1) := by decide +kernel
theorem dX6_init_115 : decode cX6_init 115 = .ok (.new 15, 3) := by decide +kernel
theorem dX6_init_118 : decode cX6_init 118 = .ok (.dup, 1) := by decide +kernel
theorem dX6_init_119 : decode cX6_init 119 = .ok (.invokespecial 57, 3) := by decide +kernel
theorem dX6_init_122 : decode cX6_init 122 = .ok (.aastore, 1) := by decide +kernel
theorem dX6_init_123 : decode cX6_init 123 = .ok (.iinc 1 1, 3) := by decide +kernel
theorem dX6_init_126 : decode cX6_init 126 = .ok (.goto (-21), 3) := by decide +kernel
theorem dX6_init_129 : decode cX6_init 129 = .ok (.return_, 1) := by decide +kernel
set_option maxRecDepth 20000 in
theorem ggX6_make_X6_isRow : GoodIn wsX6_make wsX6_isRow := goodIn_r _ [5] (by decide +kernel) (by decide +kernel)
set_option maxRecDepth 20000 in
theorem gX6_make_X6_isRow : GoodIn wsX6_make (va_wsS RX6 58 yX6_isRow wsX6_isRow) := goodIn_app (goodIn_of _ (by decide +kernel)) ggX6_make_X6_isRow
set_option maxRecDepth 20000 in
theorem ggX6_make_X6_isRegister : GoodIn wsX6_make wsX6_isRegister := goodIn_r _ [8, 9, 10, 4, 11] (by decide +kernel) (by decide +kernel)
set_option maxRecDepth 20000 in
theorem gX6_make_X6_isRegister : GoodIn wsX6_make (va_wsS RX6 62 yX6_isRegister wsX6_isRegister) := goodIn_app (goodIn_of _ (by decide +kernel)) ggX6_make_X6_isRegister
set_option maxRecDepth 20000 in
theorem ggX6_make_X3_fillByRegister : GoodIn wsX6_make wsX3_fillByRegister := goodIn_r _ [16, 17, 18, 19, 4, 20, 21, 22, 23, 24, 25, 26, 27, 36, 37] (by decide +kernel) (by decide +kernel)
set_option maxRecDepth 20000 in
theorem gX6_make_X3_fillByRegister : GoodIn wsX6_make (wsV RX6 66 RX3 yX3_fillByRegister wsX3_fillByRegister) := goodIn_app (goodIn_of _ (by decide +kernel)) ggX6_make_X3_fillByRegister
theorem dX6_make_0 : decode cX6_make 0 = .ok (.iload_n 1, 1) := by decide +kernel
theorem dX6_make_1 : decode cX6_make 1 = .ok (.invokestatic 58, 3) := by decide +kernel
theorem dX6_make_4 : decode cX6_make 4 = .ok (.ifCond .eq 13, 3) := by decide +kernel
theorem dX6_make_7 : decode cX6_make 7 = .ok (.iload_n 2, 1) := by decide +kernel
theorem dX6_make_8 : decode cX6_make 8 = .ok (.iload_n 3, 1) := by decide +kernel
theorem dX6_make_9 : decode cX6_make 9 = .ok (.iload 4, 2) := by decide +kernel
theorem dX6_make_11 : decode cX6_make 11 = .ok (.invokestatic 62, 3) := by decide +kernel
theorem dX6_make_14 : decode cX6_make 14 = .ok (.ifCond .ne 6, 3) := by decide +kernel
theorem dX6_make_17 : decode cX6_make 17 = .ok (.bipush (-2), 2) := by decide +kernel
theorem dX6_make_19 : decode cX6_make 19 = .ok (.ireturn, 1) := by decide +kernel
theorem dX6_make_20 : decode cX6_make 20 = .ok (.aload_n 0, 1) := by decide +kernel
theorem dX6_make_21 : decode cX6_make 21 = .ok (.getfield 11, 3) := by decide +kernel
theorem dX6_make_24 : decode cX6_make 24 = .ok (.iload_n 1, 1) := by decide +kernel
theorem dX6_make_25 : decode cX6_make 25 = .ok (.aaload, 1) := by decide +kernel
theorem dX6_make_26 : decode cX6_make 26 = .ok (.iload_n 2, 1) := by decide +kernel
theorem dX6_make_27 : decode cX6_make 27 = .ok (.iload_n 3, 1) := by decide +kernel
theorem dX6_make_28 : decode cX6_make 28 = .ok (.iload 4, 2) := by decide +kernel
theorem dX6_make_30 : decode cX6_make 30 = .ok (.invokevirtual 66, 3) := by decide +kernel
theorem dX6_make_33 : decode cX6_make 33 = .ok (.aload_n 0, 1) := by decide +kernel
theorem dX6_make_34 : decode cX6_make 34 = .ok (.getfield 11, 3) := by decide +kernel
theorem dX6_make_37 : decode cX6_make 37 = .ok (.iload_n 1, 1) := by decide +kernel
theorem dX6_make_38 : decode cX6_make 38 = .ok (.aaload, 1) := by decide +kernel
theorem dX6_make_39 : decode cX6_make 39 = .ok (.getfield 70, 3) := by decide +kernel
theorem dX6_make_42 : decode cX6_make 42 = .ok (.ireturn, 1) := by decide +kernel
set_option maxRecDepth 20000 in
theorem ggX6_period_X6_isRegister : GoodIn wsX6_period wsX6_isRegister := goodIn_r _ [4, 5, 6, 3, 7] (by decide +kernel) (by decide +kernel)
set_option maxRecDepth 20000 in
theorem gX6_period_X6_isRegister : GoodIn wsX6_period (va_wsS RX6 62 yX6_isRegister wsX6_isRegister) := goodIn_app (goodIn_of _ (by decide +kernel)) ggX6_period_X6_isRegister
set_option maxRecDepth 20000 in
theorem ggX6_period_X6_stepsToReturn : GoodIn wsX6_period wsX6_stepsToReturn := goodIn_r _ [10, 11, 12, 3, 13, 14, 15, 16, 17, 18, 19, 20] (by decide +kernel) (by decide +kernel)
set_option maxRecDepth 20000 in
theorem gX6_period_X6_stepsToReturn : GoodIn wsX6_period (va_wsS RX6 73 yX6_stepsToReturn wsX6_stepsToReturn) := goodIn_app (goodIn_of _ (by decide +kernel)) ggX6_period_X6_stepsToReturn
theorem dX6_period_0 : decode cX6_period 0 = .ok (.iload_n 1, 1) := by decide +kernel
theorem dX6_period_1 : decode cX6_period 1 = .ok (.iload_n 2, 1) := by decide +kernel
theorem dX6_period_2 : decode cX6_period 2 = .ok (.iload_n 3, 1) := by decide +kernel
theorem dX6_period_3 : decode cX6_period 3 = .ok (.invokestatic 62, 3) := by decide +kernel
theorem dX6_period_6 : decode cX6_period 6 = .ok (.ifCond .eq 12, 3) := by decide +kernel
theorem dX6_period_9 : decode cX6_period 9 = .ok (.iload_n 1, 1) := by decide +kernel
theorem dX6_period_10 : decode cX6_period 10 = .ok (.iload_n 2, 1) := by decide +kernel
theorem dX6_period_11 : decode cX6_period 11 = .ok (.iload_n 3, 1) := by decide +kernel
theorem dX6_period_12 : decode cX6_period 12 = .ok (.invokestatic 73, 3) := by decide +kernel
theorem dX6_period_15 : decode cX6_period 15 = .ok (.goto 5, 3) := by decide +kernel
theorem dX6_period_18 : decode cX6_period 18 = .ok (.bipush (-2), 2) := by decide +kernel
theorem dX6_period_20 : decode cX6_period 20 = .ok (.ireturn, 1) := by decide +kernel
set_option maxRecDepth 20000 in
theorem ggX6_full_X6_isBits : GoodIn wsX6_full wsX6_isBits := goodIn_r _ [4] (by decide +kernel) (by decide +kernel)
set_option maxRecDepth 20000 in
theorem gX6_full_X6_isBits : GoodIn wsX6_full (va_wsS RX6 77 yX6_isBits wsX6_isBits) := goodIn_app (goodIn_of _ (by decide +kernel)) ggX6_full_X6_isBits
set_option maxRecDepth 20000 in
theorem ggX6_full_X6_stepsToReturn : GoodIn wsX6_full wsX6_stepsToReturn := goodIn_r _ [7, 8, 9, 3, 10, 11, 12, 13, 14, 15, 16, 17] (by decide +kernel) (by decide +kernel)
set_option maxRecDepth 20000 in
theorem gX6_full_X6_stepsToReturn : GoodIn wsX6_full (va_wsS RX6 73 yX6_stepsToReturn wsX6_stepsToReturn) := goodIn_app (goodIn_of _ (by decide +kernel)) ggX6_full_X6_stepsToReturn
theorem dX6_full_0 : decode cX6_full 0 = .ok (.iload_n 1, 1) := by decide +kernel
theorem dX6_full_1 : decode cX6_full 1 = .ok (.invokestatic 77, 3) := by decide +kernel
theorem dX6_full_4 : decode cX6_full 4 = .ok (.ifCond .ne 6, 3) := by decide +kernel
theorem dX6_full_7 : decode cX6_full 7 = .ok (.bipush (-2), 2) := by decide +kernel
theorem dX6_full_9 : decode cX6_full 9 = .ok (.ireturn, 1) := by decide +kernel
theorem dX6_full_10 : decode cX6_full 10 = .ok (.iconst 1, 1) := by decide +kernel
theorem dX6_full_11 : decode cX6_full 11 = .ok (.iload_n 1, 1) := by decide +kernel
theorem dX6_full_12 : decode cX6_full 12 = .ok (.ishl, 1) := by decide +kernel
theorem dX6_full_13 : decode cX6_full 13 = .ok (.iconst 1, 1) := by decide +kernel
theorem dX6_full_14 : decode cX6_full 14 = .ok (.isub, 1) := by decide +kernel
theorem dX6_full_15 : decode cX6_full 15 = .ok (.istore_n 2, 1) := by decide +kernel
theorem dX6_full_16 : decode cX6_full 16 = .ok (.iconst 0, 1) := by decide +kernel
theorem dX6_full_17 : decode cX6_full 17 = .ok (.istore_n 3, 1) := by decide +kernel
theorem dX6_full_18 : decode cX6_full 18 = .ok (.iconst 1, 1) := by decide +kernel
theorem dX6_full_19 : decode cX6_full 19 = .ok (.istore 4, 2) := by decide +kernel
theorem dX6_full_21 : decode cX6_full 21 = .ok (.iload 4, 2) := by decide +kernel
theorem dX6_full_23 : decode cX6_full 23 = .ok (.iload_n 2, 1) := by decide +kernel
theorem dX6_full_24 : decode cX6_full 24 = .ok (.if_icmp .gt 23, 3) := by decide +kernel
theorem dX6_full_27 : decode cX6_full 27 = .ok (.iload_n 1, 1) := by decide +kernel
theorem dX6_full_28 : decode cX6_full 28 = .ok (.iload 4, 2) := by decide +kernel
theorem dX6_full_30 : decode cX6_full 30 = .ok (.iconst 1, 1) := by decide +kernel
theorem dX6_full_31 : decode cX6_full 31 = .ok (.invokestatic 73, 3) := by decide +kernel
theorem dX6_full_34 : decode cX6_full 34 = .ok (.iload_n 2, 1) := by decide +kernel
theorem dX6_full_35 : decode cX6_full 35 = .ok (.if_icmp .ne 6, 3) := by decide +kernel
theorem dX6_full_38 : decode cX6_full 38 = .ok (.iinc 3 1, 3) := by decide +kernel
theorem dX6_full_41 : decode cX6_full 41 = .ok (.iinc 4 2, 3) := by decide +kernel
theorem dX6_full_44 : decode cX6_full 44 = .ok (.goto (-23), 3) := by decide +kernel
theorem dX6_full_47 : decode cX6_full 47 = .ok (.iload_n 3, 1) := by decide +kernel
theorem dX6_full_48 : decode cX6_full 48 = .ok (.ireturn, 1) := by decide +kernel
set_option maxRecDepth 20000 in
theorem ggX6_join_X6_isRow : GoodIn wsX6_join wsX6_isRow := goodIn_r _ [6] (by decide +kernel) (by decide +kernel)
set_option maxRecDepth 20000 in
theorem gX6_join_X6_isRow : GoodIn wsX6_join (va_wsS RX6 58 yX6_isRow wsX6_isRow) := goodIn_app (goodIn_of _ (by decide +kernel)) ggX6_join_X6_isRow
set_option maxRecDepth 20000 in
theorem ggX6_join_X6_isShift : GoodIn wsX6_join wsX6_isShift := goodIn_r _ [9] (by decide +kernel) (by decide +kernel)
set_option maxRecDepth 20000 in
theorem gX6_join_X6_isShift : GoodIn wsX6_join (va_wsS RX6 80 yX6_isShift wsX6_isShift) := goodIn_app (goodIn_of _ (by decide +kernel)) ggX6_join_X6_isShift
set_option maxRecDepth 20000 in
theorem ggX6_join_X6_arePaired : GoodIn wsX6_join wsX6_arePaired := goodIn_r _ [13, 1, 14, 15, 16, 17, 18, 19, 37, 38, 39, 40, 41, 42, 43, 44, 45, 46] (by decide +kernel) (by decide +kernel)
set_option maxRecDepth 20000 in
theorem gX6_join_X6_arePaired : GoodIn wsX6_join (wsV RX6 83 RX6 yX6_arePaired wsX6_arePaired) := goodIn_app (goodIn_of _ (by decide +kernel)) ggX6_join_X6_arePaired
set_option maxRecDepth 20000 in
theorem ggX6_join_X3_signAt : GoodIn wsX6_join wsX3_signAt := goodIn_r _ [23, 19, 24, 25, 26, 27, 28, 45, 46] (by decide +kernel) (by decide +kernel)
set_option maxRecDepth 20000 in
theorem gX6_join_X3_signAt : GoodIn wsX6_join (wsV RX6 91 RX3 yX3_signAt wsX3_signAt) := goodIn_app (goodIn_of _ (by decide +kernel)) ggX6_join_X3_signAt
set_option maxRecDepth 20000 in
theorem ggX6_join_X3_fillBySignsOf : GoodIn wsX6_join wsX3_fillBySignsOf := goodIn_r _ [32, 33, 34, 35, 36, 19, 24, 45, 46] (by decide +kernel) (by decide +kernel)
set_option maxRecDepth 20000 in
theorem gX6_join_X3_fillBySignsOf : GoodIn wsX6_join (wsV RX6 95 RX3 yX3_fillBySignsOf wsX3_fillBySignsOf) := goodIn_app (goodIn_of _ (by decide +kernel)) ggX6_join_X3_fillBySignsOf
theorem dX6_join_0 : decode cX6_join 0 = .ok (.iload_n 1, 1) := by decide +kernel
theorem dX6_join_1 : decode cX6_join 1 = .ok (.invokestatic 58, 3) := by decide +kernel
theorem dX6_join_4 : decode cX6_join 4 = .ok (.ifCond .eq 25, 3) := by decide +kernel
theorem dX6_join_7 : decode cX6_join 7 = .ok (.iload_n 2, 1) := by decide +kernel
theorem dX6_join_8 : decode cX6_join 8 = .ok (.invokestatic 58, 3) := by decide +kernel
theorem dX6_join_11 : decode cX6_join 11 = .ok (.ifCond .eq 18, 3) := by decide +kernel
theorem dX6_join_14 : decode cX6_join 14 = .ok (.iload_n 3, 1) := by decide +kernel
theorem dX6_join_15 : decode cX6_join 15 = .ok (.invokestatic 80, 3) := by decide +kernel
theorem dX6_join_18 : decode cX6_join 18 = .ok (.ifCond .eq 11, 3) := by decide +kernel
theorem dX6_join_21 : decode cX6_join 21 = .ok (.iload 4, 2) := by decide +kernel
theorem dX6_join_23 : decode cX6_join 23 = .ok (.invokestatic 58, 3) := by decide +kernel
theorem dX6_join_26 : decode cX6_join 26 = .ok (.ifCond .ne 6, 3) := by decide +kernel
theorem dX6_join_29 : decode cX6_join 29 = .ok (.bipush (-2), 2) := by decide +kernel
theorem dX6_join_31 : decode cX6_join 31 = .ok (.ireturn, 1) := by decide +kernel
theorem dX6_join_32 : decode cX6_join 32 = .ok (.aload_n 0, 1) := by decide +kernel
theorem dX6_join_33 : decode cX6_join 33 = .ok (.iload_n 1, 1) := by decide +kernel
theorem dX6_join_34 : decode cX6_join 34 = .ok (.iload_n 2, 1) := by decide +kernel
theorem dX6_join_35 : decode cX6_join 35 = .ok (.invokevirtual 83, 3) := by decide +kernel
theorem dX6_join_38 : decode cX6_join 38 = .ok (.ifCond .ne 6, 3) := by decide +kernel
theorem dX6_join_41 : decode cX6_join 41 = .ok (.bipush (-3), 2) := by decide +kernel
theorem dX6_join_43 : decode cX6_join 43 = .ok (.ireturn, 1) := by decide +kernel
theorem dX6_join_44 : decode cX6_join 44 = .ok (.aload_n 0, 1) := by decide +kernel
theorem dX6_join_45 : decode cX6_join 45 = .ok (.getfield 11, 3) := by decide +kernel
theorem dX6_join_48 : decode cX6_join 48 = .ok (.iload_n 1, 1) := by decide +kernel
theorem dX6_join_49 : decode cX6_join 49 = .ok (.aaload, 1) := by decide +kernel
theorem dX6_join_50 : decode cX6_join 50 = .ok (.getfield 70, 3) := by decide +kernel
theorem dX6_join_53 : decode cX6_join 53 = .ok (.istore 5, 2) := by decide +kernel
theorem dX6_join_55 : decode cX6_join 55 = .ok (.iconst 0, 1) := by decide +kernel
theorem dX6_join_56 : decode cX6_join 56 = .ok (.istore 6, 2) := by decide +kernel
theorem dX6_join_58 : decode cX6_join 58 = .ok (.iload 6, 2) := by decide +kernel
theorem dX6_join_60 : decode cX6_join 60 = .ok (.iload 5, 2) := by decide +kernel
theorem dX6_join_62 : decode cX6_join 62 = .ok (.if_icmp .ge 44, 3) := by decide +kernel
theorem dX6_join_65 : decode cX6_join 65 = .ok (.aload_n 0, 1) := by decide +kernel
theorem dX6_join_66 : decode cX6_join 66 = .ok (.getfield 24, 3) := by decide +kernel
theorem dX6_join_69 : decode cX6_join 69 = .ok (.getfield 87, 3) := by decide +kernel
theorem dX6_join_72 : decode cX6_join 72 = .ok (.iload 6, 2) := by decide +kernel
theorem dX6_join_74 : decode cX6_join 74 = .ok (.aload_n 0, 1) := by decide +kernel
theorem dX6_join_75 : decode cX6_join 75 = .ok (.getfield 11, 3) := by decide +kernel
theorem dX6_join_78 : decode cX6_join 78 = .ok (.iload_n 1, 1) := by decide +kernel
theorem dX6_join_79 : decode cX6_join 79 = .ok (.aaload, 1) := by decide +kernel
theorem dX6_join_80 : decode cX6_join 80 = .ok (.iload 6, 2) := by decide +kernel
theorem dX6_join_82 : decode cX6_join 82 = .ok (.invokevirtual 91, 3) := by decide +kernel
theorem dX6_join_85 : decode cX6_join 85 = .ok (.aload_n 0, 1) := by decide +kernel
theorem dX6_join_86 : decode cX6_join 86 = .ok (.getfield 11, 3) := by decide +kernel
theorem dX6_join_89 : decode cX6_join 89 = .ok (.iload_n 2, 1) := by decide +kernel
theorem dX6_join_90 : decode cX6_join 90 = .ok (.aaload, 1) := by decide +kernel
theorem dX6_join_91 : decode cX6_join 91 = .ok (.iload 6, 2) := by decide +kernel
theorem dX6_join_93 : decode cX6_join 93 = .ok (.iload_n 3, 1) := by decide +kernel
theorem dX6_join_94 : decode cX6_join 94 = .ok (.iadd, 1) := by decide +kernel
theorem dX6_join_95 : decode cX6_join 95 = .ok (.invokevirtual 91, 3) := by decide +kernel
theorem dX6_join_98 : decode cX6_join 98 = .ok (.imul, 1) := by decide +kernel
theorem dX6_join_99 : decode cX6_join 99 = .ok (.iastore, 1) := by decide +kernel
theorem dX6_join_100 : decode cX6_join 100 = .ok (.iinc 6 1, 3) := by decide +kernel
theorem dX6_join_103 : decode cX6_join 103 = .ok (.goto (-45), 3) := by decide +kernel
theorem dX6_join_106 : decode cX6_join 106 = .ok (.aload_n 0, 1) := by decide +kernel
theorem dX6_join_107 : decode cX6_join 107 = .ok (.getfield 11, 3) := by decide +kernel
theorem dX6_join_110 : decode cX6_join 110 = .ok (.iload 4, 2) := by decide +kernel
theorem dX6_join_112 : decode cX6_join 112 = .ok (.aaload, 1) := by decide +kernel
theorem dX6_join_113 : decode cX6_join 113 = .ok (.aload_n 0, 1) := by decide +kernel
theorem dX6_join_114 : decode cX6_join 114 = .ok (.getfield 24, 3) := by decide +kernel
theorem dX6_join_117 : decode cX6_join 117 = .ok (.getfield 87, 3) := by decide +kernel
theorem dX6_join_120 : decode cX6_join 120 = .ok (.iload 5, 2) := by decide +kernel
theorem dX6_join_122 : decode cX6_join 122 = .ok (.invokevirtual 95, 3) := by decide +kernel
theorem dX6_join_125 : decode cX6_join 125 = .ok (.iload 5, 2) := by decide +kernel
theorem dX6_join_127 : decode cX6_join 127 = .ok (.ireturn, 1) := by decide +kernel
set_option maxRecDepth 20000 in
theorem ggX6_load_X6_isRow : GoodIn wsX6_load wsX6_isRow := goodIn_r _ [6] (by decide +kernel) (by decide +kernel)
set_option maxRecDepth 20000 in
theorem gX6_load_X6_isRow : GoodIn wsX6_load (va_wsS RX6 58 yX6_isRow wsX6_isRow) := goodIn_app (goodIn_of _ (by decide +kernel)) ggX6_load_X6_isRow
set_option maxRecDepth 20000 in
theorem ggX6_load_X6_isReel : GoodIn wsX6_load wsX6_isReel := goodIn_r _ [9] (by decide +kernel) (by decide +kernel)
set_option maxRecDepth 20000 in
theorem gX6_load_X6_isReel : GoodIn wsX6_load (va_wsS RX6 99 yX6_isReel wsX6_isReel) := goodIn_app (goodIn_of _ (by decide +kernel)) ggX6_load_X6_isReel
set_option maxRecDepth 20000 in
theorem ggX6_load_X6_isSize : GoodIn wsX6_load wsX6_isSize := goodIn_r _ [12] (by decide +kernel) (by decide +kernel)
set_option maxRecDepth 20000 in
theorem gX6_load_X6_isSize : GoodIn wsX6_load (va_wsS RX6 102 yX6_isSize wsX6_isSize) := goodIn_app (goodIn_of _ (by decide +kernel)) ggX6_load_X6_isSize
set_option maxRecDepth 20000 in
theorem ggX6_load_X6_found : GoodIn wsX6_load wsX6_found := goodIn_r _ [16, 17, 29, 30, 31, 32, 33, 34, 35, 36] (by decide +kernel) (by decide +kernel)
set_option maxRecDepth 20000 in
theorem gX6_load_X6_found : GoodIn wsX6_load (wsV RX6 109 RX6 yX6_found wsX6_found) := goodIn_app (goodIn_of _ (by decide +kernel)) ggX6_load_X6_found
set_option maxRecDepth 20000 in
theorem ggX6_load_X3_fillBySignsOf : GoodIn wsX6_load wsX3_fillBySignsOf := goodIn_r _ [22, 23, 24, 25, 26, 27, 28, 41, 42] (by decide +kernel) (by decide +kernel)
set_option maxRecDepth 20000 in
theorem gX6_load_X3_fillBySignsOf : GoodIn wsX6_load (wsV RX6 95 RX3 yX3_fillBySignsOf wsX3_fillBySignsOf) := goodIn_app (goodIn_of _ (by decide +kernel)) ggX6_load_X3_fillBySignsOf
theorem dX6_load_0 : decode cX6_load 0 = .ok (.iload_n 1, 1) := by decide +kernel
theorem dX6_load_1 : decode cX6_load 1 = .ok (.invokestatic 58, 3) := by decide +kernel
theorem dX6_load_4 : decode cX6_load 4 = .ok (.ifCond .eq 17, 3) := by decide +kernel
theorem dX6_load_7 : decode cX6_load 7 = .ok (.iload_n 2, 1) := by decide +kernel
theorem dX6_load_8 : decode cX6_load 8 = .ok (.invokestatic 99, 3) := by decide +kernel
theorem dX6_load_11 : decode cX6_load 11 = .ok (.ifCond .eq 10, 3) := by decide +kernel
theorem dX6_load_14 : decode cX6_load 14 = .ok (.iload_n 3, 1) := by decide +kernel
theorem dX6_load_15 : decode cX6_load 15 = .ok (.invokestatic 102, 3) := by decide +kernel
theorem dX6_load_18 : decode cX6_load 18 = .ok (.ifCond .ne 6, 3) := by decide +kernel
theorem dX6_load_21 : decode cX6_load 21 = .ok (.bipush (-2), 2) := by decide +kernel
theorem dX6_load_23 : decode cX6_load 23 = .ok (.ireturn, 1) := by decide +kernel
theorem dX6_load_24 : decode cX6_load 24 = .ok (.aload_n 0, 1) := by decide +kernel
theorem dX6_load_25 : decode cX6_load 25 = .ok (.getfield 17, 3) := by decide +kernel
theorem dX6_load_28 : decode cX6_load 28 = .ok (.iload_n 2, 1) := by decide +kernel
theorem dX6_load_29 : decode cX6_load 29 = .ok (.aaload, 1) := by decide +kernel
theorem dX6_load_30 : decode cX6_load 30 = .ok (.getfield 105, 3) := by decide +kernel
theorem dX6_load_33 : decode cX6_load 33 = .ok (.ifCond .eq 9, 3) := by decide +kernel
theorem dX6_load_36 : decode cX6_load 36 = .ok (.aload_n 0, 1) := by decide +kernel
theorem dX6_load_37 : decode cX6_load 37 = .ok (.iconst 1, 1) := by decide +kernel
theorem dX6_load_38 : decode cX6_load 38 = .ok (.invokevirtual 109, 3) := by decide +kernel
theorem dX6_load_41 : decode cX6_load 41 = .ok (.ireturn, 1) := by decide +kernel
theorem dX6_load_42 : decode cX6_load 42 = .ok (.aload_n 0, 1) := by decide +kernel
theorem dX6_load_43 : decode cX6_load 43 = .ok (.getfield 17, 3) := by decide +kernel
theorem dX6_load_46 : decode cX6_load 46 = .ok (.iload_n 2, 1) := by decide +kernel
theorem dX6_load_47 : decode cX6_load 47 = .ok (.aaload, 1) := by decide +kernel
theorem dX6_load_48 : decode cX6_load 48 = .ok (.getfield 112, 3) := by decide +kernel
theorem dX6_load_51 : decode cX6_load 51 = .ok (.iload_n 3, 1) := by decide +kernel
theorem dX6_load_52 : decode cX6_load 52 = .ok (.if_icmp .ge 9, 3) := by decide +kernel
theorem dX6_load_55 : decode cX6_load 55 = .ok (.aload_n 0, 1) := by decide +kernel
theorem dX6_load_56 : decode cX6_load 56 = .ok (.iconst 2, 1) := by decide +kernel
theorem dX6_load_57 : decode cX6_load 57 = .ok (.invokevirtual 109, 3) := by decide +kernel
theorem dX6_load_60 : decode cX6_load 60 = .ok (.ireturn, 1) := by decide +kernel
theorem dX6_load_61 : decode cX6_load 61 = .ok (.aload_n 0, 1) := by decide +kernel
theorem dX6_load_62 : decode cX6_load 62 = .ok (.getfield 11, 3) := by decide +kernel
theorem dX6_load_65 : decode cX6_load 65 = .ok (.iload_n 1, 1) := by decide +kernel
theorem dX6_load_66 : decode cX6_load 66 = .ok (.aaload, 1) := by decide +kernel
theorem dX6_load_67 : decode cX6_load 67 = .ok (.aload_n 0, 1) := by decide +kernel
theorem dX6_load_68 : decode cX6_load 68 = .ok (.getfield 17, 3) := by decide +kernel
theorem dX6_load_71 : decode cX6_load 71 = .ok (.iload_n 2, 1) := by decide +kernel
theorem dX6_load_72 : decode cX6_load 72 = .ok (.aaload, 1) := by decide +kernel
theorem dX6_load_73 : decode cX6_load 73 = .ok (.getfield 113, 3) := by decide +kernel
theorem dX6_load_76 : decode cX6_load 76 = .ok (.iload_n 3, 1) := by decide +kernel
theorem dX6_load_77 : decode cX6_load 77 = .ok (.invokevirtual 95, 3) := by decide +kernel
theorem dX6_load_80 : decode cX6_load 80 = .ok (.iload_n 3, 1) := by decide +kernel
theorem dX6_load_81 : decode cX6_load 81 = .ok (.ireturn, 1) := by decide +kernel
set_option maxRecDepth 20000 in
theorem ggX6_drop_X6_isRow : GoodIn wsX6_drop wsX6_isRow := goodIn_r _ [5] (by decide +kernel) (by decide +kernel)
set_option maxRecDepth 20000 in
theorem gX6_drop_X6_isRow : GoodIn wsX6_drop (va_wsS RX6 58 yX6_isRow wsX6_isRow) := goodIn_app (goodIn_of _ (by decide +kernel)) ggX6_drop_X6_isRow
set_option maxRecDepth 20000 in
theorem ggX6_drop_X3_isNone : GoodIn wsX6_drop wsX3_isNone := goodIn_r _ [10, 11, 20, 21] (by decide +kernel) (by decide +kernel)
set_option maxRecDepth 20000 in
theorem gX6_drop_X3_isNone : GoodIn wsX6_drop (wsV RX6 116 RX3 yX3_isNone wsX3_isNone) := goodIn_app (goodIn_of _ (by decide +kernel)) ggX6_drop_X3_isNone
theorem dX6_drop_0 : decode cX6_drop 0 = .ok (.iload_n 1, 1) := by decide +kernel
theorem dX6_drop_1 : decode cX6_drop 1 = .ok (.invokestatic 58, 3) := by decide +kernel
theorem dX6_drop_4 : decode cX6_drop 4 = .ok (.ifCond .ne 6, 3) := by decide +kernel
theorem dX6_drop_7 : decode cX6_drop 7 = .ok (.bipush (-2), 2) := by decide +kernel
theorem dX6_drop_9 : decode cX6_drop 9 = .ok (.ireturn, 1) := by decide +kernel
theorem dX6_drop_10 : decode cX6_drop 10 = .ok (.aload_n 0, 1) := by decide +kernel
theorem dX6_drop_11 : decode cX6_drop 11 = .ok (.getfield 11, 3) := by decide +kernel
theorem dX6_drop_14 : decode cX6_drop 14 = .ok (.iload_n 1, 1) := by decide +kernel
theorem dX6_drop_15 : decode cX6_drop 15 = .ok (.aaload, 1) := by decide +kernel
theorem dX6_drop_16 : decode cX6_drop 16 = .ok (.invokevirtual 116, 3) := by decide +kernel
theorem dX6_drop_19 : decode cX6_drop 19 = .ok (.ifCond .eq 6, 3) := by decide +kernel
theorem dX6_drop_22 : decode cX6_drop 22 = .ok (.bipush (-3), 2) := by decide +kernel
theorem dX6_drop_24 : decode cX6_drop 24 = .ok (.ireturn, 1) := by decide +kernel
theorem dX6_drop_25 : decode cX6_drop 25 = .ok (.aload_n 0, 1) := by decide +kernel
theorem dX6_drop_26 : decode cX6_drop 26 = .ok (.getfield 11, 3) := by decide +kernel
theorem dX6_drop_29 : decode cX6_drop 29 = .ok (.iload_n 1, 1) := by decide +kernel
theorem dX6_drop_30 : decode cX6_drop 30 = .ok (.aaload, 1) := by decide +kernel
theorem dX6_drop_31 : decode cX6_drop 31 = .ok (.getfield 70, 3) := by decide +kernel
theorem dX6_drop_34 : decode cX6_drop 34 = .ok (.istore_n 2, 1) := by decide +kernel
theorem dX6_drop_35 : decode cX6_drop 35 = .ok (.aload_n 0, 1) := by decide +kernel
theorem dX6_drop_36 : decode cX6_drop 36 = .ok (.getfield 11, 3) := by decide +kernel
theorem dX6_drop_39 : decode cX6_drop 39 = .ok (.iload_n 1, 1) := by decide +kernel
theorem dX6_drop_40 : decode cX6_drop 40 = .ok (.aaload, 1) := by decide +kernel
theorem dX6_drop_41 : decode cX6_drop 41 = .ok (.iconst 0, 1) := by decide +kernel
theorem dX6_drop_42 : decode cX6_drop 42 = .ok (.putfield 70, 3) := by decide +kernel
theorem dX6_drop_45 : decode cX6_drop 45 = .ok (.iload_n 2, 1) := by decide +kernel
theorem dX6_drop_46 : decode cX6_drop 46 = .ok (.ireturn, 1) := by decide +kernel
set_option maxRecDepth 20000 in
theorem ggX6_sign_X6_isRow : GoodIn wsX6_sign wsX6_isRow := goodIn_r _ [5] (by decide +kernel) (by decide +kernel)
set_option maxRecDepth 20000 in
theorem gX6_sign_X6_isRow : GoodIn wsX6_sign (va_wsS RX6 58 yX6_isRow wsX6_isRow) := goodIn_app (goodIn_of _ (by decide +kernel)) ggX6_sign_X6_isRow
set_option maxRecDepth 20000 in
theorem ggX6_sign_X6_isShift : GoodIn wsX6_sign wsX6_isShift := goodIn_r _ [8] (by decide +kernel) (by decide +kernel)
set_option maxRecDepth 20000 in
theorem gX6_sign_X6_isShift : GoodIn wsX6_sign (va_wsS RX6 80 yX6_isShift wsX6_isShift) := goodIn_app (goodIn_of _ (by decide +kernel)) ggX6_sign_X6_isShift
set_option maxRecDepth 20000 in
theorem ggX6_sign_X3_isNone : GoodIn wsX6_sign wsX3_isNone := goodIn_r _ [13, 14, 32, 33] (by decide +kernel) (by decide +kernel)
set_option maxRecDepth 20000 in
theorem gX6_sign_X3_isNone : GoodIn wsX6_sign (wsV RX6 116 RX3 yX3_isNone wsX3_isNone) := goodIn_app (goodIn_of _ (by decide +kernel)) ggX6_sign_X3_isNone
set_option maxRecDepth 20000 in
theorem ggX6_sign_X3_signAt : GoodIn wsX6_sign wsX3_signAt := goodIn_r _ [18, 14, 19, 20, 21, 22, 23, 32, 33] (by decide +kernel) (by decide +kernel)
set_option maxRecDepth 20000 in
theorem gX6_sign_X3_signAt : GoodIn wsX6_sign (wsV RX6 91 RX3 yX3_signAt wsX3_signAt) := goodIn_app (goodIn_of _ (by decide +kernel)) ggX6_sign_X3_signAt
theorem dX6_sign_0 : decode cX6_sign 0 = .ok (.iload_n 1, 1) := by decide +kernel
theorem dX6_sign_1 : decode cX6_sign 1 = .ok (.invokestatic 58, 3) := by decide +kernel
theorem dX6_sign_4 : decode cX6_sign 4 = .ok (.ifCond .eq 10, 3) := by decide +kernel
theorem dX6_sign_7 : decode cX6_sign 7 = .ok (.iload_n 2, 1) := by decide +kernel
theorem dX6_sign_8 : decode cX6_sign 8 = .ok (.invokestatic 80, 3) := by decide +kernel
theorem dX6_sign_11 : decode cX6_sign 11 = .ok (.ifCond .ne 6, 3) := by decide +kernel
theorem dX6_sign_14 : decode cX6_sign 14 = .ok (.bipush (-2), 2) := by decide +kernel
theorem dX6_sign_16 : decode cX6_sign 16 = .ok (.ireturn, 1) := by decide +kernel
theorem dX6_sign_17 : decode cX6_sign 17 = .ok (.aload_n 0, 1) := by decide +kernel
theorem dX6_sign_18 : decode cX6_sign 18 = .ok (.getfield 11, 3) := by decide +kernel
theorem dX6_sign_21 : decode cX6_sign 21 = .ok (.iload_n 1, 1) := by decide +kernel
theorem dX6_sign_22 : decode cX6_sign 22 = .ok (.aaload, 1) := by decide +kernel
theorem dX6_sign_23 : decode cX6_sign 23 = .ok (.invokevirtual 116, 3) := by decide +kernel
theorem dX6_sign_26 : decode cX6_sign 26 = .ok (.ifCond .eq 8, 3) := by decide +kernel
theorem dX6_sign_29 : decode cX6_sign 29 = .ok (.bipush (-3), 2) := by decide +kernel
theorem dX6_sign_31 : decode cX6_sign 31 = .ok (.goto 13, 3) := by decide +kernel
theorem dX6_sign_34 : decode cX6_sign 34 = .ok (.aload_n 0, 1) := by decide +kernel
theorem dX6_sign_35 : decode cX6_sign 35 = .ok (.getfield 11, 3) := by decide +kernel
theorem dX6_sign_38 : decode cX6_sign 38 = .ok (.iload_n 1, 1) := by decide +kernel
theorem dX6_sign_39 : decode cX6_sign 39 = .ok (.aaload, 1) := by decide +kernel
theorem dX6_sign_40 : decode cX6_sign 40 = .ok (.iload_n 2, 1) := by decide +kernel
theorem dX6_sign_41 : decode cX6_sign 41 = .ok (.invokevirtual 91, 3) := by decide +kernel
theorem dX6_sign_44 : decode cX6_sign 44 = .ok (.ireturn, 1) := by decide +kernel
set_option maxRecDepth 20000 in
theorem ggX6_like_X6_isRow : GoodIn wsX6_like wsX6_isRow := goodIn_r _ [5] (by decide +kernel) (by decide +kernel)
set_option maxRecDepth 20000 in
theorem gX6_like_X6_isRow : GoodIn wsX6_like (va_wsS RX6 58 yX6_isRow wsX6_isRow) := goodIn_app (goodIn_of _ (by decide +kernel)) ggX6_like_X6_isRow
set_option maxRecDepth 20000 in
theorem ggX6_like_X6_isShift : GoodIn wsX6_like wsX6_isShift := goodIn_r _ [8] (by decide +kernel) (by decide +kernel)
set_option maxRecDepth 20000 in
theorem gX6_like_X6_isShift : GoodIn wsX6_like (va_wsS RX6 80 yX6_isShift wsX6_isShift) := goodIn_app (goodIn_of _ (by decide +kernel)) ggX6_like_X6_isShift
set_option maxRecDepth 20000 in
theorem ggX6_like_X6_arePaired : GoodIn wsX6_like wsX6_arePaired := goodIn_r _ [12, 1, 13, 14, 15, 16, 17, 18, 28, 29, 30, 31, 32, 33, 34, 35, 36, 37] (by decide +kernel) (by decide +kernel)
set_option maxRecDepth 20000 in
theorem gX6_like_X6_arePaired : GoodIn wsX6_like (wsV RX6 83 RX6 yX6_arePaired wsX6_arePaired) := goodIn_app (goodIn_of _ (by decide +kernel)) ggX6_like_X6_arePaired
set_option maxRecDepth 20000 in
theorem ggX6_like_X3_sumOver : GoodIn wsX6_like wsX3_sumOver := goodIn_r _ [22, 18, 23, 24, 25, 26, 27, 36, 37] (by decide +kernel) (by decide +kernel)
set_option maxRecDepth 20000 in
theorem gX6_like_X3_sumOver : GoodIn wsX6_like (wsV RX6 123 RX3 yX3_sumOver wsX3_sumOver) := goodIn_app (goodIn_of _ (by decide +kernel)) ggX6_like_X3_sumOver
theorem dX6_like_0 : decode cX6_like 0 = .ok (.iload_n 1, 1) := by decide +kernel
theorem dX6_like_1 : decode cX6_like 1 = .ok (.invokestatic 58, 3) := by decide +kernel
theorem dX6_like_4 : decode cX6_like 4 = .ok (.ifCond .eq 17, 3) := by decide +kernel
theorem dX6_like_7 : decode cX6_like 7 = .ok (.iload_n 2, 1) := by decide +kernel
theorem dX6_like_8 : decode cX6_like 8 = .ok (.invokestatic 58, 3) := by decide +kernel
theorem dX6_like_11 : decode cX6_like 11 = .ok (.ifCond .eq 10, 3) := by decide +kernel
theorem dX6_like_14 : decode cX6_like 14 = .ok (.iload_n 3, 1) := by decide +kernel
theorem dX6_like_15 : decode cX6_like 15 = .ok (.invokestatic 80, 3) := by decide +kernel
theorem dX6_like_18 : decode cX6_like 18 = .ok (.ifCond .ne 7, 3) := by decide +kernel
theorem dX6_like_21 : decode cX6_like 21 = .ok (.sipush (-1002), 3) := by decide +kernel
theorem dX6_like_24 : decode cX6_like 24 = .ok (.ireturn, 1) := by decide +kernel
theorem dX6_like_25 : decode cX6_like 25 = .ok (.aload_n 0, 1) := by decide +kernel
theorem dX6_like_26 : decode cX6_like 26 = .ok (.iload_n 1, 1) := by decide +kernel
theorem dX6_like_27 : decode cX6_like 27 = .ok (.iload_n 2, 1) := by decide +kernel
theorem dX6_like_28 : decode cX6_like 28 = .ok (.invokevirtual 83, 3) := by decide +kernel
theorem dX6_like_31 : decode cX6_like 31 = .ok (.ifCond .eq 25, 3) := by decide +kernel
theorem dX6_like_34 : decode cX6_like 34 = .ok (.aload_n 0, 1) := by decide +kernel
theorem dX6_like_35 : decode cX6_like 35 = .ok (.getfield 11, 3) := by decide +kernel
theorem dX6_like_38 : decode cX6_like 38 = .ok (.iload_n 2, 1) := by decide +kernel
theorem dX6_like_39 : decode cX6_like 39 = .ok (.aaload, 1) := by decide +kernel
theorem dX6_like_40 : decode cX6_like 40 = .ok (.aload_n 0, 1) := by decide +kernel
theorem dX6_like_41 : decode cX6_like 41 = .ok (.getfield 11, 3) := by decide +kernel
theorem dX6_like_44 : decode cX6_like 44 = .ok (.iload_n 1, 1) := by decide +kernel
theorem dX6_like_45 : decode cX6_like 45 = .ok (.aaload, 1) := by decide +kernel
theorem dX6_like_46 : decode cX6_like 46 = .ok (.getfield 120, 3) := by decide +kernel
theorem dX6_like_49 : decode cX6_like 49 = .ok (.iload_n 3, 1) := by decide +kernel
theorem dX6_like_50 : decode cX6_like 50 = .ok (.invokevirtual 123, 3) := by decide +kernel
theorem dX6_like_53 : decode cX6_like 53 = .ok (.goto 6, 3) := by decide +kernel
theorem dX6_like_56 : decode cX6_like 56 = .ok (.sipush (-1003), 3) := by decide +kernel
theorem dX6_like_59 : decode cX6_like 59 = .ok (.ireturn, 1) := by decide +kernel
set_option maxRecDepth 20000 in
theorem ggX6_most_X6_isRow : GoodIn wsX6_most wsX6_isRow := goodIn_r _ [12] (by decide +kernel) (by decide +kernel)
set_option maxRecDepth 20000 in
theorem gX6_most_X6_isRow : GoodIn wsX6_most (va_wsS RX6 58 yX6_isRow wsX6_isRow) := goodIn_app (goodIn_of _ (by decide +kernel)) ggX6_most_X6_isRow
set_option maxRecDepth 20000 in
theorem ggX6_most_X6_arePaired : GoodIn wsX6_most wsX6_arePaired := goodIn_r _ [16, 1, 17, 18, 19, 20, 21, 22, 32, 33, 34, 35, 36, 37, 38, 39, 40, 41] (by decide +kernel) (by decide +kernel)
set_option maxRecDepth 20000 in
theorem gX6_most_X6_arePaired : GoodIn wsX6_most (wsV RX6 83 RX6 yX6_arePaired wsX6_arePaired) := goodIn_app (goodIn_of _ (by decide +kernel)) ggX6_most_X6_arePaired
set_option maxRecDepth 20000 in
theorem ggX6_most_X3_sumOver : GoodIn wsX6_most wsX3_sumOver := goodIn_r _ [26, 22, 27, 28, 29, 30, 31, 40, 41] (by decide +kernel) (by decide +kernel)
set_option maxRecDepth 20000 in
theorem gX6_most_X3_sumOver : GoodIn wsX6_most (wsV RX6 123 RX3 yX3_sumOver wsX3_sumOver) := goodIn_app (goodIn_of _ (by decide +kernel)) ggX6_most_X3_sumOver
theorem dX6_most_0 : decode cX6_most 0 = .ok (.iload_n 1, 1) := by decide +kernel
theorem dX6_most_1 : decode cX6_most 1 = .ok (.invokestatic 58, 3) := by decide +kernel
theorem dX6_most_4 : decode cX6_most 4 = .ok (.ifCond .eq 10, 3) := by decide +kernel
theorem dX6_most_7 : decode cX6_most 7 = .ok (.iload_n 2, 1) := by decide +kernel
theorem dX6_most_8 : decode cX6_most 8 = .ok (.invokestatic 58, 3) := by decide +kernel
theorem dX6_most_11 : decode cX6_most 11 = .ok (.ifCond .ne 6, 3) := by decide +kernel
theorem dX6_most_14 : decode cX6_most 14 = .ok (.bipush (-2), 2) := by decide +kernel
theorem dX6_most_16 : decode cX6_most 16 = .ok (.ireturn, 1) := by decide +kernel
theorem dX6_most_17 : decode cX6_most 17 = .ok (.aload_n 0, 1) := by decide +kernel
theorem dX6_most_18 : decode cX6_most 18 = .ok (.iload_n 1, 1) := by decide +kernel
theorem dX6_most_19 : decode cX6_most 19 = .ok (.iload_n 2, 1) := by decide +kernel
theorem dX6_most_20 : decode cX6_most 20 = .ok (.invokevirtual 83, 3) := by decide +kernel
theorem dX6_most_23 : decode cX6_most 23 = .ok (.ifCond .ne 6, 3) := by decide +kernel
theorem dX6_most_26 : decode cX6_most 26 = .ok (.bipush (-3), 2) := by decide +kernel
theorem dX6_most_28 : decode cX6_most 28 = .ok (.ireturn, 1) := by decide +kernel
theorem dX6_most_29 : decode cX6_most 29 = .ok (.iconst 0, 1) := by decide +kernel
theorem dX6_most_30 : decode cX6_most 30 = .ok (.istore_n 3, 1) := by decide +kernel
theorem dX6_most_31 : decode cX6_most 31 = .ok (.iload_n 1, 1) := by decide +kernel
theorem dX6_most_32 : decode cX6_most 32 = .ok (.iload_n 2, 1) := by decide +kernel
theorem dX6_most_33 : decode cX6_most 33 = .ok (.if_icmp .ne 7, 3) := by decide +kernel
theorem dX6_most_36 : decode cX6_most 36 = .ok (.iconst 1, 1) := by decide +kernel
theorem dX6_most_37 : decode cX6_most 37 = .ok (.goto 4, 3) := by decide +kernel
theorem dX6_most_40 : decode cX6_most 40 = .ok (.iconst 0, 1) := by decide +kernel
theorem dX6_most_41 : decode cX6_most 41 = .ok (.istore 4, 2) := by decide +kernel
theorem dX6_most_43 : decode cX6_most 43 = .ok (.iload 4, 2) := by decide +kernel
theorem dX6_most_45 : decode cX6_most 45 = .ok (.aload_n 0, 1) := by decide +kernel
theorem dX6_most_46 : decode cX6_most 46 = .ok (.getfield 11, 3) := by decide +kernel
theorem dX6_most_49 : decode cX6_most 49 = .ok (.iload_n 1, 1) := by decide +kernel
theorem dX6_most_50 : decode cX6_most 50 = .ok (.aaload, 1) := by decide +kernel
theorem dX6_most_51 : decode cX6_most 51 = .ok (.getfield 70, 3) := by decide +kernel
theorem dX6_most_54 : decode cX6_most 54 = .ok (.if_icmp .ge 37, 3) := by decide +kernel
theorem dX6_most_57 : decode cX6_most 57 = .ok (.iload_n 3, 1) := by decide +kernel
theorem dX6_most_58 : decode cX6_most 58 = .ok (.aload_n 0, 1) := by decide +kernel
theorem dX6_most_59 : decode cX6_most 59 = .ok (.getfield 11, 3) := by decide +kernel
theorem dX6_most_62 : decode cX6_most 62 = .ok (.iload_n 2, 1) := by decide +kernel
theorem dX6_most_63 : decode cX6_most 63 = .ok (.aaload, 1) := by decide +kernel
theorem dX6_most_64 : decode cX6_most 64 = .ok (.aload_n 0, 1) := by decide +kernel
theorem dX6_most_65 : decode cX6_most 65 = .ok (.getfield 11, 3) := by decide +kernel
theorem dX6_most_68 : decode cX6_most 68 = .ok (.iload_n 1, 1) := by decide +kernel
theorem dX6_most_69 : decode cX6_most 69 = .ok (.aaload, 1) := by decide +kernel
theorem dX6_most_70 : decode cX6_most 70 = .ok (.getfield 120, 3) := by decide +kernel
theorem dX6_most_73 : decode cX6_most 73 = .ok (.iload 4, 2) := by decide +kernel
theorem dX6_most_75 : decode cX6_most 75 = .ok (.invokevirtual 123, 3) := by decide +kernel
theorem dX6_most_78 : decode cX6_most 78 = .ok (.invokestatic 127, 3) := by decide +kernel
theorem dX6_most_81 : decode cX6_most 81 = .ok (.invokestatic 132, 3) := by decide +kernel
theorem dX6_most_84 : decode cX6_most 84 = .ok (.istore_n 3, 1) := by decide +kernel
theorem dX6_most_85 : decode cX6_most 85 = .ok (.iinc 4 1, 3) := by decide +kernel
theorem dX6_most_88 : decode cX6_most 88 = .ok (.goto (-45), 3) := by decide +kernel
theorem dX6_most_91 : decode cX6_most 91 = .ok (.iload_n 3, 1) := by decide +kernel
theorem dX6_most_92 : decode cX6_most 92 = .ok (.ireturn, 1) := by decide +kernel
set_option maxRecDepth 20000 in
theorem ggX6_heard_X6_isRow : GoodIn wsX6_heard wsX6_isRow := goodIn_r _ [7] (by decide +kernel) (by decide +kernel)
set_option maxRecDepth 20000 in
theorem gX6_heard_X6_isRow : GoodIn wsX6_heard (va_wsS RX6 58 yX6_isRow wsX6_isRow) := goodIn_app (goodIn_of _ (by decide +kernel)) ggX6_heard_X6_isRow
set_option maxRecDepth 20000 in
theorem ggX6_heard_X6_isPlace : GoodIn wsX6_heard wsX6_isPlace := goodIn_r _ [10] (by decide +kernel) (by decide +kernel)
set_option maxRecDepth 20000 in
theorem gX6_heard_X6_isPlace : GoodIn wsX6_heard (va_wsS RX6 136 yX6_isPlace wsX6_isPlace) := goodIn_app (goodIn_of _ (by decide +kernel)) ggX6_heard_X6_isPlace
set_option maxRecDepth 20000 in
theorem ggX6_heard_X6_isShift : GoodIn wsX6_heard wsX6_isShift := goodIn_r _ [13] (by decide +kernel) (by decide +kernel)
set_option maxRecDepth 20000 in
theorem gX6_heard_X6_isShift : GoodIn wsX6_heard (va_wsS RX6 80 yX6_isShift wsX6_isShift) := goodIn_app (goodIn_of _ (by decide +kernel)) ggX6_heard_X6_isShift
set_option maxRecDepth 20000 in
theorem ggX6_heard_X3_isNone : GoodIn wsX6_heard wsX3_isNone := goodIn_r _ [18, 19, 67, 68] (by decide +kernel) (by decide +kernel)
set_option maxRecDepth 20000 in
theorem gX6_heard_X3_isNone : GoodIn wsX6_heard (wsV RX6 116 RX3 yX3_isNone wsX3_isNone) := goodIn_app (goodIn_of _ (by decide +kernel)) ggX6_heard_X3_isNone
set_option maxRecDepth 20000 in
theorem ggX6_heard_X6_listen : GoodIn wsX6_heard wsX6_listen := goodIn_r _ [23, 3, 24, 25, 26, 27, 28, 29, 30, 31, 32, 33, 34, 35, 36, 37, 38, 6, 39, 59, 60, 61, 62, 63, 64, 65, 66, 69, 70, 71, 72, 73, 74, 75, 76, 77] (by decide +kernel) (by decide +kernel)
set_option maxRecDepth 20000 in
theorem gX6_heard_X6_listen : GoodIn wsX6_heard (wsV RX6 142 RX6 yX6_listen wsX6_listen) := goodIn_app (goodIn_of _ (by decide +kernel)) ggX6_heard_X6_listen
set_option maxRecDepth 20000 in
theorem ggX6_heard_X5_turnBack : GoodIn wsX6_heard wsX5_turnBack := goodIn_r _ [44, 45, 46, 47, 48, 49, 69, 70, 71, 72, 73] (by decide +kernel) (by decide +kernel)
set_option maxRecDepth 20000 in
theorem gX6_heard_X5_turnBack : GoodIn wsX6_heard (wsV RX6 146 RX5 yX5_turnBack wsX5_turnBack) := goodIn_app (goodIn_of _ (by decide +kernel)) ggX6_heard_X5_turnBack
set_option maxRecDepth 20000 in
theorem ggX6_heard_X3_sumOver : GoodIn wsX6_heard wsX3_sumOver := goodIn_r _ [53, 19, 54, 55, 56, 57, 58, 67, 68] (by decide +kernel) (by decide +kernel)
set_option maxRecDepth 20000 in
theorem gX6_heard_X3_sumOver : GoodIn wsX6_heard (wsV RX6 123 RX3 yX3_sumOver wsX3_sumOver) := goodIn_app (goodIn_of _ (by decide +kernel)) ggX6_heard_X3_sumOver
theorem dX6_heard_0 : decode cX6_heard 0 = .ok (.iload_n 1, 1) := by decide +kernel
theorem dX6_heard_1 : decode cX6_heard 1 = .ok (.invokestatic 58, 3) := by decide +kernel
theorem dX6_heard_4 : decode cX6_heard 4 = .ok (.ifCond .eq 51, 3) := by decide +kernel
theorem dX6_heard_7 : decode cX6_heard 7 = .ok (.iload_n 2, 1) := by decide +kernel
theorem dX6_heard_8 : decode cX6_heard 8 = .ok (.invokestatic 136, 3) := by decide +kernel
theorem dX6_heard_11 : decode cX6_heard 11 = .ok (.ifCond .eq 44, 3) := by decide +kernel
theorem dX6_heard_14 : decode cX6_heard 14 = .ok (.iload_n 3, 1) := by decide +kernel
theorem dX6_heard_15 : decode cX6_heard 15 = .ok (.invokestatic 80, 3) := by decide +kernel
theorem dX6_heard_18 : decode cX6_heard 18 = .ok (.ifCond .eq 37, 3) := by decide +kernel
theorem dX6_heard_21 : decode cX6_heard 21 = .ok (.iload 4, 2) := by decide +kernel
theorem dX6_heard_23 : decode cX6_heard 23 = .ok (.ifCond .lt 32, 3) := by decide +kernel
theorem dX6_heard_26 : decode cX6_heard 26 = .ok (.iload 4, 2) := by decide +kernel
theorem dX6_heard_28 : decode cX6_heard 28 = .ok (.iconst 4, 1) := by decide +kernel
theorem dX6_heard_29 : decode cX6_heard 29 = .ok (.if_icmp .ge 26, 3) := by decide +kernel
theorem dX6_heard_32 : decode cX6_heard 32 = .ok (.iload 5, 2) := by decide +kernel
theorem dX6_heard_34 : decode cX6_heard 34 = .ok (.ifCond .lt 21, 3) := by decide +kernel
theorem dX6_heard_37 : decode cX6_heard 37 = .ok (.iload 5, 2) := by decide +kernel
theorem dX6_heard_39 : decode cX6_heard 39 = .ok (.iconst 1, 1) := by decide +kernel
theorem dX6_heard_40 : decode cX6_heard 40 = .ok (.if_icmp .gt 15, 3) := by decide +kernel
theorem dX6_heard_43 : decode cX6_heard 43 = .ok (.aload_n 0, 1) := by decide +kernel
theorem dX6_heard_44 : decode cX6_heard 44 = .ok (.getfield 11, 3) := by decide +kernel
theorem dX6_heard_47 : decode cX6_heard 47 = .ok (.iload_n 1, 1) := by decide +kernel
theorem dX6_heard_48 : decode cX6_heard 48 = .ok (.aaload, 1) := by decide +kernel
theorem dX6_heard_49 : decode cX6_heard 49 = .ok (.invokevirtual 116, 3) := by decide +kernel
theorem dX6_heard_52 : decode cX6_heard 52 = .ok (.ifCond .eq 6, 3) := by decide +kernel
theorem dX6_heard_55 : decode cX6_heard 55 = .ok (.ldc 141, 2) := by decide +kernel
theorem dX6_heard_57 : decode cX6_heard 57 = .ok (.ireturn, 1) := by decide +kernel
theorem dX6_heard_58 : decode cX6_heard 58 = .ok (.aload_n 0, 1) := by decide +kernel
theorem dX6_heard_59 : decode cX6_heard 59 = .ok (.iload_n 2, 1) := by decide +kernel
theorem dX6_heard_60 : decode cX6_heard 60 = .ok (.aload_n 0, 1) := by decide +kernel
theorem dX6_heard_61 : decode cX6_heard 61 = .ok (.getfield 11, 3) := by decide +kernel
theorem dX6_heard_64 : decode cX6_heard 64 = .ok (.iload_n 1, 1) := by decide +kernel
theorem dX6_heard_65 : decode cX6_heard 65 = .ok (.aaload, 1) := by decide +kernel
theorem dX6_heard_66 : decode cX6_heard 66 = .ok (.getfield 70, 3) := by decide +kernel
theorem dX6_heard_69 : decode cX6_heard 69 = .ok (.invokevirtual 142, 3) := by decide +kernel
theorem dX6_heard_72 : decode cX6_heard 72 = .ok (.aload_n 0, 1) := by decide +kernel
theorem dX6_heard_73 : decode cX6_heard 73 = .ok (.getfield 24, 3) := by decide +kernel
theorem dX6_heard_76 : decode cX6_heard 76 = .ok (.iload 4, 2) := by decide +kernel
theorem dX6_heard_78 : decode cX6_heard 78 = .ok (.invokevirtual 146, 3) := by decide +kernel
theorem dX6_heard_81 : decode cX6_heard 81 = .ok (.aload_n 0, 1) := by decide +kernel
theorem dX6_heard_82 : decode cX6_heard 82 = .ok (.getfield 11, 3) := by decide +kernel
theorem dX6_heard_85 : decode cX6_heard 85 = .ok (.iload_n 1, 1) := by decide +kernel
theorem dX6_heard_86 : decode cX6_heard 86 = .ok (.aaload, 1) := by decide +kernel
theorem dX6_heard_87 : decode cX6_heard 87 = .ok (.iload 5, 2) := by decide +kernel
theorem dX6_heard_89 : decode cX6_heard 89 = .ok (.ifCond .ne 13, 3) := by decide +kernel
theorem dX6_heard_92 : decode cX6_heard 92 = .ok (.aload_n 0, 1) := by decide +kernel
theorem dX6_heard_93 : decode cX6_heard 93 = .ok (.getfield 24, 3) := by decide +kernel
theorem dX6_heard_96 : decode cX6_heard 96 = .ok (.getfield 150, 3) := by decide +kernel
theorem dX6_heard_99 : decode cX6_heard 99 = .ok (.goto 10, 3) := by decide +kernel
theorem dX6_heard_102 : decode cX6_heard 102 = .ok (.aload_n 0, 1) := by decide +kernel
theorem dX6_heard_103 : decode cX6_heard 103 = .ok (.getfield 24, 3) := by decide +kernel
theorem dX6_heard_106 : decode cX6_heard 106 = .ok (.getfield 153, 3) := by decide +kernel
theorem dX6_heard_109 : decode cX6_heard 109 = .ok (.iload_n 3, 1) := by decide +kernel
theorem dX6_heard_110 : decode cX6_heard 110 = .ok (.invokevirtual 123, 3) := by decide +kernel
theorem dX6_heard_113 : decode cX6_heard 113 = .ok (.ireturn, 1) := by decide +kernel
set_option maxRecDepth 20000 in
theorem ggX6_search_X6_searchFor : GoodIn wsX6_search wsX6_searchFor := goodIn_r _ [6, 7, 1, 8, 9, 10, 5, 11, 12, 13, 14, 15, 16, 17, 18, 19, 20, 21, 22, 23, 24, 25, 26, 27, 28, 29, 30, 31, 32, 33, 34, 35, 36, 37, 38, 39, 40, 41, 42, 43, 44, 45, 46, 47, 48, 49, 50, 51, 52, 53, 54, 55, 56, 57, 58, 59, 60, 61, 62, 63, 64, 65, 66, 67, 68, 69, 70, 71, 72, 73, 74, 75, 76, 77, 78, 79, 80, 81, 86, 87, 88, 89, 90, 91, 92, 93, 94, 95, 96, 82, 83, 84, 85] (by decide +kernel) (by decide +kernel)
set_option maxRecDepth 20000 in
theorem gX6_search_X6_searchFor : GoodIn wsX6_search (wsV RX6 156 RX6 yX6_searchFor wsX6_searchFor) := goodIn_app (goodIn_of _ (by decide +kernel)) ggX6_search_X6_searchFor
theorem dX6_search_0 : decode cX6_search 0 = .ok (.aload_n 0, 1) := by decide +kernel
theorem dX6_search_1 : decode cX6_search 1 = .ok (.iload_n 1, 1) := by decide +kernel
theorem dX6_search_2 : decode cX6_search 2 = .ok (.iload_n 2, 1) := by decide +kernel
theorem dX6_search_3 : decode cX6_search 3 = .ok (.invokevirtual 156, 3) := by decide +kernel
theorem dX6_search_6 : decode cX6_search 6 = .ok (.istore_n 3, 1) := by decide +kernel
theorem dX6_search_7 : decode cX6_search 7 = .ok (.iload_n 3, 1) := by decide +kernel
theorem dX6_search_8 : decode cX6_search 8 = .ok (.ifCond .ne 25, 3) := by decide +kernel
theorem dX6_search_11 : decode cX6_search 11 = .ok (.sipush 1000, 3) := by decide +kernel
theorem dX6_search_14 : decode cX6_search 14 = .ok (.aload_n 0, 1) := by decide +kernel
theorem dX6_search_15 : decode cX6_search 15 = .ok (.getfield 31, 3) := by decide +kernel
theorem dX6_search_18 : decode cX6_search 18 = .ok (.getfield 159, 3) := by decide +kernel
theorem dX6_search_21 : decode cX6_search 21 = .ok (.imul, 1) := by decide +kernel
theorem dX6_search_22 : decode cX6_search 22 = .ok (.aload_n 0, 1) := by decide +kernel
theorem dX6_search_23 : decode cX6_search 23 = .ok (.getfield 31, 3) := by decide +kernel
theorem dX6_search_26 : decode cX6_search 26 = .ok (.getfield 162, 3) := by decide +kernel
theorem dX6_search_29 : decode cX6_search 29 = .ok (.iadd, 1) := by decide +kernel
theorem dX6_search_30 : decode cX6_search 30 = .ok (.goto 4, 3) := by decide +kernel
theorem dX6_search_33 : decode cX6_search 33 = .ok (.iload_n 3, 1) := by decide +kernel
theorem dX6_search_34 : decode cX6_search 34 = .ok (.ireturn, 1) := by decide +kernel
set_option maxRecDepth 20000 in
theorem ggX6_sure_X6_searchFor : GoodIn wsX6_sure wsX6_searchFor := goodIn_r _ [8, 9, 1, 10, 11, 12, 7, 13, 14, 15, 16, 17, 18, 19, 20, 21, 22, 23, 24, 25, 26, 27, 28, 29, 30, 31, 32, 33, 34, 35, 36, 37, 38, 39, 40, 41, 42, 43, 44, 45, 46, 47, 48, 49, 50, 51, 52, 53, 54, 55, 56, 57, 58, 59, 60, 61, 62, 63, 64, 65, 66, 67, 68, 69, 70, 71, 72, 73, 74, 75, 76, 77, 78, 79, 80, 81, 82, 83, 88, 89, 90, 91, 92, 93, 94, 95, 96, 97, 98, 84, 85, 86, 87] (by decide +kernel) (by decide +kernel)
set_option maxRecDepth 20000 in
theorem gX6_sure_X6_searchFor : GoodIn wsX6_sure (wsV RX6 156 RX6 yX6_searchFor wsX6_searchFor) := goodIn_app (goodIn_of _ (by decide +kernel)) ggX6_sure_X6_searchFor
theorem dX6_sure_0 : decode cX6_sure 0 = .ok (.aload_n 0, 1) := by decide +kernel
theorem dX6_sure_1 : decode cX6_sure 1 = .ok (.iload_n 1, 1) := by decide +kernel
theorem dX6_sure_2 : decode cX6_sure 2 = .ok (.iload_n 2, 1) := by decide +kernel
theorem dX6_sure_3 : decode cX6_sure 3 = .ok (.invokevirtual 156, 3) := by decide +kernel
theorem dX6_sure_6 : decode cX6_sure 6 = .ok (.istore_n 3, 1) := by decide +kernel
theorem dX6_sure_7 : decode cX6_sure 7 = .ok (.iload_n 3, 1) := by decide +kernel
theorem dX6_sure_8 : decode cX6_sure 8 = .ok (.ifCond .eq 5, 3) := by decide +kernel
theorem dX6_sure_11 : decode cX6_sure 11 = .ok (.iload_n 3, 1) := by decide +kernel
theorem dX6_sure_12 : decode cX6_sure 12 = .ok (.ireturn, 1) := by decide +kernel
theorem dX6_sure_13 : decode cX6_sure 13 = .ok (.aload_n 0, 1) := by decide +kernel
theorem dX6_sure_14 : decode cX6_sure 14 = .ok (.getfield 31, 3) := by decide +kernel
theorem dX6_sure_17 : decode cX6_sure 17 = .ok (.getfield 165, 3) := by decide +kernel
theorem dX6_sure_20 : decode cX6_sure 20 = .ok (.lconst 0, 1) := by decide +kernel
theorem dX6_sure_21 : decode cX6_sure 21 = .ok (.lcmp, 1) := by decide +kernel
theorem dX6_sure_22 : decode cX6_sure 22 = .ok (.ifCond .le 35, 3) := by decide +kernel
theorem dX6_sure_25 : decode cX6_sure 25 = .ok (.ldc2_w 169, 3) := by decide +kernel
theorem dX6_sure_28 : decode cX6_sure 28 = .ok (.aload_n 0, 1) := by decide +kernel
theorem dX6_sure_29 : decode cX6_sure 29 = .ok (.getfield 31, 3) := by decide +kernel
theorem dX6_sure_32 : decode cX6_sure 32 = .ok (.getfield 171, 3) := by decide +kernel
theorem dX6_sure_35 : decode cX6_sure 35 = .ok (.lmul, 1) := by decide +kernel
theorem dX6_sure_36 : decode cX6_sure 36 = .ok (.aload_n 0, 1) := by decide +kernel
theorem dX6_sure_37 : decode cX6_sure 37 = .ok (.getfield 49, 3) := by decide +kernel
theorem dX6_sure_40 : decode cX6_sure 40 = .ok (.i2l, 1) := by decide +kernel
theorem dX6_sure_41 : decode cX6_sure 41 = .ok (.aload_n 0, 1) := by decide +kernel
theorem dX6_sure_42 : decode cX6_sure 42 = .ok (.getfield 31, 3) := by decide +kernel
theorem dX6_sure_45 : decode cX6_sure 45 = .ok (.getfield 165, 3) := by decide +kernel
theorem dX6_sure_48 : decode cX6_sure 48 = .ok (.lmul, 1) := by decide +kernel
theorem dX6_sure_49 : decode cX6_sure 49 = .ok (.lcmp, 1) := by decide +kernel
theorem dX6_sure_50 : decode cX6_sure 50 = .ok (.ifCond .gt 7, 3) := by decide +kernel
theorem dX6_sure_53 : decode cX6_sure 53 = .ok (.iconst 1, 1) := by decide +kernel
theorem dX6_sure_54 : decode cX6_sure 54 = .ok (.goto 4, 3) := by decide +kernel
theorem dX6_sure_57 : decode cX6_sure 57 = .ok (.iconst 0, 1) := by decide +kernel
theorem dX6_sure_58 : decode cX6_sure 58 = .ok (.ireturn, 1) := by decide +kernel
set_option maxRecDepth 20000 in
theorem ggX6_power_X6_searchFor : GoodIn wsX6_power wsX6_searchFor := goodIn_r _ [7, 8, 1, 9, 10, 11, 6, 12, 13, 14, 15, 16, 17, 18, 19, 20, 21, 22, 23, 24, 25, 26, 27, 28, 29, 30, 31, 32, 33, 34, 35, 36, 37, 38, 39, 40, 41, 42, 43, 44, 45, 46, 47, 48, 49, 50, 51, 52, 53, 54, 55, 56, 57, 58, 59, 60, 61, 62, 63, 64, 65, 66, 67, 68, 69, 70, 71, 72, 73, 74, 75, 76, 77, 78, 79, 80, 81, 82, 87, 88, 89, 90, 91, 92, 93, 94, 95, 96, 97, 83, 84, 85, 86] (by decide +kernel) (by decide +kernel)
set_option maxRecDepth 20000 in
theorem gX6_power_X6_searchFor : GoodIn wsX6_power (wsV RX6 156 RX6 yX6_searchFor wsX6_searchFor) := goodIn_app (goodIn_of _ (by decide +kernel)) ggX6_power_X6_searchFor
theorem dX6_power_0 : decode cX6_power 0 = .ok (.aload_n 0, 1) := by decide +kernel
theorem dX6_power_1 : decode cX6_power 1 = .ok (.iload_n 1, 1) := by decide +kernel
theorem dX6_power_2 : decode cX6_power 2 = .ok (.iload_n 2, 1) := by decide +kernel
theorem dX6_power_3 : decode cX6_power 3 = .ok (.invokevirtual 156, 3) := by decide +kernel
theorem dX6_power_6 : decode cX6_power 6 = .ok (.istore_n 3, 1) := by decide +kernel
theorem dX6_power_7 : decode cX6_power 7 = .ok (.iload_n 3, 1) := by decide +kernel
theorem dX6_power_8 : decode cX6_power 8 = .ok (.ifCond .ne 13, 3) := by decide +kernel
theorem dX6_power_11 : decode cX6_power 11 = .ok (.aload_n 0, 1) := by decide +kernel
