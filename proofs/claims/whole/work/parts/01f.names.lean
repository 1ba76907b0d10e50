theorem dX6_takeOffLoudest_50 : decode cX6_takeOffLoudest 50 = .ok (.aload_n 0, 1) := by decide +kernel
theorem dX6_takeOffLoudest_51 : decode cX6_takeOffLoudest 51 = .ok (.getfield 24, 3) := by decide +kernel
theorem dX6_takeOffLoudest_54 : decode cX6_takeOffLoudest 54 = .ok (.getfield 87, 3) := by decide +kernel
theorem dX6_takeOffLoudest_57 : decode cX6_takeOffLoudest 57 = .ok (.iload 6, 2) := by decide +kernel
theorem dX6_takeOffLoudest_59 : decode cX6_takeOffLoudest 59 = .ok (.invokevirtual 123, 3) := by decide +kernel
theorem dX6_takeOffLoudest_62 : decode cX6_takeOffLoudest 62 = .ok (.istore 7, 2) := by decide +kernel
theorem dX6_takeOffLoudest_64 : decode cX6_takeOffLoudest 64 = .ok (.iload 7, 2) := by decide +kernel
theorem dX6_takeOffLoudest_66 : decode cX6_takeOffLoudest 66 = .ok (.invokestatic 127, 3) := by decide +kernel
theorem dX6_takeOffLoudest_69 : decode cX6_takeOffLoudest 69 = .ok (.iload_n 2, 1) := by decide +kernel
theorem dX6_takeOffLoudest_70 : decode cX6_takeOffLoudest 70 = .ok (.invokestatic 127, 3) := by decide +kernel
theorem dX6_takeOffLoudest_73 : decode cX6_takeOffLoudest 73 = .ok (.if_icmp .le 13, 3) := by decide +kernel
theorem dX6_takeOffLoudest_76 : decode cX6_takeOffLoudest 76 = .ok (.iload 7, 2) := by decide +kernel
theorem dX6_takeOffLoudest_78 : decode cX6_takeOffLoudest 78 = .ok (.istore_n 2, 1) := by decide +kernel
theorem dX6_takeOffLoudest_79 : decode cX6_takeOffLoudest 79 = .ok (.iload 5, 2) := by decide +kernel
theorem dX6_takeOffLoudest_81 : decode cX6_takeOffLoudest 81 = .ok (.istore_n 3, 1) := by decide +kernel
theorem dX6_takeOffLoudest_82 : decode cX6_takeOffLoudest 82 = .ok (.iload 6, 2) := by decide +kernel
theorem dX6_takeOffLoudest_84 : decode cX6_takeOffLoudest 84 = .ok (.istore 4, 2) := by decide +kernel
theorem dX6_takeOffLoudest_86 : decode cX6_takeOffLoudest 86 = .ok (.iinc 6 1, 3) := by decide +kernel
theorem dX6_takeOffLoudest_89 : decode cX6_takeOffLoudest 89 = .ok (.goto (-52), 3) := by decide +kernel
theorem dX6_takeOffLoudest_92 : decode cX6_takeOffLoudest 92 = .ok (.iinc 5 1, 3) := by decide +kernel
theorem dX6_takeOffLoudest_95 : decode cX6_takeOffLoudest 95 = .ok (.goto (-85), 3) := by decide +kernel
theorem dX6_takeOffLoudest_98 : decode cX6_takeOffLoudest 98 = .ok (.iload_n 2, 1) := by decide +kernel
theorem dX6_takeOffLoudest_99 : decode cX6_takeOffLoudest 99 = .ok (.iload_n 1, 1) := by decide +kernel
theorem dX6_takeOffLoudest_100 : decode cX6_takeOffLoudest 100 = .ok (.invokestatic 295, 3) := by decide +kernel
theorem dX6_takeOffLoudest_103 : decode cX6_takeOffLoudest 103 = .ok (.istore 5, 2) := by decide +kernel
theorem dX6_takeOffLoudest_105 : decode cX6_takeOffLoudest 105 = .ok (.iload 5, 2) := by decide +kernel
theorem dX6_takeOffLoudest_107 : decode cX6_takeOffLoudest 107 = .ok (.ifCond .ne 5, 3) := by decide +kernel
theorem dX6_takeOffLoudest_110 : decode cX6_takeOffLoudest 110 = .ok (.iconst 0, 1) := by decide +kernel
theorem dX6_takeOffLoudest_111 : decode cX6_takeOffLoudest 111 = .ok (.ireturn, 1) := by decide +kernel
theorem dX6_takeOffLoudest_112 : decode cX6_takeOffLoudest 112 = .ok (.aload_n 0, 1) := by decide +kernel
theorem dX6_takeOffLoudest_113 : decode cX6_takeOffLoudest 113 = .ok (.getfield 11, 3) := by decide +kernel
theorem dX6_takeOffLoudest_116 : decode cX6_takeOffLoudest 116 = .ok (.iload_n 3, 1) := by decide +kernel
theorem dX6_takeOffLoudest_117 : decode cX6_takeOffLoudest 117 = .ok (.aaload, 1) := by decide +kernel
theorem dX6_takeOffLoudest_118 : decode cX6_takeOffLoudest 118 = .ok (.aload_n 0, 1) := by decide +kernel
theorem dX6_takeOffLoudest_119 : decode cX6_takeOffLoudest 119 = .ok (.getfield 24, 3) := by decide +kernel
theorem dX6_takeOffLoudest_122 : decode cX6_takeOffLoudest 122 = .ok (.getfield 87, 3) := by decide +kernel
theorem dX6_takeOffLoudest_125 : decode cX6_takeOffLoudest 125 = .ok (.iload 4, 2) := by decide +kernel
theorem dX6_takeOffLoudest_127 : decode cX6_takeOffLoudest 127 = .ok (.iload 5, 2) := by decide +kernel
theorem dX6_takeOffLoudest_129 : decode cX6_takeOffLoudest 129 = .ok (.invokevirtual 298, 3) := by decide +kernel
theorem dX6_takeOffLoudest_132 : decode cX6_takeOffLoudest 132 = .ok (.aload_n 0, 1) := by decide +kernel
theorem dX6_takeOffLoudest_133 : decode cX6_takeOffLoudest 133 = .ok (.getfield 38, 3) := by decide +kernel
theorem dX6_takeOffLoudest_136 : decode cX6_takeOffLoudest 136 = .ok (.iload_n 3, 1) := by decide +kernel
theorem dX6_takeOffLoudest_137 : decode cX6_takeOffLoudest 137 = .ok (.iload 4, 2) := by decide +kernel
theorem dX6_takeOffLoudest_139 : decode cX6_takeOffLoudest 139 = .ok (.iload 5, 2) := by decide +kernel
theorem dX6_takeOffLoudest_141 : decode cX6_takeOffLoudest 141 = .ok (.invokevirtual 302, 3) := by decide +kernel
theorem dX6_takeOffLoudest_144 : decode cX6_takeOffLoudest 144 = .ok (.iconst 1, 1) := by decide +kernel
theorem dX6_takeOffLoudest_145 : decode cX6_takeOffLoudest 145 = .ok (.ireturn, 1) := by decide +kernel
set_option maxRecDepth 20000 in
theorem ggX6_roundedRatio_J9_floorDiv_7cf53 : GoodIn wsX6_roundedRatio wsJ9_floorDiv_7cf53 := goodIn_r _ [4] (by decide +kernel) (by decide +kernel)
set_option maxRecDepth 20000 in
theorem gX6_roundedRatio_J9_floorDiv_7cf53 : GoodIn wsX6_roundedRatio (va_wsS RX6 304 yJ9_floorDiv_7cf53 wsJ9_floorDiv_7cf53) := goodIn_app (goodIn_of _ (by decide +kernel)) ggX6_roundedRatio_J9_floorDiv_7cf53
theorem dX6_roundedRatio_0 : decode cX6_roundedRatio 0 = .ok (.iload_n 1, 1) := by decide +kernel
theorem dX6_roundedRatio_1 : decode cX6_roundedRatio 1 = .ok (.iconst 1, 1) := by decide +kernel
theorem dX6_roundedRatio_2 : decode cX6_roundedRatio 2 = .ok (.if_icmp .ge 7, 3) := by decide +kernel
theorem dX6_roundedRatio_5 : decode cX6_roundedRatio 5 = .ok (.iconst 0, 1) := by decide +kernel
theorem dX6_roundedRatio_6 : decode cX6_roundedRatio 6 = .ok (.goto 14, 3) := by decide +kernel
theorem dX6_roundedRatio_9 : decode cX6_roundedRatio 9 = .ok (.iconst 2, 1) := by decide +kernel
theorem dX6_roundedRatio_10 : decode cX6_roundedRatio 10 = .ok (.iload_n 0, 1) := by decide +kernel
theorem dX6_roundedRatio_11 : decode cX6_roundedRatio 11 = .ok (.imul, 1) := by decide +kernel
theorem dX6_roundedRatio_12 : decode cX6_roundedRatio 12 = .ok (.iload_n 1, 1) := by decide +kernel
theorem dX6_roundedRatio_13 : decode cX6_roundedRatio 13 = .ok (.iadd, 1) := by decide +kernel
theorem dX6_roundedRatio_14 : decode cX6_roundedRatio 14 = .ok (.iconst 2, 1) := by decide +kernel
theorem dX6_roundedRatio_15 : decode cX6_roundedRatio 15 = .ok (.iload_n 1, 1) := by decide +kernel
theorem dX6_roundedRatio_16 : decode cX6_roundedRatio 16 = .ok (.imul, 1) := by decide +kernel
theorem dX6_roundedRatio_17 : decode cX6_roundedRatio 17 = .ok (.invokestatic 304, 3) := by decide +kernel
theorem dX6_roundedRatio_20 : decode cX6_roundedRatio 20 = .ok (.ireturn, 1) := by decide +kernel
set_option maxRecDepth 20000 in
theorem ggX6_loudestNear_X3_sumOver : GoodIn wsX6_loudestNear wsX3_sumOver := goodIn_r _ [10, 11, 12, 13, 14, 15, 16, 17, 18] (by decide +kernel) (by decide +kernel)
set_option maxRecDepth 20000 in
theorem gX6_loudestNear_X3_sumOver : GoodIn wsX6_loudestNear (wsV RX6 123 RX3 yX3_sumOver wsX3_sumOver) := goodIn_app (goodIn_of _ (by decide +kernel)) ggX6_loudestNear_X3_sumOver
theorem dX6_loudestNear_0 : decode cX6_loudestNear 0 = .ok (.iload_n 2, 1) := by decide +kernel
theorem dX6_loudestNear_1 : decode cX6_loudestNear 1 = .ok (.aload_n 1, 1) := by decide +kernel
theorem dX6_loudestNear_2 : decode cX6_loudestNear 2 = .ok (.getfield 70, 3) := by decide +kernel
theorem dX6_loudestNear_5 : decode cX6_loudestNear 5 = .ok (.iadd, 1) := by decide +kernel
theorem dX6_loudestNear_6 : decode cX6_loudestNear 6 = .ok (.iconst 1, 1) := by decide +kernel
theorem dX6_loudestNear_7 : decode cX6_loudestNear 7 = .ok (.isub, 1) := by decide +kernel
theorem dX6_loudestNear_8 : decode cX6_loudestNear 8 = .ok (.istore_n 3, 1) := by decide +kernel
theorem dX6_loudestNear_9 : decode cX6_loudestNear 9 = .ok (.aload_n 1, 1) := by decide +kernel
theorem dX6_loudestNear_10 : decode cX6_loudestNear 10 = .ok (.aload_n 0, 1) := by decide +kernel
theorem dX6_loudestNear_11 : decode cX6_loudestNear 11 = .ok (.getfield 24, 3) := by decide +kernel
theorem dX6_loudestNear_14 : decode cX6_loudestNear 14 = .ok (.getfield 87, 3) := by decide +kernel
theorem dX6_loudestNear_17 : decode cX6_loudestNear 17 = .ok (.iload_n 2, 1) := by decide +kernel
theorem dX6_loudestNear_18 : decode cX6_loudestNear 18 = .ok (.invokevirtual 123, 3) := by decide +kernel
theorem dX6_loudestNear_21 : decode cX6_loudestNear 21 = .ok (.invokestatic 127, 3) := by decide +kernel
theorem dX6_loudestNear_24 : decode cX6_loudestNear 24 = .ok (.istore 4, 2) := by decide +kernel
theorem dX6_loudestNear_26 : decode cX6_loudestNear 26 = .ok (.aload_n 1, 1) := by decide +kernel
theorem dX6_loudestNear_27 : decode cX6_loudestNear 27 = .ok (.aload_n 0, 1) := by decide +kernel
theorem dX6_loudestNear_28 : decode cX6_loudestNear 28 = .ok (.getfield 24, 3) := by decide +kernel
theorem dX6_loudestNear_31 : decode cX6_loudestNear 31 = .ok (.getfield 87, 3) := by decide +kernel
theorem dX6_loudestNear_34 : decode cX6_loudestNear 34 = .ok (.iload_n 3, 1) := by decide +kernel
theorem dX6_loudestNear_35 : decode cX6_loudestNear 35 = .ok (.invokevirtual 123, 3) := by decide +kernel
theorem dX6_loudestNear_38 : decode cX6_loudestNear 38 = .ok (.invokestatic 127, 3) := by decide +kernel
theorem dX6_loudestNear_41 : decode cX6_loudestNear 41 = .ok (.istore 5, 2) := by decide +kernel
theorem dX6_loudestNear_43 : decode cX6_loudestNear 43 = .ok (.aload_n 1, 1) := by decide +kernel
theorem dX6_loudestNear_44 : decode cX6_loudestNear 44 = .ok (.aload_n 0, 1) := by decide +kernel
theorem dX6_loudestNear_45 : decode cX6_loudestNear 45 = .ok (.getfield 24, 3) := by decide +kernel
theorem dX6_loudestNear_48 : decode cX6_loudestNear 48 = .ok (.getfield 87, 3) := by decide +kernel
theorem dX6_loudestNear_51 : decode cX6_loudestNear 51 = .ok (.iload_n 2, 1) := by decide +kernel
theorem dX6_loudestNear_52 : decode cX6_loudestNear 52 = .ok (.iconst 1, 1) := by decide +kernel
theorem dX6_loudestNear_53 : decode cX6_loudestNear 53 = .ok (.iadd, 1) := by decide +kernel
theorem dX6_loudestNear_54 : decode cX6_loudestNear 54 = .ok (.invokevirtual 123, 3) := by decide +kernel
theorem dX6_loudestNear_57 : decode cX6_loudestNear 57 = .ok (.invokestatic 127, 3) := by decide +kernel
theorem dX6_loudestNear_60 : decode cX6_loudestNear 60 = .ok (.istore 6, 2) := by decide +kernel
theorem dX6_loudestNear_62 : decode cX6_loudestNear 62 = .ok (.iload 4, 2) := by decide +kernel
theorem dX6_loudestNear_64 : decode cX6_loudestNear 64 = .ok (.iload 5, 2) := by decide +kernel
theorem dX6_loudestNear_66 : decode cX6_loudestNear 66 = .ok (.if_icmp .lt 12, 3) := by decide +kernel
theorem dX6_loudestNear_69 : decode cX6_loudestNear 69 = .ok (.iload 4, 2) := by decide +kernel
theorem dX6_loudestNear_71 : decode cX6_loudestNear 71 = .ok (.iload 6, 2) := by decide +kernel
theorem dX6_loudestNear_73 : decode cX6_loudestNear 73 = .ok (.if_icmp .lt 5, 3) := by decide +kernel
theorem dX6_loudestNear_76 : decode cX6_loudestNear 76 = .ok (.iload_n 2, 1) := by decide +kernel
theorem dX6_loudestNear_77 : decode cX6_loudestNear 77 = .ok (.ireturn, 1) := by decide +kernel
theorem dX6_loudestNear_78 : decode cX6_loudestNear 78 = .ok (.iload 5, 2) := by decide +kernel
theorem dX6_loudestNear_80 : decode cX6_loudestNear 80 = .ok (.iload 6, 2) := by decide +kernel
theorem dX6_loudestNear_82 : decode cX6_loudestNear 82 = .ok (.if_icmp .lt 7, 3) := by decide +kernel
theorem dX6_loudestNear_85 : decode cX6_loudestNear 85 = .ok (.iload_n 3, 1) := by decide +kernel
theorem dX6_loudestNear_86 : decode cX6_loudestNear 86 = .ok (.goto 6, 3) := by decide +kernel
theorem dX6_loudestNear_89 : decode cX6_loudestNear 89 = .ok (.iload_n 2, 1) := by decide +kernel
theorem dX6_loudestNear_90 : decode cX6_loudestNear 90 = .ok (.iconst 1, 1) := by decide +kernel
theorem dX6_loudestNear_91 : decode cX6_loudestNear 91 = .ok (.iadd, 1) := by decide +kernel
theorem dX6_loudestNear_92 : decode cX6_loudestNear 92 = .ok (.ireturn, 1) := by decide +kernel
theorem dX7_init_0 : decode cX7_init 0 = .ok (.aload_n 0, 1) := by decide +kernel
theorem dX7_init_1 : decode cX7_init 1 = .ok (.invokespecial 1, 3) := by decide +kernel
theorem dX7_init_4 : decode cX7_init 4 = .ok (.aload_n 0, 1) := by decide +kernel
theorem dX7_init_5 : decode cX7_init 5 = .ok (.bipush 8, 2) := by decide +kernel
theorem dX7_init_7 : decode cX7_init 7 = .ok (.newarray .int, 2) := by decide +kernel
theorem dX7_init_9 : decode cX7_init 9 = .ok (.putfield 7, 3) := by decide +kernel
theorem dX7_init_12 : decode cX7_init 12 = .ok (.aload_n 0, 1) := by decide +kernel
theorem dX7_init_13 : decode cX7_init 13 = .ok (.sipush 1016, 3) := by decide +kernel
theorem dX7_init_16 : decode cX7_init 16 = .ok (.newarray .int, 2) := by decide +kernel
theorem dX7_init_18 : decode cX7_init 18 = .ok (.putfield 13, 3) := by decide +kernel
theorem dX7_init_21 : decode cX7_init 21 = .ok (.aload_n 0, 1) := by decide +kernel
theorem dX7_init_22 : decode cX7_init 22 = .ok (.bipush 127, 2) := by decide +kernel
theorem dX7_init_24 : decode cX7_init 24 = .ok (.newarray .int, 2) := by decide +kernel
theorem dX7_init_26 : decode cX7_init 26 = .ok (.putfield 16, 3) := by decide +kernel
theorem dX7_init_29 : decode cX7_init 29 = .ok (.aload_n 0, 1) := by decide +kernel
theorem dX7_init_30 : decode cX7_init 30 = .ok (.bipush 50, 2) := by decide +kernel
theorem dX7_init_32 : decode cX7_init 32 = .ok (.putfield 19, 3) := by decide +kernel
theorem dX7_init_35 : decode cX7_init 35 = .ok (.aload_n 0, 1) := by decide +kernel
theorem dX7_init_36 : decode cX7_init 36 = .ok (.bipush 60, 2) := by decide +kernel
theorem dX7_init_38 : decode cX7_init 38 = .ok (.newarray .int, 2) := by decide +kernel
theorem dX7_init_40 : decode cX7_init 40 = .ok (.putfield 23, 3) := by decide +kernel
theorem dX7_init_43 : decode cX7_init 43 = .ok (.aload_n 0, 1) := by decide +kernel
theorem dX7_init_44 : decode cX7_init 44 = .ok (.bipush 127, 2) := by decide +kernel
theorem dX7_init_46 : decode cX7_init 46 = .ok (.newarray .int, 2) := by decide +kernel
theorem dX7_init_48 : decode cX7_init 48 = .ok (.putfield 26, 3) := by decide +kernel
theorem dX7_init_51 : decode cX7_init 51 = .ok (.aload_n 0, 1) := by decide +kernel
theorem dX7_init_52 : decode cX7_init 52 = .ok (.iconst 5, 1) := by decide +kernel
theorem dX7_init_53 : decode cX7_init 53 = .ok (.newarray .int, 2) := by decide +kernel
theorem dX7_init_55 : decode cX7_init 55 = .ok (.putfield 29, 3) := by decide +kernel
theorem dX7_init_58 : decode cX7_init 58 = .ok (.aload_n 0, 1) := by decide +kernel
theorem dX7_init_59 : decode cX7_init 59 = .ok (.iconst 5, 1) := by decide +kernel
theorem dX7_init_60 : decode cX7_init 60 = .ok (.newarray .int, 2) := by decide +kernel
theorem dX7_init_62 : decode cX7_init 62 = .ok (.putfield 32, 3) := by decide +kernel
theorem dX7_init_65 : decode cX7_init 65 = .ok (.aload_n 0, 1) := by decide +kernel
theorem dX7_init_66 : decode cX7_init 66 = .ok (.iconst 4, 1) := by decide +kernel
theorem dX7_init_67 : decode cX7_init 67 = .ok (.newarray .boolean, 2) := by decide +kernel
theorem dX7_init_69 : decode cX7_init 69 = .ok (.putfield 35, 3) := by decide +kernel
theorem dX7_init_72 : decode cX7_init 72 = .ok (.aload_n 0, 1) := by decide +kernel
theorem dX7_init_73 : decode cX7_init 73 = .ok (.iconst 4, 1) := by decide +kernel
theorem dX7_init_74 : decode cX7_init 74 = .ok (.newarray .int, 2) := by decide +kernel
theorem dX7_init_76 : decode cX7_init 76 = .ok (.putfield 39, 3) := by decide +kernel
theorem dX7_init_79 : decode cX7_init 79 = .ok (.aload_n 0, 1) := by decide +kernel
theorem dX7_init_80 : decode cX7_init 80 = .ok (.iconst 4, 1) := by decide +kernel
theorem dX7_init_81 : decode cX7_init 81 = .ok (.newarray .int, 2) := by decide +kernel
theorem dX7_init_83 : decode cX7_init 83 = .ok (.putfield 42, 3) := by decide +kernel
theorem dX7_init_86 : decode cX7_init 86 = .ok (.aload_n 0, 1) := by decide +kernel
theorem dX7_init_87 : decode cX7_init 87 = .ok (.sipush 1200, 3) := by decide +kernel
theorem dX7_init_90 : decode cX7_init 90 = .ok (.newarray .int, 2) := by decide +kernel
theorem dX7_init_92 : decode cX7_init 92 = .ok (.putfield 45, 3) := by decide +kernel
theorem dX7_init_95 : decode cX7_init 95 = .ok (.aload_n 0, 1) := by decide +kernel
theorem dX7_init_96 : decode cX7_init 96 = .ok (.sipush 300, 3) := by decide +kernel
theorem dX7_init_99 : decode cX7_init 99 = .ok (.newarray .int, 2) := by decide +kernel
theorem dX7_init_101 : decode cX7_init 101 = .ok (.putfield 48, 3) := by decide +kernel
theorem dX7_init_104 : decode cX7_init 104 = .ok (.return_, 1) := by decide +kernel
theorem dX7_in_0 : decode cX7_in 0 = .ok (.iload_n 0, 1) := by decide +kernel
theorem dX7_in_1 : decode cX7_in 1 = .ok (.iload_n 1, 1) := by decide +kernel
theorem dX7_in_2 : decode cX7_in 2 = .ok (.if_icmp .lt 12, 3) := by decide +kernel
theorem dX7_in_5 : decode cX7_in 5 = .ok (.iload_n 0, 1) := by decide +kernel
theorem dX7_in_6 : decode cX7_in 6 = .ok (.iload_n 2, 1) := by decide +kernel
theorem dX7_in_7 : decode cX7_in 7 = .ok (.if_icmp .gt 7, 3) := by decide +kernel
theorem dX7_in_10 : decode cX7_in 10 = .ok (.iconst 1, 1) := by decide +kernel
theorem dX7_in_11 : decode cX7_in 11 = .ok (.goto 4, 3) := by decide +kernel
theorem dX7_in_14 : decode cX7_in 14 = .ok (.iconst 0, 1) := by decide +kernel
theorem dX7_in_15 : decode cX7_in 15 = .ok (.ireturn, 1) := by decide +kernel
set_option maxRecDepth 20000 in
theorem ggX7_isRow_X7_in : GoodIn wsX7_isRow wsX7_in := goodIn_r _ [4] (by decide +kernel) (by decide +kernel)
set_option maxRecDepth 20000 in
theorem gX7_isRow_X7_in : GoodIn wsX7_isRow (va_wsS RX7 51 yX7_in wsX7_in) := goodIn_app (goodIn_of _ (by decide +kernel)) ggX7_isRow_X7_in
theorem dX7_isRow_0 : decode cX7_isRow 0 = .ok (.iload_n 0, 1) := by decide +kernel
theorem dX7_isRow_1 : decode cX7_isRow 1 = .ok (.iconst 0, 1) := by decide +kernel
theorem dX7_isRow_2 : decode cX7_isRow 2 = .ok (.bipush 7, 2) := by decide +kernel
theorem dX7_isRow_4 : decode cX7_isRow 4 = .ok (.invokestatic 51, 3) := by decide +kernel
theorem dX7_isRow_7 : decode cX7_isRow 7 = .ok (.ireturn, 1) := by decide +kernel
set_option maxRecDepth 20000 in
theorem ggX7_isShift_X7_in : GoodIn wsX7_isShift wsX7_in := goodIn_r _ [4] (by decide +kernel) (by decide +kernel)
set_option maxRecDepth 20000 in
theorem gX7_isShift_X7_in : GoodIn wsX7_isShift (va_wsS RX7 51 yX7_in wsX7_in) := goodIn_app (goodIn_of _ (by decide +kernel)) ggX7_isShift_X7_in
theorem dX7_isShift_0 : decode cX7_isShift 0 = .ok (.iload_n 0, 1) := by decide +kernel
theorem dX7_isShift_1 : decode cX7_isShift 1 = .ok (.iconst 0, 1) := by decide +kernel
theorem dX7_isShift_2 : decode cX7_isShift 2 = .ok (.bipush 126, 2) := by decide +kernel
theorem dX7_isShift_4 : decode cX7_isShift 4 = .ok (.invokestatic 51, 3) := by decide +kernel
theorem dX7_isShift_7 : decode cX7_isShift 7 = .ok (.ireturn, 1) := by decide +kernel
theorem dX7_signOf_0 : decode cX7_signOf 0 = .ok (.aload_n 0, 1) := by decide +kernel
theorem dX7_signOf_1 : decode cX7_signOf 1 = .ok (.getfield 13, 3) := by decide +kernel
theorem dX7_signOf_4 : decode cX7_signOf 4 = .ok (.bipush 127, 2) := by decide +kernel
theorem dX7_signOf_6 : decode cX7_signOf 6 = .ok (.iload_n 1, 1) := by decide +kernel
theorem dX7_signOf_7 : decode cX7_signOf 7 = .ok (.imul, 1) := by decide +kernel
theorem dX7_signOf_8 : decode cX7_signOf 8 = .ok (.iload_n 2, 1) := by decide +kernel
theorem dX7_signOf_9 : decode cX7_signOf 9 = .ok (.aload_n 0, 1) := by decide +kernel
theorem dX7_signOf_10 : decode cX7_signOf 10 = .ok (.getfield 7, 3) := by decide +kernel
theorem dX7_signOf_13 : decode cX7_signOf 13 = .ok (.iload_n 1, 1) := by decide +kernel
theorem dX7_signOf_14 : decode cX7_signOf 14 = .ok (.iaload, 1) := by decide +kernel
theorem dX7_signOf_15 : decode cX7_signOf 15 = .ok (.irem, 1) := by decide +kernel
theorem dX7_signOf_16 : decode cX7_signOf 16 = .ok (.iadd, 1) := by decide +kernel
theorem dX7_signOf_17 : decode cX7_signOf 17 = .ok (.iaload, 1) := by decide +kernel
theorem dX7_signOf_18 : decode cX7_signOf 18 = .ok (.ireturn, 1) := by decide +kernel
theorem dX7_keeps_0 : decode cX7_keeps 0 = .ok (.aload_n 0, 1) := by decide +kernel
theorem dX7_keeps_1 : decode cX7_keeps 1 = .ok (.getfield 7, 3) := by decide +kernel
theorem dX7_keeps_4 : decode cX7_keeps 4 = .ok (.iload_n 1, 1) := by decide +kernel
theorem dX7_keeps_5 : decode cX7_keeps 5 = .ok (.iload_n 2, 1) := by decide +kernel
theorem dX7_keeps_6 : decode cX7_keeps 6 = .ok (.iastore, 1) := by decide +kernel
theorem dX7_keeps_7 : decode cX7_keeps 7 = .ok (.iconst 0, 1) := by decide +kernel
theorem dX7_keeps_8 : decode cX7_keeps 8 = .ok (.istore_n 3, 1) := by decide +kernel
theorem dX7_keeps_9 : decode cX7_keeps 9 = .ok (.iload_n 3, 1) := by decide +kernel
theorem dX7_keeps_10 : decode cX7_keeps 10 = .ok (.iload_n 2, 1) := by decide +kernel
theorem dX7_keeps_11 : decode cX7_keeps 11 = .ok (.if_icmp .ge 26, 3) := by decide +kernel
theorem dX7_keeps_14 : decode cX7_keeps 14 = .ok (.aload_n 0, 1) := by decide +kernel
theorem dX7_keeps_15 : decode cX7_keeps 15 = .ok (.getfield 13, 3) := by decide +kernel
theorem dX7_keeps_18 : decode cX7_keeps 18 = .ok (.bipush 127, 2) := by decide +kernel
theorem dX7_keeps_20 : decode cX7_keeps 20 = .ok (.iload_n 1, 1) := by decide +kernel
theorem dX7_keeps_21 : decode cX7_keeps 21 = .ok (.imul, 1) := by decide +kernel
theorem dX7_keeps_22 : decode cX7_keeps 22 = .ok (.iload_n 3, 1) := by decide +kernel
theorem dX7_keeps_23 : decode cX7_keeps 23 = .ok (.iadd, 1) := by decide +kernel
theorem dX7_keeps_24 : decode cX7_keeps 24 = .ok (.aload_n 0, 1) := by decide +kernel
theorem dX7_keeps_25 : decode cX7_keeps 25 = .ok (.getfield 16, 3) := by decide +kernel
theorem dX7_keeps_28 : decode cX7_keeps 28 = .ok (.iload_n 3, 1) := by decide +kernel
theorem dX7_keeps_29 : decode cX7_keeps 29 = .ok (.iaload, 1) := by decide +kernel
theorem dX7_keeps_30 : decode cX7_keeps 30 = .ok (.iastore, 1) := by decide +kernel
theorem dX7_keeps_31 : decode cX7_keeps 31 = .ok (.iinc 3 1, 3) := by decide +kernel
theorem dX7_keeps_34 : decode cX7_keeps 34 = .ok (.goto (-25), 3) := by decide +kernel
theorem dX7_keeps_37 : decode cX7_keeps 37 = .ok (.return_, 1) := by decide +kernel
set_option maxRecDepth 20000 in
theorem ggX7_isRegister_X7_in : GoodIn wsX7_isRegister wsX7_in := goodIn_r _ [4] (by decide +kernel) (by decide +kernel)
set_option maxRecDepth 20000 in
theorem gX7_isRegister_X7_in : GoodIn wsX7_isRegister (va_wsS RX7 51 yX7_in wsX7_in) := goodIn_app (goodIn_of _ (by decide +kernel)) ggX7_isRegister_X7_in
theorem dX7_isRegister_0 : decode cX7_isRegister 0 = .ok (.iload_n 0, 1) := by decide +kernel
theorem dX7_isRegister_1 : decode cX7_isRegister 1 = .ok (.iconst 2, 1) := by decide +kernel
theorem dX7_isRegister_2 : decode cX7_isRegister 2 = .ok (.bipush 7, 2) := by decide +kernel
theorem dX7_isRegister_4 : decode cX7_isRegister 4 = .ok (.invokestatic 51, 3) := by decide +kernel
theorem dX7_isRegister_7 : decode cX7_isRegister 7 = .ok (.ifCond .eq 40, 3) := by decide +kernel
theorem dX7_isRegister_10 : decode cX7_isRegister 10 = .ok (.iload_n 1, 1) := by decide +kernel
theorem dX7_isRegister_11 : decode cX7_isRegister 11 = .ok (.iconst 1, 1) := by decide +kernel
theorem dX7_isRegister_12 : decode cX7_isRegister 12 = .ok (.iconst 1, 1) := by decide +kernel
theorem dX7_isRegister_13 : decode cX7_isRegister 13 = .ok (.iload_n 0, 1) := by decide +kernel
theorem dX7_isRegister_14 : decode cX7_isRegister 14 = .ok (.ishl, 1) := by decide +kernel
theorem dX7_isRegister_15 : decode cX7_isRegister 15 = .ok (.iconst 1, 1) := by decide +kernel
theorem dX7_isRegister_16 : decode cX7_isRegister 16 = .ok (.isub, 1) := by decide +kernel
theorem dX7_isRegister_17 : decode cX7_isRegister 17 = .ok (.invokestatic 51, 3) := by decide +kernel
theorem dX7_isRegister_20 : decode cX7_isRegister 20 = .ok (.ifCond .eq 27, 3) := by decide +kernel
theorem dX7_isRegister_23 : decode cX7_isRegister 23 = .ok (.iload_n 1, 1) := by decide +kernel
theorem dX7_isRegister_24 : decode cX7_isRegister 24 = .ok (.iconst 2, 1) := by decide +kernel
theorem dX7_isRegister_25 : decode cX7_isRegister 25 = .ok (.irem, 1) := by decide +kernel
theorem dX7_isRegister_26 : decode cX7_isRegister 26 = .ok (.iconst 1, 1) := by decide +kernel
theorem dX7_isRegister_27 : decode cX7_isRegister 27 = .ok (.if_icmp .ne 20, 3) := by decide +kernel
theorem dX7_isRegister_30 : decode cX7_isRegister 30 = .ok (.iload_n 2, 1) := by decide +kernel
theorem dX7_isRegister_31 : decode cX7_isRegister 31 = .ok (.iconst 1, 1) := by decide +kernel
theorem dX7_isRegister_32 : decode cX7_isRegister 32 = .ok (.iconst 1, 1) := by decide +kernel
theorem dX7_isRegister_33 : decode cX7_isRegister 33 = .ok (.iload_n 0, 1) := by decide +kernel
theorem dX7_isRegister_34 : decode cX7_isRegister 34 = .ok (.ishl, 1) := by decide +kernel
theorem dX7_isRegister_35 : decode cX7_isRegister 35 = .ok (.iconst 1, 1) := by decide +kernel
theorem dX7_isRegister_36 : decode cX7_isRegister 36 = .ok (.isub, 1) := by decide +kernel
theorem dX7_isRegister_37 : decode cX7_isRegister 37 = .ok (.invokestatic 51, 3) := by decide +kernel
theorem dX7_isRegister_40 : decode cX7_isRegister 40 = .ok (.ifCond .eq 7, 3) := by decide +kernel
theorem dX7_isRegister_43 : decode cX7_isRegister 43 = .ok (.iconst 1, 1) := by decide +kernel
theorem dX7_isRegister_44 : decode cX7_isRegister 44 = .ok (.goto 4, 3) := by decide +kernel
theorem dX7_isRegister_47 : decode cX7_isRegister 47 = .ok (.iconst 0, 1) := by decide +kernel
theorem dX7_isRegister_48 : decode cX7_isRegister 48 = .ok (.ireturn, 1) := by decide +kernel
theorem dX7_next_0 : decode cX7_next 0 = .ok (.iconst 0, 1) := by decide +kernel
theorem dX7_next_1 : decode cX7_next 1 = .ok (.istore_n 3, 1) := by decide +kernel
theorem dX7_next_2 : decode cX7_next 2 = .ok (.iconst 0, 1) := by decide +kernel
theorem dX7_next_3 : decode cX7_next 3 = .ok (.istore 4, 2) := by decide +kernel
theorem dX7_next_5 : decode cX7_next 5 = .ok (.iload 4, 2) := by decide +kernel
theorem dX7_next_7 : decode cX7_next 7 = .ok (.iload_n 0, 1) := by decide +kernel
theorem dX7_next_8 : decode cX7_next 8 = .ok (.if_icmp .ge 20, 3) := by decide +kernel
theorem dX7_next_11 : decode cX7_next 11 = .ok (.iload_n 3, 1) := by decide +kernel
theorem dX7_next_12 : decode cX7_next 12 = .ok (.iload_n 2, 1) := by decide +kernel
theorem dX7_next_13 : decode cX7_next 13 = .ok (.iload_n 1, 1) := by decide +kernel
theorem dX7_next_14 : decode cX7_next 14 = .ok (.iand, 1) := by decide +kernel
theorem dX7_next_15 : decode cX7_next 15 = .ok (.iload 4, 2) := by decide +kernel
theorem dX7_next_17 : decode cX7_next 17 = .ok (.ishr, 1) := by decide +kernel
theorem dX7_next_18 : decode cX7_next 18 = .ok (.iconst 1, 1) := by decide +kernel
theorem dX7_next_19 : decode cX7_next 19 = .ok (.iand, 1) := by decide +kernel
theorem dX7_next_20 : decode cX7_next 20 = .ok (.ixor, 1) := by decide +kernel
theorem dX7_next_21 : decode cX7_next 21 = .ok (.istore_n 3, 1) := by decide +kernel
theorem dX7_next_22 : decode cX7_next 22 = .ok (.iinc 4 1, 3) := by decide +kernel
theorem dX7_next_25 : decode cX7_next 25 = .ok (.goto (-20), 3) := by decide +kernel
theorem dX7_next_28 : decode cX7_next 28 = .ok (.iload_n 2, 1) := by decide +kernel
theorem dX7_next_29 : decode cX7_next 29 = .ok (.iconst 1, 1) := by decide +kernel
theorem dX7_next_30 : decode cX7_next 30 = .ok (.ishr, 1) := by decide +kernel
theorem dX7_next_31 : decode cX7_next 31 = .ok (.iload_n 3, 1) := by decide +kernel
theorem dX7_next_32 : decode cX7_next 32 = .ok (.iload_n 0, 1) := by decide +kernel
theorem dX7_next_33 : decode cX7_next 33 = .ok (.iconst 1, 1) := by decide +kernel
theorem dX7_next_34 : decode cX7_next 34 = .ok (.isub, 1) := by decide +kernel
theorem dX7_next_35 : decode cX7_next 35 = .ok (.ishl, 1) := by decide +kernel
theorem dX7_next_36 : decode cX7_next 36 = .ok (.ior, 1) := by decide +kernel
theorem dX7_next_37 : decode cX7_next 37 = .ok (.ireturn, 1) := by decide +kernel
set_option maxRecDepth 20000 in
theorem ggX7_make_X7_isRow : GoodIn wsX7_make wsX7_isRow := goodIn_r _ [5, 6, 7, 4, 8] (by decide +kernel) (by decide +kernel)
set_option maxRecDepth 20000 in
theorem gX7_make_X7_isRow : GoodIn wsX7_make (va_wsS RX7 55 yX7_isRow wsX7_isRow) := goodIn_app (goodIn_of _ (by decide +kernel)) ggX7_make_X7_isRow
set_option maxRecDepth 20000 in
theorem ggX7_make_X7_isRegister : GoodIn wsX7_make wsX7_isRegister := goodIn_r _ [11, 6, 7, 4, 8] (by decide +kernel) (by decide +kernel)
set_option maxRecDepth 20000 in
theorem gX7_make_X7_isRegister : GoodIn wsX7_make (va_wsS RX7 59 yX7_isRegister wsX7_isRegister) := goodIn_app (goodIn_of _ (by decide +kernel)) ggX7_make_X7_isRegister
set_option maxRecDepth 20000 in
theorem ggX7_make_X7_next : GoodIn wsX7_make wsX7_next := goodIn_r _ [14] (by decide +kernel) (by decide +kernel)
set_option maxRecDepth 20000 in
theorem gX7_make_X7_next : GoodIn wsX7_make (va_wsS RX7 62 yX7_next wsX7_next) := goodIn_app (goodIn_of _ (by decide +kernel)) ggX7_make_X7_next
set_option maxRecDepth 20000 in
theorem ggX7_make_X7_keeps : GoodIn wsX7_make wsX7_keeps := goodIn_r _ [18, 19, 20, 1, 21, 22, 23, 24, 25, 26, 27, 28, 29, 30, 31, 32, 33, 34, 35, 36, 37, 38, 39] (by decide +kernel) (by decide +kernel)
set_option maxRecDepth 20000 in
theorem gX7_make_X7_keeps : GoodIn wsX7_make (wsV RX7 66 RX7 yX7_keeps wsX7_keeps) := goodIn_app (goodIn_of _ (by decide +kernel)) ggX7_make_X7_keeps
theorem dX7_make_0 : decode cX7_make 0 = .ok (.iload_n 1, 1) := by decide +kernel
theorem dX7_make_1 : decode cX7_make 1 = .ok (.invokestatic 55, 3) := by decide +kernel
theorem dX7_make_4 : decode cX7_make 4 = .ok (.ifCond .eq 13, 3) := by decide +kernel
theorem dX7_make_7 : decode cX7_make 7 = .ok (.iload_n 2, 1) := by decide +kernel
theorem dX7_make_8 : decode cX7_make 8 = .ok (.iload_n 3, 1) := by decide +kernel
theorem dX7_make_9 : decode cX7_make 9 = .ok (.iload 4, 2) := by decide +kernel
theorem dX7_make_11 : decode cX7_make 11 = .ok (.invokestatic 59, 3) := by decide +kernel
theorem dX7_make_14 : decode cX7_make 14 = .ok (.ifCond .ne 6, 3) := by decide +kernel
theorem dX7_make_17 : decode cX7_make 17 = .ok (.bipush (-2), 2) := by decide +kernel
theorem dX7_make_19 : decode cX7_make 19 = .ok (.ireturn, 1) := by decide +kernel
theorem dX7_make_20 : decode cX7_make 20 = .ok (.iload 4, 2) := by decide +kernel
theorem dX7_make_22 : decode cX7_make 22 = .ok (.istore 5, 2) := by decide +kernel
theorem dX7_make_24 : decode cX7_make 24 = .ok (.iconst 1, 1) := by decide +kernel
theorem dX7_make_25 : decode cX7_make 25 = .ok (.iload_n 2, 1) := by decide +kernel
theorem dX7_make_26 : decode cX7_make 26 = .ok (.ishl, 1) := by decide +kernel
theorem dX7_make_27 : decode cX7_make 27 = .ok (.iconst 1, 1) := by decide +kernel
theorem dX7_make_28 : decode cX7_make 28 = .ok (.isub, 1) := by decide +kernel
theorem dX7_make_29 : decode cX7_make 29 = .ok (.istore 6, 2) := by decide +kernel
theorem dX7_make_31 : decode cX7_make 31 = .ok (.iconst 0, 1) := by decide +kernel
theorem dX7_make_32 : decode cX7_make 32 = .ok (.istore 7, 2) := by decide +kernel
theorem dX7_make_34 : decode cX7_make 34 = .ok (.iload 7, 2) := by decide +kernel
theorem dX7_make_36 : decode cX7_make 36 = .ok (.iload 6, 2) := by decide +kernel
theorem dX7_make_38 : decode cX7_make 38 = .ok (.if_icmp .ge 38, 3) := by decide +kernel
theorem dX7_make_41 : decode cX7_make 41 = .ok (.aload_n 0, 1) := by decide +kernel
theorem dX7_make_42 : decode cX7_make 42 = .ok (.getfield 16, 3) := by decide +kernel
theorem dX7_make_45 : decode cX7_make 45 = .ok (.iload 7, 2) := by decide +kernel
theorem dX7_make_47 : decode cX7_make 47 = .ok (.iload 5, 2) := by decide +kernel
theorem dX7_make_49 : decode cX7_make 49 = .ok (.iconst 2, 1) := by decide +kernel
theorem dX7_make_50 : decode cX7_make 50 = .ok (.irem, 1) := by decide +kernel
theorem dX7_make_51 : decode cX7_make 51 = .ok (.iconst 1, 1) := by decide +kernel
theorem dX7_make_52 : decode cX7_make 52 = .ok (.if_icmp .ne 7, 3) := by decide +kernel
theorem dX7_make_55 : decode cX7_make 55 = .ok (.iconst (-1), 1) := by decide +kernel
theorem dX7_make_56 : decode cX7_make 56 = .ok (.goto 4, 3) := by decide +kernel
theorem dX7_make_59 : decode cX7_make 59 = .ok (.iconst 1, 1) := by decide +kernel
theorem dX7_make_60 : decode cX7_make 60 = .ok (.iastore, 1) := by decide +kernel
theorem dX7_make_61 : decode cX7_make 61 = .ok (.iload_n 2, 1) := by decide +kernel
theorem dX7_make_62 : decode cX7_make 62 = .ok (.iload_n 3, 1) := by decide +kernel
theorem dX7_make_63 : decode cX7_make 63 = .ok (.iload 5, 2) := by decide +kernel
theorem dX7_make_65 : decode cX7_make 65 = .ok (.invokestatic 62, 3) := by decide +kernel
theorem dX7_make_68 : decode cX7_make 68 = .ok (.istore 5, 2) := by decide +kernel
theorem dX7_make_70 : decode cX7_make 70 = .ok (.iinc 7 1, 3) := by decide +kernel
theorem dX7_make_73 : decode cX7_make 73 = .ok (.goto (-39), 3) := by decide +kernel
theorem dX7_make_76 : decode cX7_make 76 = .ok (.aload_n 0, 1) := by decide +kernel
theorem dX7_make_77 : decode cX7_make 77 = .ok (.iload_n 1, 1) := by decide +kernel
theorem dX7_make_78 : decode cX7_make 78 = .ok (.iload 6, 2) := by decide +kernel
theorem dX7_make_80 : decode cX7_make 80 = .ok (.invokevirtual 66, 3) := by decide +kernel
theorem dX7_make_83 : decode cX7_make 83 = .ok (.iload 6, 2) := by decide +kernel
theorem dX7_make_85 : decode cX7_make 85 = .ok (.ireturn, 1) := by decide +kernel
set_option maxRecDepth 20000 in
theorem ggX7_periodOf_X7_next : GoodIn wsX7_periodOf wsX7_next := goodIn_r _ [4] (by decide +kernel) (by decide +kernel)
set_option maxRecDepth 20000 in
theorem gX7_periodOf_X7_next : GoodIn wsX7_periodOf (va_wsS RX7 62 yX7_next wsX7_next) := goodIn_app (goodIn_of _ (by decide +kernel)) ggX7_periodOf_X7_next
theorem dX7_periodOf_0 : decode cX7_periodOf 0 = .ok (.iload_n 0, 1) := by decide +kernel
theorem dX7_periodOf_1 : decode cX7_periodOf 1 = .ok (.iload_n 1, 1) := by decide +kernel
theorem dX7_periodOf_2 : decode cX7_periodOf 2 = .ok (.iload_n 2, 1) := by decide +kernel
theorem dX7_periodOf_3 : decode cX7_periodOf 3 = .ok (.invokestatic 62, 3) := by decide +kernel
theorem dX7_periodOf_6 : decode cX7_periodOf 6 = .ok (.istore_n 3, 1) := by decide +kernel
theorem dX7_periodOf_7 : decode cX7_periodOf 7 = .ok (.iconst 1, 1) := by decide +kernel
theorem dX7_periodOf_8 : decode cX7_periodOf 8 = .ok (.istore 4, 2) := by decide +kernel
theorem dX7_periodOf_10 : decode cX7_periodOf 10 = .ok (.iload_n 3, 1) := by decide +kernel
theorem dX7_periodOf_11 : decode cX7_periodOf 11 = .ok (.iload_n 2, 1) := by decide +kernel
theorem dX7_periodOf_12 : decode cX7_periodOf 12 = .ok (.if_icmp .eq 16, 3) := by decide +kernel
theorem dX7_periodOf_15 : decode cX7_periodOf 15 = .ok (.iload_n 0, 1) := by decide +kernel
theorem dX7_periodOf_16 : decode cX7_periodOf 16 = .ok (.iload_n 1, 1) := by decide +kernel
theorem dX7_periodOf_17 : decode cX7_periodOf 17 = .ok (.iload_n 3, 1) := by decide +kernel
theorem dX7_periodOf_18 : decode cX7_periodOf 18 = .ok (.invokestatic 62, 3) := by decide +kernel
theorem dX7_periodOf_21 : decode cX7_periodOf 21 = .ok (.istore_n 3, 1) := by decide +kernel
theorem dX7_periodOf_22 : decode cX7_periodOf 22 = .ok (.iinc 4 1, 3) := by decide +kernel
theorem dX7_periodOf_25 : decode cX7_periodOf 25 = .ok (.goto (-15), 3) := by decide +kernel
theorem dX7_periodOf_28 : decode cX7_periodOf 28 = .ok (.iload 4, 2) := by decide +kernel
theorem dX7_periodOf_30 : decode cX7_periodOf 30 = .ok (.ireturn, 1) := by decide +kernel
set_option maxRecDepth 20000 in
theorem ggX7_period_X7_isRegister : GoodIn wsX7_period wsX7_isRegister := goodIn_r _ [4, 5, 6, 3, 7] (by decide +kernel) (by decide +kernel)
set_option maxRecDepth 20000 in
theorem gX7_period_X7_isRegister : GoodIn wsX7_period (va_wsS RX7 59 yX7_isRegister wsX7_isRegister) := goodIn_app (goodIn_of _ (by decide +kernel)) ggX7_period_X7_isRegister
set_option maxRecDepth 20000 in
theorem ggX7_period_X7_periodOf : GoodIn wsX7_period wsX7_periodOf := goodIn_r _ [10, 11, 12, 3, 13] (by decide +kernel) (by decide +kernel)
set_option maxRecDepth 20000 in
theorem gX7_period_X7_periodOf : GoodIn wsX7_period (va_wsS RX7 70 yX7_periodOf wsX7_periodOf) := goodIn_app (goodIn_of _ (by decide +kernel)) ggX7_period_X7_periodOf
theorem dX7_period_0 : decode cX7_period 0 = .ok (.iload_n 1, 1) := by decide +kernel
theorem dX7_period_1 : decode cX7_period 1 = .ok (.iload_n 2, 1) := by decide +kernel
theorem dX7_period_2 : decode cX7_period 2 = .ok (.iload_n 3, 1) := by decide +kernel
theorem dX7_period_3 : decode cX7_period 3 = .ok (.invokestatic 59, 3) := by decide +kernel
theorem dX7_period_6 : decode cX7_period 6 = .ok (.ifCond .eq 12, 3) := by decide +kernel
theorem dX7_period_9 : decode cX7_period 9 = .ok (.iload_n 1, 1) := by decide +kernel
theorem dX7_period_10 : decode cX7_period 10 = .ok (.iload_n 2, 1) := by decide +kernel
theorem dX7_period_11 : decode cX7_period 11 = .ok (.iload_n 3, 1) := by decide +kernel
theorem dX7_period_12 : decode cX7_period 12 = .ok (.invokestatic 70, 3) := by decide +kernel
theorem dX7_period_15 : decode cX7_period 15 = .ok (.goto 5, 3) := by decide +kernel
theorem dX7_period_18 : decode cX7_period 18 = .ok (.bipush (-2), 2) := by decide +kernel
theorem dX7_period_20 : decode cX7_period 20 = .ok (.ireturn, 1) := by decide +kernel
set_option maxRecDepth 20000 in
theorem ggX7_full_X7_in : GoodIn wsX7_full wsX7_in := goodIn_r _ [4] (by decide +kernel) (by decide +kernel)
set_option maxRecDepth 20000 in
theorem gX7_full_X7_in : GoodIn wsX7_full (va_wsS RX7 51 yX7_in wsX7_in) := goodIn_app (goodIn_of _ (by decide +kernel)) ggX7_full_X7_in
set_option maxRecDepth 20000 in
theorem ggX7_full_X7_periodOf : GoodIn wsX7_full wsX7_periodOf := goodIn_r _ [7, 8, 9, 3, 10] (by decide +kernel) (by decide +kernel)
set_option maxRecDepth 20000 in
theorem gX7_full_X7_periodOf : GoodIn wsX7_full (va_wsS RX7 70 yX7_periodOf wsX7_periodOf) := goodIn_app (goodIn_of _ (by decide +kernel)) ggX7_full_X7_periodOf
theorem dX7_full_0 : decode cX7_full 0 = .ok (.iload_n 1, 1) := by decide +kernel
theorem dX7_full_1 : decode cX7_full 1 = .ok (.iconst 2, 1) := by decide +kernel
theorem dX7_full_2 : decode cX7_full 2 = .ok (.bipush 7, 2) := by decide +kernel
theorem dX7_full_4 : decode cX7_full 4 = .ok (.invokestatic 51, 3) := by decide +kernel
theorem dX7_full_7 : decode cX7_full 7 = .ok (.ifCond .ne 6, 3) := by decide +kernel
theorem dX7_full_10 : decode cX7_full 10 = .ok (.bipush (-2), 2) := by decide +kernel
theorem dX7_full_12 : decode cX7_full 12 = .ok (.ireturn, 1) := by decide +kernel
theorem dX7_full_13 : decode cX7_full 13 = .ok (.iconst 0, 1) := by decide +kernel
theorem dX7_full_14 : decode cX7_full 14 = .ok (.istore_n 2, 1) := by decide +kernel
theorem dX7_full_15 : decode cX7_full 15 = .ok (.iconst 1, 1) := by decide +kernel
theorem dX7_full_16 : decode cX7_full 16 = .ok (.istore_n 3, 1) := by decide +kernel
theorem dX7_full_17 : decode cX7_full 17 = .ok (.iload_n 3, 1) := by decide +kernel
theorem dX7_full_18 : decode cX7_full 18 = .ok (.iconst 1, 1) := by decide +kernel
theorem dX7_full_19 : decode cX7_full 19 = .ok (.iload_n 1, 1) := by decide +kernel
theorem dX7_full_20 : decode cX7_full 20 = .ok (.ishl, 1) := by decide +kernel
theorem dX7_full_21 : decode cX7_full 21 = .ok (.if_icmp .ge 31, 3) := by decide +kernel
theorem dX7_full_24 : decode cX7_full 24 = .ok (.iload_n 2, 1) := by decide +kernel
theorem dX7_full_25 : decode cX7_full 25 = .ok (.iload_n 1, 1) := by decide +kernel
theorem dX7_full_26 : decode cX7_full 26 = .ok (.iload_n 3, 1) := by decide +kernel
theorem dX7_full_27 : decode cX7_full 27 = .ok (.iconst 1, 1) := by decide +kernel
theorem dX7_full_28 : decode cX7_full 28 = .ok (.invokestatic 70, 3) := by decide +kernel
theorem dX7_full_31 : decode cX7_full 31 = .ok (.iconst 1, 1) := by decide +kernel
theorem dX7_full_32 : decode cX7_full 32 = .ok (.iload_n 1, 1) := by decide +kernel
theorem dX7_full_33 : decode cX7_full 33 = .ok (.ishl, 1) := by decide +kernel
theorem dX7_full_34 : decode cX7_full 34 = .ok (.iconst 1, 1) := by decide +kernel
theorem dX7_full_35 : decode cX7_full 35 = .ok (.isub, 1) := by decide +kernel
theorem dX7_full_36 : decode cX7_full 36 = .ok (.if_icmp .ne 7, 3) := by decide +kernel
theorem dX7_full_39 : decode cX7_full 39 = .ok (.iconst 1, 1) := by decide +kernel
theorem dX7_full_40 : decode cX7_full 40 = .ok (.goto 4, 3) := by decide +kernel
theorem dX7_full_43 : decode cX7_full 43 = .ok (.iconst 0, 1) := by decide +kernel
theorem dX7_full_44 : decode cX7_full 44 = .ok (.iadd, 1) := by decide +kernel
theorem dX7_full_45 : decode cX7_full 45 = .ok (.istore_n 2, 1) := by decide +kernel
theorem dX7_full_46 : decode cX7_full 46 = .ok (.iinc 3 2, 3) := by decide +kernel
theorem dX7_full_49 : decode cX7_full 49 = .ok (.goto (-32), 3) := by decide +kernel
theorem dX7_full_52 : decode cX7_full 52 = .ok (.iload_n 2, 1) := by decide +kernel
theorem dX7_full_53 : decode cX7_full 53 = .ok (.ireturn, 1) := by decide +kernel
theorem dX7_arePair_0 : decode cX7_arePair 0 = .ok (.aload_n 0, 1) := by decide +kernel
theorem dX7_arePair_1 : decode cX7_arePair 1 = .ok (.getfield 7, 3) := by decide +kernel
theorem dX7_arePair_4 : decode cX7_arePair 4 = .ok (.iload_n 1, 1) := by decide +kernel
theorem dX7_arePair_5 : decode cX7_arePair 5 = .ok (.iaload, 1) := by decide +kernel
theorem dX7_arePair_6 : decode cX7_arePair 6 = .ok (.ifCond .le 22, 3) := by decide +kernel
theorem dX7_arePair_9 : decode cX7_arePair 9 = .ok (.aload_n 0, 1) := by decide +kernel
theorem dX7_arePair_10 : decode cX7_arePair 10 = .ok (.getfield 7, 3) := by decide +kernel
theorem dX7_arePair_13 : decode cX7_arePair 13 = .ok (.iload_n 1, 1) := by decide +kernel
theorem dX7_arePair_14 : decode cX7_arePair 14 = .ok (.iaload, 1) := by decide +kernel
theorem dX7_arePair_15 : decode cX7_arePair 15 = .ok (.aload_n 0, 1) := by decide +kernel
theorem dX7_arePair_16 : decode cX7_arePair 16 = .ok (.getfield 7, 3) := by decide +kernel
theorem dX7_arePair_19 : decode cX7_arePair 19 = .ok (.iload_n 2, 1) := by decide +kernel
theorem dX7_arePair_20 : decode cX7_arePair 20 = .ok (.iaload, 1) := by decide +kernel
theorem dX7_arePair_21 : decode cX7_arePair 21 = .ok (.if_icmp .ne 7, 3) := by decide +kernel
theorem dX7_arePair_24 : decode cX7_arePair 24 = .ok (.iconst 1, 1) := by decide +kernel
theorem dX7_arePair_25 : decode cX7_arePair 25 = .ok (.goto 4, 3) := by decide +kernel
theorem dX7_arePair_28 : decode cX7_arePair 28 = .ok (.iconst 0, 1) := by decide +kernel
theorem dX7_arePair_29 : decode cX7_arePair 29 = .ok (.ireturn, 1) := by decide +kernel
set_option maxRecDepth 20000 in
theorem ggX7_join_X7_isRow : GoodIn wsX7_join wsX7_isRow := goodIn_r _ [6, 7, 8, 5, 9] (by decide +kernel) (by decide +kernel)
set_option maxRecDepth 20000 in
theorem gX7_join_X7_isRow : GoodIn wsX7_join (va_wsS RX7 55 yX7_isRow wsX7_isRow) := goodIn_app (goodIn_of _ (by decide +kernel)) ggX7_join_X7_isRow
set_option maxRecDepth 20000 in
theorem ggX7_join_X7_isShift : GoodIn wsX7_join wsX7_isShift := goodIn_r _ [12, 7, 8, 5, 9] (by decide +kernel) (by decide +kernel)
set_option maxRecDepth 20000 in
theorem gX7_join_X7_isShift : GoodIn wsX7_join (va_wsS RX7 73 yX7_isShift wsX7_isShift) := goodIn_app (goodIn_of _ (by decide +kernel)) ggX7_join_X7_isShift
set_option maxRecDepth 20000 in
theorem ggX7_join_X7_arePair : GoodIn wsX7_join wsX7_arePair := goodIn_r _ [16, 1, 26, 27, 28, 29, 30, 31, 32, 33, 34, 35, 36, 37, 38, 39, 40, 41, 42, 43, 44] (by decide +kernel) (by decide +kernel)
set_option maxRecDepth 20000 in
theorem gX7_join_X7_arePair : GoodIn wsX7_join (wsV RX7 76 RX7 yX7_arePair wsX7_arePair) := goodIn_app (goodIn_of _ (by decide +kernel)) ggX7_join_X7_arePair
set_option maxRecDepth 20000 in
theorem ggX7_join_X7_signOf : GoodIn wsX7_join wsX7_signOf := goodIn_r _ [20, 21, 1, 26, 27, 28, 29, 30, 31, 32, 33, 34, 35, 36, 37, 38, 39, 40, 41, 42, 43, 44] (by decide +kernel) (by decide +kernel)
set_option maxRecDepth 20000 in
theorem gX7_join_X7_signOf : GoodIn wsX7_join (wsV RX7 80 RX7 yX7_signOf wsX7_signOf) := goodIn_app (goodIn_of _ (by decide +kernel)) ggX7_join_X7_signOf
set_option maxRecDepth 20000 in
theorem ggX7_join_X7_keeps : GoodIn wsX7_join wsX7_keeps := goodIn_r _ [25, 1, 21, 2, 26, 27, 28, 29, 30, 31, 32, 33, 34, 35, 36, 37, 38, 39, 40, 41, 42, 43, 44] (by decide +kernel) (by decide +kernel)
set_option maxRecDepth 20000 in
theorem gX7_join_X7_keeps : GoodIn wsX7_join (wsV RX7 66 RX7 yX7_keeps wsX7_keeps) := goodIn_app (goodIn_of _ (by decide +kernel)) ggX7_join_X7_keeps
theorem dX7_join_0 : decode cX7_join 0 = .ok (.iload_n 1, 1) := by decide +kernel
theorem dX7_join_1 : decode cX7_join 1 = .ok (.invokestatic 55, 3) := by decide +kernel
theorem dX7_join_4 : decode cX7_join 4 = .ok (.ifCond .eq 25, 3) := by decide +kernel
theorem dX7_join_7 : decode cX7_join 7 = .ok (.iload_n 2, 1) := by decide +kernel
theorem dX7_join_8 : decode cX7_join 8 = .ok (.invokestatic 55, 3) := by decide +kernel
theorem dX7_join_11 : decode cX7_join 11 = .ok (.ifCond .eq 18, 3) := by decide +kernel
theorem dX7_join_14 : decode cX7_join 14 = .ok (.iload_n 3, 1) := by decide +kernel
theorem dX7_join_15 : decode cX7_join 15 = .ok (.invokestatic 73, 3) := by decide +kernel
theorem dX7_join_18 : decode cX7_join 18 = .ok (.ifCond .eq 11, 3) := by decide +kernel
theorem dX7_join_21 : decode cX7_join 21 = .ok (.iload 4, 2) := by decide +kernel
theorem dX7_join_23 : decode cX7_join 23 = .ok (.invokestatic 55, 3) := by decide +kernel
theorem dX7_join_26 : decode cX7_join 26 = .ok (.ifCond .ne 6, 3) := by decide +kernel
theorem dX7_join_29 : decode cX7_join 29 = .ok (.bipush (-2), 2) := by decide +kernel
theorem dX7_join_31 : decode cX7_join 31 = .ok (.ireturn, 1) := by decide +kernel
theorem dX7_join_32 : decode cX7_join 32 = .ok (.aload_n 0, 1) := by decide +kernel
theorem dX7_join_33 : decode cX7_join 33 = .ok (.iload_n 1, 1) := by decide +kernel
theorem dX7_join_34 : decode cX7_join 34 = .ok (.iload_n 2, 1) := by decide +kernel
theorem dX7_join_35 : decode cX7_join 35 = .ok (.invokevirtual 76, 3) := by decide +kernel
theorem dX7_join_38 : decode cX7_join 38 = .ok (.ifCond .ne 6, 3) := by decide +kernel
theorem dX7_join_41 : decode cX7_join 41 = .ok (.bipush (-3), 2) := by decide +kernel
theorem dX7_join_43 : decode cX7_join 43 = .ok (.ireturn, 1) := by decide +kernel
theorem dX7_join_44 : decode cX7_join 44 = .ok (.aload_n 0, 1) := by decide +kernel
theorem dX7_join_45 : decode cX7_join 45 = .ok (.getfield 7, 3) := by decide +kernel
theorem dX7_join_48 : decode cX7_join 48 = .ok (.iload_n 1, 1) := by decide +kernel
theorem dX7_join_49 : decode cX7_join 49 = .ok (.iaload, 1) := by decide +kernel
theorem dX7_join_50 : decode cX7_join 50 = .ok (.istore 5, 2) := by decide +kernel
theorem dX7_join_52 : decode cX7_join 52 = .ok (.iconst 0, 1) := by decide +kernel
theorem dX7_join_53 : decode cX7_join 53 = .ok (.istore 6, 2) := by decide +kernel
theorem dX7_join_55 : decode cX7_join 55 = .ok (.iload 6, 2) := by decide +kernel
theorem dX7_join_57 : decode cX7_join 57 = .ok (.iload 5, 2) := by decide +kernel
theorem dX7_join_59 : decode cX7_join 59 = .ok (.if_icmp .ge 33, 3) := by decide +kernel
theorem dX7_join_62 : decode cX7_join 62 = .ok (.aload_n 0, 1) := by decide +kernel
theorem dX7_join_63 : decode cX7_join 63 = .ok (.getfield 16, 3) := by decide +kernel
theorem dX7_join_66 : decode cX7_join 66 = .ok (.iload 6, 2) := by decide +kernel
theorem dX7_join_68 : decode cX7_join 68 = .ok (.aload_n 0, 1) := by decide +kernel
theorem dX7_join_69 : decode cX7_join 69 = .ok (.iload_n 1, 1) := by decide +kernel
theorem dX7_join_70 : decode cX7_join 70 = .ok (.iload 6, 2) := by decide +kernel
theorem dX7_join_72 : decode cX7_join 72 = .ok (.invokevirtual 80, 3) := by decide +kernel
theorem dX7_join_75 : decode cX7_join 75 = .ok (.aload_n 0, 1) := by decide +kernel
theorem dX7_join_76 : decode cX7_join 76 = .ok (.iload_n 2, 1) := by decide +kernel
theorem dX7_join_77 : decode cX7_join 77 = .ok (.iload 6, 2) := by decide +kernel
theorem dX7_join_79 : decode cX7_join 79 = .ok (.iload_n 3, 1) := by decide +kernel
theorem dX7_join_80 : decode cX7_join 80 = .ok (.iadd, 1) := by decide +kernel
theorem dX7_join_81 : decode cX7_join 81 = .ok (.invokevirtual 80, 3) := by decide +kernel
theorem dX7_join_84 : decode cX7_join 84 = .ok (.imul, 1) := by decide +kernel
theorem dX7_join_85 : decode cX7_join 85 = .ok (.iastore, 1) := by decide +kernel
theorem dX7_join_86 : decode cX7_join 86 = .ok (.iinc 6 1, 3) := by decide +kernel
theorem dX7_join_89 : decode cX7_join 89 = .ok (.goto (-34), 3) := by decide +kernel
theorem dX7_join_92 : decode cX7_join 92 = .ok (.aload_n 0, 1) := by decide +kernel
theorem dX7_join_93 : decode cX7_join 93 = .ok (.iload 4, 2) := by decide +kernel
theorem dX7_join_95 : decode cX7_join 95 = .ok (.iload 5, 2) := by decide +kernel
theorem dX7_join_97 : decode cX7_join 97 = .ok (.invokevirtual 66, 3) := by decide +kernel
theorem dX7_join_100 : decode cX7_join 100 = .ok (.iload 5, 2) := by decide +kernel
theorem dX7_join_102 : decode cX7_join 102 = .ok (.ireturn, 1) := by decide +kernel
set_option maxRecDepth 20000 in
theorem ggX7_load_X7_isRow : GoodIn wsX7_load wsX7_isRow := goodIn_r _ [8, 9, 10, 7, 11] (by decide +kernel) (by decide +kernel)
set_option maxRecDepth 20000 in
theorem gX7_load_X7_isRow : GoodIn wsX7_load (va_wsS RX7 55 yX7_isRow wsX7_isRow) := goodIn_app (goodIn_of _ (by decide +kernel)) ggX7_load_X7_isRow
set_option maxRecDepth 20000 in
theorem ggX7_load_X7_isReel : GoodIn wsX7_load wsX7_isReel := goodIn_r _ [14, 9, 10, 7, 11] (by decide +kernel) (by decide +kernel)
set_option maxRecDepth 20000 in
theorem gX7_load_X7_isReel : GoodIn wsX7_load (va_wsS RX7 84 yX7_isReel wsX7_isReel) := goodIn_app (goodIn_of _ (by decide +kernel)) ggX7_load_X7_isReel
set_option maxRecDepth 20000 in
theorem ggX7_load_X7_in : GoodIn wsX7_load wsX7_in := goodIn_r _ [11] (by decide +kernel) (by decide +kernel)
set_option maxRecDepth 20000 in
theorem gX7_load_X7_in : GoodIn wsX7_load (va_wsS RX7 51 yX7_in wsX7_in) := goodIn_app (goodIn_of _ (by decide +kernel)) ggX7_load_X7_in
set_option maxRecDepth 20000 in
theorem ggX7_load_X7_meets : GoodIn wsX7_load wsX7_meets := goodIn_r _ [18, 19, 26, 27, 28, 29, 30, 31, 32, 33, 34, 35, 36, 37, 38, 39, 40, 41, 42, 43, 44] (by decide +kernel) (by decide +kernel)
set_option maxRecDepth 20000 in
theorem gX7_load_X7_meets : GoodIn wsX7_load (wsV RX7 87 RX7 yX7_meets wsX7_meets) := goodIn_app (goodIn_of _ (by decide +kernel)) ggX7_load_X7_meets
set_option maxRecDepth 20000 in
theorem ggX7_load_X7_keeps : GoodIn wsX7_load wsX7_keeps := goodIn_r _ [23, 24, 25, 3, 26, 27, 28, 29, 30, 31, 32, 33, 34, 35, 36, 37, 38, 39, 40, 41, 42, 43, 44] (by decide +kernel) (by decide +kernel)
set_option maxRecDepth 20000 in
theorem gX7_load_X7_keeps : GoodIn wsX7_load (wsV RX7 66 RX7 yX7_keeps wsX7_keeps) := goodIn_app (goodIn_of _ (by decide +kernel)) ggX7_load_X7_keeps
theorem dX7_load_0 : decode cX7_load 0 = .ok (.iload_n 1, 1) := by decide +kernel
theorem dX7_load_1 : decode cX7_load 1 = .ok (.invokestatic 55, 3) := by decide +kernel
theorem dX7_load_4 : decode cX7_load 4 = .ok (.ifCond .eq 20, 3) := by decide +kernel
theorem dX7_load_7 : decode cX7_load 7 = .ok (.iload_n 2, 1) := by decide +kernel
theorem dX7_load_8 : decode cX7_load 8 = .ok (.invokestatic 84, 3) := by decide +kernel
theorem dX7_load_11 : decode cX7_load 11 = .ok (.ifCond .eq 13, 3) := by decide +kernel
theorem dX7_load_14 : decode cX7_load 14 = .ok (.iload_n 3, 1) := by decide +kernel
theorem dX7_load_15 : decode cX7_load 15 = .ok (.iconst 1, 1) := by decide +kernel
theorem dX7_load_16 : decode cX7_load 16 = .ok (.bipush 127, 2) := by decide +kernel
theorem dX7_load_18 : decode cX7_load 18 = .ok (.invokestatic 51, 3) := by decide +kernel
theorem dX7_load_21 : decode cX7_load 21 = .ok (.ifCond .ne 6, 3) := by decide +kernel
theorem dX7_load_24 : decode cX7_load 24 = .ok (.bipush (-2), 2) := by decide +kernel
theorem dX7_load_26 : decode cX7_load 26 = .ok (.ireturn, 1) := by decide +kernel
theorem dX7_load_27 : decode cX7_load 27 = .ok (.aload_n 0, 1) := by decide +kernel
theorem dX7_load_28 : decode cX7_load 28 = .ok (.getfield 35, 3) := by decide +kernel
theorem dX7_load_31 : decode cX7_load 31 = .ok (.iload_n 2, 1) := by decide +kernel
theorem dX7_load_32 : decode cX7_load 32 = .ok (.baload, 1) := by decide +kernel
theorem dX7_load_33 : decode cX7_load 33 = .ok (.ifCond .ne 9, 3) := by decide +kernel
theorem dX7_load_36 : decode cX7_load 36 = .ok (.aload_n 0, 1) := by decide +kernel
theorem dX7_load_37 : decode cX7_load 37 = .ok (.iconst 1, 1) := by decide +kernel
theorem dX7_load_38 : decode cX7_load 38 = .ok (.invokevirtual 87, 3) := by decide +kernel
theorem dX7_load_41 : decode cX7_load 41 = .ok (.ireturn, 1) := by decide +kernel
theorem dX7_load_42 : decode cX7_load 42 = .ok (.aload_n 0, 1) := by decide +kernel
theorem dX7_load_43 : decode cX7_load 43 = .ok (.getfield 42, 3) := by decide +kernel
theorem dX7_load_46 : decode cX7_load 46 = .ok (.iload_n 2, 1) := by decide +kernel
theorem dX7_load_47 : decode cX7_load 47 = .ok (.iaload, 1) := by decide +kernel
theorem dX7_load_48 : decode cX7_load 48 = .ok (.iload_n 3, 1) := by decide +kernel
theorem dX7_load_49 : decode cX7_load 49 = .ok (.if_icmp .ge 9, 3) := by decide +kernel
theorem dX7_load_52 : decode cX7_load 52 = .ok (.aload_n 0, 1) := by decide +kernel
theorem dX7_load_53 : decode cX7_load 53 = .ok (.iconst 2, 1) := by decide +kernel
theorem dX7_load_54 : decode cX7_load 54 = .ok (.invokevirtual 87, 3) := by decide +kernel
theorem dX7_load_57 : decode cX7_load 57 = .ok (.ireturn, 1) := by decide +kernel
theorem dX7_load_58 : decode cX7_load 58 = .ok (.iconst 0, 1) := by decide +kernel
theorem dX7_load_59 : decode cX7_load 59 = .ok (.istore 4, 2) := by decide +kernel
theorem dX7_load_61 : decode cX7_load 61 = .ok (.iload 4, 2) := by decide +kernel
theorem dX7_load_63 : decode cX7_load 63 = .ok (.iload_n 3, 1) := by decide +kernel
theorem dX7_load_64 : decode cX7_load 64 = .ok (.if_icmp .ge 37, 3) := by decide +kernel
theorem dX7_load_67 : decode cX7_load 67 = .ok (.aload_n 0, 1) := by decide +kernel
theorem dX7_load_68 : decode cX7_load 68 = .ok (.getfield 16, 3) := by decide +kernel
theorem dX7_load_71 : decode cX7_load 71 = .ok (.iload 4, 2) := by decide +kernel
theorem dX7_load_73 : decode cX7_load 73 = .ok (.aload_n 0, 1) := by decide +kernel
theorem dX7_load_74 : decode cX7_load 74 = .ok (.getfield 45, 3) := by decide +kernel
theorem dX7_load_77 : decode cX7_load 77 = .ok (.sipush 300, 3) := by decide +kernel
theorem dX7_load_80 : decode cX7_load 80 = .ok (.iload_n 2, 1) := by decide +kernel
theorem dX7_load_81 : decode cX7_load 81 = .ok (.imul, 1) := by decide +kernel
theorem dX7_load_82 : decode cX7_load 82 = .ok (.iload 4, 2) := by decide +kernel
theorem dX7_load_84 : decode cX7_load 84 = .ok (.iadd, 1) := by decide +kernel
theorem dX7_load_85 : decode cX7_load 85 = .ok (.iaload, 1) := by decide +kernel
theorem dX7_load_86 : decode cX7_load 86 = .ok (.ifCond .ge 7, 3) := by decide +kernel
theorem dX7_load_89 : decode cX7_load 89 = .ok (.iconst (-1), 1) := by decide +kernel
theorem dX7_load_90 : decode cX7_load 90 = .ok (.goto 4, 3) := by decide +kernel
theorem dX7_load_93 : decode cX7_load 93 = .ok (.iconst 1, 1) := by decide +kernel
theorem dX7_load_94 : decode cX7_load 94 = .ok (.iastore, 1) := by decide +kernel
theorem dX7_load_95 : decode cX7_load 95 = .ok (.iinc 4 1, 3) := by decide +kernel
theorem dX7_load_98 : decode cX7_load 98 = .ok (.goto (-37), 3) := by decide +kernel
theorem dX7_load_101 : decode cX7_load 101 = .ok (.aload_n 0, 1) := by decide +kernel
theorem dX7_load_102 : decode cX7_load 102 = .ok (.iload_n 1, 1) := by decide +kernel
theorem dX7_load_103 : decode cX7_load 103 = .ok (.iload_n 3, 1) := by decide +kernel
theorem dX7_load_104 : decode cX7_load 104 = .ok (.invokevirtual 66, 3) := by decide +kernel
theorem dX7_load_107 : decode cX7_load 107 = .ok (.iload_n 3, 1) := by decide +kernel
theorem dX7_load_108 : decode cX7_load 108 = .ok (.ireturn, 1) := by decide +kernel
set_option maxRecDepth 20000 in
theorem ggX7_drop_X7_isRow : GoodIn wsX7_drop wsX7_isRow := goodIn_r _ [5, 6, 7, 4, 8] (by decide +kernel) (by decide +kernel)
set_option maxRecDepth 20000 in
theorem gX7_drop_X7_isRow : GoodIn wsX7_drop (va_wsS RX7 55 yX7_isRow wsX7_isRow) := goodIn_app (goodIn_of _ (by decide +kernel)) ggX7_drop_X7_isRow
theorem dX7_drop_0 : decode cX7_drop 0 = .ok (.iload_n 1, 1) := by decide +kernel
theorem dX7_drop_1 : decode cX7_drop 1 = .ok (.invokestatic 55, 3) := by decide +kernel
theorem dX7_drop_4 : decode cX7_drop 4 = .ok (.ifCond .ne 6, 3) := by decide +kernel
theorem dX7_drop_7 : decode cX7_drop 7 = .ok (.bipush (-2), 2) := by decide +kernel
theorem dX7_drop_9 : decode cX7_drop 9 = .ok (.ireturn, 1) := by decide +kernel
theorem dX7_drop_10 : decode cX7_drop 10 = .ok (.aload_n 0, 1) := by decide +kernel
theorem dX7_drop_11 : decode cX7_drop 11 = .ok (.getfield 7, 3) := by decide +kernel
theorem dX7_drop_14 : decode cX7_drop 14 = .ok (.iload_n 1, 1) := by decide +kernel
theorem dX7_drop_15 : decode cX7_drop 15 = .ok (.iaload, 1) := by decide +kernel
theorem dX7_drop_16 : decode cX7_drop 16 = .ok (.ifCond .ne 6, 3) := by decide +kernel
theorem dX7_drop_19 : decode cX7_drop 19 = .ok (.bipush (-3), 2) := by decide +kernel
theorem dX7_drop_21 : decode cX7_drop 21 = .ok (.ireturn, 1) := by decide +kernel
theorem dX7_drop_22 : decode cX7_drop 22 = .ok (.aload_n 0, 1) := by decide +kernel
theorem dX7_drop_23 : decode cX7_drop 23 = .ok (.getfield 7, 3) := by decide +kernel
theorem dX7_drop_26 : decode cX7_drop 26 = .ok (.iload_n 1, 1) := by decide +kernel
theorem dX7_drop_27 : decode cX7_drop 27 = .ok (.iaload, 1) := by decide +kernel
theorem dX7_drop_28 : decode cX7_drop 28 = .ok (.istore_n 2, 1) := by decide +kernel
theorem dX7_drop_29 : decode cX7_drop 29 = .ok (.aload_n 0, 1) := by decide +kernel
theorem dX7_drop_30 : decode cX7_drop 30 = .ok (.getfield 7, 3) := by decide +kernel
theorem dX7_drop_33 : decode cX7_drop 33 = .ok (.iload_n 1, 1) := by decide +kernel
theorem dX7_drop_34 : decode cX7_drop 34 = .ok (.iconst 0, 1) := by decide +kernel
theorem dX7_drop_35 : decode cX7_drop 35 = .ok (.iastore, 1) := by decide +kernel
theorem dX7_drop_36 : decode cX7_drop 36 = .ok (.iload_n 2, 1) := by decide +kernel
theorem dX7_drop_37 : decode cX7_drop 37 = .ok (.ireturn, 1) := by decide +kernel
set_option maxRecDepth 20000 in
theorem ggX7_sign_X7_isRow : GoodIn wsX7_sign wsX7_isRow := goodIn_r _ [5, 6, 7, 4, 8] (by decide +kernel) (by decide +kernel)
set_option maxRecDepth 20000 in
theorem gX7_sign_X7_isRow : GoodIn wsX7_sign (va_wsS RX7 55 yX7_isRow wsX7_isRow) := goodIn_app (goodIn_of _ (by decide +kernel)) ggX7_sign_X7_isRow
set_option maxRecDepth 20000 in
theorem ggX7_sign_X7_isShift : GoodIn wsX7_sign wsX7_isShift := goodIn_r _ [11, 6, 7, 4, 8] (by decide +kernel) (by decide +kernel)
set_option maxRecDepth 20000 in
theorem gX7_sign_X7_isShift : GoodIn wsX7_sign (va_wsS RX7 73 yX7_isShift wsX7_isShift) := goodIn_app (goodIn_of _ (by decide +kernel)) ggX7_sign_X7_isShift
set_option maxRecDepth 20000 in
theorem ggX7_sign_X7_signOf : GoodIn wsX7_sign wsX7_signOf := goodIn_r _ [15, 16, 1, 17, 18, 19, 20, 21, 22, 23, 24, 25, 26, 27, 28, 29, 30, 31, 32, 33, 34, 35] (by decide +kernel) (by decide +kernel)
set_option maxRecDepth 20000 in
theorem gX7_sign_X7_signOf : GoodIn wsX7_sign (wsV RX7 80 RX7 yX7_signOf wsX7_signOf) := goodIn_app (goodIn_of _ (by decide +kernel)) ggX7_sign_X7_signOf
theorem dX7_sign_0 : decode cX7_sign 0 = .ok (.iload_n 1, 1) := by decide +kernel
theorem dX7_sign_1 : decode cX7_sign 1 = .ok (.invokestatic 55, 3) := by decide +kernel
theorem dX7_sign_4 : decode cX7_sign 4 = .ok (.ifCond .eq 10, 3) := by decide +kernel
theorem dX7_sign_7 : decode cX7_sign 7 = .ok (.iload_n 2, 1) := by decide +kernel
theorem dX7_sign_8 : decode cX7_sign 8 = .ok (.invokestatic 73, 3) := by decide +kernel
theorem dX7_sign_11 : decode cX7_sign 11 = .ok (.ifCond .ne 6, 3) := by decide +kernel
theorem dX7_sign_14 : decode cX7_sign 14 = .ok (.bipush (-2), 2) := by decide +kernel
theorem dX7_sign_16 : decode cX7_sign 16 = .ok (.ireturn, 1) := by decide +kernel
theorem dX7_sign_17 : decode cX7_sign 17 = .ok (.aload_n 0, 1) := by decide +kernel
theorem dX7_sign_18 : decode cX7_sign 18 = .ok (.getfield 7, 3) := by decide +kernel
theorem dX7_sign_21 : decode cX7_sign 21 = .ok (.iload_n 1, 1) := by decide +kernel
theorem dX7_sign_22 : decode cX7_sign 22 = .ok (.iaload, 1) := by decide +kernel
theorem dX7_sign_23 : decode cX7_sign 23 = .ok (.ifCond .ne 8, 3) := by decide +kernel
theorem dX7_sign_26 : decode cX7_sign 26 = .ok (.bipush (-3), 2) := by decide +kernel
theorem dX7_sign_28 : decode cX7_sign 28 = .ok (.goto 9, 3) := by decide +kernel
theorem dX7_sign_31 : decode cX7_sign 31 = .ok (.aload_n 0, 1) := by decide +kernel
theorem dX7_sign_32 : decode cX7_sign 32 = .ok (.iload_n 1, 1) := by decide +kernel
theorem dX7_sign_33 : decode cX7_sign 33 = .ok (.iload_n 2, 1) := by decide +kernel
theorem dX7_sign_34 : decode cX7_sign 34 = .ok (.invokevirtual 80, 3) := by decide +kernel
theorem dX7_sign_37 : decode cX7_sign 37 = .ok (.ireturn, 1) := by decide +kernel
set_option maxRecDepth 20000 in
theorem ggX7_likeness_X7_signOf : GoodIn wsX7_likeness wsX7_signOf := goodIn_r _ [6, 7, 1, 8, 9, 10, 11, 12, 13, 14, 15, 16, 17, 18, 19, 20, 21, 22, 23, 24, 25, 26] (by decide +kernel) (by decide +kernel)
set_option maxRecDepth 20000 in
theorem gX7_likeness_X7_signOf : GoodIn wsX7_likeness (wsV RX7 80 RX7 yX7_signOf wsX7_signOf) := goodIn_app (goodIn_of _ (by decide +kernel)) ggX7_likeness_X7_signOf
theorem dX7_likeness_0 : decode cX7_likeness 0 = .ok (.iconst 0, 1) := by decide +kernel
theorem dX7_likeness_1 : decode cX7_likeness 1 = .ok (.istore 4, 2) := by decide +kernel
theorem dX7_likeness_3 : decode cX7_likeness 3 = .ok (.iconst 0, 1) := by decide +kernel
theorem dX7_likeness_4 : decode cX7_likeness 4 = .ok (.istore 5, 2) := by decide +kernel
theorem dX7_likeness_6 : decode cX7_likeness 6 = .ok (.iload 5, 2) := by decide +kernel
theorem dX7_likeness_8 : decode cX7_likeness 8 = .ok (.aload_n 0, 1) := by decide +kernel
theorem dX7_likeness_9 : decode cX7_likeness 9 = .ok (.getfield 7, 3) := by decide +kernel
theorem dX7_likeness_12 : decode cX7_likeness 12 = .ok (.iload_n 1, 1) := by decide +kernel
theorem dX7_likeness_13 : decode cX7_likeness 13 = .ok (.iaload, 1) := by decide +kernel
