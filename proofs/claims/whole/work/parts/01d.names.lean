theorem dX6_power_12 : decode cX6_power 12 = .ok (.getfield 31, 3) := by decide +kernel
theorem dX6_power_15 : decode cX6_power 15 = .ok (.getfield 165, 3) := by decide +kernel
theorem dX6_power_18 : decode cX6_power 18 = .ok (.goto 9, 3) := by decide +kernel
theorem dX6_power_21 : decode cX6_power 21 = .ok (.ldc2_w 176, 3) := by decide +kernel
theorem dX6_power_24 : decode cX6_power 24 = .ok (.iload_n 3, 1) := by decide +kernel
theorem dX6_power_25 : decode cX6_power 25 = .ok (.i2l, 1) := by decide +kernel
theorem dX6_power_26 : decode cX6_power 26 = .ok (.lsub, 1) := by decide +kernel
theorem dX6_power_27 : decode cX6_power 27 = .ok (.lreturn, 1) := by decide +kernel
theorem dX6_doubt_0 : decode cX6_doubt 0 = .ok (.iload_n 1, 1) := by decide +kernel
theorem dX6_doubt_1 : decode cX6_doubt 1 = .ok (.ifCond .lt 9, 3) := by decide +kernel
theorem dX6_doubt_4 : decode cX6_doubt 4 = .ok (.iload_n 1, 1) := by decide +kernel
theorem dX6_doubt_5 : decode cX6_doubt 5 = .ok (.bipush 100, 2) := by decide +kernel
theorem dX6_doubt_7 : decode cX6_doubt 7 = .ok (.if_icmp .le 6, 3) := by decide +kernel
theorem dX6_doubt_10 : decode cX6_doubt 10 = .ok (.bipush (-2), 2) := by decide +kernel
theorem dX6_doubt_12 : decode cX6_doubt 12 = .ok (.ireturn, 1) := by decide +kernel
theorem dX6_doubt_13 : decode cX6_doubt 13 = .ok (.aload_n 0, 1) := by decide +kernel
theorem dX6_doubt_14 : decode cX6_doubt 14 = .ok (.getfield 49, 3) := by decide +kernel
theorem dX6_doubt_17 : decode cX6_doubt 17 = .ok (.istore_n 2, 1) := by decide +kernel
theorem dX6_doubt_18 : decode cX6_doubt 18 = .ok (.aload_n 0, 1) := by decide +kernel
theorem dX6_doubt_19 : decode cX6_doubt 19 = .ok (.iload_n 1, 1) := by decide +kernel
theorem dX6_doubt_20 : decode cX6_doubt 20 = .ok (.putfield 49, 3) := by decide +kernel
theorem dX6_doubt_23 : decode cX6_doubt 23 = .ok (.iload_n 2, 1) := by decide +kernel
theorem dX6_doubt_24 : decode cX6_doubt 24 = .ok (.ireturn, 1) := by decide +kernel
set_option maxRecDepth 20000 in
theorem ggX6_peel_X6_isPlace : GoodIn wsX6_peel wsX6_isPlace := goodIn_r _ [6] (by decide +kernel) (by decide +kernel)
set_option maxRecDepth 20000 in
theorem gX6_peel_X6_isPlace : GoodIn wsX6_peel (va_wsS RX6 136 yX6_isPlace wsX6_isPlace) := goodIn_app (goodIn_of _ (by decide +kernel)) ggX6_peel_X6_isPlace
set_option maxRecDepth 20000 in
theorem ggX6_peel_X6_isSize : GoodIn wsX6_peel wsX6_isSize := goodIn_r _ [9] (by decide +kernel) (by decide +kernel)
set_option maxRecDepth 20000 in
theorem gX6_peel_X6_isSize : GoodIn wsX6_peel (va_wsS RX6 102 yX6_isSize wsX6_isSize) := goodIn_app (goodIn_of _ (by decide +kernel)) ggX6_peel_X6_isSize
set_option maxRecDepth 20000 in
theorem ggX6_peel_X6_isSizeOfAnyRow : GoodIn wsX6_peel wsX6_isSizeOfAnyRow := goodIn_r _ [13, 14, 84, 85, 86, 87, 88, 89, 90, 91, 97, 98] (by decide +kernel) (by decide +kernel)
set_option maxRecDepth 20000 in
theorem gX6_peel_X6_isSizeOfAnyRow : GoodIn wsX6_peel (wsV RX6 178 RX6 yX6_isSizeOfAnyRow wsX6_isSizeOfAnyRow) := goodIn_app (goodIn_of _ (by decide +kernel)) ggX6_peel_X6_isSizeOfAnyRow
set_option maxRecDepth 20000 in
theorem ggX6_peel_X6_listen : GoodIn wsX6_peel wsX6_listen := goodIn_r _ [18, 2, 19, 20, 21, 22, 23, 24, 25, 26, 27, 28, 29, 30, 31, 32, 33, 5, 34, 84, 85, 86, 87, 88, 89, 90, 91, 99, 100, 101, 102, 103, 104, 105, 106, 107] (by decide +kernel) (by decide +kernel)
set_option maxRecDepth 20000 in
theorem gX6_peel_X6_listen : GoodIn wsX6_peel (wsV RX6 142 RX6 yX6_listen wsX6_listen) := goodIn_app (goodIn_of _ (by decide +kernel)) ggX6_peel_X6_listen
set_option maxRecDepth 20000 in
theorem ggX6_peel_X6_takeOffLoudest : GoodIn wsX6_peel wsX6_takeOffLoudest := goodIn_r _ [38, 14, 2, 39, 40, 41, 42, 1, 43, 44, 45, 46, 47, 48, 49, 50, 51, 52, 53, 54, 55, 5, 56, 57, 58, 59, 60, 61, 62, 63, 64, 65, 66, 67, 68, 69, 70, 71, 72, 73, 74, 75, 76, 84, 85, 86, 87, 88, 89, 90, 91, 97, 98, 99, 100, 101, 102, 103, 92, 93, 94, 95, 96] (by decide +kernel) (by decide +kernel)
set_option maxRecDepth 20000 in
theorem gX6_peel_X6_takeOffLoudest : GoodIn wsX6_peel (wsV RX6 184 RX6 yX6_takeOffLoudest wsX6_takeOffLoudest) := goodIn_app (goodIn_of _ (by decide +kernel)) ggX6_peel_X6_takeOffLoudest
set_option maxRecDepth 20000 in
theorem ggX6_peel_X5_squaresOfX : GoodIn wsX6_peel wsX5_squaresOfX := goodIn_r _ [81, 82, 83, 99, 100, 101, 102, 103] (by decide +kernel) (by decide +kernel)
set_option maxRecDepth 20000 in
theorem gX6_peel_X5_squaresOfX : GoodIn wsX6_peel (wsV RX6 187 RX5 yX5_squaresOfX wsX5_squaresOfX) := goodIn_app (goodIn_of _ (by decide +kernel)) ggX6_peel_X5_squaresOfX
theorem dX6_peel_0 : decode cX6_peel 0 = .ok (.iload_n 1, 1) := by decide +kernel
theorem dX6_peel_1 : decode cX6_peel 1 = .ok (.invokestatic 136, 3) := by decide +kernel
theorem dX6_peel_4 : decode cX6_peel 4 = .ok (.ifCond .eq 10, 3) := by decide +kernel
theorem dX6_peel_7 : decode cX6_peel 7 = .ok (.iload_n 2, 1) := by decide +kernel
theorem dX6_peel_8 : decode cX6_peel 8 = .ok (.invokestatic 102, 3) := by decide +kernel
theorem dX6_peel_11 : decode cX6_peel 11 = .ok (.ifCond .ne 6, 3) := by decide +kernel
theorem dX6_peel_14 : decode cX6_peel 14 = .ok (.bipush (-2), 2) := by decide +kernel
theorem dX6_peel_16 : decode cX6_peel 16 = .ok (.ireturn, 1) := by decide +kernel
theorem dX6_peel_17 : decode cX6_peel 17 = .ok (.aload_n 0, 1) := by decide +kernel
theorem dX6_peel_18 : decode cX6_peel 18 = .ok (.iload_n 2, 1) := by decide +kernel
theorem dX6_peel_19 : decode cX6_peel 19 = .ok (.invokevirtual 178, 3) := by decide +kernel
theorem dX6_peel_22 : decode cX6_peel 22 = .ok (.ifCond .ne 6, 3) := by decide +kernel
theorem dX6_peel_25 : decode cX6_peel 25 = .ok (.bipush (-3), 2) := by decide +kernel
theorem dX6_peel_27 : decode cX6_peel 27 = .ok (.ireturn, 1) := by decide +kernel
theorem dX6_peel_28 : decode cX6_peel 28 = .ok (.aload_n 0, 1) := by decide +kernel
theorem dX6_peel_29 : decode cX6_peel 29 = .ok (.iload_n 1, 1) := by decide +kernel
theorem dX6_peel_30 : decode cX6_peel 30 = .ok (.iload_n 2, 1) := by decide +kernel
theorem dX6_peel_31 : decode cX6_peel 31 = .ok (.invokevirtual 142, 3) := by decide +kernel
theorem dX6_peel_34 : decode cX6_peel 34 = .ok (.aload_n 0, 1) := by decide +kernel
theorem dX6_peel_35 : decode cX6_peel 35 = .ok (.getfield 38, 3) := by decide +kernel
theorem dX6_peel_38 : decode cX6_peel 38 = .ok (.iconst 0, 1) := by decide +kernel
theorem dX6_peel_39 : decode cX6_peel 39 = .ok (.putfield 181, 3) := by decide +kernel
theorem dX6_peel_42 : decode cX6_peel 42 = .ok (.iconst 0, 1) := by decide +kernel
theorem dX6_peel_43 : decode cX6_peel 43 = .ok (.istore_n 3, 1) := by decide +kernel
theorem dX6_peel_44 : decode cX6_peel 44 = .ok (.iload_n 3, 1) := by decide +kernel
theorem dX6_peel_45 : decode cX6_peel 45 = .ok (.bipush 20, 2) := by decide +kernel
theorem dX6_peel_47 : decode cX6_peel 47 = .ok (.if_icmp .ge 20, 3) := by decide +kernel
theorem dX6_peel_50 : decode cX6_peel 50 = .ok (.aload_n 0, 1) := by decide +kernel
theorem dX6_peel_51 : decode cX6_peel 51 = .ok (.iload_n 2, 1) := by decide +kernel
theorem dX6_peel_52 : decode cX6_peel 52 = .ok (.invokevirtual 184, 3) := by decide +kernel
theorem dX6_peel_55 : decode cX6_peel 55 = .ok (.ifCond .ne 6, 3) := by decide +kernel
theorem dX6_peel_58 : decode cX6_peel 58 = .ok (.goto 9, 3) := by decide +kernel
theorem dX6_peel_61 : decode cX6_peel 61 = .ok (.iinc 3 1, 3) := by decide +kernel
theorem dX6_peel_64 : decode cX6_peel 64 = .ok (.goto (-20), 3) := by decide +kernel
theorem dX6_peel_67 : decode cX6_peel 67 = .ok (.aload_n 0, 1) := by decide +kernel
theorem dX6_peel_68 : decode cX6_peel 68 = .ok (.getfield 38, 3) := by decide +kernel
theorem dX6_peel_71 : decode cX6_peel 71 = .ok (.aload_n 0, 1) := by decide +kernel
theorem dX6_peel_72 : decode cX6_peel 72 = .ok (.getfield 24, 3) := by decide +kernel
theorem dX6_peel_75 : decode cX6_peel 75 = .ok (.invokevirtual 187, 3) := by decide +kernel
theorem dX6_peel_78 : decode cX6_peel 78 = .ok (.putfield 191, 3) := by decide +kernel
theorem dX6_peel_81 : decode cX6_peel 81 = .ok (.aload_n 0, 1) := by decide +kernel
theorem dX6_peel_82 : decode cX6_peel 82 = .ok (.getfield 38, 3) := by decide +kernel
theorem dX6_peel_85 : decode cX6_peel 85 = .ok (.getfield 181, 3) := by decide +kernel
theorem dX6_peel_88 : decode cX6_peel 88 = .ok (.ireturn, 1) := by decide +kernel
theorem dX6_peeled_0 : decode cX6_peeled 0 = .ok (.iload_n 1, 1) := by decide +kernel
theorem dX6_peeled_1 : decode cX6_peeled 1 = .ok (.ifCond .lt 14, 3) := by decide +kernel
theorem dX6_peeled_4 : decode cX6_peeled 4 = .ok (.iload_n 1, 1) := by decide +kernel
theorem dX6_peeled_5 : decode cX6_peeled 5 = .ok (.aload_n 0, 1) := by decide +kernel
theorem dX6_peeled_6 : decode cX6_peeled 6 = .ok (.getfield 38, 3) := by decide +kernel
theorem dX6_peeled_9 : decode cX6_peeled 9 = .ok (.getfield 181, 3) := by decide +kernel
theorem dX6_peeled_12 : decode cX6_peeled 12 = .ok (.if_icmp .lt 6, 3) := by decide +kernel
theorem dX6_peeled_15 : decode cX6_peeled 15 = .ok (.ldc 194, 2) := by decide +kernel
theorem dX6_peeled_17 : decode cX6_peeled 17 = .ok (.ireturn, 1) := by decide +kernel
theorem dX6_peeled_18 : decode cX6_peeled 18 = .ok (.iload_n 2, 1) := by decide +kernel
theorem dX6_peeled_19 : decode cX6_peeled 19 = .ok (.tableswitch 55 0 2 #[25, 35, 45], 25) := by decide +kernel
theorem dX6_peeled_44 : decode cX6_peeled 44 = .ok (.aload_n 0, 1) := by decide +kernel
theorem dX6_peeled_45 : decode cX6_peeled 45 = .ok (.getfield 38, 3) := by decide +kernel
theorem dX6_peeled_48 : decode cX6_peeled 48 = .ok (.getfield 195, 3) := by decide +kernel
theorem dX6_peeled_51 : decode cX6_peeled 51 = .ok (.iload_n 1, 1) := by decide +kernel
theorem dX6_peeled_52 : decode cX6_peeled 52 = .ok (.iaload, 1) := by decide +kernel
theorem dX6_peeled_53 : decode cX6_peeled 53 = .ok (.ireturn, 1) := by decide +kernel
theorem dX6_peeled_54 : decode cX6_peeled 54 = .ok (.aload_n 0, 1) := by decide +kernel
theorem dX6_peeled_55 : decode cX6_peeled 55 = .ok (.getfield 38, 3) := by decide +kernel
theorem dX6_peeled_58 : decode cX6_peeled 58 = .ok (.getfield 198, 3) := by decide +kernel
theorem dX6_peeled_61 : decode cX6_peeled 61 = .ok (.iload_n 1, 1) := by decide +kernel
theorem dX6_peeled_62 : decode cX6_peeled 62 = .ok (.iaload, 1) := by decide +kernel
theorem dX6_peeled_63 : decode cX6_peeled 63 = .ok (.ireturn, 1) := by decide +kernel
theorem dX6_peeled_64 : decode cX6_peeled 64 = .ok (.aload_n 0, 1) := by decide +kernel
theorem dX6_peeled_65 : decode cX6_peeled 65 = .ok (.getfield 38, 3) := by decide +kernel
theorem dX6_peeled_68 : decode cX6_peeled 68 = .ok (.getfield 201, 3) := by decide +kernel
theorem dX6_peeled_71 : decode cX6_peeled 71 = .ok (.iload_n 1, 1) := by decide +kernel
theorem dX6_peeled_72 : decode cX6_peeled 72 = .ok (.iaload, 1) := by decide +kernel
theorem dX6_peeled_73 : decode cX6_peeled 73 = .ok (.ireturn, 1) := by decide +kernel
theorem dX6_peeled_74 : decode cX6_peeled 74 = .ok (.ldc 194, 2) := by decide +kernel
theorem dX6_peeled_76 : decode cX6_peeled 76 = .ok (.ireturn, 1) := by decide +kernel
theorem dX6_noise_0 : decode cX6_noise 0 = .ok (.aload_n 0, 1) := by decide +kernel
theorem dX6_noise_1 : decode cX6_noise 1 = .ok (.getfield 38, 3) := by decide +kernel
theorem dX6_noise_4 : decode cX6_noise 4 = .ok (.getfield 191, 3) := by decide +kernel
theorem dX6_noise_7 : decode cX6_noise 7 = .ok (.lreturn, 1) := by decide +kernel
set_option maxRecDepth 20000 in
theorem ggX6_follow_X6_isRow : GoodIn wsX6_follow wsX6_isRow := goodIn_r _ [5] (by decide +kernel) (by decide +kernel)
set_option maxRecDepth 20000 in
theorem gX6_follow_X6_isRow : GoodIn wsX6_follow (va_wsS RX6 58 yX6_isRow wsX6_isRow) := goodIn_app (goodIn_of _ (by decide +kernel)) ggX6_follow_X6_isRow
set_option maxRecDepth 20000 in
theorem ggX6_follow_X6_isPlace : GoodIn wsX6_follow wsX6_isPlace := goodIn_r _ [8] (by decide +kernel) (by decide +kernel)
set_option maxRecDepth 20000 in
theorem gX6_follow_X6_isPlace : GoodIn wsX6_follow (va_wsS RX6 136 yX6_isPlace wsX6_isPlace) := goodIn_app (goodIn_of _ (by decide +kernel)) ggX6_follow_X6_isPlace
set_option maxRecDepth 20000 in
theorem ggX6_follow_X6_isShift : GoodIn wsX6_follow wsX6_isShift := goodIn_r _ [11] (by decide +kernel) (by decide +kernel)
set_option maxRecDepth 20000 in
theorem gX6_follow_X6_isShift : GoodIn wsX6_follow (va_wsS RX6 80 yX6_isShift wsX6_isShift) := goodIn_app (goodIn_of _ (by decide +kernel)) ggX6_follow_X6_isShift
set_option maxRecDepth 20000 in
theorem ggX6_follow_X6_listen : GoodIn wsX6_follow wsX6_listen := goodIn_r _ [15, 16, 17, 18, 19, 20, 21, 22, 23, 24, 25, 26, 27, 28, 29, 30, 31, 4, 32, 52, 53, 54, 55, 56, 57, 58, 59, 62, 63, 64, 65, 66, 67, 68, 69, 70] (by decide +kernel) (by decide +kernel)
set_option maxRecDepth 20000 in
theorem gX6_follow_X6_listen : GoodIn wsX6_follow (wsV RX6 142 RX6 yX6_listen wsX6_listen) := goodIn_app (goodIn_of _ (by decide +kernel)) ggX6_follow_X6_listen
set_option maxRecDepth 20000 in
theorem ggX6_follow_X6_loudestNear : GoodIn wsX6_follow wsX6_loudestNear := goodIn_r _ [36, 16, 37, 38, 39, 40, 41, 42, 43, 44, 45, 46, 47, 48, 49, 50, 51, 60, 61, 52, 53, 54, 55, 56, 57, 58, 59, 62, 63, 64, 65, 66] (by decide +kernel) (by decide +kernel)
set_option maxRecDepth 20000 in
theorem gX6_follow_X6_loudestNear : GoodIn wsX6_follow (wsV RX6 204 RX6 yX6_loudestNear wsX6_loudestNear) := goodIn_app (goodIn_of _ (by decide +kernel)) ggX6_follow_X6_loudestNear
theorem dX6_follow_0 : decode cX6_follow 0 = .ok (.iload_n 1, 1) := by decide +kernel
theorem dX6_follow_1 : decode cX6_follow 1 = .ok (.invokestatic 58, 3) := by decide +kernel
theorem dX6_follow_4 : decode cX6_follow 4 = .ok (.ifCond .eq 30, 3) := by decide +kernel
theorem dX6_follow_7 : decode cX6_follow 7 = .ok (.iload_n 2, 1) := by decide +kernel
theorem dX6_follow_8 : decode cX6_follow 8 = .ok (.invokestatic 136, 3) := by decide +kernel
theorem dX6_follow_11 : decode cX6_follow 11 = .ok (.ifCond .eq 23, 3) := by decide +kernel
theorem dX6_follow_14 : decode cX6_follow 14 = .ok (.iload_n 3, 1) := by decide +kernel
theorem dX6_follow_15 : decode cX6_follow 15 = .ok (.invokestatic 80, 3) := by decide +kernel
theorem dX6_follow_18 : decode cX6_follow 18 = .ok (.ifCond .eq 16, 3) := by decide +kernel
theorem dX6_follow_21 : decode cX6_follow 21 = .ok (.iload 4, 2) := by decide +kernel
theorem dX6_follow_23 : decode cX6_follow 23 = .ok (.iconst 1, 1) := by decide +kernel
theorem dX6_follow_24 : decode cX6_follow 24 = .ok (.if_icmp .lt 10, 3) := by decide +kernel
theorem dX6_follow_27 : decode cX6_follow 27 = .ok (.iload 4, 2) := by decide +kernel
theorem dX6_follow_29 : decode cX6_follow 29 = .ok (.bipush 20, 2) := by decide +kernel
theorem dX6_follow_31 : decode cX6_follow 31 = .ok (.if_icmp .le 6, 3) := by decide +kernel
theorem dX6_follow_34 : decode cX6_follow 34 = .ok (.bipush (-2), 2) := by decide +kernel
theorem dX6_follow_36 : decode cX6_follow 36 = .ok (.ireturn, 1) := by decide +kernel
theorem dX6_follow_37 : decode cX6_follow 37 = .ok (.aload_n 0, 1) := by decide +kernel
theorem dX6_follow_38 : decode cX6_follow 38 = .ok (.getfield 11, 3) := by decide +kernel
theorem dX6_follow_41 : decode cX6_follow 41 = .ok (.iload_n 1, 1) := by decide +kernel
theorem dX6_follow_42 : decode cX6_follow 42 = .ok (.aaload, 1) := by decide +kernel
theorem dX6_follow_43 : decode cX6_follow 43 = .ok (.getfield 70, 3) := by decide +kernel
theorem dX6_follow_46 : decode cX6_follow 46 = .ok (.istore 5, 2) := by decide +kernel
theorem dX6_follow_48 : decode cX6_follow 48 = .ok (.iload 5, 2) := by decide +kernel
theorem dX6_follow_50 : decode cX6_follow 50 = .ok (.iconst 1, 1) := by decide +kernel
theorem dX6_follow_51 : decode cX6_follow 51 = .ok (.if_icmp .ge 6, 3) := by decide +kernel
theorem dX6_follow_54 : decode cX6_follow 54 = .ok (.bipush (-3), 2) := by decide +kernel
theorem dX6_follow_56 : decode cX6_follow 56 = .ok (.ireturn, 1) := by decide +kernel
theorem dX6_follow_57 : decode cX6_follow 57 = .ok (.iload_n 3, 1) := by decide +kernel
theorem dX6_follow_58 : decode cX6_follow 58 = .ok (.iload 5, 2) := by decide +kernel
theorem dX6_follow_60 : decode cX6_follow 60 = .ok (.irem, 1) := by decide +kernel
theorem dX6_follow_61 : decode cX6_follow 61 = .ok (.istore 6, 2) := by decide +kernel
theorem dX6_follow_63 : decode cX6_follow 63 = .ok (.iconst 0, 1) := by decide +kernel
theorem dX6_follow_64 : decode cX6_follow 64 = .ok (.istore 7, 2) := by decide +kernel
theorem dX6_follow_66 : decode cX6_follow 66 = .ok (.iload 7, 2) := by decide +kernel
theorem dX6_follow_68 : decode cX6_follow 68 = .ok (.iload 4, 2) := by decide +kernel
theorem dX6_follow_70 : decode cX6_follow 70 = .ok (.if_icmp .ge 39, 3) := by decide +kernel
theorem dX6_follow_73 : decode cX6_follow 73 = .ok (.aload_n 0, 1) := by decide +kernel
theorem dX6_follow_74 : decode cX6_follow 74 = .ok (.iload_n 2, 1) := by decide +kernel
theorem dX6_follow_75 : decode cX6_follow 75 = .ok (.iload 7, 2) := by decide +kernel
theorem dX6_follow_77 : decode cX6_follow 77 = .ok (.iload 5, 2) := by decide +kernel
theorem dX6_follow_79 : decode cX6_follow 79 = .ok (.imul, 1) := by decide +kernel
theorem dX6_follow_80 : decode cX6_follow 80 = .ok (.iadd, 1) := by decide +kernel
theorem dX6_follow_81 : decode cX6_follow 81 = .ok (.iload 5, 2) := by decide +kernel
theorem dX6_follow_83 : decode cX6_follow 83 = .ok (.invokevirtual 142, 3) := by decide +kernel
theorem dX6_follow_86 : decode cX6_follow 86 = .ok (.aload_n 0, 1) := by decide +kernel
theorem dX6_follow_87 : decode cX6_follow 87 = .ok (.aload_n 0, 1) := by decide +kernel
theorem dX6_follow_88 : decode cX6_follow 88 = .ok (.getfield 11, 3) := by decide +kernel
theorem dX6_follow_91 : decode cX6_follow 91 = .ok (.iload_n 1, 1) := by decide +kernel
theorem dX6_follow_92 : decode cX6_follow 92 = .ok (.aaload, 1) := by decide +kernel
theorem dX6_follow_93 : decode cX6_follow 93 = .ok (.iload 6, 2) := by decide +kernel
theorem dX6_follow_95 : decode cX6_follow 95 = .ok (.invokevirtual 204, 3) := by decide +kernel
theorem dX6_follow_98 : decode cX6_follow 98 = .ok (.iload 5, 2) := by decide +kernel
theorem dX6_follow_100 : decode cX6_follow 100 = .ok (.irem, 1) := by decide +kernel
theorem dX6_follow_101 : decode cX6_follow 101 = .ok (.istore 6, 2) := by decide +kernel
theorem dX6_follow_103 : decode cX6_follow 103 = .ok (.iinc 7 1, 3) := by decide +kernel
theorem dX6_follow_106 : decode cX6_follow 106 = .ok (.goto (-40), 3) := by decide +kernel
theorem dX6_follow_109 : decode cX6_follow 109 = .ok (.iload 6, 2) := by decide +kernel
theorem dX6_follow_111 : decode cX6_follow 111 = .ok (.ireturn, 1) := by decide +kernel
set_option maxRecDepth 20000 in
theorem ggX6_length_X0_haveDivisorWith : GoodIn wsX6_length wsX0_haveDivisorWith := goodIn_r _ [6, 7, 8, 22, 23, 24] (by decide +kernel) (by decide +kernel)
set_option maxRecDepth 20000 in
theorem gX6_length_X0_haveDivisorWith : GoodIn wsX6_length (wsV RX6 208 RX0 yX0_haveDivisorWith wsX0_haveDivisorWith) := goodIn_app (goodIn_of _ (by decide +kernel)) ggX6_length_X0_haveDivisorWith
set_option maxRecDepth 20000 in
theorem ggX6_length_X0_keep : GoodIn wsX6_length wsX0_keep := goodIn_r _ [12, 7, 8, 13, 22, 23, 24] (by decide +kernel) (by decide +kernel)
set_option maxRecDepth 20000 in
theorem gX6_length_X0_keep : GoodIn wsX6_length (wsV RX6 212 RX0 yX0_keep wsX0_keep) := goodIn_app (goodIn_of _ (by decide +kernel)) ggX6_length_X0_keep
theorem dX6_length_0 : decode cX6_length 0 = .ok (.iload_n 1, 1) := by decide +kernel
theorem dX6_length_1 : decode cX6_length 1 = .ok (.iconst 2, 1) := by decide +kernel
theorem dX6_length_2 : decode cX6_length 2 = .ok (.if_icmp .lt 29, 3) := by decide +kernel
theorem dX6_length_5 : decode cX6_length 5 = .ok (.iload_n 1, 1) := by decide +kernel
theorem dX6_length_6 : decode cX6_length 6 = .ok (.bipush 127, 2) := by decide +kernel
theorem dX6_length_8 : decode cX6_length 8 = .ok (.if_icmp .gt 23, 3) := by decide +kernel
theorem dX6_length_11 : decode cX6_length 11 = .ok (.iload_n 2, 1) := by decide +kernel
theorem dX6_length_12 : decode cX6_length 12 = .ok (.ifCond .lt 19, 3) := by decide +kernel
theorem dX6_length_15 : decode cX6_length 15 = .ok (.iload_n 2, 1) := by decide +kernel
theorem dX6_length_16 : decode cX6_length 16 = .ok (.iload_n 1, 1) := by decide +kernel
theorem dX6_length_17 : decode cX6_length 17 = .ok (.if_icmp .ge 14, 3) := by decide +kernel
theorem dX6_length_20 : decode cX6_length 20 = .ok (.aload_n 0, 1) := by decide +kernel
theorem dX6_length_21 : decode cX6_length 21 = .ok (.getfield 45, 3) := by decide +kernel
theorem dX6_length_24 : decode cX6_length 24 = .ok (.iload_n 1, 1) := by decide +kernel
theorem dX6_length_25 : decode cX6_length 25 = .ok (.invokevirtual 208, 3) := by decide +kernel
theorem dX6_length_28 : decode cX6_length 28 = .ok (.ifCond .eq 6, 3) := by decide +kernel
theorem dX6_length_31 : decode cX6_length 31 = .ok (.bipush (-2), 2) := by decide +kernel
theorem dX6_length_33 : decode cX6_length 33 = .ok (.ireturn, 1) := by decide +kernel
theorem dX6_length_34 : decode cX6_length 34 = .ok (.aload_n 0, 1) := by decide +kernel
theorem dX6_length_35 : decode cX6_length 35 = .ok (.getfield 45, 3) := by decide +kernel
theorem dX6_length_38 : decode cX6_length 38 = .ok (.getfield 211, 3) := by decide +kernel
theorem dX6_length_41 : decode cX6_length 41 = .ok (.iconst 5, 1) := by decide +kernel
theorem dX6_length_42 : decode cX6_length 42 = .ok (.if_icmp .lt 6, 3) := by decide +kernel
theorem dX6_length_45 : decode cX6_length 45 = .ok (.bipush (-4), 2) := by decide +kernel
theorem dX6_length_47 : decode cX6_length 47 = .ok (.ireturn, 1) := by decide +kernel
theorem dX6_length_48 : decode cX6_length 48 = .ok (.aload_n 0, 1) := by decide +kernel
theorem dX6_length_49 : decode cX6_length 49 = .ok (.getfield 45, 3) := by decide +kernel
theorem dX6_length_52 : decode cX6_length 52 = .ok (.iload_n 1, 1) := by decide +kernel
theorem dX6_length_53 : decode cX6_length 53 = .ok (.iload_n 2, 1) := by decide +kernel
theorem dX6_length_54 : decode cX6_length 54 = .ok (.invokevirtual 212, 3) := by decide +kernel
theorem dX6_length_57 : decode cX6_length 57 = .ok (.aload_n 0, 1) := by decide +kernel
theorem dX6_length_58 : decode cX6_length 58 = .ok (.getfield 45, 3) := by decide +kernel
theorem dX6_length_61 : decode cX6_length 61 = .ok (.getfield 211, 3) := by decide +kernel
theorem dX6_length_64 : decode cX6_length 64 = .ok (.ireturn, 1) := by decide +kernel
theorem dX6_reset_0 : decode cX6_reset 0 = .ok (.aload_n 0, 1) := by decide +kernel
theorem dX6_reset_1 : decode cX6_reset 1 = .ok (.getfield 45, 3) := by decide +kernel
theorem dX6_reset_4 : decode cX6_reset 4 = .ok (.getfield 211, 3) := by decide +kernel
theorem dX6_reset_7 : decode cX6_reset 7 = .ok (.istore_n 1, 1) := by decide +kernel
theorem dX6_reset_8 : decode cX6_reset 8 = .ok (.aload_n 0, 1) := by decide +kernel
theorem dX6_reset_9 : decode cX6_reset 9 = .ok (.getfield 45, 3) := by decide +kernel
theorem dX6_reset_12 : decode cX6_reset 12 = .ok (.iconst 0, 1) := by decide +kernel
theorem dX6_reset_13 : decode cX6_reset 13 = .ok (.putfield 211, 3) := by decide +kernel
theorem dX6_reset_16 : decode cX6_reset 16 = .ok (.iload_n 1, 1) := by decide +kernel
theorem dX6_reset_17 : decode cX6_reset 17 = .ok (.ireturn, 1) := by decide +kernel
set_option maxRecDepth 20000 in
theorem ggX6_range_X0_leastFitting : GoodIn wsX6_range wsX0_leastFitting := goodIn_r _ [6, 7, 8, 9, 10, 11, 5, 12, 13, 22, 23, 24] (by decide +kernel) (by decide +kernel)
set_option maxRecDepth 20000 in
theorem gX6_range_X0_leastFitting : GoodIn wsX6_range (wsV RX6 215 RX0 yX0_leastFitting wsX0_leastFitting) := goodIn_app (goodIn_of _ (by decide +kernel)) ggX6_range_X0_leastFitting
theorem dX6_range_0 : decode cX6_range 0 = .ok (.aload_n 0, 1) := by decide +kernel
theorem dX6_range_1 : decode cX6_range 1 = .ok (.getfield 45, 3) := by decide +kernel
theorem dX6_range_4 : decode cX6_range 4 = .ok (.invokevirtual 215, 3) := by decide +kernel
theorem dX6_range_7 : decode cX6_range 7 = .ok (.lreturn, 1) := by decide +kernel
set_option maxRecDepth 20000 in
theorem ggX6_mend_X0_howManyFit : GoodIn wsX6_mend wsX0_howManyFit := goodIn_r _ [6, 7, 8, 9, 10, 5, 11, 12, 13, 22, 23, 24] (by decide +kernel) (by decide +kernel)
set_option maxRecDepth 20000 in
theorem gX6_mend_X0_howManyFit : GoodIn wsX6_mend (wsV RX6 218 RX0 yX0_howManyFit wsX0_howManyFit) := goodIn_app (goodIn_of _ (by decide +kernel)) ggX6_mend_X0_howManyFit
theorem dX6_mend_0 : decode cX6_mend 0 = .ok (.iload_n 1, 1) := by decide +kernel
theorem dX6_mend_1 : decode cX6_mend 1 = .ok (.iconst 1, 1) := by decide +kernel
theorem dX6_mend_2 : decode cX6_mend 2 = .ok (.if_icmp .lt 10, 3) := by decide +kernel
theorem dX6_mend_5 : decode cX6_mend 5 = .ok (.iload_n 1, 1) := by decide +kernel
theorem dX6_mend_6 : decode cX6_mend 6 = .ok (.sipush 20000, 3) := by decide +kernel
theorem dX6_mend_9 : decode cX6_mend 9 = .ok (.if_icmp .le 6, 3) := by decide +kernel
theorem dX6_mend_12 : decode cX6_mend 12 = .ok (.bipush (-2), 2) := by decide +kernel
theorem dX6_mend_14 : decode cX6_mend 14 = .ok (.ireturn, 1) := by decide +kernel
theorem dX6_mend_15 : decode cX6_mend 15 = .ok (.iconst 0, 1) := by decide +kernel
theorem dX6_mend_16 : decode cX6_mend 16 = .ok (.istore_n 2, 1) := by decide +kernel
theorem dX6_mend_17 : decode cX6_mend 17 = .ok (.aload_n 0, 1) := by decide +kernel
theorem dX6_mend_18 : decode cX6_mend 18 = .ok (.getfield 45, 3) := by decide +kernel
theorem dX6_mend_21 : decode cX6_mend 21 = .ok (.iconst 0, 1) := by decide +kernel
theorem dX6_mend_22 : decode cX6_mend 22 = .ok (.invokevirtual 218, 3) := by decide +kernel
theorem dX6_mend_25 : decode cX6_mend 25 = .ok (.istore_n 3, 1) := by decide +kernel
theorem dX6_mend_26 : decode cX6_mend 26 = .ok (.iconst 1, 1) := by decide +kernel
theorem dX6_mend_27 : decode cX6_mend 27 = .ok (.istore 4, 2) := by decide +kernel
theorem dX6_mend_29 : decode cX6_mend 29 = .ok (.iload 4, 2) := by decide +kernel
theorem dX6_mend_31 : decode cX6_mend 31 = .ok (.iload_n 1, 1) := by decide +kernel
theorem dX6_mend_32 : decode cX6_mend 32 = .ok (.if_icmp .ge 32, 3) := by decide +kernel
theorem dX6_mend_35 : decode cX6_mend 35 = .ok (.aload_n 0, 1) := by decide +kernel
theorem dX6_mend_36 : decode cX6_mend 36 = .ok (.getfield 45, 3) := by decide +kernel
theorem dX6_mend_39 : decode cX6_mend 39 = .ok (.iload 4, 2) := by decide +kernel
theorem dX6_mend_41 : decode cX6_mend 41 = .ok (.invokevirtual 218, 3) := by decide +kernel
theorem dX6_mend_44 : decode cX6_mend 44 = .ok (.istore 5, 2) := by decide +kernel
theorem dX6_mend_46 : decode cX6_mend 46 = .ok (.iload 5, 2) := by decide +kernel
theorem dX6_mend_48 : decode cX6_mend 48 = .ok (.iload_n 3, 1) := by decide +kernel
theorem dX6_mend_49 : decode cX6_mend 49 = .ok (.if_icmp .le 9, 3) := by decide +kernel
theorem dX6_mend_52 : decode cX6_mend 52 = .ok (.iload 5, 2) := by decide +kernel
theorem dX6_mend_54 : decode cX6_mend 54 = .ok (.istore_n 3, 1) := by decide +kernel
theorem dX6_mend_55 : decode cX6_mend 55 = .ok (.iload 4, 2) := by decide +kernel
theorem dX6_mend_57 : decode cX6_mend 57 = .ok (.istore_n 2, 1) := by decide +kernel
theorem dX6_mend_58 : decode cX6_mend 58 = .ok (.iinc 4 1, 3) := by decide +kernel
theorem dX6_mend_61 : decode cX6_mend 61 = .ok (.goto (-32), 3) := by decide +kernel
theorem dX6_mend_64 : decode cX6_mend 64 = .ok (.bipush 10, 2) := by decide +kernel
theorem dX6_mend_66 : decode cX6_mend 66 = .ok (.iload_n 2, 1) := by decide +kernel
theorem dX6_mend_67 : decode cX6_mend 67 = .ok (.imul, 1) := by decide +kernel
theorem dX6_mend_68 : decode cX6_mend 68 = .ok (.iload_n 3, 1) := by decide +kernel
theorem dX6_mend_69 : decode cX6_mend 69 = .ok (.iadd, 1) := by decide +kernel
theorem dX6_mend_70 : decode cX6_mend 70 = .ok (.ireturn, 1) := by decide +kernel
set_option maxRecDepth 20000 in
theorem ggX6_hits_X6_areHops : GoodIn wsX6_hits wsX6_areHops := goodIn_r _ [4, 5] (by decide +kernel) (by decide +kernel)
set_option maxRecDepth 20000 in
theorem gX6_hits_X6_areHops : GoodIn wsX6_hits (va_wsS RX6 221 yX6_areHops wsX6_areHops) := goodIn_app (goodIn_of _ (by decide +kernel)) ggX6_hits_X6_areHops
set_option maxRecDepth 20000 in
theorem ggX6_hits_X6_meetings : GoodIn wsX6_hits wsX6_meetings := goodIn_r _ [8] (by decide +kernel) (by decide +kernel)
set_option maxRecDepth 20000 in
theorem gX6_hits_X6_meetings : GoodIn wsX6_hits (va_wsS RX6 224 yX6_meetings wsX6_meetings) := goodIn_app (goodIn_of _ (by decide +kernel)) ggX6_hits_X6_meetings
theorem dX6_hits_0 : decode cX6_hits 0 = .ok (.iload_n 1, 1) := by decide +kernel
theorem dX6_hits_1 : decode cX6_hits 1 = .ok (.iload_n 2, 1) := by decide +kernel
theorem dX6_hits_2 : decode cX6_hits 2 = .ok (.iload_n 3, 1) := by decide +kernel
theorem dX6_hits_3 : decode cX6_hits 3 = .ok (.invokestatic 221, 3) := by decide +kernel
theorem dX6_hits_6 : decode cX6_hits 6 = .ok (.ifCond .eq 25, 3) := by decide +kernel
theorem dX6_hits_9 : decode cX6_hits 9 = .ok (.iload 4, 2) := by decide +kernel
theorem dX6_hits_11 : decode cX6_hits 11 = .ok (.ifCond .lt 20, 3) := by decide +kernel
theorem dX6_hits_14 : decode cX6_hits 14 = .ok (.iload 4, 2) := by decide +kernel
theorem dX6_hits_16 : decode cX6_hits 16 = .ok (.iload_n 1, 1) := by decide +kernel
theorem dX6_hits_17 : decode cX6_hits 17 = .ok (.if_icmp .ge 14, 3) := by decide +kernel
theorem dX6_hits_20 : decode cX6_hits 20 = .ok (.iload 5, 2) := by decide +kernel
theorem dX6_hits_22 : decode cX6_hits 22 = .ok (.ifCond .lt 9, 3) := by decide +kernel
theorem dX6_hits_25 : decode cX6_hits 25 = .ok (.iload 5, 2) := by decide +kernel
theorem dX6_hits_27 : decode cX6_hits 27 = .ok (.iload_n 1, 1) := by decide +kernel
theorem dX6_hits_28 : decode cX6_hits 28 = .ok (.if_icmp .lt 6, 3) := by decide +kernel
theorem dX6_hits_31 : decode cX6_hits 31 = .ok (.bipush (-2), 2) := by decide +kernel
theorem dX6_hits_33 : decode cX6_hits 33 = .ok (.ireturn, 1) := by decide +kernel
theorem dX6_hits_34 : decode cX6_hits 34 = .ok (.iload_n 1, 1) := by decide +kernel
theorem dX6_hits_35 : decode cX6_hits 35 = .ok (.iload_n 2, 1) := by decide +kernel
theorem dX6_hits_36 : decode cX6_hits 36 = .ok (.iload_n 3, 1) := by decide +kernel
theorem dX6_hits_37 : decode cX6_hits 37 = .ok (.iload 4, 2) := by decide +kernel
theorem dX6_hits_39 : decode cX6_hits 39 = .ok (.iload 5, 2) := by decide +kernel
theorem dX6_hits_41 : decode cX6_hits 41 = .ok (.invokestatic 224, 3) := by decide +kernel
theorem dX6_hits_44 : decode cX6_hits 44 = .ok (.ireturn, 1) := by decide +kernel
set_option maxRecDepth 20000 in
theorem ggX6_worst_X6_areHops : GoodIn wsX6_worst wsX6_areHops := goodIn_r _ [8, 9] (by decide +kernel) (by decide +kernel)
set_option maxRecDepth 20000 in
theorem gX6_worst_X6_areHops : GoodIn wsX6_worst (va_wsS RX6 221 yX6_areHops wsX6_areHops) := goodIn_app (goodIn_of _ (by decide +kernel)) ggX6_worst_X6_areHops
set_option maxRecDepth 20000 in
theorem ggX6_worst_X6_meetings : GoodIn wsX6_worst wsX6_meetings := goodIn_r _ [12] (by decide +kernel) (by decide +kernel)
set_option maxRecDepth 20000 in
theorem gX6_worst_X6_meetings : GoodIn wsX6_worst (va_wsS RX6 224 yX6_meetings wsX6_meetings) := goodIn_app (goodIn_of _ (by decide +kernel)) ggX6_worst_X6_meetings
theorem dX6_worst_0 : decode cX6_worst 0 = .ok (.iload_n 1, 1) := by decide +kernel
theorem dX6_worst_1 : decode cX6_worst 1 = .ok (.iload_n 2, 1) := by decide +kernel
theorem dX6_worst_2 : decode cX6_worst 2 = .ok (.iload_n 3, 1) := by decide +kernel
theorem dX6_worst_3 : decode cX6_worst 3 = .ok (.invokestatic 221, 3) := by decide +kernel
theorem dX6_worst_6 : decode cX6_worst 6 = .ok (.ifCond .ne 6, 3) := by decide +kernel
theorem dX6_worst_9 : decode cX6_worst 9 = .ok (.bipush (-2), 2) := by decide +kernel
theorem dX6_worst_11 : decode cX6_worst 11 = .ok (.ireturn, 1) := by decide +kernel
theorem dX6_worst_12 : decode cX6_worst 12 = .ok (.iconst 0, 1) := by decide +kernel
theorem dX6_worst_13 : decode cX6_worst 13 = .ok (.istore 4, 2) := by decide +kernel
theorem dX6_worst_15 : decode cX6_worst 15 = .ok (.iconst 0, 1) := by decide +kernel
theorem dX6_worst_16 : decode cX6_worst 16 = .ok (.istore 5, 2) := by decide +kernel
theorem dX6_worst_18 : decode cX6_worst 18 = .ok (.iload 5, 2) := by decide +kernel
theorem dX6_worst_20 : decode cX6_worst 20 = .ok (.iload_n 1, 1) := by decide +kernel
theorem dX6_worst_21 : decode cX6_worst 21 = .ok (.if_icmp .ge 55, 3) := by decide +kernel
theorem dX6_worst_24 : decode cX6_worst 24 = .ok (.iload_n 2, 1) := by decide +kernel
theorem dX6_worst_25 : decode cX6_worst 25 = .ok (.iload_n 3, 1) := by decide +kernel
theorem dX6_worst_26 : decode cX6_worst 26 = .ok (.if_icmp .ne 12, 3) := by decide +kernel
theorem dX6_worst_29 : decode cX6_worst 29 = .ok (.iload 5, 2) := by decide +kernel
theorem dX6_worst_31 : decode cX6_worst 31 = .ok (.ifCond .ne 7, 3) := by decide +kernel
theorem dX6_worst_34 : decode cX6_worst 34 = .ok (.iconst 1, 1) := by decide +kernel
theorem dX6_worst_35 : decode cX6_worst 35 = .ok (.goto 4, 3) := by decide +kernel
theorem dX6_worst_38 : decode cX6_worst 38 = .ok (.iconst 0, 1) := by decide +kernel
theorem dX6_worst_39 : decode cX6_worst 39 = .ok (.istore 6, 2) := by decide +kernel
theorem dX6_worst_41 : decode cX6_worst 41 = .ok (.iload 6, 2) := by decide +kernel
theorem dX6_worst_43 : decode cX6_worst 43 = .ok (.iload_n 1, 1) := by decide +kernel
theorem dX6_worst_44 : decode cX6_worst 44 = .ok (.if_icmp .ge 26, 3) := by decide +kernel
theorem dX6_worst_47 : decode cX6_worst 47 = .ok (.iload 4, 2) := by decide +kernel
theorem dX6_worst_49 : decode cX6_worst 49 = .ok (.iload_n 1, 1) := by decide +kernel
theorem dX6_worst_50 : decode cX6_worst 50 = .ok (.iload_n 2, 1) := by decide +kernel
theorem dX6_worst_51 : decode cX6_worst 51 = .ok (.iload_n 3, 1) := by decide +kernel
theorem dX6_worst_52 : decode cX6_worst 52 = .ok (.iload 5, 2) := by decide +kernel
theorem dX6_worst_54 : decode cX6_worst 54 = .ok (.iload 6, 2) := by decide +kernel
theorem dX6_worst_56 : decode cX6_worst 56 = .ok (.invokestatic 224, 3) := by decide +kernel
theorem dX6_worst_59 : decode cX6_worst 59 = .ok (.invokestatic 132, 3) := by decide +kernel
theorem dX6_worst_62 : decode cX6_worst 62 = .ok (.istore 4, 2) := by decide +kernel
theorem dX6_worst_64 : decode cX6_worst 64 = .ok (.iinc 6 1, 3) := by decide +kernel
theorem dX6_worst_67 : decode cX6_worst 67 = .ok (.goto (-26), 3) := by decide +kernel
theorem dX6_worst_70 : decode cX6_worst 70 = .ok (.iinc 5 1, 3) := by decide +kernel
theorem dX6_worst_73 : decode cX6_worst 73 = .ok (.goto (-55), 3) := by decide +kernel
theorem dX6_worst_76 : decode cX6_worst 76 = .ok (.iload 4, 2) := by decide +kernel
theorem dX6_worst_78 : decode cX6_worst 78 = .ok (.ireturn, 1) := by decide +kernel
set_option maxRecDepth 20000 in
theorem ggX6_reel_X6_isReel : GoodIn wsX6_reel wsX6_isReel := goodIn_r _ [5] (by decide +kernel) (by decide +kernel)
set_option maxRecDepth 20000 in
theorem gX6_reel_X6_isReel : GoodIn wsX6_reel (va_wsS RX6 99 yX6_isReel wsX6_isReel) := goodIn_app (goodIn_of _ (by decide +kernel)) ggX6_reel_X6_isReel
set_option maxRecDepth 20000 in
theorem ggX6_reel_X6_isForm : GoodIn wsX6_reel wsX6_isForm := goodIn_r _ [8] (by decide +kernel) (by decide +kernel)
set_option maxRecDepth 20000 in
theorem gX6_reel_X6_isForm : GoodIn wsX6_reel (va_wsS RX6 228 yX6_isForm wsX6_isForm) := goodIn_app (goodIn_of _ (by decide +kernel)) ggX6_reel_X6_isForm
set_option maxRecDepth 20000 in
theorem ggX6_reel_X6_found : GoodIn wsX6_reel wsX6_found := goodIn_r _ [12, 13, 30, 31, 32, 33, 34, 35, 36, 37] (by decide +kernel) (by decide +kernel)
set_option maxRecDepth 20000 in
theorem gX6_reel_X6_found : GoodIn wsX6_reel (wsV RX6 109 RX6 yX6_found wsX6_found) := goodIn_app (goodIn_of _ (by decide +kernel)) ggX6_reel_X6_found
set_option maxRecDepth 20000 in
theorem ggX6_reel_X2_renew : GoodIn wsX6_reel wsX2_renew := goodIn_r _ [18, 19, 20, 21, 22, 23, 24, 25, 26, 27, 28, 29, 38, 39, 40, 41] (by decide +kernel) (by decide +kernel)
set_option maxRecDepth 20000 in
theorem gX6_reel_X2_renew : GoodIn wsX6_reel (wsV RX6 231 RX2 yX2_renew wsX2_renew) := goodIn_app (goodIn_of _ (by decide +kernel)) ggX6_reel_X2_renew
theorem dX6_reel_0 : decode cX6_reel 0 = .ok (.iload_n 1, 1) := by decide +kernel
theorem dX6_reel_1 : decode cX6_reel 1 = .ok (.invokestatic 99, 3) := by decide +kernel
theorem dX6_reel_4 : decode cX6_reel 4 = .ok (.ifCond .eq 17, 3) := by decide +kernel
theorem dX6_reel_7 : decode cX6_reel 7 = .ok (.iload_n 2, 1) := by decide +kernel
theorem dX6_reel_8 : decode cX6_reel 8 = .ok (.invokestatic 228, 3) := by decide +kernel
theorem dX6_reel_11 : decode cX6_reel 11 = .ok (.ifCond .eq 10, 3) := by decide +kernel
theorem dX6_reel_14 : decode cX6_reel 14 = .ok (.iload_n 3, 1) := by decide +kernel
theorem dX6_reel_15 : decode cX6_reel 15 = .ok (.sipush 300, 3) := by decide +kernel
theorem dX6_reel_18 : decode cX6_reel 18 = .ok (.if_icmp .le 6, 3) := by decide +kernel
theorem dX6_reel_21 : decode cX6_reel 21 = .ok (.bipush (-2), 2) := by decide +kernel
theorem dX6_reel_23 : decode cX6_reel 23 = .ok (.ireturn, 1) := by decide +kernel
theorem dX6_reel_24 : decode cX6_reel 24 = .ok (.iload_n 3, 1) := by decide +kernel
theorem dX6_reel_25 : decode cX6_reel 25 = .ok (.ifCond .ge 9, 3) := by decide +kernel
theorem dX6_reel_28 : decode cX6_reel 28 = .ok (.aload_n 0, 1) := by decide +kernel
theorem dX6_reel_29 : decode cX6_reel 29 = .ok (.iconst 5, 1) := by decide +kernel
theorem dX6_reel_30 : decode cX6_reel 30 = .ok (.invokevirtual 109, 3) := by decide +kernel
theorem dX6_reel_33 : decode cX6_reel 33 = .ok (.ireturn, 1) := by decide +kernel
theorem dX6_reel_34 : decode cX6_reel 34 = .ok (.aload_n 0, 1) := by decide +kernel
theorem dX6_reel_35 : decode cX6_reel 35 = .ok (.getfield 17, 3) := by decide +kernel
theorem dX6_reel_38 : decode cX6_reel 38 = .ok (.iload_n 1, 1) := by decide +kernel
theorem dX6_reel_39 : decode cX6_reel 39 = .ok (.aaload, 1) := by decide +kernel
theorem dX6_reel_40 : decode cX6_reel 40 = .ok (.iload_n 2, 1) := by decide +kernel
theorem dX6_reel_41 : decode cX6_reel 41 = .ok (.iload_n 3, 1) := by decide +kernel
theorem dX6_reel_42 : decode cX6_reel 42 = .ok (.invokevirtual 231, 3) := by decide +kernel
theorem dX6_reel_45 : decode cX6_reel 45 = .ok (.iload_n 3, 1) := by decide +kernel
theorem dX6_reel_46 : decode cX6_reel 46 = .ok (.ireturn, 1) := by decide +kernel
set_option maxRecDepth 20000 in
theorem ggX6_lose_X6_isReel : GoodIn wsX6_lose wsX6_isReel := goodIn_r _ [5] (by decide +kernel) (by decide +kernel)
set_option maxRecDepth 20000 in
theorem gX6_lose_X6_isReel : GoodIn wsX6_lose (va_wsS RX6 99 yX6_isReel wsX6_isReel) := goodIn_app (goodIn_of _ (by decide +kernel)) ggX6_lose_X6_isReel
set_option maxRecDepth 20000 in
theorem ggX6_lose_X6_found : GoodIn wsX6_lose wsX6_found := goodIn_r _ [9, 10, 11, 12, 13, 14, 15, 16, 17, 18] (by decide +kernel) (by decide +kernel)
set_option maxRecDepth 20000 in
theorem gX6_lose_X6_found : GoodIn wsX6_lose (wsV RX6 109 RX6 yX6_found wsX6_found) := goodIn_app (goodIn_of _ (by decide +kernel)) ggX6_lose_X6_found
theorem dX6_lose_0 : decode cX6_lose 0 = .ok (.iload_n 1, 1) := by decide +kernel
theorem dX6_lose_1 : decode cX6_lose 1 = .ok (.invokestatic 99, 3) := by decide +kernel
theorem dX6_lose_4 : decode cX6_lose 4 = .ok (.ifCond .ne 6, 3) := by decide +kernel
theorem dX6_lose_7 : decode cX6_lose 7 = .ok (.bipush (-2), 2) := by decide +kernel
theorem dX6_lose_9 : decode cX6_lose 9 = .ok (.ireturn, 1) := by decide +kernel
theorem dX6_lose_10 : decode cX6_lose 10 = .ok (.aload_n 0, 1) := by decide +kernel
theorem dX6_lose_11 : decode cX6_lose 11 = .ok (.getfield 17, 3) := by decide +kernel
theorem dX6_lose_14 : decode cX6_lose 14 = .ok (.iload_n 1, 1) := by decide +kernel
theorem dX6_lose_15 : decode cX6_lose 15 = .ok (.aaload, 1) := by decide +kernel
theorem dX6_lose_16 : decode cX6_lose 16 = .ok (.getfield 105, 3) := by decide +kernel
theorem dX6_lose_19 : decode cX6_lose 19 = .ok (.ifCond .eq 9, 3) := by decide +kernel
theorem dX6_lose_22 : decode cX6_lose 22 = .ok (.aload_n 0, 1) := by decide +kernel
theorem dX6_lose_23 : decode cX6_lose 23 = .ok (.iconst 1, 1) := by decide +kernel
theorem dX6_lose_24 : decode cX6_lose 24 = .ok (.invokevirtual 109, 3) := by decide +kernel
theorem dX6_lose_27 : decode cX6_lose 27 = .ok (.ireturn, 1) := by decide +kernel
theorem dX6_lose_28 : decode cX6_lose 28 = .ok (.aload_n 0, 1) := by decide +kernel
theorem dX6_lose_29 : decode cX6_lose 29 = .ok (.getfield 17, 3) := by decide +kernel
theorem dX6_lose_32 : decode cX6_lose 32 = .ok (.iload_n 1, 1) := by decide +kernel
theorem dX6_lose_33 : decode cX6_lose 33 = .ok (.aaload, 1) := by decide +kernel
theorem dX6_lose_34 : decode cX6_lose 34 = .ok (.iconst 1, 1) := by decide +kernel
theorem dX6_lose_35 : decode cX6_lose 35 = .ok (.putfield 105, 3) := by decide +kernel
theorem dX6_lose_38 : decode cX6_lose 38 = .ok (.aload_n 0, 1) := by decide +kernel
theorem dX6_lose_39 : decode cX6_lose 39 = .ok (.getfield 17, 3) := by decide +kernel
theorem dX6_lose_42 : decode cX6_lose 42 = .ok (.iload_n 1, 1) := by decide +kernel
theorem dX6_lose_43 : decode cX6_lose 43 = .ok (.aaload, 1) := by decide +kernel
theorem dX6_lose_44 : decode cX6_lose 44 = .ok (.getfield 112, 3) := by decide +kernel
theorem dX6_lose_47 : decode cX6_lose 47 = .ok (.ireturn, 1) := by decide +kernel
set_option maxRecDepth 20000 in
theorem ggX6_put_X6_isReel : GoodIn wsX6_put wsX6_isReel := goodIn_r _ [5] (by decide +kernel) (by decide +kernel)
set_option maxRecDepth 20000 in
theorem gX6_put_X6_isReel : GoodIn wsX6_put (va_wsS RX6 99 yX6_isReel wsX6_isReel) := goodIn_app (goodIn_of _ (by decide +kernel)) ggX6_put_X6_isReel
set_option maxRecDepth 20000 in
theorem ggX6_put_X6_isForm : GoodIn wsX6_put wsX6_isForm := goodIn_r _ [8] (by decide +kernel) (by decide +kernel)
set_option maxRecDepth 20000 in
theorem gX6_put_X6_isForm : GoodIn wsX6_put (va_wsS RX6 228 yX6_isForm wsX6_isForm) := goodIn_app (goodIn_of _ (by decide +kernel)) ggX6_put_X6_isForm
set_option maxRecDepth 20000 in
theorem ggX6_put_X2_troubleAt : GoodIn wsX6_put wsX2_troubleAt := goodIn_r _ [13, 14, 15, 16, 17, 18, 12, 19, 20, 43, 44, 45, 46] (by decide +kernel) (by decide +kernel)
set_option maxRecDepth 20000 in
theorem gX6_put_X2_troubleAt : GoodIn wsX6_put (wsV RX6 234 RX2 yX2_troubleAt wsX2_troubleAt) := goodIn_app (goodIn_of _ (by decide +kernel)) ggX6_put_X2_troubleAt
set_option maxRecDepth 20000 in
theorem ggX6_put_X6_found : GoodIn wsX6_put wsX6_found := goodIn_r _ [24, 25, 35, 36, 37, 38, 39, 40, 41, 42] (by decide +kernel) (by decide +kernel)
set_option maxRecDepth 20000 in
theorem gX6_put_X6_found : GoodIn wsX6_put (wsV RX6 109 RX6 yX6_found wsX6_found) := goodIn_app (goodIn_of _ (by decide +kernel)) ggX6_put_X6_found
set_option maxRecDepth 20000 in
theorem ggX6_put_X2_keep : GoodIn wsX6_put wsX2_keep := goodIn_r _ [29, 30, 16, 17, 18, 12, 19, 14, 20, 31, 32, 33, 34, 15, 43, 44, 45, 46] (by decide +kernel) (by decide +kernel)
set_option maxRecDepth 20000 in
theorem gX6_put_X2_keep : GoodIn wsX6_put (wsV RX6 237 RX2 yX2_keep wsX2_keep) := goodIn_app (goodIn_of _ (by decide +kernel)) ggX6_put_X2_keep
theorem dX6_put_0 : decode cX6_put 0 = .ok (.iload_n 1, 1) := by decide +kernel
theorem dX6_put_1 : decode cX6_put 1 = .ok (.invokestatic 99, 3) := by decide +kernel
theorem dX6_put_4 : decode cX6_put 4 = .ok (.ifCond .eq 10, 3) := by decide +kernel
theorem dX6_put_7 : decode cX6_put 7 = .ok (.iload_n 2, 1) := by decide +kernel
theorem dX6_put_8 : decode cX6_put 8 = .ok (.invokestatic 228, 3) := by decide +kernel
theorem dX6_put_11 : decode cX6_put 11 = .ok (.ifCond .ne 6, 3) := by decide +kernel
theorem dX6_put_14 : decode cX6_put 14 = .ok (.bipush (-2), 2) := by decide +kernel
theorem dX6_put_16 : decode cX6_put 16 = .ok (.ireturn, 1) := by decide +kernel
theorem dX6_put_17 : decode cX6_put 17 = .ok (.aload_n 0, 1) := by decide +kernel
theorem dX6_put_18 : decode cX6_put 18 = .ok (.getfield 17, 3) := by decide +kernel
theorem dX6_put_21 : decode cX6_put 21 = .ok (.iload_n 1, 1) := by decide +kernel
theorem dX6_put_22 : decode cX6_put 22 = .ok (.aaload, 1) := by decide +kernel
theorem dX6_put_23 : decode cX6_put 23 = .ok (.iload_n 2, 1) := by decide +kernel
theorem dX6_put_24 : decode cX6_put 24 = .ok (.iload_n 3, 1) := by decide +kernel
theorem dX6_put_25 : decode cX6_put 25 = .ok (.invokevirtual 234, 3) := by decide +kernel
theorem dX6_put_28 : decode cX6_put 28 = .ok (.istore 5, 2) := by decide +kernel
theorem dX6_put_30 : decode cX6_put 30 = .ok (.iload 5, 2) := by decide +kernel
theorem dX6_put_32 : decode cX6_put 32 = .ok (.ifCond .eq 10, 3) := by decide +kernel
theorem dX6_put_35 : decode cX6_put 35 = .ok (.aload_n 0, 1) := by decide +kernel
theorem dX6_put_36 : decode cX6_put 36 = .ok (.iload 5, 2) := by decide +kernel
theorem dX6_put_38 : decode cX6_put 38 = .ok (.invokevirtual 109, 3) := by decide +kernel
theorem dX6_put_41 : decode cX6_put 41 = .ok (.ireturn, 1) := by decide +kernel
theorem dX6_put_42 : decode cX6_put 42 = .ok (.aload_n 0, 1) := by decide +kernel
theorem dX6_put_43 : decode cX6_put 43 = .ok (.getfield 17, 3) := by decide +kernel
theorem dX6_put_46 : decode cX6_put 46 = .ok (.iload_n 1, 1) := by decide +kernel
theorem dX6_put_47 : decode cX6_put 47 = .ok (.aaload, 1) := by decide +kernel
theorem dX6_put_48 : decode cX6_put 48 = .ok (.iload_n 3, 1) := by decide +kernel
theorem dX6_put_49 : decode cX6_put 49 = .ok (.iload 4, 2) := by decide +kernel
theorem dX6_put_51 : decode cX6_put 51 = .ok (.invokevirtual 237, 3) := by decide +kernel
theorem dX6_put_54 : decode cX6_put 54 = .ok (.iconst 1, 1) := by decide +kernel
theorem dX6_put_55 : decode cX6_put 55 = .ok (.ireturn, 1) := by decide +kernel
set_option maxRecDepth 20000 in
theorem ggX6_get_X6_isReel : GoodIn wsX6_get wsX6_isReel := goodIn_r _ [6] (by decide +kernel) (by decide +kernel)
set_option maxRecDepth 20000 in
theorem gX6_get_X6_isReel : GoodIn wsX6_get (va_wsS RX6 99 yX6_isReel wsX6_isReel) := goodIn_app (goodIn_of _ (by decide +kernel)) ggX6_get_X6_isReel
set_option maxRecDepth 20000 in
theorem ggX6_get_X6_isForm : GoodIn wsX6_get wsX6_isForm := goodIn_r _ [9] (by decide +kernel) (by decide +kernel)
set_option maxRecDepth 20000 in
theorem gX6_get_X6_isForm : GoodIn wsX6_get (va_wsS RX6 228 yX6_isForm wsX6_isForm) := goodIn_app (goodIn_of _ (by decide +kernel)) ggX6_get_X6_isForm
set_option maxRecDepth 20000 in
theorem ggX6_get_X2_troubleAt : GoodIn wsX6_get wsX2_troubleAt := goodIn_r _ [14, 15, 16, 17, 18, 19, 13, 20, 21, 40, 41, 42, 43] (by decide +kernel) (by decide +kernel)
set_option maxRecDepth 20000 in
theorem gX6_get_X2_troubleAt : GoodIn wsX6_get (wsV RX6 234 RX2 yX2_troubleAt wsX2_troubleAt) := goodIn_app (goodIn_of _ (by decide +kernel)) ggX6_get_X2_troubleAt
set_option maxRecDepth 20000 in
theorem ggX6_get_X6_found : GoodIn wsX6_get wsX6_found := goodIn_r _ [25, 26, 32, 33, 34, 35, 36, 37, 38, 39] (by decide +kernel) (by decide +kernel)
set_option maxRecDepth 20000 in
theorem gX6_get_X6_found : GoodIn wsX6_get (wsV RX6 109 RX6 yX6_found wsX6_found) := goodIn_app (goodIn_of _ (by decide +kernel)) ggX6_get_X6_found
set_option maxRecDepth 20000 in
theorem ggX6_get_X2_itemOrZero : GoodIn wsX6_get wsX2_itemOrZero := goodIn_r _ [30, 31, 17, 18, 19, 13, 20, 15, 21, 40, 41, 42, 43] (by decide +kernel) (by decide +kernel)
set_option maxRecDepth 20000 in
theorem gX6_get_X2_itemOrZero : GoodIn wsX6_get (wsV RX6 238 RX2 yX2_itemOrZero wsX2_itemOrZero) := goodIn_app (goodIn_of _ (by decide +kernel)) ggX6_get_X2_itemOrZero
theorem dX6_get_0 : decode cX6_get 0 = .ok (.iload_n 1, 1) := by decide +kernel
theorem dX6_get_1 : decode cX6_get 1 = .ok (.invokestatic 99, 3) := by decide +kernel
theorem dX6_get_4 : decode cX6_get 4 = .ok (.ifCond .eq 10, 3) := by decide +kernel
theorem dX6_get_7 : decode cX6_get 7 = .ok (.iload_n 2, 1) := by decide +kernel
theorem dX6_get_8 : decode cX6_get 8 = .ok (.invokestatic 228, 3) := by decide +kernel
theorem dX6_get_11 : decode cX6_get 11 = .ok (.ifCond .ne 6, 3) := by decide +kernel
theorem dX6_get_14 : decode cX6_get 14 = .ok (.ldc 141, 2) := by decide +kernel
theorem dX6_get_16 : decode cX6_get 16 = .ok (.ireturn, 1) := by decide +kernel
theorem dX6_get_17 : decode cX6_get 17 = .ok (.aload_n 0, 1) := by decide +kernel
theorem dX6_get_18 : decode cX6_get 18 = .ok (.getfield 17, 3) := by decide +kernel
theorem dX6_get_21 : decode cX6_get 21 = .ok (.iload_n 1, 1) := by decide +kernel
theorem dX6_get_22 : decode cX6_get 22 = .ok (.aaload, 1) := by decide +kernel
theorem dX6_get_23 : decode cX6_get 23 = .ok (.iload_n 2, 1) := by decide +kernel
theorem dX6_get_24 : decode cX6_get 24 = .ok (.iload_n 3, 1) := by decide +kernel
theorem dX6_get_25 : decode cX6_get 25 = .ok (.invokevirtual 234, 3) := by decide +kernel
theorem dX6_get_28 : decode cX6_get 28 = .ok (.istore 4, 2) := by decide +kernel
theorem dX6_get_30 : decode cX6_get 30 = .ok (.iload 4, 2) := by decide +kernel
theorem dX6_get_32 : decode cX6_get 32 = .ok (.ifCond .eq 13, 3) := by decide +kernel
theorem dX6_get_35 : decode cX6_get 35 = .ok (.aload_n 0, 1) := by decide +kernel
theorem dX6_get_36 : decode cX6_get 36 = .ok (.iload 4, 2) := by decide +kernel
theorem dX6_get_38 : decode cX6_get 38 = .ok (.invokevirtual 109, 3) := by decide +kernel
theorem dX6_get_41 : decode cX6_get 41 = .ok (.pop, 1) := by decide +kernel
theorem dX6_get_42 : decode cX6_get 42 = .ok (.ldc 141, 2) := by decide +kernel
theorem dX6_get_44 : decode cX6_get 44 = .ok (.ireturn, 1) := by decide +kernel
theorem dX6_get_45 : decode cX6_get 45 = .ok (.aload_n 0, 1) := by decide +kernel
theorem dX6_get_46 : decode cX6_get 46 = .ok (.getfield 17, 3) := by decide +kernel
theorem dX6_get_49 : decode cX6_get 49 = .ok (.iload_n 1, 1) := by decide +kernel
theorem dX6_get_50 : decode cX6_get 50 = .ok (.aaload, 1) := by decide +kernel
theorem dX6_get_51 : decode cX6_get 51 = .ok (.iload_n 3, 1) := by decide +kernel
theorem dX6_get_52 : decode cX6_get 52 = .ok (.invokevirtual 238, 3) := by decide +kernel
theorem dX6_get_55 : decode cX6_get 55 = .ok (.ireturn, 1) := by decide +kernel
set_option maxRecDepth 20000 in
theorem ggX6_copy_X6_isReel : GoodIn wsX6_copy wsX6_isReel := goodIn_r _ [9] (by decide +kernel) (by decide +kernel)
set_option maxRecDepth 20000 in
theorem gX6_copy_X6_isReel : GoodIn wsX6_copy (va_wsS RX6 99 yX6_isReel wsX6_isReel) := goodIn_app (goodIn_of _ (by decide +kernel)) ggX6_copy_X6_isReel
set_option maxRecDepth 20000 in
theorem ggX6_copy_X6_found : GoodIn wsX6_copy wsX6_found := goodIn_r _ [13, 14, 21, 22, 23, 24, 25, 26, 27, 28] (by decide +kernel) (by decide +kernel)
set_option maxRecDepth 20000 in
theorem gX6_copy_X6_found : GoodIn wsX6_copy (wsV RX6 109 RX6 yX6_found wsX6_found) := goodIn_app (goodIn_of _ (by decide +kernel)) ggX6_copy_X6_found
set_option maxRecDepth 20000 in
theorem ggX6_copy_X2_hasSpan : GoodIn wsX6_copy wsX2_hasSpan := goodIn_r _ [19, 20, 29, 30, 31, 32] (by decide +kernel) (by decide +kernel)
set_option maxRecDepth 20000 in
theorem gX6_copy_X2_hasSpan : GoodIn wsX6_copy (wsV RX6 244 RX2 yX2_hasSpan wsX2_hasSpan) := goodIn_app (goodIn_of _ (by decide +kernel)) ggX6_copy_X2_hasSpan
theorem dX6_copy_0 : decode cX6_copy 0 = .ok (.iload_n 1, 1) := by decide +kernel
theorem dX6_copy_1 : decode cX6_copy 1 = .ok (.invokestatic 99, 3) := by decide +kernel
theorem dX6_copy_4 : decode cX6_copy 4 = .ok (.ifCond .eq 10, 3) := by decide +kernel
theorem dX6_copy_7 : decode cX6_copy 7 = .ok (.iload_n 3, 1) := by decide +kernel
theorem dX6_copy_8 : decode cX6_copy 8 = .ok (.invokestatic 99, 3) := by decide +kernel
theorem dX6_copy_11 : decode cX6_copy 11 = .ok (.ifCond .ne 6, 3) := by decide +kernel
theorem dX6_copy_14 : decode cX6_copy 14 = .ok (.bipush (-2), 2) := by decide +kernel
theorem dX6_copy_16 : decode cX6_copy 16 = .ok (.ireturn, 1) := by decide +kernel
theorem dX6_copy_17 : decode cX6_copy 17 = .ok (.aload_n 0, 1) := by decide +kernel
theorem dX6_copy_18 : decode cX6_copy 18 = .ok (.getfield 17, 3) := by decide +kernel
theorem dX6_copy_21 : decode cX6_copy 21 = .ok (.iload_n 1, 1) := by decide +kernel
theorem dX6_copy_22 : decode cX6_copy 22 = .ok (.aaload, 1) := by decide +kernel
theorem dX6_copy_23 : decode cX6_copy 23 = .ok (.getfield 105, 3) := by decide +kernel
theorem dX6_copy_26 : decode cX6_copy 26 = .ok (.ifCond .ne 15, 3) := by decide +kernel
theorem dX6_copy_29 : decode cX6_copy 29 = .ok (.aload_n 0, 1) := by decide +kernel
theorem dX6_copy_30 : decode cX6_copy 30 = .ok (.getfield 17, 3) := by decide +kernel
theorem dX6_copy_33 : decode cX6_copy 33 = .ok (.iload_n 3, 1) := by decide +kernel
theorem dX6_copy_34 : decode cX6_copy 34 = .ok (.aaload, 1) := by decide +kernel
theorem dX6_copy_35 : decode cX6_copy 35 = .ok (.getfield 105, 3) := by decide +kernel
theorem dX6_copy_38 : decode cX6_copy 38 = .ok (.ifCond .eq 9, 3) := by decide +kernel
theorem dX6_copy_41 : decode cX6_copy 41 = .ok (.aload_n 0, 1) := by decide +kernel
theorem dX6_copy_42 : decode cX6_copy 42 = .ok (.iconst 1, 1) := by decide +kernel
theorem dX6_copy_43 : decode cX6_copy 43 = .ok (.invokevirtual 109, 3) := by decide +kernel
theorem dX6_copy_46 : decode cX6_copy 46 = .ok (.ireturn, 1) := by decide +kernel
theorem dX6_copy_47 : decode cX6_copy 47 = .ok (.aload_n 0, 1) := by decide +kernel
theorem dX6_copy_48 : decode cX6_copy 48 = .ok (.getfield 17, 3) := by decide +kernel
theorem dX6_copy_51 : decode cX6_copy 51 = .ok (.iload_n 1, 1) := by decide +kernel
theorem dX6_copy_52 : decode cX6_copy 52 = .ok (.aaload, 1) := by decide +kernel
theorem dX6_copy_53 : decode cX6_copy 53 = .ok (.getfield 241, 3) := by decide +kernel
theorem dX6_copy_56 : decode cX6_copy 56 = .ok (.aload_n 0, 1) := by decide +kernel
theorem dX6_copy_57 : decode cX6_copy 57 = .ok (.getfield 17, 3) := by decide +kernel
theorem dX6_copy_60 : decode cX6_copy 60 = .ok (.iload_n 3, 1) := by decide +kernel
theorem dX6_copy_61 : decode cX6_copy 61 = .ok (.aaload, 1) := by decide +kernel
theorem dX6_copy_62 : decode cX6_copy 62 = .ok (.getfield 241, 3) := by decide +kernel
theorem dX6_copy_65 : decode cX6_copy 65 = .ok (.if_icmp .eq 9, 3) := by decide +kernel
theorem dX6_copy_68 : decode cX6_copy 68 = .ok (.aload_n 0, 1) := by decide +kernel
theorem dX6_copy_69 : decode cX6_copy 69 = .ok (.iconst 4, 1) := by decide +kernel
theorem dX6_copy_70 : decode cX6_copy 70 = .ok (.invokevirtual 109, 3) := by decide +kernel
theorem dX6_copy_73 : decode cX6_copy 73 = .ok (.ireturn, 1) := by decide +kernel
theorem dX6_copy_74 : decode cX6_copy 74 = .ok (.aload_n 0, 1) := by decide +kernel
theorem dX6_copy_75 : decode cX6_copy 75 = .ok (.getfield 17, 3) := by decide +kernel
theorem dX6_copy_78 : decode cX6_copy 78 = .ok (.iload_n 1, 1) := by decide +kernel
theorem dX6_copy_79 : decode cX6_copy 79 = .ok (.aaload, 1) := by decide +kernel
theorem dX6_copy_80 : decode cX6_copy 80 = .ok (.iload_n 2, 1) := by decide +kernel
theorem dX6_copy_81 : decode cX6_copy 81 = .ok (.iload 5, 2) := by decide +kernel
theorem dX6_copy_83 : decode cX6_copy 83 = .ok (.invokevirtual 244, 3) := by decide +kernel
theorem dX6_copy_86 : decode cX6_copy 86 = .ok (.ifCond .eq 19, 3) := by decide +kernel
theorem dX6_copy_89 : decode cX6_copy 89 = .ok (.aload_n 0, 1) := by decide +kernel
theorem dX6_copy_90 : decode cX6_copy 90 = .ok (.getfield 17, 3) := by decide +kernel
theorem dX6_copy_93 : decode cX6_copy 93 = .ok (.iload_n 3, 1) := by decide +kernel
theorem dX6_copy_94 : decode cX6_copy 94 = .ok (.aaload, 1) := by decide +kernel
theorem dX6_copy_95 : decode cX6_copy 95 = .ok (.iload 4, 2) := by decide +kernel
theorem dX6_copy_97 : decode cX6_copy 97 = .ok (.iload 5, 2) := by decide +kernel
theorem dX6_copy_99 : decode cX6_copy 99 = .ok (.invokevirtual 244, 3) := by decide +kernel
theorem dX6_copy_102 : decode cX6_copy 102 = .ok (.ifCond .ne 9, 3) := by decide +kernel
theorem dX6_copy_105 : decode cX6_copy 105 = .ok (.aload_n 0, 1) := by decide +kernel
theorem dX6_copy_106 : decode cX6_copy 106 = .ok (.iconst 2, 1) := by decide +kernel
theorem dX6_copy_107 : decode cX6_copy 107 = .ok (.invokevirtual 109, 3) := by decide +kernel
theorem dX6_copy_110 : decode cX6_copy 110 = .ok (.ireturn, 1) := by decide +kernel
theorem dX6_copy_111 : decode cX6_copy 111 = .ok (.aload_n 0, 1) := by decide +kernel
theorem dX6_copy_112 : decode cX6_copy 112 = .ok (.getfield 17, 3) := by decide +kernel
theorem dX6_copy_115 : decode cX6_copy 115 = .ok (.iload_n 1, 1) := by decide +kernel
theorem dX6_copy_116 : decode cX6_copy 116 = .ok (.aaload, 1) := by decide +kernel
theorem dX6_copy_117 : decode cX6_copy 117 = .ok (.getfield 113, 3) := by decide +kernel
theorem dX6_copy_120 : decode cX6_copy 120 = .ok (.iload_n 2, 1) := by decide +kernel
theorem dX6_copy_121 : decode cX6_copy 121 = .ok (.aload_n 0, 1) := by decide +kernel
theorem dX6_copy_122 : decode cX6_copy 122 = .ok (.getfield 17, 3) := by decide +kernel
theorem dX6_copy_125 : decode cX6_copy 125 = .ok (.iload_n 3, 1) := by decide +kernel
theorem dX6_copy_126 : decode cX6_copy 126 = .ok (.aaload, 1) := by decide +kernel
theorem dX6_copy_127 : decode cX6_copy 127 = .ok (.getfield 113, 3) := by decide +kernel
theorem dX6_copy_130 : decode cX6_copy 130 = .ok (.iload 4, 2) := by decide +kernel
theorem dX6_copy_132 : decode cX6_copy 132 = .ok (.iload 5, 2) := by decide +kernel
theorem dX6_copy_134 : decode cX6_copy 134 = .ok (.invokestatic 247, 3) := by decide +kernel
theorem dX6_copy_137 : decode cX6_copy 137 = .ok (.iconst 1, 1) := by decide +kernel
theorem dX6_copy_138 : decode cX6_copy 138 = .ok (.ireturn, 1) := by decide +kernel
set_option maxRecDepth 20000 in
theorem ggX6_add_X6_isRow : GoodIn wsX6_add wsX6_isRow := goodIn_r _ [10] (by decide +kernel) (by decide +kernel)
set_option maxRecDepth 20000 in
theorem gX6_add_X6_isRow : GoodIn wsX6_add (va_wsS RX6 58 yX6_isRow wsX6_isRow) := goodIn_app (goodIn_of _ (by decide +kernel)) ggX6_add_X6_isRow
set_option maxRecDepth 20000 in
theorem ggX6_add_X6_isReel : GoodIn wsX6_add wsX6_isReel := goodIn_r _ [13] (by decide +kernel) (by decide +kernel)
set_option maxRecDepth 20000 in
theorem gX6_add_X6_isReel : GoodIn wsX6_add (va_wsS RX6 99 yX6_isReel wsX6_isReel) := goodIn_app (goodIn_of _ (by decide +kernel)) ggX6_add_X6_isReel
set_option maxRecDepth 20000 in
theorem ggX6_add_X6_isShift : GoodIn wsX6_add wsX6_isShift := goodIn_r _ [16] (by decide +kernel) (by decide +kernel)
set_option maxRecDepth 20000 in
theorem gX6_add_X6_isShift : GoodIn wsX6_add (va_wsS RX6 80 yX6_isShift wsX6_isShift) := goodIn_app (goodIn_of _ (by decide +kernel)) ggX6_add_X6_isShift
set_option maxRecDepth 20000 in
theorem ggX6_add_X6_found : GoodIn wsX6_add wsX6_found := goodIn_r _ [20, 21, 58, 59, 60, 61, 62, 63, 64, 65] (by decide +kernel) (by decide +kernel)
set_option maxRecDepth 20000 in
theorem gX6_add_X6_found : GoodIn wsX6_add (wsV RX6 109 RX6 yX6_found wsX6_found) := goodIn_app (goodIn_of _ (by decide +kernel)) ggX6_add_X6_found
set_option maxRecDepth 20000 in
theorem ggX6_add_X3_isNone : GoodIn wsX6_add wsX3_isNone := goodIn_r _ [26, 27, 70, 71] (by decide +kernel) (by decide +kernel)
set_option maxRecDepth 20000 in
theorem gX6_add_X3_isNone : GoodIn wsX6_add (wsV RX6 116 RX3 yX3_isNone wsX3_isNone) := goodIn_app (goodIn_of _ (by decide +kernel)) ggX6_add_X3_isNone
set_option maxRecDepth 20000 in
theorem ggX6_add_X3_signAt : GoodIn wsX6_add wsX3_signAt := goodIn_r _ [31, 27, 32, 33, 34, 35, 36, 70, 71] (by decide +kernel) (by decide +kernel)
set_option maxRecDepth 20000 in
theorem gX6_add_X3_signAt : GoodIn wsX6_add (wsV RX6 91 RX3 yX3_signAt wsX3_signAt) := goodIn_app (goodIn_of _ (by decide +kernel)) ggX6_add_X3_signAt
set_option maxRecDepth 20000 in
theorem ggX6_add_X2_itemOrZero : GoodIn wsX6_add wsX2_itemOrZero := goodIn_r _ [41, 42, 43, 44, 45, 40, 46, 47, 48, 66, 67, 68, 69] (by decide +kernel) (by decide +kernel)
set_option maxRecDepth 20000 in
theorem gX6_add_X2_itemOrZero : GoodIn wsX6_add (wsV RX6 238 RX2 yX2_itemOrZero wsX2_itemOrZero) := goodIn_app (goodIn_of _ (by decide +kernel)) ggX6_add_X2_itemOrZero
set_option maxRecDepth 20000 in
theorem ggX6_add_X2_keep : GoodIn wsX6_add wsX2_keep := goodIn_r _ [52, 42, 43, 44, 45, 40, 46, 47, 48, 53, 54, 55, 56, 57, 66, 67, 68, 69] (by decide +kernel) (by decide +kernel)
set_option maxRecDepth 20000 in
theorem gX6_add_X2_keep : GoodIn wsX6_add (wsV RX6 237 RX2 yX2_keep wsX2_keep) := goodIn_app (goodIn_of _ (by decide +kernel)) ggX6_add_X2_keep
theorem dX6_add_0 : decode cX6_add 0 = .ok (.iload_n 1, 1) := by decide +kernel
theorem dX6_add_1 : decode cX6_add 1 = .ok (.invokestatic 58, 3) := by decide +kernel
theorem dX6_add_4 : decode cX6_add 4 = .ok (.ifCond .eq 38, 3) := by decide +kernel
theorem dX6_add_7 : decode cX6_add 7 = .ok (.iload_n 2, 1) := by decide +kernel
theorem dX6_add_8 : decode cX6_add 8 = .ok (.invokestatic 99, 3) := by decide +kernel
theorem dX6_add_11 : decode cX6_add 11 = .ok (.ifCond .eq 31, 3) := by decide +kernel
theorem dX6_add_14 : decode cX6_add 14 = .ok (.iload_n 3, 1) := by decide +kernel
theorem dX6_add_15 : decode cX6_add 15 = .ok (.ifCond .lt 27, 3) := by decide +kernel
theorem dX6_add_18 : decode cX6_add 18 = .ok (.iload 4, 2) := by decide +kernel
theorem dX6_add_20 : decode cX6_add 20 = .ok (.invokestatic 80, 3) := by decide +kernel
theorem dX6_add_23 : decode cX6_add 23 = .ok (.ifCond .eq 19, 3) := by decide +kernel
theorem dX6_add_26 : decode cX6_add 26 = .ok (.iload 5, 2) := by decide +kernel
theorem dX6_add_28 : decode cX6_add 28 = .ok (.sipush (-1000), 3) := by decide +kernel
theorem dX6_add_31 : decode cX6_add 31 = .ok (.if_icmp .lt 11, 3) := by decide +kernel
theorem dX6_add_34 : decode cX6_add 34 = .ok (.iload 5, 2) := by decide +kernel
