theorem dX7_likeness_14 : decode cX7_likeness 14 = .ok (.if_icmp .ge 31, 3) := by decide +kernel
theorem dX7_likeness_17 : decode cX7_likeness 17 = .ok (.iload 4, 2) := by decide +kernel
theorem dX7_likeness_19 : decode cX7_likeness 19 = .ok (.aload_n 0, 1) := by decide +kernel
theorem dX7_likeness_20 : decode cX7_likeness 20 = .ok (.iload_n 1, 1) := by decide +kernel
theorem dX7_likeness_21 : decode cX7_likeness 21 = .ok (.iload 5, 2) := by decide +kernel
theorem dX7_likeness_23 : decode cX7_likeness 23 = .ok (.invokevirtual 80, 3) := by decide +kernel
theorem dX7_likeness_26 : decode cX7_likeness 26 = .ok (.aload_n 0, 1) := by decide +kernel
theorem dX7_likeness_27 : decode cX7_likeness 27 = .ok (.iload_n 2, 1) := by decide +kernel
theorem dX7_likeness_28 : decode cX7_likeness 28 = .ok (.iload 5, 2) := by decide +kernel
theorem dX7_likeness_30 : decode cX7_likeness 30 = .ok (.iload_n 3, 1) := by decide +kernel
theorem dX7_likeness_31 : decode cX7_likeness 31 = .ok (.iadd, 1) := by decide +kernel
theorem dX7_likeness_32 : decode cX7_likeness 32 = .ok (.invokevirtual 80, 3) := by decide +kernel
theorem dX7_likeness_35 : decode cX7_likeness 35 = .ok (.imul, 1) := by decide +kernel
theorem dX7_likeness_36 : decode cX7_likeness 36 = .ok (.iadd, 1) := by decide +kernel
theorem dX7_likeness_37 : decode cX7_likeness 37 = .ok (.istore 4, 2) := by decide +kernel
theorem dX7_likeness_39 : decode cX7_likeness 39 = .ok (.iinc 5 1, 3) := by decide +kernel
theorem dX7_likeness_42 : decode cX7_likeness 42 = .ok (.goto (-36), 3) := by decide +kernel
theorem dX7_likeness_45 : decode cX7_likeness 45 = .ok (.iload 4, 2) := by decide +kernel
theorem dX7_likeness_47 : decode cX7_likeness 47 = .ok (.ireturn, 1) := by decide +kernel
set_option maxRecDepth 20000 in
theorem ggX7_like_X7_isRow : GoodIn wsX7_like wsX7_isRow := goodIn_r _ [4, 5, 6, 3, 7] (by decide +kernel) (by decide +kernel)
set_option maxRecDepth 20000 in
theorem gX7_like_X7_isRow : GoodIn wsX7_like (va_wsS RX7 55 yX7_isRow wsX7_isRow) := goodIn_app (goodIn_of _ (by decide +kernel)) ggX7_like_X7_isRow
set_option maxRecDepth 20000 in
theorem ggX7_like_X7_isShift : GoodIn wsX7_like wsX7_isShift := goodIn_r _ [10, 5, 6, 3, 7] (by decide +kernel) (by decide +kernel)
set_option maxRecDepth 20000 in
theorem gX7_like_X7_isShift : GoodIn wsX7_like (va_wsS RX7 73 yX7_isShift wsX7_isShift) := goodIn_app (goodIn_of _ (by decide +kernel)) ggX7_like_X7_isShift
set_option maxRecDepth 20000 in
theorem ggX7_like_X7_arePair : GoodIn wsX7_like wsX7_arePair := goodIn_r _ [14, 15, 25, 26, 27, 28, 29, 30, 31, 32, 33, 34, 35, 36, 37, 38, 39, 40, 41, 42, 43] (by decide +kernel) (by decide +kernel)
set_option maxRecDepth 20000 in
theorem gX7_like_X7_arePair : GoodIn wsX7_like (wsV RX7 76 RX7 yX7_arePair wsX7_arePair) := goodIn_app (goodIn_of _ (by decide +kernel)) ggX7_like_X7_arePair
set_option maxRecDepth 20000 in
theorem ggX7_like_X7_likeness : GoodIn wsX7_like wsX7_likeness := goodIn_r _ [19, 15, 20, 21, 22, 3, 23, 24, 25, 26, 27, 28, 29, 30, 31, 32, 33, 34, 35, 36, 37, 38, 39, 40, 41, 42, 43] (by decide +kernel) (by decide +kernel)
set_option maxRecDepth 20000 in
theorem gX7_like_X7_likeness : GoodIn wsX7_like (wsV RX7 91 RX7 yX7_likeness wsX7_likeness) := goodIn_app (goodIn_of _ (by decide +kernel)) ggX7_like_X7_likeness
theorem dX7_like_0 : decode cX7_like 0 = .ok (.iload_n 1, 1) := by decide +kernel
theorem dX7_like_1 : decode cX7_like 1 = .ok (.invokestatic 55, 3) := by decide +kernel
theorem dX7_like_4 : decode cX7_like 4 = .ok (.ifCond .eq 17, 3) := by decide +kernel
theorem dX7_like_7 : decode cX7_like 7 = .ok (.iload_n 2, 1) := by decide +kernel
theorem dX7_like_8 : decode cX7_like 8 = .ok (.invokestatic 55, 3) := by decide +kernel
theorem dX7_like_11 : decode cX7_like 11 = .ok (.ifCond .eq 10, 3) := by decide +kernel
theorem dX7_like_14 : decode cX7_like 14 = .ok (.iload_n 3, 1) := by decide +kernel
theorem dX7_like_15 : decode cX7_like 15 = .ok (.invokestatic 73, 3) := by decide +kernel
theorem dX7_like_18 : decode cX7_like 18 = .ok (.ifCond .ne 7, 3) := by decide +kernel
theorem dX7_like_21 : decode cX7_like 21 = .ok (.sipush (-1002), 3) := by decide +kernel
theorem dX7_like_24 : decode cX7_like 24 = .ok (.ireturn, 1) := by decide +kernel
theorem dX7_like_25 : decode cX7_like 25 = .ok (.aload_n 0, 1) := by decide +kernel
theorem dX7_like_26 : decode cX7_like 26 = .ok (.iload_n 1, 1) := by decide +kernel
theorem dX7_like_27 : decode cX7_like 27 = .ok (.iload_n 2, 1) := by decide +kernel
theorem dX7_like_28 : decode cX7_like 28 = .ok (.invokevirtual 76, 3) := by decide +kernel
theorem dX7_like_31 : decode cX7_like 31 = .ok (.ifCond .eq 13, 3) := by decide +kernel
theorem dX7_like_34 : decode cX7_like 34 = .ok (.aload_n 0, 1) := by decide +kernel
theorem dX7_like_35 : decode cX7_like 35 = .ok (.iload_n 1, 1) := by decide +kernel
theorem dX7_like_36 : decode cX7_like 36 = .ok (.iload_n 2, 1) := by decide +kernel
theorem dX7_like_37 : decode cX7_like 37 = .ok (.iload_n 3, 1) := by decide +kernel
theorem dX7_like_38 : decode cX7_like 38 = .ok (.invokevirtual 91, 3) := by decide +kernel
theorem dX7_like_41 : decode cX7_like 41 = .ok (.goto 6, 3) := by decide +kernel
theorem dX7_like_44 : decode cX7_like 44 = .ok (.sipush (-1003), 3) := by decide +kernel
theorem dX7_like_47 : decode cX7_like 47 = .ok (.ireturn, 1) := by decide +kernel
set_option maxRecDepth 20000 in
theorem ggX7_most_X7_isRow : GoodIn wsX7_most wsX7_isRow := goodIn_r _ [5, 6, 7, 4, 8] (by decide +kernel) (by decide +kernel)
set_option maxRecDepth 20000 in
theorem gX7_most_X7_isRow : GoodIn wsX7_most (va_wsS RX7 55 yX7_isRow wsX7_isRow) := goodIn_app (goodIn_of _ (by decide +kernel)) ggX7_most_X7_isRow
set_option maxRecDepth 20000 in
theorem ggX7_most_X7_arePair : GoodIn wsX7_most wsX7_arePair := goodIn_r _ [12, 1, 22, 23, 24, 25, 26, 27, 28, 29, 30, 31, 32, 33, 34, 35, 36, 37, 38, 39, 40] (by decide +kernel) (by decide +kernel)
set_option maxRecDepth 20000 in
theorem gX7_most_X7_arePair : GoodIn wsX7_most (wsV RX7 76 RX7 yX7_arePair wsX7_arePair) := goodIn_app (goodIn_of _ (by decide +kernel)) ggX7_most_X7_arePair
set_option maxRecDepth 20000 in
theorem ggX7_most_X7_likeness : GoodIn wsX7_most wsX7_likeness := goodIn_r _ [16, 1, 17, 18, 19, 4, 20, 21, 22, 23, 24, 25, 26, 27, 28, 29, 30, 31, 32, 33, 34, 35, 36, 37, 38, 39, 40] (by decide +kernel) (by decide +kernel)
set_option maxRecDepth 20000 in
theorem gX7_most_X7_likeness : GoodIn wsX7_most (wsV RX7 91 RX7 yX7_likeness wsX7_likeness) := goodIn_app (goodIn_of _ (by decide +kernel)) ggX7_most_X7_likeness
theorem dX7_most_0 : decode cX7_most 0 = .ok (.iload_n 1, 1) := by decide +kernel
theorem dX7_most_1 : decode cX7_most 1 = .ok (.invokestatic 55, 3) := by decide +kernel
theorem dX7_most_4 : decode cX7_most 4 = .ok (.ifCond .eq 10, 3) := by decide +kernel
theorem dX7_most_7 : decode cX7_most 7 = .ok (.iload_n 2, 1) := by decide +kernel
theorem dX7_most_8 : decode cX7_most 8 = .ok (.invokestatic 55, 3) := by decide +kernel
theorem dX7_most_11 : decode cX7_most 11 = .ok (.ifCond .ne 6, 3) := by decide +kernel
theorem dX7_most_14 : decode cX7_most 14 = .ok (.bipush (-2), 2) := by decide +kernel
theorem dX7_most_16 : decode cX7_most 16 = .ok (.ireturn, 1) := by decide +kernel
theorem dX7_most_17 : decode cX7_most 17 = .ok (.aload_n 0, 1) := by decide +kernel
theorem dX7_most_18 : decode cX7_most 18 = .ok (.iload_n 1, 1) := by decide +kernel
theorem dX7_most_19 : decode cX7_most 19 = .ok (.iload_n 2, 1) := by decide +kernel
theorem dX7_most_20 : decode cX7_most 20 = .ok (.invokevirtual 76, 3) := by decide +kernel
theorem dX7_most_23 : decode cX7_most 23 = .ok (.ifCond .ne 6, 3) := by decide +kernel
theorem dX7_most_26 : decode cX7_most 26 = .ok (.bipush (-3), 2) := by decide +kernel
theorem dX7_most_28 : decode cX7_most 28 = .ok (.ireturn, 1) := by decide +kernel
theorem dX7_most_29 : decode cX7_most 29 = .ok (.iconst 0, 1) := by decide +kernel
theorem dX7_most_30 : decode cX7_most 30 = .ok (.istore_n 3, 1) := by decide +kernel
theorem dX7_most_31 : decode cX7_most 31 = .ok (.iload_n 1, 1) := by decide +kernel
theorem dX7_most_32 : decode cX7_most 32 = .ok (.iload_n 2, 1) := by decide +kernel
theorem dX7_most_33 : decode cX7_most 33 = .ok (.if_icmp .ne 7, 3) := by decide +kernel
theorem dX7_most_36 : decode cX7_most 36 = .ok (.iconst 1, 1) := by decide +kernel
theorem dX7_most_37 : decode cX7_most 37 = .ok (.goto 4, 3) := by decide +kernel
theorem dX7_most_40 : decode cX7_most 40 = .ok (.iconst 0, 1) := by decide +kernel
theorem dX7_most_41 : decode cX7_most 41 = .ok (.istore 4, 2) := by decide +kernel
theorem dX7_most_43 : decode cX7_most 43 = .ok (.iload 4, 2) := by decide +kernel
theorem dX7_most_45 : decode cX7_most 45 = .ok (.aload_n 0, 1) := by decide +kernel
theorem dX7_most_46 : decode cX7_most 46 = .ok (.getfield 7, 3) := by decide +kernel
theorem dX7_most_49 : decode cX7_most 49 = .ok (.iload_n 1, 1) := by decide +kernel
theorem dX7_most_50 : decode cX7_most 50 = .ok (.iaload, 1) := by decide +kernel
theorem dX7_most_51 : decode cX7_most 51 = .ok (.if_icmp .ge 47, 3) := by decide +kernel
theorem dX7_most_54 : decode cX7_most 54 = .ok (.aload_n 0, 1) := by decide +kernel
theorem dX7_most_55 : decode cX7_most 55 = .ok (.iload_n 1, 1) := by decide +kernel
theorem dX7_most_56 : decode cX7_most 56 = .ok (.iload_n 2, 1) := by decide +kernel
theorem dX7_most_57 : decode cX7_most 57 = .ok (.iload 4, 2) := by decide +kernel
theorem dX7_most_59 : decode cX7_most 59 = .ok (.invokevirtual 91, 3) := by decide +kernel
theorem dX7_most_62 : decode cX7_most 62 = .ok (.istore 5, 2) := by decide +kernel
theorem dX7_most_64 : decode cX7_most 64 = .ok (.iload 5, 2) := by decide +kernel
theorem dX7_most_66 : decode cX7_most 66 = .ok (.ifCond .ge 9, 3) := by decide +kernel
theorem dX7_most_69 : decode cX7_most 69 = .ok (.iload 5, 2) := by decide +kernel
theorem dX7_most_71 : decode cX7_most 71 = .ok (.ineg, 1) := by decide +kernel
theorem dX7_most_72 : decode cX7_most 72 = .ok (.goto 5, 3) := by decide +kernel
theorem dX7_most_75 : decode cX7_most 75 = .ok (.iload 5, 2) := by decide +kernel
theorem dX7_most_77 : decode cX7_most 77 = .ok (.istore 5, 2) := by decide +kernel
theorem dX7_most_79 : decode cX7_most 79 = .ok (.iload 5, 2) := by decide +kernel
theorem dX7_most_81 : decode cX7_most 81 = .ok (.iload_n 3, 1) := by decide +kernel
theorem dX7_most_82 : decode cX7_most 82 = .ok (.if_icmp .le 8, 3) := by decide +kernel
theorem dX7_most_85 : decode cX7_most 85 = .ok (.iload 5, 2) := by decide +kernel
theorem dX7_most_87 : decode cX7_most 87 = .ok (.goto 4, 3) := by decide +kernel
theorem dX7_most_90 : decode cX7_most 90 = .ok (.iload_n 3, 1) := by decide +kernel
theorem dX7_most_91 : decode cX7_most 91 = .ok (.istore_n 3, 1) := by decide +kernel
theorem dX7_most_92 : decode cX7_most 92 = .ok (.iinc 4 1, 3) := by decide +kernel
theorem dX7_most_95 : decode cX7_most 95 = .ok (.goto (-52), 3) := by decide +kernel
theorem dX7_most_98 : decode cX7_most 98 = .ok (.iload_n 3, 1) := by decide +kernel
theorem dX7_most_99 : decode cX7_most 99 = .ok (.ireturn, 1) := by decide +kernel
set_option maxRecDepth 20000 in
theorem ggX7_sample_X7_in : GoodIn wsX7_sample wsX7_in := goodIn_r _ [7] (by decide +kernel) (by decide +kernel)
set_option maxRecDepth 20000 in
theorem gX7_sample_X7_in : GoodIn wsX7_sample (va_wsS RX7 51 yX7_in wsX7_in) := goodIn_app (goodIn_of _ (by decide +kernel)) ggX7_sample_X7_in
theorem dX7_sample_0 : decode cX7_sample 0 = .ok (.aload_n 0, 1) := by decide +kernel
theorem dX7_sample_1 : decode cX7_sample 1 = .ok (.getfield 35, 3) := by decide +kernel
theorem dX7_sample_4 : decode cX7_sample 4 = .ok (.iload_n 1, 1) := by decide +kernel
theorem dX7_sample_5 : decode cX7_sample 5 = .ok (.baload, 1) := by decide +kernel
theorem dX7_sample_6 : decode cX7_sample 6 = .ok (.ifCond .eq 28, 3) := by decide +kernel
theorem dX7_sample_9 : decode cX7_sample 9 = .ok (.iload_n 2, 1) := by decide +kernel
theorem dX7_sample_10 : decode cX7_sample 10 = .ok (.aload_n 0, 1) := by decide +kernel
theorem dX7_sample_11 : decode cX7_sample 11 = .ok (.getfield 42, 3) := by decide +kernel
theorem dX7_sample_14 : decode cX7_sample 14 = .ok (.iload_n 1, 1) := by decide +kernel
theorem dX7_sample_15 : decode cX7_sample 15 = .ok (.iaload, 1) := by decide +kernel
theorem dX7_sample_16 : decode cX7_sample 16 = .ok (.if_icmp .ge 18, 3) := by decide +kernel
theorem dX7_sample_19 : decode cX7_sample 19 = .ok (.aload_n 0, 1) := by decide +kernel
theorem dX7_sample_20 : decode cX7_sample 20 = .ok (.getfield 45, 3) := by decide +kernel
theorem dX7_sample_23 : decode cX7_sample 23 = .ok (.sipush 300, 3) := by decide +kernel
theorem dX7_sample_26 : decode cX7_sample 26 = .ok (.iload_n 1, 1) := by decide +kernel
theorem dX7_sample_27 : decode cX7_sample 27 = .ok (.imul, 1) := by decide +kernel
theorem dX7_sample_28 : decode cX7_sample 28 = .ok (.iload_n 2, 1) := by decide +kernel
theorem dX7_sample_29 : decode cX7_sample 29 = .ok (.iadd, 1) := by decide +kernel
theorem dX7_sample_30 : decode cX7_sample 30 = .ok (.iaload, 1) := by decide +kernel
theorem dX7_sample_31 : decode cX7_sample 31 = .ok (.goto 4, 3) := by decide +kernel
theorem dX7_sample_34 : decode cX7_sample 34 = .ok (.iconst 0, 1) := by decide +kernel
theorem dX7_sample_35 : decode cX7_sample 35 = .ok (.istore_n 3, 1) := by decide +kernel
theorem dX7_sample_36 : decode cX7_sample 36 = .ok (.iload_n 3, 1) := by decide +kernel
theorem dX7_sample_37 : decode cX7_sample 37 = .ok (.sipush (-10000), 3) := by decide +kernel
theorem dX7_sample_40 : decode cX7_sample 40 = .ok (.sipush 10000, 3) := by decide +kernel
theorem dX7_sample_43 : decode cX7_sample 43 = .ok (.invokestatic 51, 3) := by decide +kernel
theorem dX7_sample_46 : decode cX7_sample 46 = .ok (.ifCond .eq 7, 3) := by decide +kernel
theorem dX7_sample_49 : decode cX7_sample 49 = .ok (.iload_n 3, 1) := by decide +kernel
theorem dX7_sample_50 : decode cX7_sample 50 = .ok (.goto 4, 3) := by decide +kernel
theorem dX7_sample_53 : decode cX7_sample 53 = .ok (.iconst 0, 1) := by decide +kernel
theorem dX7_sample_54 : decode cX7_sample 54 = .ok (.ireturn, 1) := by decide +kernel
set_option maxRecDepth 20000 in
theorem ggX7_heardOf_X7_sample : GoodIn wsX7_heardOf wsX7_sample := goodIn_r _ [6, 7, 8, 9, 10, 11, 5, 12, 18, 19, 20, 21, 22, 23, 24, 25, 26, 27, 28, 29, 30, 31, 32, 33, 34, 35, 36] (by decide +kernel) (by decide +kernel)
set_option maxRecDepth 20000 in
theorem gX7_heardOf_X7_sample : GoodIn wsX7_heardOf (wsV RX7 94 RX7 yX7_sample wsX7_sample) := goodIn_app (goodIn_of _ (by decide +kernel)) ggX7_heardOf_X7_sample
set_option maxRecDepth 20000 in
theorem ggX7_heardOf_X7_signOf : GoodIn wsX7_heardOf wsX7_signOf := goodIn_r _ [16, 17, 1, 18, 19, 20, 21, 22, 23, 24, 25, 26, 27, 28, 29, 30, 31, 32, 33, 34, 35, 36] (by decide +kernel) (by decide +kernel)
set_option maxRecDepth 20000 in
theorem gX7_heardOf_X7_signOf : GoodIn wsX7_heardOf (wsV RX7 80 RX7 yX7_signOf wsX7_signOf) := goodIn_app (goodIn_of _ (by decide +kernel)) ggX7_heardOf_X7_signOf
theorem dX7_heardOf_0 : decode cX7_heardOf 0 = .ok (.iconst 0, 1) := by decide +kernel
theorem dX7_heardOf_1 : decode cX7_heardOf 1 = .ok (.istore 6, 2) := by decide +kernel
theorem dX7_heardOf_3 : decode cX7_heardOf 3 = .ok (.iconst 0, 1) := by decide +kernel
theorem dX7_heardOf_4 : decode cX7_heardOf 4 = .ok (.istore 7, 2) := by decide +kernel
theorem dX7_heardOf_6 : decode cX7_heardOf 6 = .ok (.iload 7, 2) := by decide +kernel
theorem dX7_heardOf_8 : decode cX7_heardOf 8 = .ok (.aload_n 0, 1) := by decide +kernel
theorem dX7_heardOf_9 : decode cX7_heardOf 9 = .ok (.getfield 7, 3) := by decide +kernel
theorem dX7_heardOf_12 : decode cX7_heardOf 12 = .ok (.iload_n 1, 1) := by decide +kernel
theorem dX7_heardOf_13 : decode cX7_heardOf 13 = .ok (.iaload, 1) := by decide +kernel
theorem dX7_heardOf_14 : decode cX7_heardOf 14 = .ok (.if_icmp .ge 143, 3) := by decide +kernel
theorem dX7_heardOf_17 : decode cX7_heardOf 17 = .ok (.aload_n 0, 1) := by decide +kernel
theorem dX7_heardOf_18 : decode cX7_heardOf 18 = .ok (.iconst 0, 1) := by decide +kernel
theorem dX7_heardOf_19 : decode cX7_heardOf 19 = .ok (.iload_n 2, 1) := by decide +kernel
theorem dX7_heardOf_20 : decode cX7_heardOf 20 = .ok (.iload 7, 2) := by decide +kernel
theorem dX7_heardOf_22 : decode cX7_heardOf 22 = .ok (.iadd, 1) := by decide +kernel
theorem dX7_heardOf_23 : decode cX7_heardOf 23 = .ok (.invokevirtual 94, 3) := by decide +kernel
theorem dX7_heardOf_26 : decode cX7_heardOf 26 = .ok (.istore 8, 2) := by decide +kernel
theorem dX7_heardOf_28 : decode cX7_heardOf 28 = .ok (.aload_n 0, 1) := by decide +kernel
theorem dX7_heardOf_29 : decode cX7_heardOf 29 = .ok (.iconst 1, 1) := by decide +kernel
theorem dX7_heardOf_30 : decode cX7_heardOf 30 = .ok (.iload_n 2, 1) := by decide +kernel
theorem dX7_heardOf_31 : decode cX7_heardOf 31 = .ok (.iload 7, 2) := by decide +kernel
theorem dX7_heardOf_33 : decode cX7_heardOf 33 = .ok (.iadd, 1) := by decide +kernel
theorem dX7_heardOf_34 : decode cX7_heardOf 34 = .ok (.invokevirtual 94, 3) := by decide +kernel
theorem dX7_heardOf_37 : decode cX7_heardOf 37 = .ok (.istore 9, 2) := by decide +kernel
theorem dX7_heardOf_39 : decode cX7_heardOf 39 = .ok (.iload 4, 2) := by decide +kernel
theorem dX7_heardOf_41 : decode cX7_heardOf 41 = .ok (.iload 7, 2) := by decide +kernel
theorem dX7_heardOf_43 : decode cX7_heardOf 43 = .ok (.imul, 1) := by decide +kernel
theorem dX7_heardOf_44 : decode cX7_heardOf 44 = .ok (.iconst 4, 1) := by decide +kernel
theorem dX7_heardOf_45 : decode cX7_heardOf 45 = .ok (.irem, 1) := by decide +kernel
theorem dX7_heardOf_46 : decode cX7_heardOf 46 = .ok (.istore 10, 2) := by decide +kernel
theorem dX7_heardOf_48 : decode cX7_heardOf 48 = .ok (.iload 10, 2) := by decide +kernel
theorem dX7_heardOf_50 : decode cX7_heardOf 50 = .ok (.ifCond .ne 8, 3) := by decide +kernel
theorem dX7_heardOf_53 : decode cX7_heardOf 53 = .ok (.iload 8, 2) := by decide +kernel
theorem dX7_heardOf_55 : decode cX7_heardOf 55 = .ok (.goto 29, 3) := by decide +kernel
theorem dX7_heardOf_58 : decode cX7_heardOf 58 = .ok (.iload 10, 2) := by decide +kernel
theorem dX7_heardOf_60 : decode cX7_heardOf 60 = .ok (.iconst 1, 1) := by decide +kernel
theorem dX7_heardOf_61 : decode cX7_heardOf 61 = .ok (.if_icmp .ne 8, 3) := by decide +kernel
theorem dX7_heardOf_64 : decode cX7_heardOf 64 = .ok (.iload 9, 2) := by decide +kernel
theorem dX7_heardOf_66 : decode cX7_heardOf 66 = .ok (.goto 18, 3) := by decide +kernel
theorem dX7_heardOf_69 : decode cX7_heardOf 69 = .ok (.iload 10, 2) := by decide +kernel
theorem dX7_heardOf_71 : decode cX7_heardOf 71 = .ok (.iconst 2, 1) := by decide +kernel
theorem dX7_heardOf_72 : decode cX7_heardOf 72 = .ok (.if_icmp .ne 9, 3) := by decide +kernel
theorem dX7_heardOf_75 : decode cX7_heardOf 75 = .ok (.iload 8, 2) := by decide +kernel
theorem dX7_heardOf_77 : decode cX7_heardOf 77 = .ok (.ineg, 1) := by decide +kernel
theorem dX7_heardOf_78 : decode cX7_heardOf 78 = .ok (.goto 6, 3) := by decide +kernel
theorem dX7_heardOf_81 : decode cX7_heardOf 81 = .ok (.iload 9, 2) := by decide +kernel
theorem dX7_heardOf_83 : decode cX7_heardOf 83 = .ok (.ineg, 1) := by decide +kernel
theorem dX7_heardOf_84 : decode cX7_heardOf 84 = .ok (.istore 11, 2) := by decide +kernel
theorem dX7_heardOf_86 : decode cX7_heardOf 86 = .ok (.iload 10, 2) := by decide +kernel
theorem dX7_heardOf_88 : decode cX7_heardOf 88 = .ok (.ifCond .ne 8, 3) := by decide +kernel
theorem dX7_heardOf_91 : decode cX7_heardOf 91 = .ok (.iload 9, 2) := by decide +kernel
theorem dX7_heardOf_93 : decode cX7_heardOf 93 = .ok (.goto 29, 3) := by decide +kernel
theorem dX7_heardOf_96 : decode cX7_heardOf 96 = .ok (.iload 10, 2) := by decide +kernel
theorem dX7_heardOf_98 : decode cX7_heardOf 98 = .ok (.iconst 1, 1) := by decide +kernel
theorem dX7_heardOf_99 : decode cX7_heardOf 99 = .ok (.if_icmp .ne 9, 3) := by decide +kernel
theorem dX7_heardOf_102 : decode cX7_heardOf 102 = .ok (.iload 8, 2) := by decide +kernel
theorem dX7_heardOf_104 : decode cX7_heardOf 104 = .ok (.ineg, 1) := by decide +kernel
theorem dX7_heardOf_105 : decode cX7_heardOf 105 = .ok (.goto 17, 3) := by decide +kernel
theorem dX7_heardOf_108 : decode cX7_heardOf 108 = .ok (.iload 10, 2) := by decide +kernel
theorem dX7_heardOf_110 : decode cX7_heardOf 110 = .ok (.iconst 2, 1) := by decide +kernel
theorem dX7_heardOf_111 : decode cX7_heardOf 111 = .ok (.if_icmp .ne 9, 3) := by decide +kernel
theorem dX7_heardOf_114 : decode cX7_heardOf 114 = .ok (.iload 9, 2) := by decide +kernel
theorem dX7_heardOf_116 : decode cX7_heardOf 116 = .ok (.ineg, 1) := by decide +kernel
theorem dX7_heardOf_117 : decode cX7_heardOf 117 = .ok (.goto 5, 3) := by decide +kernel
theorem dX7_heardOf_120 : decode cX7_heardOf 120 = .ok (.iload 8, 2) := by decide +kernel
theorem dX7_heardOf_122 : decode cX7_heardOf 122 = .ok (.istore 12, 2) := by decide +kernel
theorem dX7_heardOf_124 : decode cX7_heardOf 124 = .ok (.iload 6, 2) := by decide +kernel
theorem dX7_heardOf_126 : decode cX7_heardOf 126 = .ok (.aload_n 0, 1) := by decide +kernel
theorem dX7_heardOf_127 : decode cX7_heardOf 127 = .ok (.iload_n 1, 1) := by decide +kernel
theorem dX7_heardOf_128 : decode cX7_heardOf 128 = .ok (.iload 7, 2) := by decide +kernel
theorem dX7_heardOf_130 : decode cX7_heardOf 130 = .ok (.iload_n 3, 1) := by decide +kernel
theorem dX7_heardOf_131 : decode cX7_heardOf 131 = .ok (.iadd, 1) := by decide +kernel
theorem dX7_heardOf_132 : decode cX7_heardOf 132 = .ok (.invokevirtual 80, 3) := by decide +kernel
theorem dX7_heardOf_135 : decode cX7_heardOf 135 = .ok (.iload 5, 2) := by decide +kernel
theorem dX7_heardOf_137 : decode cX7_heardOf 137 = .ok (.ifCond .ne 8, 3) := by decide +kernel
theorem dX7_heardOf_140 : decode cX7_heardOf 140 = .ok (.iload 11, 2) := by decide +kernel
theorem dX7_heardOf_142 : decode cX7_heardOf 142 = .ok (.goto 5, 3) := by decide +kernel
theorem dX7_heardOf_145 : decode cX7_heardOf 145 = .ok (.iload 12, 2) := by decide +kernel
theorem dX7_heardOf_147 : decode cX7_heardOf 147 = .ok (.imul, 1) := by decide +kernel
theorem dX7_heardOf_148 : decode cX7_heardOf 148 = .ok (.iadd, 1) := by decide +kernel
theorem dX7_heardOf_149 : decode cX7_heardOf 149 = .ok (.istore 6, 2) := by decide +kernel
theorem dX7_heardOf_151 : decode cX7_heardOf 151 = .ok (.iinc 7 1, 3) := by decide +kernel
theorem dX7_heardOf_154 : decode cX7_heardOf 154 = .ok (.goto (-148), 3) := by decide +kernel
theorem dX7_heardOf_157 : decode cX7_heardOf 157 = .ok (.iload 6, 2) := by decide +kernel
theorem dX7_heardOf_159 : decode cX7_heardOf 159 = .ok (.ireturn, 1) := by decide +kernel
set_option maxRecDepth 20000 in
theorem ggX7_heard_X7_isRow : GoodIn wsX7_heard wsX7_isRow := goodIn_r _ [6, 7, 8, 5, 9] (by decide +kernel) (by decide +kernel)
set_option maxRecDepth 20000 in
theorem gX7_heard_X7_isRow : GoodIn wsX7_heard (va_wsS RX7 55 yX7_isRow wsX7_isRow) := goodIn_app (goodIn_of _ (by decide +kernel)) ggX7_heard_X7_isRow
set_option maxRecDepth 20000 in
theorem ggX7_heard_X7_in : GoodIn wsX7_heard wsX7_in := goodIn_r _ [9] (by decide +kernel) (by decide +kernel)
set_option maxRecDepth 20000 in
theorem gX7_heard_X7_in : GoodIn wsX7_heard (va_wsS RX7 51 yX7_in wsX7_in) := goodIn_app (goodIn_of _ (by decide +kernel)) ggX7_heard_X7_in
set_option maxRecDepth 20000 in
theorem ggX7_heard_X7_isShift : GoodIn wsX7_heard wsX7_isShift := goodIn_r _ [12, 7, 8, 5, 9] (by decide +kernel) (by decide +kernel)
set_option maxRecDepth 20000 in
theorem gX7_heard_X7_isShift : GoodIn wsX7_heard (va_wsS RX7 73 yX7_isShift wsX7_isShift) := goodIn_app (goodIn_of _ (by decide +kernel)) ggX7_heard_X7_isShift
set_option maxRecDepth 20000 in
theorem ggX7_heard_X7_heardOf : GoodIn wsX7_heard wsX7_heardOf := goodIn_r _ [16, 1, 17, 18, 19, 5, 20, 21, 22, 23, 7, 8, 9, 24, 25, 26, 27, 28, 29, 30, 31, 32, 33, 34, 35, 36, 37, 38, 39, 40, 41, 42, 43, 44, 45, 46, 47] (by decide +kernel) (by decide +kernel)
set_option maxRecDepth 20000 in
theorem gX7_heard_X7_heardOf : GoodIn wsX7_heard (wsV RX7 98 RX7 yX7_heardOf wsX7_heardOf) := goodIn_app (goodIn_of _ (by decide +kernel)) ggX7_heard_X7_heardOf
theorem dX7_heard_0 : decode cX7_heard 0 = .ok (.iload_n 1, 1) := by decide +kernel
theorem dX7_heard_1 : decode cX7_heard 1 = .ok (.invokestatic 55, 3) := by decide +kernel
theorem dX7_heard_4 : decode cX7_heard 4 = .ok (.ifCond .eq 50, 3) := by decide +kernel
theorem dX7_heard_7 : decode cX7_heard 7 = .ok (.iload_n 2, 1) := by decide +kernel
theorem dX7_heard_8 : decode cX7_heard 8 = .ok (.iconst 0, 1) := by decide +kernel
theorem dX7_heard_9 : decode cX7_heard 9 = .ok (.sipush 300, 3) := by decide +kernel
theorem dX7_heard_12 : decode cX7_heard 12 = .ok (.invokestatic 51, 3) := by decide +kernel
theorem dX7_heard_15 : decode cX7_heard 15 = .ok (.ifCond .eq 39, 3) := by decide +kernel
theorem dX7_heard_18 : decode cX7_heard 18 = .ok (.iload_n 3, 1) := by decide +kernel
theorem dX7_heard_19 : decode cX7_heard 19 = .ok (.invokestatic 73, 3) := by decide +kernel
theorem dX7_heard_22 : decode cX7_heard 22 = .ok (.ifCond .eq 32, 3) := by decide +kernel
theorem dX7_heard_25 : decode cX7_heard 25 = .ok (.iload 4, 2) := by decide +kernel
theorem dX7_heard_27 : decode cX7_heard 27 = .ok (.iconst 0, 1) := by decide +kernel
theorem dX7_heard_28 : decode cX7_heard 28 = .ok (.iconst 3, 1) := by decide +kernel
theorem dX7_heard_29 : decode cX7_heard 29 = .ok (.invokestatic 51, 3) := by decide +kernel
theorem dX7_heard_32 : decode cX7_heard 32 = .ok (.ifCond .eq 22, 3) := by decide +kernel
theorem dX7_heard_35 : decode cX7_heard 35 = .ok (.iload 5, 2) := by decide +kernel
theorem dX7_heard_37 : decode cX7_heard 37 = .ok (.iconst 0, 1) := by decide +kernel
theorem dX7_heard_38 : decode cX7_heard 38 = .ok (.iconst 1, 1) := by decide +kernel
theorem dX7_heard_39 : decode cX7_heard 39 = .ok (.invokestatic 51, 3) := by decide +kernel
theorem dX7_heard_42 : decode cX7_heard 42 = .ok (.ifCond .eq 12, 3) := by decide +kernel
theorem dX7_heard_45 : decode cX7_heard 45 = .ok (.aload_n 0, 1) := by decide +kernel
theorem dX7_heard_46 : decode cX7_heard 46 = .ok (.getfield 7, 3) := by decide +kernel
theorem dX7_heard_49 : decode cX7_heard 49 = .ok (.iload_n 1, 1) := by decide +kernel
theorem dX7_heard_50 : decode cX7_heard 50 = .ok (.iaload, 1) := by decide +kernel
theorem dX7_heard_51 : decode cX7_heard 51 = .ok (.ifCond .ne 6, 3) := by decide +kernel
theorem dX7_heard_54 : decode cX7_heard 54 = .ok (.ldc 97, 2) := by decide +kernel
theorem dX7_heard_56 : decode cX7_heard 56 = .ok (.ireturn, 1) := by decide +kernel
theorem dX7_heard_57 : decode cX7_heard 57 = .ok (.aload_n 0, 1) := by decide +kernel
theorem dX7_heard_58 : decode cX7_heard 58 = .ok (.iload_n 1, 1) := by decide +kernel
theorem dX7_heard_59 : decode cX7_heard 59 = .ok (.iload_n 2, 1) := by decide +kernel
theorem dX7_heard_60 : decode cX7_heard 60 = .ok (.iload_n 3, 1) := by decide +kernel
theorem dX7_heard_61 : decode cX7_heard 61 = .ok (.iload 4, 2) := by decide +kernel
theorem dX7_heard_63 : decode cX7_heard 63 = .ok (.iload 5, 2) := by decide +kernel
theorem dX7_heard_65 : decode cX7_heard 65 = .ok (.invokevirtual 98, 3) := by decide +kernel
theorem dX7_heard_68 : decode cX7_heard 68 = .ok (.ireturn, 1) := by decide +kernel
set_option maxRecDepth 20000 in
theorem ggX7_finds_X7_heardOf : GoodIn wsX7_finds wsX7_heardOf := goodIn_r _ [9, 4, 10, 11, 12, 8, 13, 14, 15, 16, 17, 18, 19, 20, 21, 22, 23, 24, 25, 26, 27, 28, 29, 30, 31, 32, 33, 34, 35, 36, 37, 38, 39, 40, 41, 42, 43] (by decide +kernel) (by decide +kernel)
set_option maxRecDepth 20000 in
theorem gX7_finds_X7_heardOf : GoodIn wsX7_finds (wsV RX7 98 RX7 yX7_heardOf wsX7_heardOf) := goodIn_app (goodIn_of _ (by decide +kernel)) ggX7_finds_X7_heardOf
theorem dX7_finds_0 : decode cX7_finds 0 = .ok (.iconst (-1), 1) := by decide +kernel
theorem dX7_finds_1 : decode cX7_finds 1 = .ok (.istore_n 3, 1) := by decide +kernel
theorem dX7_finds_2 : decode cX7_finds 2 = .ok (.aload_n 0, 1) := by decide +kernel
theorem dX7_finds_3 : decode cX7_finds 3 = .ok (.ldc2_w 102, 3) := by decide +kernel
theorem dX7_finds_6 : decode cX7_finds 6 = .ok (.putfield 104, 3) := by decide +kernel
theorem dX7_finds_9 : decode cX7_finds 9 = .ok (.aload_n 0, 1) := by decide +kernel
theorem dX7_finds_10 : decode cX7_finds 10 = .ok (.ldc2_w 102, 3) := by decide +kernel
theorem dX7_finds_13 : decode cX7_finds 13 = .ok (.putfield 108, 3) := by decide +kernel
theorem dX7_finds_16 : decode cX7_finds 16 = .ok (.iconst 0, 1) := by decide +kernel
theorem dX7_finds_17 : decode cX7_finds 17 = .ok (.istore 4, 2) := by decide +kernel
theorem dX7_finds_19 : decode cX7_finds 19 = .ok (.iload 4, 2) := by decide +kernel
theorem dX7_finds_21 : decode cX7_finds 21 = .ok (.iconst 4, 1) := by decide +kernel
theorem dX7_finds_22 : decode cX7_finds 22 = .ok (.if_icmp .ge 123, 3) := by decide +kernel
theorem dX7_finds_25 : decode cX7_finds 25 = .ok (.iconst 0, 1) := by decide +kernel
theorem dX7_finds_26 : decode cX7_finds 26 = .ok (.istore 5, 2) := by decide +kernel
theorem dX7_finds_28 : decode cX7_finds 28 = .ok (.iload 5, 2) := by decide +kernel
theorem dX7_finds_30 : decode cX7_finds 30 = .ok (.aload_n 0, 1) := by decide +kernel
theorem dX7_finds_31 : decode cX7_finds 31 = .ok (.getfield 7, 3) := by decide +kernel
theorem dX7_finds_34 : decode cX7_finds 34 = .ok (.iload_n 1, 1) := by decide +kernel
theorem dX7_finds_35 : decode cX7_finds 35 = .ok (.iaload, 1) := by decide +kernel
theorem dX7_finds_36 : decode cX7_finds 36 = .ok (.if_icmp .ge 103, 3) := by decide +kernel
theorem dX7_finds_39 : decode cX7_finds 39 = .ok (.aload_n 0, 1) := by decide +kernel
theorem dX7_finds_40 : decode cX7_finds 40 = .ok (.iload_n 1, 1) := by decide +kernel
theorem dX7_finds_41 : decode cX7_finds 41 = .ok (.iload_n 2, 1) := by decide +kernel
theorem dX7_finds_42 : decode cX7_finds 42 = .ok (.iload 5, 2) := by decide +kernel
theorem dX7_finds_44 : decode cX7_finds 44 = .ok (.iload 4, 2) := by decide +kernel
theorem dX7_finds_46 : decode cX7_finds 46 = .ok (.iconst 0, 1) := by decide +kernel
theorem dX7_finds_47 : decode cX7_finds 47 = .ok (.invokevirtual 98, 3) := by decide +kernel
theorem dX7_finds_50 : decode cX7_finds 50 = .ok (.i2l, 1) := by decide +kernel
theorem dX7_finds_51 : decode cX7_finds 51 = .ok (.lstore 6, 2) := by decide +kernel
theorem dX7_finds_53 : decode cX7_finds 53 = .ok (.aload_n 0, 1) := by decide +kernel
theorem dX7_finds_54 : decode cX7_finds 54 = .ok (.iload_n 1, 1) := by decide +kernel
theorem dX7_finds_55 : decode cX7_finds 55 = .ok (.iload_n 2, 1) := by decide +kernel
theorem dX7_finds_56 : decode cX7_finds 56 = .ok (.iload 5, 2) := by decide +kernel
theorem dX7_finds_58 : decode cX7_finds 58 = .ok (.iload 4, 2) := by decide +kernel
theorem dX7_finds_60 : decode cX7_finds 60 = .ok (.iconst 1, 1) := by decide +kernel
theorem dX7_finds_61 : decode cX7_finds 61 = .ok (.invokevirtual 98, 3) := by decide +kernel
theorem dX7_finds_64 : decode cX7_finds 64 = .ok (.i2l, 1) := by decide +kernel
theorem dX7_finds_65 : decode cX7_finds 65 = .ok (.lstore 8, 2) := by decide +kernel
theorem dX7_finds_67 : decode cX7_finds 67 = .ok (.lload 6, 2) := by decide +kernel
theorem dX7_finds_69 : decode cX7_finds 69 = .ok (.lload 6, 2) := by decide +kernel
theorem dX7_finds_71 : decode cX7_finds 71 = .ok (.lmul, 1) := by decide +kernel
theorem dX7_finds_72 : decode cX7_finds 72 = .ok (.lload 8, 2) := by decide +kernel
theorem dX7_finds_74 : decode cX7_finds 74 = .ok (.lload 8, 2) := by decide +kernel
theorem dX7_finds_76 : decode cX7_finds 76 = .ok (.lmul, 1) := by decide +kernel
theorem dX7_finds_77 : decode cX7_finds 77 = .ok (.ladd, 1) := by decide +kernel
theorem dX7_finds_78 : decode cX7_finds 78 = .ok (.lstore 10, 2) := by decide +kernel
theorem dX7_finds_80 : decode cX7_finds 80 = .ok (.lload 10, 2) := by decide +kernel
theorem dX7_finds_82 : decode cX7_finds 82 = .ok (.aload_n 0, 1) := by decide +kernel
theorem dX7_finds_83 : decode cX7_finds 83 = .ok (.getfield 104, 3) := by decide +kernel
theorem dX7_finds_86 : decode cX7_finds 86 = .ok (.lcmp, 1) := by decide +kernel
theorem dX7_finds_87 : decode cX7_finds 87 = .ok (.ifCond .le 30, 3) := by decide +kernel
theorem dX7_finds_90 : decode cX7_finds 90 = .ok (.aload_n 0, 1) := by decide +kernel
theorem dX7_finds_91 : decode cX7_finds 91 = .ok (.aload_n 0, 1) := by decide +kernel
theorem dX7_finds_92 : decode cX7_finds 92 = .ok (.getfield 104, 3) := by decide +kernel
theorem dX7_finds_95 : decode cX7_finds 95 = .ok (.putfield 108, 3) := by decide +kernel
theorem dX7_finds_98 : decode cX7_finds 98 = .ok (.aload_n 0, 1) := by decide +kernel
theorem dX7_finds_99 : decode cX7_finds 99 = .ok (.lload 10, 2) := by decide +kernel
theorem dX7_finds_101 : decode cX7_finds 101 = .ok (.putfield 104, 3) := by decide +kernel
theorem dX7_finds_104 : decode cX7_finds 104 = .ok (.sipush 1000, 3) := by decide +kernel
theorem dX7_finds_107 : decode cX7_finds 107 = .ok (.iload 4, 2) := by decide +kernel
theorem dX7_finds_109 : decode cX7_finds 109 = .ok (.imul, 1) := by decide +kernel
theorem dX7_finds_110 : decode cX7_finds 110 = .ok (.iload 5, 2) := by decide +kernel
theorem dX7_finds_112 : decode cX7_finds 112 = .ok (.iadd, 1) := by decide +kernel
theorem dX7_finds_113 : decode cX7_finds 113 = .ok (.istore_n 3, 1) := by decide +kernel
theorem dX7_finds_114 : decode cX7_finds 114 = .ok (.goto 19, 3) := by decide +kernel
theorem dX7_finds_117 : decode cX7_finds 117 = .ok (.lload 10, 2) := by decide +kernel
theorem dX7_finds_119 : decode cX7_finds 119 = .ok (.aload_n 0, 1) := by decide +kernel
theorem dX7_finds_120 : decode cX7_finds 120 = .ok (.getfield 108, 3) := by decide +kernel
theorem dX7_finds_123 : decode cX7_finds 123 = .ok (.lcmp, 1) := by decide +kernel
theorem dX7_finds_124 : decode cX7_finds 124 = .ok (.ifCond .le 9, 3) := by decide +kernel
theorem dX7_finds_127 : decode cX7_finds 127 = .ok (.aload_n 0, 1) := by decide +kernel
theorem dX7_finds_128 : decode cX7_finds 128 = .ok (.lload 10, 2) := by decide +kernel
theorem dX7_finds_130 : decode cX7_finds 130 = .ok (.putfield 108, 3) := by decide +kernel
theorem dX7_finds_133 : decode cX7_finds 133 = .ok (.iinc 5 1, 3) := by decide +kernel
theorem dX7_finds_136 : decode cX7_finds 136 = .ok (.goto (-108), 3) := by decide +kernel
theorem dX7_finds_139 : decode cX7_finds 139 = .ok (.iinc 4 1, 3) := by decide +kernel
theorem dX7_finds_142 : decode cX7_finds 142 = .ok (.goto (-123), 3) := by decide +kernel
theorem dX7_finds_145 : decode cX7_finds 145 = .ok (.iload_n 3, 1) := by decide +kernel
theorem dX7_finds_146 : decode cX7_finds 146 = .ok (.ireturn, 1) := by decide +kernel
set_option maxRecDepth 20000 in
theorem ggX7_refuses_X7_isRow : GoodIn wsX7_refuses wsX7_isRow := goodIn_r _ [5, 6, 7, 4, 8] (by decide +kernel) (by decide +kernel)
set_option maxRecDepth 20000 in
theorem gX7_refuses_X7_isRow : GoodIn wsX7_refuses (va_wsS RX7 55 yX7_isRow wsX7_isRow) := goodIn_app (goodIn_of _ (by decide +kernel)) ggX7_refuses_X7_isRow
set_option maxRecDepth 20000 in
theorem ggX7_refuses_X7_in : GoodIn wsX7_refuses wsX7_in := goodIn_r _ [8] (by decide +kernel) (by decide +kernel)
set_option maxRecDepth 20000 in
theorem gX7_refuses_X7_in : GoodIn wsX7_refuses (va_wsS RX7 51 yX7_in wsX7_in) := goodIn_app (goodIn_of _ (by decide +kernel)) ggX7_refuses_X7_in
theorem dX7_refuses_0 : decode cX7_refuses 0 = .ok (.iload_n 1, 1) := by decide +kernel
theorem dX7_refuses_1 : decode cX7_refuses 1 = .ok (.invokestatic 55, 3) := by decide +kernel
theorem dX7_refuses_4 : decode cX7_refuses 4 = .ok (.ifCond .eq 14, 3) := by decide +kernel
theorem dX7_refuses_7 : decode cX7_refuses 7 = .ok (.iload_n 2, 1) := by decide +kernel
theorem dX7_refuses_8 : decode cX7_refuses 8 = .ok (.iconst 0, 1) := by decide +kernel
theorem dX7_refuses_9 : decode cX7_refuses 9 = .ok (.sipush 300, 3) := by decide +kernel
theorem dX7_refuses_12 : decode cX7_refuses 12 = .ok (.invokestatic 51, 3) := by decide +kernel
theorem dX7_refuses_15 : decode cX7_refuses 15 = .ok (.ifCond .ne 8, 3) := by decide +kernel
theorem dX7_refuses_18 : decode cX7_refuses 18 = .ok (.bipush (-2), 2) := by decide +kernel
theorem dX7_refuses_20 : decode cX7_refuses 20 = .ok (.goto 18, 3) := by decide +kernel
theorem dX7_refuses_23 : decode cX7_refuses 23 = .ok (.aload_n 0, 1) := by decide +kernel
theorem dX7_refuses_24 : decode cX7_refuses 24 = .ok (.getfield 7, 3) := by decide +kernel
theorem dX7_refuses_27 : decode cX7_refuses 27 = .ok (.iload_n 1, 1) := by decide +kernel
theorem dX7_refuses_28 : decode cX7_refuses 28 = .ok (.iaload, 1) := by decide +kernel
theorem dX7_refuses_29 : decode cX7_refuses 29 = .ok (.ifCond .ne 8, 3) := by decide +kernel
theorem dX7_refuses_32 : decode cX7_refuses 32 = .ok (.bipush (-3), 2) := by decide +kernel
theorem dX7_refuses_34 : decode cX7_refuses 34 = .ok (.goto 4, 3) := by decide +kernel
theorem dX7_refuses_37 : decode cX7_refuses 37 = .ok (.iconst 0, 1) := by decide +kernel
theorem dX7_refuses_38 : decode cX7_refuses 38 = .ok (.ireturn, 1) := by decide +kernel
set_option maxRecDepth 20000 in
theorem ggX7_search_X7_refuses : GoodIn wsX7_search wsX7_refuses := goodIn_r _ [5, 6, 7, 8, 4, 9, 10, 11, 12, 36, 37, 38, 39, 40, 41, 42, 43, 44, 45, 46, 47, 48, 49, 50, 51, 52, 53, 54] (by decide +kernel) (by decide +kernel)
set_option maxRecDepth 20000 in
theorem gX7_search_X7_refuses : GoodIn wsX7_search (wsV RX7 111 RX7 yX7_refuses wsX7_refuses) := goodIn_app (goodIn_of _ (by decide +kernel)) ggX7_search_X7_refuses
set_option maxRecDepth 20000 in
theorem ggX7_search_X7_finds : GoodIn wsX7_search wsX7_finds := goodIn_r _ [16, 17, 18, 19, 6, 20, 21, 22, 4, 23, 24, 25, 26, 27, 28, 29, 30, 10, 11, 12, 31, 32, 33, 34, 35, 36, 37, 38, 39, 40, 41, 42, 43, 44, 45, 46, 47, 48, 49, 50, 51, 52, 53, 54] (by decide +kernel) (by decide +kernel)
set_option maxRecDepth 20000 in
theorem gX7_search_X7_finds : GoodIn wsX7_search (wsV RX7 114 RX7 yX7_finds wsX7_finds) := goodIn_app (goodIn_of _ (by decide +kernel)) ggX7_search_X7_finds
theorem dX7_search_0 : decode cX7_search 0 = .ok (.aload_n 0, 1) := by decide +kernel
theorem dX7_search_1 : decode cX7_search 1 = .ok (.iload_n 1, 1) := by decide +kernel
theorem dX7_search_2 : decode cX7_search 2 = .ok (.iload_n 2, 1) := by decide +kernel
theorem dX7_search_3 : decode cX7_search 3 = .ok (.invokevirtual 111, 3) := by decide +kernel
theorem dX7_search_6 : decode cX7_search 6 = .ok (.istore_n 3, 1) := by decide +kernel
theorem dX7_search_7 : decode cX7_search 7 = .ok (.iload_n 3, 1) := by decide +kernel
theorem dX7_search_8 : decode cX7_search 8 = .ok (.ifCond .eq 7, 3) := by decide +kernel
theorem dX7_search_11 : decode cX7_search 11 = .ok (.iload_n 3, 1) := by decide +kernel
theorem dX7_search_12 : decode cX7_search 12 = .ok (.goto 9, 3) := by decide +kernel
theorem dX7_search_15 : decode cX7_search 15 = .ok (.aload_n 0, 1) := by decide +kernel
theorem dX7_search_16 : decode cX7_search 16 = .ok (.iload_n 1, 1) := by decide +kernel
theorem dX7_search_17 : decode cX7_search 17 = .ok (.iload_n 2, 1) := by decide +kernel
theorem dX7_search_18 : decode cX7_search 18 = .ok (.invokevirtual 114, 3) := by decide +kernel
theorem dX7_search_21 : decode cX7_search 21 = .ok (.ireturn, 1) := by decide +kernel
set_option maxRecDepth 20000 in
theorem ggX7_sure_X7_refuses : GoodIn wsX7_sure wsX7_refuses := goodIn_r _ [9, 10, 11, 12, 8, 13, 14, 15, 16, 38, 39, 40, 41, 42, 43, 44, 45, 46, 47, 48, 49, 50, 51, 52, 53, 54, 55, 56] (by decide +kernel) (by decide +kernel)
set_option maxRecDepth 20000 in
theorem gX7_sure_X7_refuses : GoodIn wsX7_sure (wsV RX7 111 RX7 yX7_refuses wsX7_refuses) := goodIn_app (goodIn_of _ (by decide +kernel)) ggX7_sure_X7_refuses
set_option maxRecDepth 20000 in
theorem ggX7_sure_X7_finds : GoodIn wsX7_sure wsX7_finds := goodIn_r _ [20, 21, 1, 3, 10, 22, 23, 24, 8, 25, 26, 27, 28, 29, 30, 31, 32, 14, 15, 16, 33, 34, 35, 36, 37, 38, 39, 40, 41, 42, 43, 44, 45, 46, 47, 48, 49, 50, 51, 52, 53, 54, 55, 56] (by decide +kernel) (by decide +kernel)
set_option maxRecDepth 20000 in
theorem gX7_sure_X7_finds : GoodIn wsX7_sure (wsV RX7 114 RX7 yX7_finds wsX7_finds) := goodIn_app (goodIn_of _ (by decide +kernel)) ggX7_sure_X7_finds
theorem dX7_sure_0 : decode cX7_sure 0 = .ok (.aload_n 0, 1) := by decide +kernel
theorem dX7_sure_1 : decode cX7_sure 1 = .ok (.iload_n 1, 1) := by decide +kernel
theorem dX7_sure_2 : decode cX7_sure 2 = .ok (.iload_n 2, 1) := by decide +kernel
theorem dX7_sure_3 : decode cX7_sure 3 = .ok (.invokevirtual 111, 3) := by decide +kernel
theorem dX7_sure_6 : decode cX7_sure 6 = .ok (.istore_n 3, 1) := by decide +kernel
theorem dX7_sure_7 : decode cX7_sure 7 = .ok (.iload_n 3, 1) := by decide +kernel
theorem dX7_sure_8 : decode cX7_sure 8 = .ok (.ifCond .eq 5, 3) := by decide +kernel
theorem dX7_sure_11 : decode cX7_sure 11 = .ok (.iload_n 3, 1) := by decide +kernel
theorem dX7_sure_12 : decode cX7_sure 12 = .ok (.ireturn, 1) := by decide +kernel
theorem dX7_sure_13 : decode cX7_sure 13 = .ok (.aload_n 0, 1) := by decide +kernel
theorem dX7_sure_14 : decode cX7_sure 14 = .ok (.iload_n 1, 1) := by decide +kernel
theorem dX7_sure_15 : decode cX7_sure 15 = .ok (.iload_n 2, 1) := by decide +kernel
theorem dX7_sure_16 : decode cX7_sure 16 = .ok (.invokevirtual 114, 3) := by decide +kernel
theorem dX7_sure_19 : decode cX7_sure 19 = .ok (.istore 4, 2) := by decide +kernel
theorem dX7_sure_21 : decode cX7_sure 21 = .ok (.aload_n 0, 1) := by decide +kernel
theorem dX7_sure_22 : decode cX7_sure 22 = .ok (.getfield 104, 3) := by decide +kernel
theorem dX7_sure_25 : decode cX7_sure 25 = .ok (.lconst 0, 1) := by decide +kernel
theorem dX7_sure_26 : decode cX7_sure 26 = .ok (.lcmp, 1) := by decide +kernel
theorem dX7_sure_27 : decode cX7_sure 27 = .ok (.ifCond .le 29, 3) := by decide +kernel
theorem dX7_sure_30 : decode cX7_sure 30 = .ok (.ldc2_w 117, 3) := by decide +kernel
theorem dX7_sure_33 : decode cX7_sure 33 = .ok (.aload_n 0, 1) := by decide +kernel
theorem dX7_sure_34 : decode cX7_sure 34 = .ok (.getfield 108, 3) := by decide +kernel
theorem dX7_sure_37 : decode cX7_sure 37 = .ok (.lmul, 1) := by decide +kernel
theorem dX7_sure_38 : decode cX7_sure 38 = .ok (.aload_n 0, 1) := by decide +kernel
theorem dX7_sure_39 : decode cX7_sure 39 = .ok (.getfield 19, 3) := by decide +kernel
theorem dX7_sure_42 : decode cX7_sure 42 = .ok (.i2l, 1) := by decide +kernel
theorem dX7_sure_43 : decode cX7_sure 43 = .ok (.aload_n 0, 1) := by decide +kernel
theorem dX7_sure_44 : decode cX7_sure 44 = .ok (.getfield 104, 3) := by decide +kernel
theorem dX7_sure_47 : decode cX7_sure 47 = .ok (.lmul, 1) := by decide +kernel
theorem dX7_sure_48 : decode cX7_sure 48 = .ok (.lcmp, 1) := by decide +kernel
theorem dX7_sure_49 : decode cX7_sure 49 = .ok (.ifCond .gt 7, 3) := by decide +kernel
theorem dX7_sure_52 : decode cX7_sure 52 = .ok (.iconst 1, 1) := by decide +kernel
theorem dX7_sure_53 : decode cX7_sure 53 = .ok (.goto 4, 3) := by decide +kernel
theorem dX7_sure_56 : decode cX7_sure 56 = .ok (.iconst 0, 1) := by decide +kernel
theorem dX7_sure_57 : decode cX7_sure 57 = .ok (.ireturn, 1) := by decide +kernel
set_option maxRecDepth 20000 in
theorem ggX7_power_X7_refuses : GoodIn wsX7_power wsX7_refuses := goodIn_r _ [7, 8, 9, 10, 6, 11, 12, 13, 14, 37, 38, 39, 40, 41, 42, 43, 44, 45, 46, 47, 48, 49, 50, 51, 52, 53, 54, 55] (by decide +kernel) (by decide +kernel)
set_option maxRecDepth 20000 in
theorem gX7_power_X7_refuses : GoodIn wsX7_power (wsV RX7 111 RX7 yX7_refuses wsX7_refuses) := goodIn_app (goodIn_of _ (by decide +kernel)) ggX7_power_X7_refuses
set_option maxRecDepth 20000 in
theorem ggX7_power_X7_finds : GoodIn wsX7_power wsX7_finds := goodIn_r _ [18, 19, 2, 20, 8, 21, 22, 23, 6, 24, 25, 26, 27, 28, 29, 30, 31, 12, 13, 14, 32, 33, 34, 35, 36, 37, 38, 39, 40, 41, 42, 43, 44, 45, 46, 47, 48, 49, 50, 51, 52, 53, 54, 55] (by decide +kernel) (by decide +kernel)
set_option maxRecDepth 20000 in
theorem gX7_power_X7_finds : GoodIn wsX7_power (wsV RX7 114 RX7 yX7_finds wsX7_finds) := goodIn_app (goodIn_of _ (by decide +kernel)) ggX7_power_X7_finds
theorem dX7_power_0 : decode cX7_power 0 = .ok (.aload_n 0, 1) := by decide +kernel
theorem dX7_power_1 : decode cX7_power 1 = .ok (.iload_n 1, 1) := by decide +kernel
theorem dX7_power_2 : decode cX7_power 2 = .ok (.iload_n 2, 1) := by decide +kernel
theorem dX7_power_3 : decode cX7_power 3 = .ok (.invokevirtual 111, 3) := by decide +kernel
theorem dX7_power_6 : decode cX7_power 6 = .ok (.istore_n 3, 1) := by decide +kernel
theorem dX7_power_7 : decode cX7_power 7 = .ok (.iload_n 3, 1) := by decide +kernel
theorem dX7_power_8 : decode cX7_power 8 = .ok (.ifCond .eq 10, 3) := by decide +kernel
theorem dX7_power_11 : decode cX7_power 11 = .ok (.ldc2_w 119, 3) := by decide +kernel
theorem dX7_power_14 : decode cX7_power 14 = .ok (.iload_n 3, 1) := by decide +kernel
theorem dX7_power_15 : decode cX7_power 15 = .ok (.i2l, 1) := by decide +kernel
theorem dX7_power_16 : decode cX7_power 16 = .ok (.lsub, 1) := by decide +kernel
theorem dX7_power_17 : decode cX7_power 17 = .ok (.lreturn, 1) := by decide +kernel
theorem dX7_power_18 : decode cX7_power 18 = .ok (.aload_n 0, 1) := by decide +kernel
theorem dX7_power_19 : decode cX7_power 19 = .ok (.iload_n 1, 1) := by decide +kernel
theorem dX7_power_20 : decode cX7_power 20 = .ok (.iload_n 2, 1) := by decide +kernel
theorem dX7_power_21 : decode cX7_power 21 = .ok (.invokevirtual 114, 3) := by decide +kernel
theorem dX7_power_24 : decode cX7_power 24 = .ok (.istore 4, 2) := by decide +kernel
theorem dX7_power_26 : decode cX7_power 26 = .ok (.aload_n 0, 1) := by decide +kernel
theorem dX7_power_27 : decode cX7_power 27 = .ok (.getfield 104, 3) := by decide +kernel
theorem dX7_power_30 : decode cX7_power 30 = .ok (.lreturn, 1) := by decide +kernel
set_option maxRecDepth 20000 in
theorem ggX7_doubt_X7_in : GoodIn wsX7_doubt wsX7_in := goodIn_r _ [5] (by decide +kernel) (by decide +kernel)
set_option maxRecDepth 20000 in
theorem gX7_doubt_X7_in : GoodIn wsX7_doubt (va_wsS RX7 51 yX7_in wsX7_in) := goodIn_app (goodIn_of _ (by decide +kernel)) ggX7_doubt_X7_in
theorem dX7_doubt_0 : decode cX7_doubt 0 = .ok (.iload_n 1, 1) := by decide +kernel
theorem dX7_doubt_1 : decode cX7_doubt 1 = .ok (.iconst 0, 1) := by decide +kernel
theorem dX7_doubt_2 : decode cX7_doubt 2 = .ok (.bipush 100, 2) := by decide +kernel
theorem dX7_doubt_4 : decode cX7_doubt 4 = .ok (.invokestatic 51, 3) := by decide +kernel
theorem dX7_doubt_7 : decode cX7_doubt 7 = .ok (.ifCond .ne 6, 3) := by decide +kernel
theorem dX7_doubt_10 : decode cX7_doubt 10 = .ok (.bipush (-2), 2) := by decide +kernel
theorem dX7_doubt_12 : decode cX7_doubt 12 = .ok (.ireturn, 1) := by decide +kernel
theorem dX7_doubt_13 : decode cX7_doubt 13 = .ok (.aload_n 0, 1) := by decide +kernel
theorem dX7_doubt_14 : decode cX7_doubt 14 = .ok (.getfield 19, 3) := by decide +kernel
theorem dX7_doubt_17 : decode cX7_doubt 17 = .ok (.istore_n 2, 1) := by decide +kernel
theorem dX7_doubt_18 : decode cX7_doubt 18 = .ok (.aload_n 0, 1) := by decide +kernel
theorem dX7_doubt_19 : decode cX7_doubt 19 = .ok (.iload_n 1, 1) := by decide +kernel
theorem dX7_doubt_20 : decode cX7_doubt 20 = .ok (.putfield 19, 3) := by decide +kernel
theorem dX7_doubt_23 : decode cX7_doubt 23 = .ok (.iload_n 2, 1) := by decide +kernel
theorem dX7_doubt_24 : decode cX7_doubt 24 = .ok (.ireturn, 1) := by decide +kernel
set_option maxRecDepth 20000 in
theorem ggX7_peel_X7_in : GoodIn wsX7_peel wsX7_in := goodIn_r _ [8] (by decide +kernel) (by decide +kernel)
set_option maxRecDepth 20000 in
theorem gX7_peel_X7_in : GoodIn wsX7_peel (va_wsS RX7 51 yX7_in wsX7_in) := goodIn_app (goodIn_of _ (by decide +kernel)) ggX7_peel_X7_in
set_option maxRecDepth 20000 in
theorem ggX7_peel_X7_sample : GoodIn wsX7_peel wsX7_sample := goodIn_r _ [12, 13, 14, 15, 5, 6, 7, 8, 26, 27, 28, 29, 30, 31, 32, 33, 34, 35, 36, 37, 38, 39, 40, 41, 42, 43, 44] (by decide +kernel) (by decide +kernel)
set_option maxRecDepth 20000 in
theorem gX7_peel_X7_sample : GoodIn wsX7_peel (wsV RX7 94 RX7 yX7_sample wsX7_sample) := goodIn_app (goodIn_of _ (by decide +kernel)) ggX7_peel_X7_sample
set_option maxRecDepth 20000 in
theorem ggX7_peel_X7_takesOff : GoodIn wsX7_peel wsX7_takesOff := goodIn_r _ [19, 1, 2, 20, 3, 21, 22, 23, 7, 24, 25, 26, 27, 28, 29, 30, 31, 32, 33, 34, 35, 36, 37, 38, 39, 40, 41, 42, 43, 44] (by decide +kernel) (by decide +kernel)
set_option maxRecDepth 20000 in
theorem gX7_peel_X7_takesOff : GoodIn wsX7_peel (wsV RX7 124 RX7 yX7_takesOff wsX7_takesOff) := goodIn_app (goodIn_of _ (by decide +kernel)) ggX7_peel_X7_takesOff
theorem dX7_peel_0 : decode cX7_peel 0 = .ok (.iload_n 1, 1) := by decide +kernel
theorem dX7_peel_1 : decode cX7_peel 1 = .ok (.iconst 0, 1) := by decide +kernel
theorem dX7_peel_2 : decode cX7_peel 2 = .ok (.sipush 300, 3) := by decide +kernel
theorem dX7_peel_5 : decode cX7_peel 5 = .ok (.invokestatic 51, 3) := by decide +kernel
theorem dX7_peel_8 : decode cX7_peel 8 = .ok (.ifCond .eq 13, 3) := by decide +kernel
theorem dX7_peel_11 : decode cX7_peel 11 = .ok (.iload_n 2, 1) := by decide +kernel
theorem dX7_peel_12 : decode cX7_peel 12 = .ok (.iconst 1, 1) := by decide +kernel
theorem dX7_peel_13 : decode cX7_peel 13 = .ok (.bipush 127, 2) := by decide +kernel
theorem dX7_peel_15 : decode cX7_peel 15 = .ok (.invokestatic 51, 3) := by decide +kernel
theorem dX7_peel_18 : decode cX7_peel 18 = .ok (.ifCond .ne 6, 3) := by decide +kernel
theorem dX7_peel_21 : decode cX7_peel 21 = .ok (.bipush (-2), 2) := by decide +kernel
theorem dX7_peel_23 : decode cX7_peel 23 = .ok (.ireturn, 1) := by decide +kernel
theorem dX7_peel_24 : decode cX7_peel 24 = .ok (.iconst 0, 1) := by decide +kernel
theorem dX7_peel_25 : decode cX7_peel 25 = .ok (.istore_n 3, 1) := by decide +kernel
theorem dX7_peel_26 : decode cX7_peel 26 = .ok (.iconst 0, 1) := by decide +kernel
theorem dX7_peel_27 : decode cX7_peel 27 = .ok (.istore 4, 2) := by decide +kernel
theorem dX7_peel_29 : decode cX7_peel 29 = .ok (.iload 4, 2) := by decide +kernel
theorem dX7_peel_31 : decode cX7_peel 31 = .ok (.bipush 8, 2) := by decide +kernel
theorem dX7_peel_33 : decode cX7_peel 33 = .ok (.if_icmp .ge 28, 3) := by decide +kernel
theorem dX7_peel_36 : decode cX7_peel 36 = .ok (.iload_n 3, 1) := by decide +kernel
theorem dX7_peel_37 : decode cX7_peel 37 = .ok (.aload_n 0, 1) := by decide +kernel
theorem dX7_peel_38 : decode cX7_peel 38 = .ok (.getfield 7, 3) := by decide +kernel
theorem dX7_peel_41 : decode cX7_peel 41 = .ok (.iload 4, 2) := by decide +kernel
theorem dX7_peel_43 : decode cX7_peel 43 = .ok (.iaload, 1) := by decide +kernel
theorem dX7_peel_44 : decode cX7_peel 44 = .ok (.iload_n 2, 1) := by decide +kernel
theorem dX7_peel_45 : decode cX7_peel 45 = .ok (.if_icmp .ne 7, 3) := by decide +kernel
theorem dX7_peel_48 : decode cX7_peel 48 = .ok (.iconst 1, 1) := by decide +kernel
theorem dX7_peel_49 : decode cX7_peel 49 = .ok (.goto 4, 3) := by decide +kernel
theorem dX7_peel_52 : decode cX7_peel 52 = .ok (.iconst 0, 1) := by decide +kernel
theorem dX7_peel_53 : decode cX7_peel 53 = .ok (.ior, 1) := by decide +kernel
theorem dX7_peel_54 : decode cX7_peel 54 = .ok (.istore_n 3, 1) := by decide +kernel
theorem dX7_peel_55 : decode cX7_peel 55 = .ok (.iinc 4 1, 3) := by decide +kernel
theorem dX7_peel_58 : decode cX7_peel 58 = .ok (.goto (-29), 3) := by decide +kernel
theorem dX7_peel_61 : decode cX7_peel 61 = .ok (.iload_n 3, 1) := by decide +kernel
theorem dX7_peel_62 : decode cX7_peel 62 = .ok (.ifCond .ne 6, 3) := by decide +kernel
theorem dX7_peel_65 : decode cX7_peel 65 = .ok (.bipush (-3), 2) := by decide +kernel
theorem dX7_peel_67 : decode cX7_peel 67 = .ok (.ireturn, 1) := by decide +kernel
theorem dX7_peel_68 : decode cX7_peel 68 = .ok (.iconst 0, 1) := by decide +kernel
theorem dX7_peel_69 : decode cX7_peel 69 = .ok (.istore 4, 2) := by decide +kernel
theorem dX7_peel_71 : decode cX7_peel 71 = .ok (.iload 4, 2) := by decide +kernel
theorem dX7_peel_73 : decode cX7_peel 73 = .ok (.iload_n 2, 1) := by decide +kernel
theorem dX7_peel_74 : decode cX7_peel 74 = .ok (.if_icmp .ge 25, 3) := by decide +kernel
theorem dX7_peel_77 : decode cX7_peel 77 = .ok (.aload_n 0, 1) := by decide +kernel
theorem dX7_peel_78 : decode cX7_peel 78 = .ok (.getfield 26, 3) := by decide +kernel
theorem dX7_peel_81 : decode cX7_peel 81 = .ok (.iload 4, 2) := by decide +kernel
theorem dX7_peel_83 : decode cX7_peel 83 = .ok (.aload_n 0, 1) := by decide +kernel
theorem dX7_peel_84 : decode cX7_peel 84 = .ok (.iconst 0, 1) := by decide +kernel
theorem dX7_peel_85 : decode cX7_peel 85 = .ok (.iload_n 1, 1) := by decide +kernel
theorem dX7_peel_86 : decode cX7_peel 86 = .ok (.iload 4, 2) := by decide +kernel
theorem dX7_peel_88 : decode cX7_peel 88 = .ok (.iadd, 1) := by decide +kernel
theorem dX7_peel_89 : decode cX7_peel 89 = .ok (.invokevirtual 94, 3) := by decide +kernel
theorem dX7_peel_92 : decode cX7_peel 92 = .ok (.iastore, 1) := by decide +kernel
theorem dX7_peel_93 : decode cX7_peel 93 = .ok (.iinc 4 1, 3) := by decide +kernel
theorem dX7_peel_96 : decode cX7_peel 96 = .ok (.goto (-25), 3) := by decide +kernel
theorem dX7_peel_99 : decode cX7_peel 99 = .ok (.aload_n 0, 1) := by decide +kernel
theorem dX7_peel_100 : decode cX7_peel 100 = .ok (.iconst 0, 1) := by decide +kernel
theorem dX7_peel_101 : decode cX7_peel 101 = .ok (.putfield 121, 3) := by decide +kernel
theorem dX7_peel_104 : decode cX7_peel 104 = .ok (.aload_n 0, 1) := by decide +kernel
theorem dX7_peel_105 : decode cX7_peel 105 = .ok (.getfield 121, 3) := by decide +kernel
theorem dX7_peel_108 : decode cX7_peel 108 = .ok (.bipush 20, 2) := by decide +kernel
theorem dX7_peel_110 : decode cX7_peel 110 = .ok (.if_icmp .ge 24, 3) := by decide +kernel
theorem dX7_peel_113 : decode cX7_peel 113 = .ok (.aload_n 0, 1) := by decide +kernel
theorem dX7_peel_114 : decode cX7_peel 114 = .ok (.iload_n 2, 1) := by decide +kernel
theorem dX7_peel_115 : decode cX7_peel 115 = .ok (.invokevirtual 124, 3) := by decide +kernel
theorem dX7_peel_118 : decode cX7_peel 118 = .ok (.ifCond .eq 16, 3) := by decide +kernel
theorem dX7_peel_121 : decode cX7_peel 121 = .ok (.aload_n 0, 1) := by decide +kernel
theorem dX7_peel_122 : decode cX7_peel 122 = .ok (.dup, 1) := by decide +kernel
theorem dX7_peel_123 : decode cX7_peel 123 = .ok (.getfield 121, 3) := by decide +kernel
theorem dX7_peel_126 : decode cX7_peel 126 = .ok (.iconst 1, 1) := by decide +kernel
theorem dX7_peel_127 : decode cX7_peel 127 = .ok (.iadd, 1) := by decide +kernel
theorem dX7_peel_128 : decode cX7_peel 128 = .ok (.putfield 121, 3) := by decide +kernel
theorem dX7_peel_131 : decode cX7_peel 131 = .ok (.goto (-27), 3) := by decide +kernel
theorem dX7_peel_134 : decode cX7_peel 134 = .ok (.aload_n 0, 1) := by decide +kernel
theorem dX7_peel_135 : decode cX7_peel 135 = .ok (.lconst 0, 1) := by decide +kernel
theorem dX7_peel_136 : decode cX7_peel 136 = .ok (.putfield 127, 3) := by decide +kernel
theorem dX7_peel_139 : decode cX7_peel 139 = .ok (.iconst 0, 1) := by decide +kernel
theorem dX7_peel_140 : decode cX7_peel 140 = .ok (.istore 4, 2) := by decide +kernel
theorem dX7_peel_142 : decode cX7_peel 142 = .ok (.iload 4, 2) := by decide +kernel
theorem dX7_peel_144 : decode cX7_peel 144 = .ok (.iload_n 2, 1) := by decide +kernel
theorem dX7_peel_145 : decode cX7_peel 145 = .ok (.if_icmp .ge 35, 3) := by decide +kernel
theorem dX7_peel_148 : decode cX7_peel 148 = .ok (.aload_n 0, 1) := by decide +kernel
theorem dX7_peel_149 : decode cX7_peel 149 = .ok (.dup, 1) := by decide +kernel
theorem dX7_peel_150 : decode cX7_peel 150 = .ok (.getfield 127, 3) := by decide +kernel
theorem dX7_peel_153 : decode cX7_peel 153 = .ok (.aload_n 0, 1) := by decide +kernel
theorem dX7_peel_154 : decode cX7_peel 154 = .ok (.getfield 26, 3) := by decide +kernel
theorem dX7_peel_157 : decode cX7_peel 157 = .ok (.iload 4, 2) := by decide +kernel
theorem dX7_peel_159 : decode cX7_peel 159 = .ok (.iaload, 1) := by decide +kernel
theorem dX7_peel_160 : decode cX7_peel 160 = .ok (.i2l, 1) := by decide +kernel
theorem dX7_peel_161 : decode cX7_peel 161 = .ok (.aload_n 0, 1) := by decide +kernel
theorem dX7_peel_162 : decode cX7_peel 162 = .ok (.getfield 26, 3) := by decide +kernel
theorem dX7_peel_165 : decode cX7_peel 165 = .ok (.iload 4, 2) := by decide +kernel
theorem dX7_peel_167 : decode cX7_peel 167 = .ok (.iaload, 1) := by decide +kernel
theorem dX7_peel_168 : decode cX7_peel 168 = .ok (.i2l, 1) := by decide +kernel
theorem dX7_peel_169 : decode cX7_peel 169 = .ok (.lmul, 1) := by decide +kernel
theorem dX7_peel_170 : decode cX7_peel 170 = .ok (.ladd, 1) := by decide +kernel
theorem dX7_peel_171 : decode cX7_peel 171 = .ok (.putfield 127, 3) := by decide +kernel
theorem dX7_peel_174 : decode cX7_peel 174 = .ok (.iinc 4 1, 3) := by decide +kernel
theorem dX7_peel_177 : decode cX7_peel 177 = .ok (.goto (-35), 3) := by decide +kernel
theorem dX7_peel_180 : decode cX7_peel 180 = .ok (.aload_n 0, 1) := by decide +kernel
theorem dX7_peel_181 : decode cX7_peel 181 = .ok (.getfield 121, 3) := by decide +kernel
theorem dX7_peel_184 : decode cX7_peel 184 = .ok (.ireturn, 1) := by decide +kernel
set_option maxRecDepth 20000 in
theorem ggX7_takesOff_X7_signOf : GoodIn wsX7_takesOff wsX7_signOf := goodIn_r _ [9, 10, 1, 11, 12, 13, 14, 15, 16, 17, 18, 19, 20, 21, 22, 23, 24, 25, 26, 27, 28, 29] (by decide +kernel) (by decide +kernel)
set_option maxRecDepth 20000 in
theorem gX7_takesOff_X7_signOf : GoodIn wsX7_takesOff (wsV RX7 80 RX7 yX7_signOf wsX7_signOf) := goodIn_app (goodIn_of _ (by decide +kernel)) ggX7_takesOff_X7_signOf
theorem dX7_takesOff_0 : decode cX7_takesOff 0 = .ok (.iconst (-1), 1) := by decide +kernel
theorem dX7_takesOff_1 : decode cX7_takesOff 1 = .ok (.istore_n 2, 1) := by decide +kernel
theorem dX7_takesOff_2 : decode cX7_takesOff 2 = .ok (.iconst 0, 1) := by decide +kernel
theorem dX7_takesOff_3 : decode cX7_takesOff 3 = .ok (.istore_n 3, 1) := by decide +kernel
theorem dX7_takesOff_4 : decode cX7_takesOff 4 = .ok (.iconst 0, 1) := by decide +kernel
theorem dX7_takesOff_5 : decode cX7_takesOff 5 = .ok (.istore 4, 2) := by decide +kernel
theorem dX7_takesOff_7 : decode cX7_takesOff 7 = .ok (.iconst 0, 1) := by decide +kernel
theorem dX7_takesOff_8 : decode cX7_takesOff 8 = .ok (.istore 5, 2) := by decide +kernel
theorem dX7_takesOff_10 : decode cX7_takesOff 10 = .ok (.iconst 0, 1) := by decide +kernel
theorem dX7_takesOff_11 : decode cX7_takesOff 11 = .ok (.istore 6, 2) := by decide +kernel
theorem dX7_takesOff_13 : decode cX7_takesOff 13 = .ok (.iload 6, 2) := by decide +kernel
theorem dX7_takesOff_15 : decode cX7_takesOff 15 = .ok (.bipush 8, 2) := by decide +kernel
theorem dX7_takesOff_17 : decode cX7_takesOff 17 = .ok (.if_icmp .ge 112, 3) := by decide +kernel
theorem dX7_takesOff_20 : decode cX7_takesOff 20 = .ok (.iconst 0, 1) := by decide +kernel
theorem dX7_takesOff_21 : decode cX7_takesOff 21 = .ok (.istore 7, 2) := by decide +kernel
theorem dX7_takesOff_23 : decode cX7_takesOff 23 = .ok (.iload 7, 2) := by decide +kernel
theorem dX7_takesOff_25 : decode cX7_takesOff 25 = .ok (.iload_n 1, 1) := by decide +kernel
theorem dX7_takesOff_26 : decode cX7_takesOff 26 = .ok (.if_icmp .ge 97, 3) := by decide +kernel
theorem dX7_takesOff_29 : decode cX7_takesOff 29 = .ok (.aload_n 0, 1) := by decide +kernel
theorem dX7_takesOff_30 : decode cX7_takesOff 30 = .ok (.getfield 7, 3) := by decide +kernel
theorem dX7_takesOff_33 : decode cX7_takesOff 33 = .ok (.iload 6, 2) := by decide +kernel
theorem dX7_takesOff_35 : decode cX7_takesOff 35 = .ok (.iaload, 1) := by decide +kernel
theorem dX7_takesOff_36 : decode cX7_takesOff 36 = .ok (.iload_n 1, 1) := by decide +kernel
theorem dX7_takesOff_37 : decode cX7_takesOff 37 = .ok (.if_icmp .ne 86, 3) := by decide +kernel
theorem dX7_takesOff_40 : decode cX7_takesOff 40 = .ok (.iconst 0, 1) := by decide +kernel
theorem dX7_takesOff_41 : decode cX7_takesOff 41 = .ok (.istore 8, 2) := by decide +kernel
theorem dX7_takesOff_43 : decode cX7_takesOff 43 = .ok (.iconst 0, 1) := by decide +kernel
theorem dX7_takesOff_44 : decode cX7_takesOff 44 = .ok (.istore 9, 2) := by decide +kernel
theorem dX7_takesOff_46 : decode cX7_takesOff 46 = .ok (.iload 9, 2) := by decide +kernel
theorem dX7_takesOff_48 : decode cX7_takesOff 48 = .ok (.iload_n 1, 1) := by decide +kernel
theorem dX7_takesOff_49 : decode cX7_takesOff 49 = .ok (.if_icmp .ge 33, 3) := by decide +kernel
theorem dX7_takesOff_52 : decode cX7_takesOff 52 = .ok (.iload 8, 2) := by decide +kernel
theorem dX7_takesOff_54 : decode cX7_takesOff 54 = .ok (.aload_n 0, 1) := by decide +kernel
theorem dX7_takesOff_55 : decode cX7_takesOff 55 = .ok (.iload 6, 2) := by decide +kernel
theorem dX7_takesOff_57 : decode cX7_takesOff 57 = .ok (.iload 9, 2) := by decide +kernel
theorem dX7_takesOff_59 : decode cX7_takesOff 59 = .ok (.iload 7, 2) := by decide +kernel
theorem dX7_takesOff_61 : decode cX7_takesOff 61 = .ok (.iadd, 1) := by decide +kernel
theorem dX7_takesOff_62 : decode cX7_takesOff 62 = .ok (.invokevirtual 80, 3) := by decide +kernel
theorem dX7_takesOff_65 : decode cX7_takesOff 65 = .ok (.aload_n 0, 1) := by decide +kernel
theorem dX7_takesOff_66 : decode cX7_takesOff 66 = .ok (.getfield 26, 3) := by decide +kernel
theorem dX7_takesOff_69 : decode cX7_takesOff 69 = .ok (.iload 9, 2) := by decide +kernel
theorem dX7_takesOff_71 : decode cX7_takesOff 71 = .ok (.iaload, 1) := by decide +kernel
theorem dX7_takesOff_72 : decode cX7_takesOff 72 = .ok (.imul, 1) := by decide +kernel
theorem dX7_takesOff_73 : decode cX7_takesOff 73 = .ok (.iadd, 1) := by decide +kernel
theorem dX7_takesOff_74 : decode cX7_takesOff 74 = .ok (.istore 8, 2) := by decide +kernel
theorem dX7_takesOff_76 : decode cX7_takesOff 76 = .ok (.iinc 9 1, 3) := by decide +kernel
theorem dX7_takesOff_79 : decode cX7_takesOff 79 = .ok (.goto (-33), 3) := by decide +kernel
theorem dX7_takesOff_82 : decode cX7_takesOff 82 = .ok (.iload 8, 2) := by decide +kernel
theorem dX7_takesOff_84 : decode cX7_takesOff 84 = .ok (.ifCond .ge 9, 3) := by decide +kernel
theorem dX7_takesOff_87 : decode cX7_takesOff 87 = .ok (.iload 8, 2) := by decide +kernel
theorem dX7_takesOff_89 : decode cX7_takesOff 89 = .ok (.ineg, 1) := by decide +kernel
theorem dX7_takesOff_90 : decode cX7_takesOff 90 = .ok (.goto 5, 3) := by decide +kernel
theorem dX7_takesOff_93 : decode cX7_takesOff 93 = .ok (.iload 8, 2) := by decide +kernel
theorem dX7_takesOff_95 : decode cX7_takesOff 95 = .ok (.istore 9, 2) := by decide +kernel
theorem dX7_takesOff_97 : decode cX7_takesOff 97 = .ok (.iload 9, 2) := by decide +kernel
theorem dX7_takesOff_99 : decode cX7_takesOff 99 = .ok (.iload_n 2, 1) := by decide +kernel
theorem dX7_takesOff_100 : decode cX7_takesOff 100 = .ok (.if_icmp .le 17, 3) := by decide +kernel
theorem dX7_takesOff_103 : decode cX7_takesOff 103 = .ok (.iload 9, 2) := by decide +kernel
