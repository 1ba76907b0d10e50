theorem dX0_init_0 : decode cX0_init 0 = .ok (.aload_n 0, 1) := by decide +kernel
theorem dX0_init_1 : decode cX0_init 1 = .ok (.invokespecial 3, 3) := by decide +kernel
theorem dX0_init_4 : decode cX0_init 4 = .ok (.aload_n 0, 1) := by decide +kernel
theorem dX0_init_5 : decode cX0_init 5 = .ok (.iconst 5, 1) := by decide +kernel
theorem dX0_init_6 : decode cX0_init 6 = .ok (.newarray .int, 2) := by decide +kernel
theorem dX0_init_8 : decode cX0_init 8 = .ok (.putfield 9, 3) := by decide +kernel
theorem dX0_init_11 : decode cX0_init 11 = .ok (.aload_n 0, 1) := by decide +kernel
theorem dX0_init_12 : decode cX0_init 12 = .ok (.iconst 5, 1) := by decide +kernel
theorem dX0_init_13 : decode cX0_init 13 = .ok (.newarray .int, 2) := by decide +kernel
theorem dX0_init_15 : decode cX0_init 15 = .ok (.putfield 15, 3) := by decide +kernel
theorem dX0_init_18 : decode cX0_init 18 = .ok (.aload_n 0, 1) := by decide +kernel
theorem dX0_init_19 : decode cX0_init 19 = .ok (.iconst 0, 1) := by decide +kernel
theorem dX0_init_20 : decode cX0_init 20 = .ok (.putfield 18, 3) := by decide +kernel
theorem dX0_init_23 : decode cX0_init 23 = .ok (.return_, 1) := by decide +kernel
theorem dX0_keep_0 : decode cX0_keep 0 = .ok (.aload_n 0, 1) := by decide +kernel
theorem dX0_keep_1 : decode cX0_keep 1 = .ok (.getfield 18, 3) := by decide +kernel
theorem dX0_keep_4 : decode cX0_keep 4 = .ok (.iconst 5, 1) := by decide +kernel
theorem dX0_keep_5 : decode cX0_keep 5 = .ok (.if_icmp .ge 33, 3) := by decide +kernel
theorem dX0_keep_8 : decode cX0_keep 8 = .ok (.aload_n 0, 1) := by decide +kernel
theorem dX0_keep_9 : decode cX0_keep 9 = .ok (.getfield 9, 3) := by decide +kernel
theorem dX0_keep_12 : decode cX0_keep 12 = .ok (.aload_n 0, 1) := by decide +kernel
theorem dX0_keep_13 : decode cX0_keep 13 = .ok (.getfield 18, 3) := by decide +kernel
theorem dX0_keep_16 : decode cX0_keep 16 = .ok (.iload_n 1, 1) := by decide +kernel
theorem dX0_keep_17 : decode cX0_keep 17 = .ok (.iastore, 1) := by decide +kernel
theorem dX0_keep_18 : decode cX0_keep 18 = .ok (.aload_n 0, 1) := by decide +kernel
theorem dX0_keep_19 : decode cX0_keep 19 = .ok (.getfield 15, 3) := by decide +kernel
theorem dX0_keep_22 : decode cX0_keep 22 = .ok (.aload_n 0, 1) := by decide +kernel
theorem dX0_keep_23 : decode cX0_keep 23 = .ok (.getfield 18, 3) := by decide +kernel
theorem dX0_keep_26 : decode cX0_keep 26 = .ok (.iload_n 2, 1) := by decide +kernel
theorem dX0_keep_27 : decode cX0_keep 27 = .ok (.iastore, 1) := by decide +kernel
theorem dX0_keep_28 : decode cX0_keep 28 = .ok (.aload_n 0, 1) := by decide +kernel
theorem dX0_keep_29 : decode cX0_keep 29 = .ok (.dup, 1) := by decide +kernel
theorem dX0_keep_30 : decode cX0_keep 30 = .ok (.getfield 18, 3) := by decide +kernel
theorem dX0_keep_33 : decode cX0_keep 33 = .ok (.iconst 1, 1) := by decide +kernel
theorem dX0_keep_34 : decode cX0_keep 34 = .ok (.iadd, 1) := by decide +kernel
theorem dX0_keep_35 : decode cX0_keep 35 = .ok (.putfield 18, 3) := by decide +kernel
theorem dX0_keep_38 : decode cX0_keep 38 = .ok (.return_, 1) := by decide +kernel
theorem dX0_haveDivisorWith_0 : decode cX0_haveDivisorWith 0 = .ok (.iconst 2, 1) := by decide +kernel
theorem dX0_haveDivisorWith_1 : decode cX0_haveDivisorWith 1 = .ok (.istore_n 2, 1) := by decide +kernel
theorem dX0_haveDivisorWith_2 : decode cX0_haveDivisorWith 2 = .ok (.iload_n 2, 1) := by decide +kernel
theorem dX0_haveDivisorWith_3 : decode cX0_haveDivisorWith 3 = .ok (.iload_n 1, 1) := by decide +kernel
theorem dX0_haveDivisorWith_4 : decode cX0_haveDivisorWith 4 = .ok (.if_icmp .gt 44, 3) := by decide +kernel
theorem dX0_haveDivisorWith_7 : decode cX0_haveDivisorWith 7 = .ok (.iconst 0, 1) := by decide +kernel
theorem dX0_haveDivisorWith_8 : decode cX0_haveDivisorWith 8 = .ok (.istore_n 3, 1) := by decide +kernel
theorem dX0_haveDivisorWith_9 : decode cX0_haveDivisorWith 9 = .ok (.iload_n 3, 1) := by decide +kernel
theorem dX0_haveDivisorWith_10 : decode cX0_haveDivisorWith 10 = .ok (.aload_n 0, 1) := by decide +kernel
theorem dX0_haveDivisorWith_11 : decode cX0_haveDivisorWith 11 = .ok (.getfield 18, 3) := by decide +kernel
theorem dX0_haveDivisorWith_14 : decode cX0_haveDivisorWith 14 = .ok (.if_icmp .ge 28, 3) := by decide +kernel
theorem dX0_haveDivisorWith_17 : decode cX0_haveDivisorWith 17 = .ok (.iload_n 1, 1) := by decide +kernel
theorem dX0_haveDivisorWith_18 : decode cX0_haveDivisorWith 18 = .ok (.iload_n 2, 1) := by decide +kernel
theorem dX0_haveDivisorWith_19 : decode cX0_haveDivisorWith 19 = .ok (.irem, 1) := by decide +kernel
theorem dX0_haveDivisorWith_20 : decode cX0_haveDivisorWith 20 = .ok (.ifCond .ne 16, 3) := by decide +kernel
theorem dX0_haveDivisorWith_23 : decode cX0_haveDivisorWith 23 = .ok (.aload_n 0, 1) := by decide +kernel
theorem dX0_haveDivisorWith_24 : decode cX0_haveDivisorWith 24 = .ok (.getfield 9, 3) := by decide +kernel
theorem dX0_haveDivisorWith_27 : decode cX0_haveDivisorWith 27 = .ok (.iload_n 3, 1) := by decide +kernel
theorem dX0_haveDivisorWith_28 : decode cX0_haveDivisorWith 28 = .ok (.iaload, 1) := by decide +kernel
theorem dX0_haveDivisorWith_29 : decode cX0_haveDivisorWith 29 = .ok (.iload_n 2, 1) := by decide +kernel
theorem dX0_haveDivisorWith_30 : decode cX0_haveDivisorWith 30 = .ok (.irem, 1) := by decide +kernel
theorem dX0_haveDivisorWith_31 : decode cX0_haveDivisorWith 31 = .ok (.ifCond .ne 5, 3) := by decide +kernel
theorem dX0_haveDivisorWith_34 : decode cX0_haveDivisorWith 34 = .ok (.iconst 1, 1) := by decide +kernel
theorem dX0_haveDivisorWith_35 : decode cX0_haveDivisorWith 35 = .ok (.ireturn, 1) := by decide +kernel
theorem dX0_haveDivisorWith_36 : decode cX0_haveDivisorWith 36 = .ok (.iinc 3 1, 3) := by decide +kernel
theorem dX0_haveDivisorWith_39 : decode cX0_haveDivisorWith 39 = .ok (.goto (-30), 3) := by decide +kernel
theorem dX0_haveDivisorWith_42 : decode cX0_haveDivisorWith 42 = .ok (.iinc 2 1, 3) := by decide +kernel
theorem dX0_haveDivisorWith_45 : decode cX0_haveDivisorWith 45 = .ok (.goto (-43), 3) := by decide +kernel
theorem dX0_haveDivisorWith_48 : decode cX0_haveDivisorWith 48 = .ok (.iconst 0, 1) := by decide +kernel
theorem dX0_haveDivisorWith_49 : decode cX0_haveDivisorWith 49 = .ok (.ireturn, 1) := by decide +kernel
theorem dX0_fits_0 : decode cX0_fits 0 = .ok (.aload_n 0, 1) := by decide +kernel
theorem dX0_fits_1 : decode cX0_fits 1 = .ok (.getfield 9, 3) := by decide +kernel
theorem dX0_fits_4 : decode cX0_fits 4 = .ok (.iload_n 3, 1) := by decide +kernel
theorem dX0_fits_5 : decode cX0_fits 5 = .ok (.iaload, 1) := by decide +kernel
theorem dX0_fits_6 : decode cX0_fits 6 = .ok (.ifCond .le 27, 3) := by decide +kernel
theorem dX0_fits_9 : decode cX0_fits 9 = .ok (.lload_n 1, 1) := by decide +kernel
theorem dX0_fits_10 : decode cX0_fits 10 = .ok (.aload_n 0, 1) := by decide +kernel
theorem dX0_fits_11 : decode cX0_fits 11 = .ok (.getfield 9, 3) := by decide +kernel
theorem dX0_fits_14 : decode cX0_fits 14 = .ok (.iload_n 3, 1) := by decide +kernel
theorem dX0_fits_15 : decode cX0_fits 15 = .ok (.iaload, 1) := by decide +kernel
theorem dX0_fits_16 : decode cX0_fits 16 = .ok (.i2l, 1) := by decide +kernel
theorem dX0_fits_17 : decode cX0_fits 17 = .ok (.lrem, 1) := by decide +kernel
theorem dX0_fits_18 : decode cX0_fits 18 = .ok (.aload_n 0, 1) := by decide +kernel
theorem dX0_fits_19 : decode cX0_fits 19 = .ok (.getfield 15, 3) := by decide +kernel
theorem dX0_fits_22 : decode cX0_fits 22 = .ok (.iload_n 3, 1) := by decide +kernel
theorem dX0_fits_23 : decode cX0_fits 23 = .ok (.iaload, 1) := by decide +kernel
theorem dX0_fits_24 : decode cX0_fits 24 = .ok (.i2l, 1) := by decide +kernel
theorem dX0_fits_25 : decode cX0_fits 25 = .ok (.lcmp, 1) := by decide +kernel
theorem dX0_fits_26 : decode cX0_fits 26 = .ok (.ifCond .ne 7, 3) := by decide +kernel
theorem dX0_fits_29 : decode cX0_fits 29 = .ok (.iconst 1, 1) := by decide +kernel
theorem dX0_fits_30 : decode cX0_fits 30 = .ok (.goto 4, 3) := by decide +kernel
theorem dX0_fits_33 : decode cX0_fits 33 = .ok (.iconst 0, 1) := by decide +kernel
theorem dX0_fits_34 : decode cX0_fits 34 = .ok (.ireturn, 1) := by decide +kernel
set_option maxRecDepth 20000 in
theorem ggX0_howManyFit_X0_fits : GoodIn wsX0_howManyFit wsX0_fits := goodIn_r _ [6, 7, 8, 9, 10, 11] (by decide +kernel) (by decide +kernel)
set_option maxRecDepth 20000 in
theorem gX0_howManyFit_X0_fits : GoodIn wsX0_howManyFit (wsV RX0 22 RX0 yX0_fits wsX0_fits) := goodIn_app (goodIn_of _ (by decide +kernel)) ggX0_howManyFit_X0_fits
theorem dX0_howManyFit_0 : decode cX0_howManyFit 0 = .ok (.iconst 0, 1) := by decide +kernel
theorem dX0_howManyFit_1 : decode cX0_howManyFit 1 = .ok (.istore_n 2, 1) := by decide +kernel
theorem dX0_howManyFit_2 : decode cX0_howManyFit 2 = .ok (.iconst 0, 1) := by decide +kernel
theorem dX0_howManyFit_3 : decode cX0_howManyFit 3 = .ok (.istore_n 3, 1) := by decide +kernel
theorem dX0_howManyFit_4 : decode cX0_howManyFit 4 = .ok (.iload_n 3, 1) := by decide +kernel
theorem dX0_howManyFit_5 : decode cX0_howManyFit 5 = .ok (.aload_n 0, 1) := by decide +kernel
theorem dX0_howManyFit_6 : decode cX0_howManyFit 6 = .ok (.getfield 18, 3) := by decide +kernel
theorem dX0_howManyFit_9 : decode cX0_howManyFit 9 = .ok (.if_icmp .ge 22, 3) := by decide +kernel
theorem dX0_howManyFit_12 : decode cX0_howManyFit 12 = .ok (.aload_n 0, 1) := by decide +kernel
theorem dX0_howManyFit_13 : decode cX0_howManyFit 13 = .ok (.iload_n 1, 1) := by decide +kernel
theorem dX0_howManyFit_14 : decode cX0_howManyFit 14 = .ok (.i2l, 1) := by decide +kernel
theorem dX0_howManyFit_15 : decode cX0_howManyFit 15 = .ok (.iload_n 3, 1) := by decide +kernel
theorem dX0_howManyFit_16 : decode cX0_howManyFit 16 = .ok (.invokevirtual 22, 3) := by decide +kernel
theorem dX0_howManyFit_19 : decode cX0_howManyFit 19 = .ok (.ifCond .eq 6, 3) := by decide +kernel
theorem dX0_howManyFit_22 : decode cX0_howManyFit 22 = .ok (.iinc 2 1, 3) := by decide +kernel
theorem dX0_howManyFit_25 : decode cX0_howManyFit 25 = .ok (.iinc 3 1, 3) := by decide +kernel
theorem dX0_howManyFit_28 : decode cX0_howManyFit 28 = .ok (.goto (-24), 3) := by decide +kernel
theorem dX0_howManyFit_31 : decode cX0_howManyFit 31 = .ok (.iload_n 2, 1) := by decide +kernel
theorem dX0_howManyFit_32 : decode cX0_howManyFit 32 = .ok (.ireturn, 1) := by decide +kernel
set_option maxRecDepth 20000 in
theorem ggX0_leastFitting_X0_fits : GoodIn wsX0_leastFitting wsX0_fits := goodIn_r _ [7, 2, 8, 9, 10, 11] (by decide +kernel) (by decide +kernel)
set_option maxRecDepth 20000 in
theorem gX0_leastFitting_X0_fits : GoodIn wsX0_leastFitting (wsV RX0 22 RX0 yX0_fits wsX0_fits) := goodIn_app (goodIn_of _ (by decide +kernel)) ggX0_leastFitting_X0_fits
theorem dX0_leastFitting_0 : decode cX0_leastFitting 0 = .ok (.lconst 0, 1) := by decide +kernel
theorem dX0_leastFitting_1 : decode cX0_leastFitting 1 = .ok (.lstore_n 1, 1) := by decide +kernel
theorem dX0_leastFitting_2 : decode cX0_leastFitting 2 = .ok (.lconst 1, 1) := by decide +kernel
theorem dX0_leastFitting_3 : decode cX0_leastFitting 3 = .ok (.lstore_n 3, 1) := by decide +kernel
theorem dX0_leastFitting_4 : decode cX0_leastFitting 4 = .ok (.iconst 0, 1) := by decide +kernel
theorem dX0_leastFitting_5 : decode cX0_leastFitting 5 = .ok (.istore 5, 2) := by decide +kernel
theorem dX0_leastFitting_7 : decode cX0_leastFitting 7 = .ok (.iload 5, 2) := by decide +kernel
theorem dX0_leastFitting_9 : decode cX0_leastFitting 9 = .ok (.aload_n 0, 1) := by decide +kernel
theorem dX0_leastFitting_10 : decode cX0_leastFitting 10 = .ok (.getfield 18, 3) := by decide +kernel
theorem dX0_leastFitting_13 : decode cX0_leastFitting 13 = .ok (.if_icmp .ge 55, 3) := by decide +kernel
theorem dX0_leastFitting_16 : decode cX0_leastFitting 16 = .ok (.iconst 0, 1) := by decide +kernel
theorem dX0_leastFitting_17 : decode cX0_leastFitting 17 = .ok (.istore 6, 2) := by decide +kernel
theorem dX0_leastFitting_19 : decode cX0_leastFitting 19 = .ok (.iload 6, 2) := by decide +kernel
theorem dX0_leastFitting_21 : decode cX0_leastFitting 21 = .ok (.aload_n 0, 1) := by decide +kernel
theorem dX0_leastFitting_22 : decode cX0_leastFitting 22 = .ok (.getfield 9, 3) := by decide +kernel
theorem dX0_leastFitting_25 : decode cX0_leastFitting 25 = .ok (.iload 5, 2) := by decide +kernel
theorem dX0_leastFitting_27 : decode cX0_leastFitting 27 = .ok (.iaload, 1) := by decide +kernel
theorem dX0_leastFitting_28 : decode cX0_leastFitting 28 = .ok (.if_icmp .ge 23, 3) := by decide +kernel
theorem dX0_leastFitting_31 : decode cX0_leastFitting 31 = .ok (.aload_n 0, 1) := by decide +kernel
theorem dX0_leastFitting_32 : decode cX0_leastFitting 32 = .ok (.lload_n 1, 1) := by decide +kernel
theorem dX0_leastFitting_33 : decode cX0_leastFitting 33 = .ok (.iload 5, 2) := by decide +kernel
theorem dX0_leastFitting_35 : decode cX0_leastFitting 35 = .ok (.invokevirtual 22, 3) := by decide +kernel
theorem dX0_leastFitting_38 : decode cX0_leastFitting 38 = .ok (.ifCond .ne 13, 3) := by decide +kernel
theorem dX0_leastFitting_41 : decode cX0_leastFitting 41 = .ok (.lload_n 1, 1) := by decide +kernel
theorem dX0_leastFitting_42 : decode cX0_leastFitting 42 = .ok (.lload_n 3, 1) := by decide +kernel
theorem dX0_leastFitting_43 : decode cX0_leastFitting 43 = .ok (.ladd, 1) := by decide +kernel
theorem dX0_leastFitting_44 : decode cX0_leastFitting 44 = .ok (.lstore_n 1, 1) := by decide +kernel
theorem dX0_leastFitting_45 : decode cX0_leastFitting 45 = .ok (.iinc 6 1, 3) := by decide +kernel
theorem dX0_leastFitting_48 : decode cX0_leastFitting 48 = .ok (.goto (-29), 3) := by decide +kernel
theorem dX0_leastFitting_51 : decode cX0_leastFitting 51 = .ok (.lload_n 3, 1) := by decide +kernel
theorem dX0_leastFitting_52 : decode cX0_leastFitting 52 = .ok (.aload_n 0, 1) := by decide +kernel
theorem dX0_leastFitting_53 : decode cX0_leastFitting 53 = .ok (.getfield 9, 3) := by decide +kernel
theorem dX0_leastFitting_56 : decode cX0_leastFitting 56 = .ok (.iload 5, 2) := by decide +kernel
theorem dX0_leastFitting_58 : decode cX0_leastFitting 58 = .ok (.iaload, 1) := by decide +kernel
theorem dX0_leastFitting_59 : decode cX0_leastFitting 59 = .ok (.i2l, 1) := by decide +kernel
theorem dX0_leastFitting_60 : decode cX0_leastFitting 60 = .ok (.lmul, 1) := by decide +kernel
theorem dX0_leastFitting_61 : decode cX0_leastFitting 61 = .ok (.lstore_n 3, 1) := by decide +kernel
theorem dX0_leastFitting_62 : decode cX0_leastFitting 62 = .ok (.iinc 5 1, 3) := by decide +kernel
theorem dX0_leastFitting_65 : decode cX0_leastFitting 65 = .ok (.goto (-58), 3) := by decide +kernel
theorem dX0_leastFitting_68 : decode cX0_leastFitting 68 = .ok (.lload_n 1, 1) := by decide +kernel
theorem dX0_leastFitting_69 : decode cX0_leastFitting 69 = .ok (.lreturn, 1) := by decide +kernel
theorem dX1_init_0 : decode cX1_init 0 = .ok (.aload_n 0, 1) := by decide +kernel
theorem dX1_init_1 : decode cX1_init 1 = .ok (.invokespecial 3, 3) := by decide +kernel
theorem dX1_init_4 : decode cX1_init 4 = .ok (.aload_n 0, 1) := by decide +kernel
theorem dX1_init_5 : decode cX1_init 5 = .ok (.bipush 20, 2) := by decide +kernel
theorem dX1_init_7 : decode cX1_init 7 = .ok (.newarray .int, 2) := by decide +kernel
theorem dX1_init_9 : decode cX1_init 9 = .ok (.putfield 9, 3) := by decide +kernel
theorem dX1_init_12 : decode cX1_init 12 = .ok (.aload_n 0, 1) := by decide +kernel
theorem dX1_init_13 : decode cX1_init 13 = .ok (.bipush 20, 2) := by decide +kernel
theorem dX1_init_15 : decode cX1_init 15 = .ok (.newarray .int, 2) := by decide +kernel
theorem dX1_init_17 : decode cX1_init 17 = .ok (.putfield 15, 3) := by decide +kernel
theorem dX1_init_20 : decode cX1_init 20 = .ok (.aload_n 0, 1) := by decide +kernel
theorem dX1_init_21 : decode cX1_init 21 = .ok (.bipush 20, 2) := by decide +kernel
theorem dX1_init_23 : decode cX1_init 23 = .ok (.newarray .int, 2) := by decide +kernel
theorem dX1_init_25 : decode cX1_init 25 = .ok (.putfield 18, 3) := by decide +kernel
theorem dX1_init_28 : decode cX1_init 28 = .ok (.aload_n 0, 1) := by decide +kernel
theorem dX1_init_29 : decode cX1_init 29 = .ok (.iconst 0, 1) := by decide +kernel
theorem dX1_init_30 : decode cX1_init 30 = .ok (.putfield 21, 3) := by decide +kernel
theorem dX1_init_33 : decode cX1_init 33 = .ok (.aload_n 0, 1) := by decide +kernel
theorem dX1_init_34 : decode cX1_init 34 = .ok (.lconst 0, 1) := by decide +kernel
theorem dX1_init_35 : decode cX1_init 35 = .ok (.putfield 25, 3) := by decide +kernel
theorem dX1_init_38 : decode cX1_init 38 = .ok (.return_, 1) := by decide +kernel
theorem dX1_keep_0 : decode cX1_keep 0 = .ok (.aload_n 0, 1) := by decide +kernel
theorem dX1_keep_1 : decode cX1_keep 1 = .ok (.getfield 21, 3) := by decide +kernel
theorem dX1_keep_4 : decode cX1_keep 4 = .ok (.bipush 20, 2) := by decide +kernel
theorem dX1_keep_6 : decode cX1_keep 6 = .ok (.if_icmp .ge 43, 3) := by decide +kernel
theorem dX1_keep_9 : decode cX1_keep 9 = .ok (.aload_n 0, 1) := by decide +kernel
theorem dX1_keep_10 : decode cX1_keep 10 = .ok (.getfield 9, 3) := by decide +kernel
theorem dX1_keep_13 : decode cX1_keep 13 = .ok (.aload_n 0, 1) := by decide +kernel
theorem dX1_keep_14 : decode cX1_keep 14 = .ok (.getfield 21, 3) := by decide +kernel
theorem dX1_keep_17 : decode cX1_keep 17 = .ok (.iload_n 1, 1) := by decide +kernel
theorem dX1_keep_18 : decode cX1_keep 18 = .ok (.iastore, 1) := by decide +kernel
theorem dX1_keep_19 : decode cX1_keep 19 = .ok (.aload_n 0, 1) := by decide +kernel
theorem dX1_keep_20 : decode cX1_keep 20 = .ok (.getfield 15, 3) := by decide +kernel
theorem dX1_keep_23 : decode cX1_keep 23 = .ok (.aload_n 0, 1) := by decide +kernel
theorem dX1_keep_24 : decode cX1_keep 24 = .ok (.getfield 21, 3) := by decide +kernel
theorem dX1_keep_27 : decode cX1_keep 27 = .ok (.iload_n 2, 1) := by decide +kernel
theorem dX1_keep_28 : decode cX1_keep 28 = .ok (.iastore, 1) := by decide +kernel
theorem dX1_keep_29 : decode cX1_keep 29 = .ok (.aload_n 0, 1) := by decide +kernel
theorem dX1_keep_30 : decode cX1_keep 30 = .ok (.getfield 18, 3) := by decide +kernel
theorem dX1_keep_33 : decode cX1_keep 33 = .ok (.aload_n 0, 1) := by decide +kernel
theorem dX1_keep_34 : decode cX1_keep 34 = .ok (.getfield 21, 3) := by decide +kernel
theorem dX1_keep_37 : decode cX1_keep 37 = .ok (.iload_n 3, 1) := by decide +kernel
theorem dX1_keep_38 : decode cX1_keep 38 = .ok (.iastore, 1) := by decide +kernel
theorem dX1_keep_39 : decode cX1_keep 39 = .ok (.aload_n 0, 1) := by decide +kernel
theorem dX1_keep_40 : decode cX1_keep 40 = .ok (.dup, 1) := by decide +kernel
theorem dX1_keep_41 : decode cX1_keep 41 = .ok (.getfield 21, 3) := by decide +kernel
theorem dX1_keep_44 : decode cX1_keep 44 = .ok (.iconst 1, 1) := by decide +kernel
theorem dX1_keep_45 : decode cX1_keep 45 = .ok (.iadd, 1) := by decide +kernel
theorem dX1_keep_46 : decode cX1_keep 46 = .ok (.putfield 21, 3) := by decide +kernel
theorem dX1_keep_49 : decode cX1_keep 49 = .ok (.return_, 1) := by decide +kernel
theorem dX2_init_0 : decode cX2_init 0 = .ok (.aload_n 0, 1) := by decide +kernel
theorem dX2_init_1 : decode cX2_init 1 = .ok (.invokespecial 3, 3) := by decide +kernel
theorem dX2_init_4 : decode cX2_init 4 = .ok (.aload_n 0, 1) := by decide +kernel
theorem dX2_init_5 : decode cX2_init 5 = .ok (.sipush 300, 3) := by decide +kernel
theorem dX2_init_8 : decode cX2_init 8 = .ok (.newarray .int, 2) := by decide +kernel
theorem dX2_init_10 : decode cX2_init 10 = .ok (.putfield 9, 3) := by decide +kernel
theorem dX2_init_13 : decode cX2_init 13 = .ok (.aload_n 0, 1) := by decide +kernel
theorem dX2_init_14 : decode cX2_init 14 = .ok (.iconst 1, 1) := by decide +kernel
theorem dX2_init_15 : decode cX2_init 15 = .ok (.putfield 15, 3) := by decide +kernel
theorem dX2_init_18 : decode cX2_init 18 = .ok (.aload_n 0, 1) := by decide +kernel
theorem dX2_init_19 : decode cX2_init 19 = .ok (.iconst 0, 1) := by decide +kernel
theorem dX2_init_20 : decode cX2_init 20 = .ok (.putfield 19, 3) := by decide +kernel
theorem dX2_init_23 : decode cX2_init 23 = .ok (.aload_n 0, 1) := by decide +kernel
theorem dX2_init_24 : decode cX2_init 24 = .ok (.iconst 0, 1) := by decide +kernel
theorem dX2_init_25 : decode cX2_init 25 = .ok (.putfield 23, 3) := by decide +kernel
theorem dX2_init_28 : decode cX2_init 28 = .ok (.return_, 1) := by decide +kernel
theorem dX2_renew_0 : decode cX2_renew 0 = .ok (.aload_n 0, 1) := by decide +kernel
theorem dX2_renew_1 : decode cX2_renew 1 = .ok (.iconst 0, 1) := by decide +kernel
theorem dX2_renew_2 : decode cX2_renew 2 = .ok (.putfield 15, 3) := by decide +kernel
theorem dX2_renew_5 : decode cX2_renew 5 = .ok (.aload_n 0, 1) := by decide +kernel
theorem dX2_renew_6 : decode cX2_renew 6 = .ok (.iload_n 1, 1) := by decide +kernel
theorem dX2_renew_7 : decode cX2_renew 7 = .ok (.putfield 19, 3) := by decide +kernel
theorem dX2_renew_10 : decode cX2_renew 10 = .ok (.aload_n 0, 1) := by decide +kernel
theorem dX2_renew_11 : decode cX2_renew 11 = .ok (.iconst 0, 1) := by decide +kernel
theorem dX2_renew_12 : decode cX2_renew 12 = .ok (.iload_n 2, 1) := by decide +kernel
theorem dX2_renew_13 : decode cX2_renew 13 = .ok (.sipush 300, 3) := by decide +kernel
theorem dX2_renew_16 : decode cX2_renew 16 = .ok (.invokestatic 26, 3) := by decide +kernel
theorem dX2_renew_19 : decode cX2_renew 19 = .ok (.invokestatic 32, 3) := by decide +kernel
theorem dX2_renew_22 : decode cX2_renew 22 = .ok (.putfield 23, 3) := by decide +kernel
theorem dX2_renew_25 : decode cX2_renew 25 = .ok (.iconst 0, 1) := by decide +kernel
theorem dX2_renew_26 : decode cX2_renew 26 = .ok (.istore_n 3, 1) := by decide +kernel
theorem dX2_renew_27 : decode cX2_renew 27 = .ok (.iload_n 3, 1) := by decide +kernel
theorem dX2_renew_28 : decode cX2_renew 28 = .ok (.aload_n 0, 1) := by decide +kernel
theorem dX2_renew_29 : decode cX2_renew 29 = .ok (.getfield 23, 3) := by decide +kernel
theorem dX2_renew_32 : decode cX2_renew 32 = .ok (.if_icmp .ge 16, 3) := by decide +kernel
theorem dX2_renew_35 : decode cX2_renew 35 = .ok (.aload_n 0, 1) := by decide +kernel
theorem dX2_renew_36 : decode cX2_renew 36 = .ok (.getfield 9, 3) := by decide +kernel
theorem dX2_renew_39 : decode cX2_renew 39 = .ok (.iload_n 3, 1) := by decide +kernel
theorem dX2_renew_40 : decode cX2_renew 40 = .ok (.iconst 0, 1) := by decide +kernel
theorem dX2_renew_41 : decode cX2_renew 41 = .ok (.iastore, 1) := by decide +kernel
theorem dX2_renew_42 : decode cX2_renew 42 = .ok (.iinc 3 1, 3) := by decide +kernel
theorem dX2_renew_45 : decode cX2_renew 45 = .ok (.goto (-18), 3) := by decide +kernel
theorem dX2_renew_48 : decode cX2_renew 48 = .ok (.return_, 1) := by decide +kernel
theorem dX2_hasItem_0 : decode cX2_hasItem 0 = .ok (.aload_n 0, 1) := by decide +kernel
theorem dX2_hasItem_1 : decode cX2_hasItem 1 = .ok (.getfield 15, 3) := by decide +kernel
theorem dX2_hasItem_4 : decode cX2_hasItem 4 = .ok (.ifCond .ne 19, 3) := by decide +kernel
theorem dX2_hasItem_7 : decode cX2_hasItem 7 = .ok (.iload_n 1, 1) := by decide +kernel
theorem dX2_hasItem_8 : decode cX2_hasItem 8 = .ok (.ifCond .lt 15, 3) := by decide +kernel
theorem dX2_hasItem_11 : decode cX2_hasItem 11 = .ok (.iload_n 1, 1) := by decide +kernel
theorem dX2_hasItem_12 : decode cX2_hasItem 12 = .ok (.aload_n 0, 1) := by decide +kernel
theorem dX2_hasItem_13 : decode cX2_hasItem 13 = .ok (.getfield 23, 3) := by decide +kernel
theorem dX2_hasItem_16 : decode cX2_hasItem 16 = .ok (.if_icmp .ge 7, 3) := by decide +kernel
theorem dX2_hasItem_19 : decode cX2_hasItem 19 = .ok (.iconst 1, 1) := by decide +kernel
theorem dX2_hasItem_20 : decode cX2_hasItem 20 = .ok (.goto 4, 3) := by decide +kernel
theorem dX2_hasItem_23 : decode cX2_hasItem 23 = .ok (.iconst 0, 1) := by decide +kernel
theorem dX2_hasItem_24 : decode cX2_hasItem 24 = .ok (.ireturn, 1) := by decide +kernel
set_option maxRecDepth 20000 in
theorem ggX2_troubleAt_X2_hasItem : GoodIn wsX2_troubleAt wsX2_hasItem := goodIn_r _ [7, 1, 8, 9, 10, 11, 12] (by decide +kernel) (by decide +kernel)
set_option maxRecDepth 20000 in
theorem gX2_troubleAt_X2_hasItem : GoodIn wsX2_troubleAt (wsV RX2 35 RX2 yX2_hasItem wsX2_hasItem) := goodIn_app (goodIn_of _ (by decide +kernel)) ggX2_troubleAt_X2_hasItem
theorem dX2_troubleAt_0 : decode cX2_troubleAt 0 = .ok (.aload_n 0, 1) := by decide +kernel
theorem dX2_troubleAt_1 : decode cX2_troubleAt 1 = .ok (.getfield 15, 3) := by decide +kernel
theorem dX2_troubleAt_4 : decode cX2_troubleAt 4 = .ok (.ifCond .eq 5, 3) := by decide +kernel
theorem dX2_troubleAt_7 : decode cX2_troubleAt 7 = .ok (.iconst 1, 1) := by decide +kernel
theorem dX2_troubleAt_8 : decode cX2_troubleAt 8 = .ok (.ireturn, 1) := by decide +kernel
theorem dX2_troubleAt_9 : decode cX2_troubleAt 9 = .ok (.aload_n 0, 1) := by decide +kernel
theorem dX2_troubleAt_10 : decode cX2_troubleAt 10 = .ok (.getfield 19, 3) := by decide +kernel
theorem dX2_troubleAt_13 : decode cX2_troubleAt 13 = .ok (.iload_n 1, 1) := by decide +kernel
theorem dX2_troubleAt_14 : decode cX2_troubleAt 14 = .ok (.if_icmp .eq 5, 3) := by decide +kernel
theorem dX2_troubleAt_17 : decode cX2_troubleAt 17 = .ok (.iconst 3, 1) := by decide +kernel
theorem dX2_troubleAt_18 : decode cX2_troubleAt 18 = .ok (.ireturn, 1) := by decide +kernel
theorem dX2_troubleAt_19 : decode cX2_troubleAt 19 = .ok (.aload_n 0, 1) := by decide +kernel
theorem dX2_troubleAt_20 : decode cX2_troubleAt 20 = .ok (.iload_n 2, 1) := by decide +kernel
theorem dX2_troubleAt_21 : decode cX2_troubleAt 21 = .ok (.invokevirtual 35, 3) := by decide +kernel
theorem dX2_troubleAt_24 : decode cX2_troubleAt 24 = .ok (.ifCond .eq 7, 3) := by decide +kernel
theorem dX2_troubleAt_27 : decode cX2_troubleAt 27 = .ok (.iconst 0, 1) := by decide +kernel
theorem dX2_troubleAt_28 : decode cX2_troubleAt 28 = .ok (.goto 4, 3) := by decide +kernel
theorem dX2_troubleAt_31 : decode cX2_troubleAt 31 = .ok (.iconst 2, 1) := by decide +kernel
theorem dX2_troubleAt_32 : decode cX2_troubleAt 32 = .ok (.ireturn, 1) := by decide +kernel
theorem dX2_hasSpan_0 : decode cX2_hasSpan 0 = .ok (.iload_n 1, 1) := by decide +kernel
theorem dX2_hasSpan_1 : decode cX2_hasSpan 1 = .ok (.ifCond .lt 21, 3) := by decide +kernel
theorem dX2_hasSpan_4 : decode cX2_hasSpan 4 = .ok (.iload_n 2, 1) := by decide +kernel
theorem dX2_hasSpan_5 : decode cX2_hasSpan 5 = .ok (.ifCond .lt 17, 3) := by decide +kernel
theorem dX2_hasSpan_8 : decode cX2_hasSpan 8 = .ok (.iload_n 1, 1) := by decide +kernel
theorem dX2_hasSpan_9 : decode cX2_hasSpan 9 = .ok (.aload_n 0, 1) := by decide +kernel
theorem dX2_hasSpan_10 : decode cX2_hasSpan 10 = .ok (.getfield 23, 3) := by decide +kernel
theorem dX2_hasSpan_13 : decode cX2_hasSpan 13 = .ok (.iload_n 2, 1) := by decide +kernel
theorem dX2_hasSpan_14 : decode cX2_hasSpan 14 = .ok (.isub, 1) := by decide +kernel
theorem dX2_hasSpan_15 : decode cX2_hasSpan 15 = .ok (.if_icmp .gt 7, 3) := by decide +kernel
theorem dX2_hasSpan_18 : decode cX2_hasSpan 18 = .ok (.iconst 1, 1) := by decide +kernel
theorem dX2_hasSpan_19 : decode cX2_hasSpan 19 = .ok (.goto 4, 3) := by decide +kernel
theorem dX2_hasSpan_22 : decode cX2_hasSpan 22 = .ok (.iconst 0, 1) := by decide +kernel
theorem dX2_hasSpan_23 : decode cX2_hasSpan 23 = .ok (.ireturn, 1) := by decide +kernel
set_option maxRecDepth 20000 in
theorem ggX2_itemOrZero_X2_hasItem : GoodIn wsX2_itemOrZero wsX2_hasItem := goodIn_r _ [6, 7, 8, 9, 10, 11, 12] (by decide +kernel) (by decide +kernel)
set_option maxRecDepth 20000 in
theorem gX2_itemOrZero_X2_hasItem : GoodIn wsX2_itemOrZero (wsV RX2 35 RX2 yX2_hasItem wsX2_hasItem) := goodIn_app (goodIn_of _ (by decide +kernel)) ggX2_itemOrZero_X2_hasItem
theorem dX2_itemOrZero_0 : decode cX2_itemOrZero 0 = .ok (.aload_n 0, 1) := by decide +kernel
theorem dX2_itemOrZero_1 : decode cX2_itemOrZero 1 = .ok (.iload_n 1, 1) := by decide +kernel
theorem dX2_itemOrZero_2 : decode cX2_itemOrZero 2 = .ok (.invokevirtual 35, 3) := by decide +kernel
theorem dX2_itemOrZero_5 : decode cX2_itemOrZero 5 = .ok (.ifCond .eq 12, 3) := by decide +kernel
theorem dX2_itemOrZero_8 : decode cX2_itemOrZero 8 = .ok (.aload_n 0, 1) := by decide +kernel
theorem dX2_itemOrZero_9 : decode cX2_itemOrZero 9 = .ok (.getfield 9, 3) := by decide +kernel
theorem dX2_itemOrZero_12 : decode cX2_itemOrZero 12 = .ok (.iload_n 1, 1) := by decide +kernel
theorem dX2_itemOrZero_13 : decode cX2_itemOrZero 13 = .ok (.iaload, 1) := by decide +kernel
theorem dX2_itemOrZero_14 : decode cX2_itemOrZero 14 = .ok (.goto 4, 3) := by decide +kernel
theorem dX2_itemOrZero_17 : decode cX2_itemOrZero 17 = .ok (.iconst 0, 1) := by decide +kernel
theorem dX2_itemOrZero_18 : decode cX2_itemOrZero 18 = .ok (.ireturn, 1) := by decide +kernel
set_option maxRecDepth 20000 in
theorem ggX2_keep_X2_hasItem : GoodIn wsX2_keep wsX2_hasItem := goodIn_r _ [6, 7, 8, 14, 15, 16, 17] (by decide +kernel) (by decide +kernel)
set_option maxRecDepth 20000 in
theorem gX2_keep_X2_hasItem : GoodIn wsX2_keep (wsV RX2 35 RX2 yX2_hasItem wsX2_hasItem) := goodIn_app (goodIn_of _ (by decide +kernel)) ggX2_keep_X2_hasItem
set_option maxRecDepth 20000 in
theorem ggX2_keep_X2_lowestBits : GoodIn wsX2_keep wsX2_lowestBits := goodIn_r _ [12, 13, 14, 15, 16, 17] (by decide +kernel) (by decide +kernel)
set_option maxRecDepth 20000 in
theorem gX2_keep_X2_lowestBits : GoodIn wsX2_keep (wsV RX2 39 RX2 yX2_lowestBits wsX2_lowestBits) := goodIn_app (goodIn_of _ (by decide +kernel)) ggX2_keep_X2_lowestBits
theorem dX2_keep_0 : decode cX2_keep 0 = .ok (.aload_n 0, 1) := by decide +kernel
theorem dX2_keep_1 : decode cX2_keep 1 = .ok (.iload_n 1, 1) := by decide +kernel
theorem dX2_keep_2 : decode cX2_keep 2 = .ok (.invokevirtual 35, 3) := by decide +kernel
theorem dX2_keep_5 : decode cX2_keep 5 = .ok (.ifCond .eq 14, 3) := by decide +kernel
theorem dX2_keep_8 : decode cX2_keep 8 = .ok (.aload_n 0, 1) := by decide +kernel
theorem dX2_keep_9 : decode cX2_keep 9 = .ok (.getfield 9, 3) := by decide +kernel
theorem dX2_keep_12 : decode cX2_keep 12 = .ok (.iload_n 1, 1) := by decide +kernel
theorem dX2_keep_13 : decode cX2_keep 13 = .ok (.aload_n 0, 1) := by decide +kernel
theorem dX2_keep_14 : decode cX2_keep 14 = .ok (.iload_n 2, 1) := by decide +kernel
theorem dX2_keep_15 : decode cX2_keep 15 = .ok (.invokevirtual 39, 3) := by decide +kernel
theorem dX2_keep_18 : decode cX2_keep 18 = .ok (.iastore, 1) := by decide +kernel
theorem dX2_keep_19 : decode cX2_keep 19 = .ok (.return_, 1) := by decide +kernel
theorem dX2_lowestBits_0 : decode cX2_lowestBits 0 = .ok (.aload_n 0, 1) := by decide +kernel
theorem dX2_lowestBits_1 : decode cX2_lowestBits 1 = .ok (.getfield 19, 3) := by decide +kernel
theorem dX2_lowestBits_4 : decode cX2_lowestBits 4 = .ok (.ifCond .ne 6, 3) := by decide +kernel
theorem dX2_lowestBits_7 : decode cX2_lowestBits 7 = .ok (.iload_n 1, 1) := by decide +kernel
theorem dX2_lowestBits_8 : decode cX2_lowestBits 8 = .ok (.i2b, 1) := by decide +kernel
theorem dX2_lowestBits_9 : decode cX2_lowestBits 9 = .ok (.ireturn, 1) := by decide +kernel
theorem dX2_lowestBits_10 : decode cX2_lowestBits 10 = .ok (.aload_n 0, 1) := by decide +kernel
theorem dX2_lowestBits_11 : decode cX2_lowestBits 11 = .ok (.getfield 19, 3) := by decide +kernel
theorem dX2_lowestBits_14 : decode cX2_lowestBits 14 = .ok (.iconst 1, 1) := by decide +kernel
theorem dX2_lowestBits_15 : decode cX2_lowestBits 15 = .ok (.if_icmp .ne 8, 3) := by decide +kernel
theorem dX2_lowestBits_18 : decode cX2_lowestBits 18 = .ok (.iload_n 1, 1) := by decide +kernel
theorem dX2_lowestBits_19 : decode cX2_lowestBits 19 = .ok (.i2s, 1) := by decide +kernel
theorem dX2_lowestBits_20 : decode cX2_lowestBits 20 = .ok (.goto 4, 3) := by decide +kernel
theorem dX2_lowestBits_23 : decode cX2_lowestBits 23 = .ok (.iload_n 1, 1) := by decide +kernel
theorem dX2_lowestBits_24 : decode cX2_lowestBits 24 = .ok (.ireturn, 1) := by decide +kernel
theorem dX3_init_0 : decode cX3_init 0 = .ok (.aload_n 0, 1) := by decide +kernel
theorem dX3_init_1 : decode cX3_init 1 = .ok (.invokespecial 3, 3) := by decide +kernel
theorem dX3_init_4 : decode cX3_init 4 = .ok (.aload_n 0, 1) := by decide +kernel
theorem dX3_init_5 : decode cX3_init 5 = .ok (.bipush 127, 2) := by decide +kernel
theorem dX3_init_7 : decode cX3_init 7 = .ok (.newarray .int, 2) := by decide +kernel
theorem dX3_init_9 : decode cX3_init 9 = .ok (.putfield 9, 3) := by decide +kernel
theorem dX3_init_12 : decode cX3_init 12 = .ok (.aload_n 0, 1) := by decide +kernel
theorem dX3_init_13 : decode cX3_init 13 = .ok (.iconst 0, 1) := by decide +kernel
theorem dX3_init_14 : decode cX3_init 14 = .ok (.putfield 15, 3) := by decide +kernel
theorem dX3_init_17 : decode cX3_init 17 = .ok (.return_, 1) := by decide +kernel
theorem dX3_isNone_0 : decode cX3_isNone 0 = .ok (.aload_n 0, 1) := by decide +kernel
theorem dX3_isNone_1 : decode cX3_isNone 1 = .ok (.getfield 15, 3) := by decide +kernel
theorem dX3_isNone_4 : decode cX3_isNone 4 = .ok (.iconst 1, 1) := by decide +kernel
theorem dX3_isNone_5 : decode cX3_isNone 5 = .ok (.if_icmp .ge 7, 3) := by decide +kernel
theorem dX3_isNone_8 : decode cX3_isNone 8 = .ok (.iconst 1, 1) := by decide +kernel
theorem dX3_isNone_9 : decode cX3_isNone 9 = .ok (.goto 4, 3) := by decide +kernel
theorem dX3_isNone_12 : decode cX3_isNone 12 = .ok (.iconst 0, 1) := by decide +kernel
theorem dX3_isNone_13 : decode cX3_isNone 13 = .ok (.ireturn, 1) := by decide +kernel
set_option maxRecDepth 20000 in
theorem ggX3_signAt_J9_floorMod_7cf53 : GoodIn wsX3_signAt wsJ9_floorMod_7cf53 := goodIn_r _ [6] (by decide +kernel) (by decide +kernel)
set_option maxRecDepth 20000 in
theorem gX3_signAt_J9_floorMod_7cf53 : GoodIn wsX3_signAt (va_wsS RX3 19 yJ9_floorMod_7cf53 wsJ9_floorMod_7cf53) := goodIn_app (goodIn_of _ (by decide +kernel)) ggX3_signAt_J9_floorMod_7cf53
theorem dX3_signAt_0 : decode cX3_signAt 0 = .ok (.aload_n 0, 1) := by decide +kernel
theorem dX3_signAt_1 : decode cX3_signAt 1 = .ok (.getfield 15, 3) := by decide +kernel
theorem dX3_signAt_4 : decode cX3_signAt 4 = .ok (.iconst 1, 1) := by decide +kernel
theorem dX3_signAt_5 : decode cX3_signAt 5 = .ok (.if_icmp .ge 7, 3) := by decide +kernel
theorem dX3_signAt_8 : decode cX3_signAt 8 = .ok (.iconst 0, 1) := by decide +kernel
theorem dX3_signAt_9 : decode cX3_signAt 9 = .ok (.goto 16, 3) := by decide +kernel
theorem dX3_signAt_12 : decode cX3_signAt 12 = .ok (.aload_n 0, 1) := by decide +kernel
theorem dX3_signAt_13 : decode cX3_signAt 13 = .ok (.getfield 9, 3) := by decide +kernel
theorem dX3_signAt_16 : decode cX3_signAt 16 = .ok (.iload_n 1, 1) := by decide +kernel
theorem dX3_signAt_17 : decode cX3_signAt 17 = .ok (.aload_n 0, 1) := by decide +kernel
theorem dX3_signAt_18 : decode cX3_signAt 18 = .ok (.getfield 15, 3) := by decide +kernel
theorem dX3_signAt_21 : decode cX3_signAt 21 = .ok (.invokestatic 19, 3) := by decide +kernel
theorem dX3_signAt_24 : decode cX3_signAt 24 = .ok (.iaload, 1) := by decide +kernel
theorem dX3_signAt_25 : decode cX3_signAt 25 = .ok (.ireturn, 1) := by decide +kernel
set_option maxRecDepth 20000 in
theorem ggX3_fillByRegister_X6_stepped : GoodIn wsX3_fillByRegister wsX6_stepped := goodIn_r _ [5, 6, 7, 8, 9, 10, 11, 12] (by decide +kernel) (by decide +kernel)
set_option maxRecDepth 20000 in
theorem gX3_fillByRegister_X6_stepped_n25 : GoodIn wsX3_fillByRegister (wsX6_stepped) := ggX3_fillByRegister_X6_stepped
theorem dX3_fillByRegister_0 : decode cX3_fillByRegister 0 = .ok (.aload_n 0, 1) := by decide +kernel
theorem dX3_fillByRegister_1 : decode cX3_fillByRegister 1 = .ok (.iconst 1, 1) := by decide +kernel
theorem dX3_fillByRegister_2 : decode cX3_fillByRegister 2 = .ok (.iload_n 1, 1) := by decide +kernel
theorem dX3_fillByRegister_3 : decode cX3_fillByRegister 3 = .ok (.ishl, 1) := by decide +kernel
theorem dX3_fillByRegister_4 : decode cX3_fillByRegister 4 = .ok (.iconst 1, 1) := by decide +kernel
theorem dX3_fillByRegister_5 : decode cX3_fillByRegister 5 = .ok (.isub, 1) := by decide +kernel
theorem dX3_fillByRegister_6 : decode cX3_fillByRegister 6 = .ok (.putfield 15, 3) := by decide +kernel
theorem dX3_fillByRegister_9 : decode cX3_fillByRegister 9 = .ok (.iload_n 3, 1) := by decide +kernel
theorem dX3_fillByRegister_10 : decode cX3_fillByRegister 10 = .ok (.istore 4, 2) := by decide +kernel
theorem dX3_fillByRegister_12 : decode cX3_fillByRegister 12 = .ok (.iconst 0, 1) := by decide +kernel
theorem dX3_fillByRegister_13 : decode cX3_fillByRegister 13 = .ok (.istore 5, 2) := by decide +kernel
theorem dX3_fillByRegister_15 : decode cX3_fillByRegister 15 = .ok (.iload 5, 2) := by decide +kernel
theorem dX3_fillByRegister_17 : decode cX3_fillByRegister 17 = .ok (.aload_n 0, 1) := by decide +kernel
theorem dX3_fillByRegister_18 : decode cX3_fillByRegister 18 = .ok (.getfield 15, 3) := by decide +kernel
theorem dX3_fillByRegister_21 : decode cX3_fillByRegister 21 = .ok (.if_icmp .ge 38, 3) := by decide +kernel
theorem dX3_fillByRegister_24 : decode cX3_fillByRegister 24 = .ok (.aload_n 0, 1) := by decide +kernel
theorem dX3_fillByRegister_25 : decode cX3_fillByRegister 25 = .ok (.getfield 9, 3) := by decide +kernel
theorem dX3_fillByRegister_28 : decode cX3_fillByRegister 28 = .ok (.iload 5, 2) := by decide +kernel
theorem dX3_fillByRegister_30 : decode cX3_fillByRegister 30 = .ok (.iload 4, 2) := by decide +kernel
theorem dX3_fillByRegister_32 : decode cX3_fillByRegister 32 = .ok (.iconst 1, 1) := by decide +kernel
theorem dX3_fillByRegister_33 : decode cX3_fillByRegister 33 = .ok (.iand, 1) := by decide +kernel
theorem dX3_fillByRegister_34 : decode cX3_fillByRegister 34 = .ok (.iconst 1, 1) := by decide +kernel
theorem dX3_fillByRegister_35 : decode cX3_fillByRegister 35 = .ok (.if_icmp .ne 7, 3) := by decide +kernel
theorem dX3_fillByRegister_38 : decode cX3_fillByRegister 38 = .ok (.iconst (-1), 1) := by decide +kernel
theorem dX3_fillByRegister_39 : decode cX3_fillByRegister 39 = .ok (.goto 4, 3) := by decide +kernel
theorem dX3_fillByRegister_42 : decode cX3_fillByRegister 42 = .ok (.iconst 1, 1) := by decide +kernel
theorem dX3_fillByRegister_43 : decode cX3_fillByRegister 43 = .ok (.iastore, 1) := by decide +kernel
theorem dX3_fillByRegister_44 : decode cX3_fillByRegister 44 = .ok (.iload_n 1, 1) := by decide +kernel
theorem dX3_fillByRegister_45 : decode cX3_fillByRegister 45 = .ok (.iload_n 2, 1) := by decide +kernel
theorem dX3_fillByRegister_46 : decode cX3_fillByRegister 46 = .ok (.iload 4, 2) := by decide +kernel
theorem dX3_fillByRegister_48 : decode cX3_fillByRegister 48 = .ok (.invokestatic 25, 3) := by decide +kernel
theorem dX3_fillByRegister_51 : decode cX3_fillByRegister 51 = .ok (.istore 4, 2) := by decide +kernel
theorem dX3_fillByRegister_53 : decode cX3_fillByRegister 53 = .ok (.iinc 5 1, 3) := by decide +kernel
theorem dX3_fillByRegister_56 : decode cX3_fillByRegister 56 = .ok (.goto (-41), 3) := by decide +kernel
theorem dX3_fillByRegister_59 : decode cX3_fillByRegister 59 = .ok (.return_, 1) := by decide +kernel
theorem dX3_fillBySignsOf_0 : decode cX3_fillBySignsOf 0 = .ok (.aload_n 0, 1) := by decide +kernel
theorem dX3_fillBySignsOf_1 : decode cX3_fillBySignsOf 1 = .ok (.iload_n 2, 1) := by decide +kernel
theorem dX3_fillBySignsOf_2 : decode cX3_fillBySignsOf 2 = .ok (.aload_n 1, 1) := by decide +kernel
theorem dX3_fillBySignsOf_3 : decode cX3_fillBySignsOf 3 = .ok (.arraylength, 1) := by decide +kernel
theorem dX3_fillBySignsOf_4 : decode cX3_fillBySignsOf 4 = .ok (.bipush 127, 2) := by decide +kernel
theorem dX3_fillBySignsOf_6 : decode cX3_fillBySignsOf 6 = .ok (.invokestatic 29, 3) := by decide +kernel
theorem dX3_fillBySignsOf_9 : decode cX3_fillBySignsOf 9 = .ok (.invokestatic 29, 3) := by decide +kernel
theorem dX3_fillBySignsOf_12 : decode cX3_fillBySignsOf 12 = .ok (.putfield 15, 3) := by decide +kernel
theorem dX3_fillBySignsOf_15 : decode cX3_fillBySignsOf 15 = .ok (.iconst 0, 1) := by decide +kernel
theorem dX3_fillBySignsOf_16 : decode cX3_fillBySignsOf 16 = .ok (.istore_n 3, 1) := by decide +kernel
theorem dX3_fillBySignsOf_17 : decode cX3_fillBySignsOf 17 = .ok (.iload_n 3, 1) := by decide +kernel
theorem dX3_fillBySignsOf_18 : decode cX3_fillBySignsOf 18 = .ok (.aload_n 0, 1) := by decide +kernel
theorem dX3_fillBySignsOf_19 : decode cX3_fillBySignsOf 19 = .ok (.getfield 15, 3) := by decide +kernel
theorem dX3_fillBySignsOf_22 : decode cX3_fillBySignsOf 22 = .ok (.if_icmp .ge 26, 3) := by decide +kernel
theorem dX3_fillBySignsOf_25 : decode cX3_fillBySignsOf 25 = .ok (.aload_n 0, 1) := by decide +kernel
theorem dX3_fillBySignsOf_26 : decode cX3_fillBySignsOf 26 = .ok (.getfield 9, 3) := by decide +kernel
theorem dX3_fillBySignsOf_29 : decode cX3_fillBySignsOf 29 = .ok (.iload_n 3, 1) := by decide +kernel
theorem dX3_fillBySignsOf_30 : decode cX3_fillBySignsOf 30 = .ok (.aload_n 1, 1) := by decide +kernel
theorem dX3_fillBySignsOf_31 : decode cX3_fillBySignsOf 31 = .ok (.iload_n 3, 1) := by decide +kernel
theorem dX3_fillBySignsOf_32 : decode cX3_fillBySignsOf 32 = .ok (.iaload, 1) := by decide +kernel
theorem dX3_fillBySignsOf_33 : decode cX3_fillBySignsOf 33 = .ok (.ifCond .ge 7, 3) := by decide +kernel
theorem dX3_fillBySignsOf_36 : decode cX3_fillBySignsOf 36 = .ok (.iconst (-1), 1) := by decide +kernel
theorem dX3_fillBySignsOf_37 : decode cX3_fillBySignsOf 37 = .ok (.goto 4, 3) := by decide +kernel
theorem dX3_fillBySignsOf_40 : decode cX3_fillBySignsOf 40 = .ok (.iconst 1, 1) := by decide +kernel
theorem dX3_fillBySignsOf_41 : decode cX3_fillBySignsOf 41 = .ok (.iastore, 1) := by decide +kernel
theorem dX3_fillBySignsOf_42 : decode cX3_fillBySignsOf 42 = .ok (.iinc 3 1, 3) := by decide +kernel
theorem dX3_fillBySignsOf_45 : decode cX3_fillBySignsOf 45 = .ok (.goto (-28), 3) := by decide +kernel
theorem dX3_fillBySignsOf_48 : decode cX3_fillBySignsOf 48 = .ok (.return_, 1) := by decide +kernel
set_option maxRecDepth 20000 in
theorem ggX3_sumOver_J9_floorMod_7cf53 : GoodIn wsX3_sumOver wsJ9_floorMod_7cf53 := goodIn_r _ [6] (by decide +kernel) (by decide +kernel)
set_option maxRecDepth 20000 in
theorem gX3_sumOver_J9_floorMod_7cf53 : GoodIn wsX3_sumOver (va_wsS RX3 19 yJ9_floorMod_7cf53 wsJ9_floorMod_7cf53) := goodIn_app (goodIn_of _ (by decide +kernel)) ggX3_sumOver_J9_floorMod_7cf53
theorem dX3_sumOver_0 : decode cX3_sumOver 0 = .ok (.aload_n 0, 1) := by decide +kernel
theorem dX3_sumOver_1 : decode cX3_sumOver 1 = .ok (.getfield 15, 3) := by decide +kernel
theorem dX3_sumOver_4 : decode cX3_sumOver 4 = .ok (.iconst 1, 1) := by decide +kernel
theorem dX3_sumOver_5 : decode cX3_sumOver 5 = .ok (.if_icmp .ge 5, 3) := by decide +kernel
theorem dX3_sumOver_8 : decode cX3_sumOver 8 = .ok (.iconst 0, 1) := by decide +kernel
theorem dX3_sumOver_9 : decode cX3_sumOver 9 = .ok (.ireturn, 1) := by decide +kernel
theorem dX3_sumOver_10 : decode cX3_sumOver 10 = .ok (.iconst 0, 1) := by decide +kernel
theorem dX3_sumOver_11 : decode cX3_sumOver 11 = .ok (.istore_n 3, 1) := by decide +kernel
theorem dX3_sumOver_12 : decode cX3_sumOver 12 = .ok (.iload_n 2, 1) := by decide +kernel
theorem dX3_sumOver_13 : decode cX3_sumOver 13 = .ok (.aload_n 0, 1) := by decide +kernel
theorem dX3_sumOver_14 : decode cX3_sumOver 14 = .ok (.getfield 15, 3) := by decide +kernel
theorem dX3_sumOver_17 : decode cX3_sumOver 17 = .ok (.invokestatic 19, 3) := by decide +kernel
theorem dX3_sumOver_20 : decode cX3_sumOver 20 = .ok (.istore 4, 2) := by decide +kernel
theorem dX3_sumOver_22 : decode cX3_sumOver 22 = .ok (.iconst 0, 1) := by decide +kernel
theorem dX3_sumOver_23 : decode cX3_sumOver 23 = .ok (.istore 5, 2) := by decide +kernel
theorem dX3_sumOver_25 : decode cX3_sumOver 25 = .ok (.iload 5, 2) := by decide +kernel
theorem dX3_sumOver_27 : decode cX3_sumOver 27 = .ok (.aload_n 0, 1) := by decide +kernel
theorem dX3_sumOver_28 : decode cX3_sumOver 28 = .ok (.getfield 15, 3) := by decide +kernel
theorem dX3_sumOver_31 : decode cX3_sumOver 31 = .ok (.if_icmp .ge 52, 3) := by decide +kernel
theorem dX3_sumOver_34 : decode cX3_sumOver 34 = .ok (.iload 5, 2) := by decide +kernel
theorem dX3_sumOver_36 : decode cX3_sumOver 36 = .ok (.aload_n 1, 1) := by decide +kernel
theorem dX3_sumOver_37 : decode cX3_sumOver 37 = .ok (.arraylength, 1) := by decide +kernel
theorem dX3_sumOver_38 : decode cX3_sumOver 38 = .ok (.if_icmp .ge 45, 3) := by decide +kernel
theorem dX3_sumOver_41 : decode cX3_sumOver 41 = .ok (.iload_n 3, 1) := by decide +kernel
theorem dX3_sumOver_42 : decode cX3_sumOver 42 = .ok (.aload_n 0, 1) := by decide +kernel
theorem dX3_sumOver_43 : decode cX3_sumOver 43 = .ok (.getfield 9, 3) := by decide +kernel
theorem dX3_sumOver_46 : decode cX3_sumOver 46 = .ok (.iload 4, 2) := by decide +kernel
theorem dX3_sumOver_48 : decode cX3_sumOver 48 = .ok (.iaload, 1) := by decide +kernel
theorem dX3_sumOver_49 : decode cX3_sumOver 49 = .ok (.aload_n 1, 1) := by decide +kernel
theorem dX3_sumOver_50 : decode cX3_sumOver 50 = .ok (.iload 5, 2) := by decide +kernel
theorem dX3_sumOver_52 : decode cX3_sumOver 52 = .ok (.iaload, 1) := by decide +kernel
theorem dX3_sumOver_53 : decode cX3_sumOver 53 = .ok (.imul, 1) := by decide +kernel
theorem dX3_sumOver_54 : decode cX3_sumOver 54 = .ok (.iadd, 1) := by decide +kernel
theorem dX3_sumOver_55 : decode cX3_sumOver 55 = .ok (.istore_n 3, 1) := by decide +kernel
theorem dX3_sumOver_56 : decode cX3_sumOver 56 = .ok (.iload 4, 2) := by decide +kernel
theorem dX3_sumOver_58 : decode cX3_sumOver 58 = .ok (.iconst 1, 1) := by decide +kernel
theorem dX3_sumOver_59 : decode cX3_sumOver 59 = .ok (.iadd, 1) := by decide +kernel
theorem dX3_sumOver_60 : decode cX3_sumOver 60 = .ok (.aload_n 0, 1) := by decide +kernel
theorem dX3_sumOver_61 : decode cX3_sumOver 61 = .ok (.getfield 15, 3) := by decide +kernel
theorem dX3_sumOver_64 : decode cX3_sumOver 64 = .ok (.if_icmp .ge 10, 3) := by decide +kernel
theorem dX3_sumOver_67 : decode cX3_sumOver 67 = .ok (.iload 4, 2) := by decide +kernel
theorem dX3_sumOver_69 : decode cX3_sumOver 69 = .ok (.iconst 1, 1) := by decide +kernel
theorem dX3_sumOver_70 : decode cX3_sumOver 70 = .ok (.iadd, 1) := by decide +kernel
theorem dX3_sumOver_71 : decode cX3_sumOver 71 = .ok (.goto 4, 3) := by decide +kernel
theorem dX3_sumOver_74 : decode cX3_sumOver 74 = .ok (.iconst 0, 1) := by decide +kernel
theorem dX3_sumOver_75 : decode cX3_sumOver 75 = .ok (.istore 4, 2) := by decide +kernel
theorem dX3_sumOver_77 : decode cX3_sumOver 77 = .ok (.iinc 5 1, 3) := by decide +kernel
theorem dX3_sumOver_80 : decode cX3_sumOver 80 = .ok (.goto (-55), 3) := by decide +kernel
theorem dX3_sumOver_83 : decode cX3_sumOver 83 = .ok (.iload_n 3, 1) := by decide +kernel
theorem dX3_sumOver_84 : decode cX3_sumOver 84 = .ok (.ireturn, 1) := by decide +kernel
set_option maxRecDepth 20000 in
theorem ggX3_takeOff_X3_signAt : GoodIn wsX3_takeOff wsX3_signAt := goodIn_r _ [6, 1, 7, 8, 9, 10, 11, 12, 13] (by decide +kernel) (by decide +kernel)
set_option maxRecDepth 20000 in
theorem gX3_takeOff_X3_signAt : GoodIn wsX3_takeOff (wsV RX3 32 RX3 yX3_signAt wsX3_signAt) := goodIn_app (goodIn_of _ (by decide +kernel)) ggX3_takeOff_X3_signAt
theorem dX3_takeOff_0 : decode cX3_takeOff 0 = .ok (.iconst 0, 1) := by decide +kernel
theorem dX3_takeOff_1 : decode cX3_takeOff 1 = .ok (.istore 4, 2) := by decide +kernel
theorem dX3_takeOff_3 : decode cX3_takeOff 3 = .ok (.iload 4, 2) := by decide +kernel
theorem dX3_takeOff_5 : decode cX3_takeOff 5 = .ok (.aload_n 0, 1) := by decide +kernel
theorem dX3_takeOff_6 : decode cX3_takeOff 6 = .ok (.getfield 15, 3) := by decide +kernel
theorem dX3_takeOff_9 : decode cX3_takeOff 9 = .ok (.if_icmp .ge 33, 3) := by decide +kernel
theorem dX3_takeOff_12 : decode cX3_takeOff 12 = .ok (.iload 4, 2) := by decide +kernel
theorem dX3_takeOff_14 : decode cX3_takeOff 14 = .ok (.aload_n 1, 1) := by decide +kernel
theorem dX3_takeOff_15 : decode cX3_takeOff 15 = .ok (.arraylength, 1) := by decide +kernel
theorem dX3_takeOff_16 : decode cX3_takeOff 16 = .ok (.if_icmp .ge 26, 3) := by decide +kernel
theorem dX3_takeOff_19 : decode cX3_takeOff 19 = .ok (.aload_n 1, 1) := by decide +kernel
theorem dX3_takeOff_20 : decode cX3_takeOff 20 = .ok (.iload 4, 2) := by decide +kernel
theorem dX3_takeOff_22 : decode cX3_takeOff 22 = .ok (.dup2, 1) := by decide +kernel
theorem dX3_takeOff_23 : decode cX3_takeOff 23 = .ok (.iaload, 1) := by decide +kernel
theorem dX3_takeOff_24 : decode cX3_takeOff 24 = .ok (.iload_n 3, 1) := by decide +kernel
theorem dX3_takeOff_25 : decode cX3_takeOff 25 = .ok (.aload_n 0, 1) := by decide +kernel
theorem dX3_takeOff_26 : decode cX3_takeOff 26 = .ok (.iload 4, 2) := by decide +kernel
theorem dX3_takeOff_28 : decode cX3_takeOff 28 = .ok (.iload_n 2, 1) := by decide +kernel
theorem dX3_takeOff_29 : decode cX3_takeOff 29 = .ok (.iadd, 1) := by decide +kernel
theorem dX3_takeOff_30 : decode cX3_takeOff 30 = .ok (.invokevirtual 32, 3) := by decide +kernel
theorem dX3_takeOff_33 : decode cX3_takeOff 33 = .ok (.imul, 1) := by decide +kernel
theorem dX3_takeOff_34 : decode cX3_takeOff 34 = .ok (.isub, 1) := by decide +kernel
theorem dX3_takeOff_35 : decode cX3_takeOff 35 = .ok (.iastore, 1) := by decide +kernel
theorem dX3_takeOff_36 : decode cX3_takeOff 36 = .ok (.iinc 4 1, 3) := by decide +kernel
theorem dX3_takeOff_39 : decode cX3_takeOff 39 = .ok (.goto (-36), 3) := by decide +kernel
theorem dX3_takeOff_42 : decode cX3_takeOff 42 = .ok (.return_, 1) := by decide +kernel
set_option maxRecDepth 20000 in
theorem ggX3_mixedInto_X6_mixed : GoodIn wsX3_mixedInto wsX6_mixed := goodIn_r _ [5, 6] (by decide +kernel) (by decide +kernel)
set_option maxRecDepth 20000 in
theorem gX3_mixedInto_X6_mixed_n36 : GoodIn wsX3_mixedInto (wsX6_mixed) := ggX3_mixedInto_X6_mixed
theorem dX3_mixedInto_0 : decode cX3_mixedInto 0 = .ok (.lload_n 1, 1) := by decide +kernel
theorem dX3_mixedInto_1 : decode cX3_mixedInto 1 = .ok (.aload_n 0, 1) := by decide +kernel
theorem dX3_mixedInto_2 : decode cX3_mixedInto 2 = .ok (.getfield 15, 3) := by decide +kernel
theorem dX3_mixedInto_5 : decode cX3_mixedInto 5 = .ok (.i2l, 1) := by decide +kernel
theorem dX3_mixedInto_6 : decode cX3_mixedInto 6 = .ok (.invokestatic 36, 3) := by decide +kernel
theorem dX3_mixedInto_9 : decode cX3_mixedInto 9 = .ok (.lstore_n 3, 1) := by decide +kernel
theorem dX3_mixedInto_10 : decode cX3_mixedInto 10 = .ok (.iconst 0, 1) := by decide +kernel
theorem dX3_mixedInto_11 : decode cX3_mixedInto 11 = .ok (.istore 5, 2) := by decide +kernel
theorem dX3_mixedInto_13 : decode cX3_mixedInto 13 = .ok (.iload 5, 2) := by decide +kernel
theorem dX3_mixedInto_15 : decode cX3_mixedInto 15 = .ok (.aload_n 0, 1) := by decide +kernel
theorem dX3_mixedInto_16 : decode cX3_mixedInto 16 = .ok (.getfield 15, 3) := by decide +kernel
theorem dX3_mixedInto_19 : decode cX3_mixedInto 19 = .ok (.if_icmp .ge 22, 3) := by decide +kernel
theorem dX3_mixedInto_22 : decode cX3_mixedInto 22 = .ok (.lload_n 3, 1) := by decide +kernel
theorem dX3_mixedInto_23 : decode cX3_mixedInto 23 = .ok (.aload_n 0, 1) := by decide +kernel
theorem dX3_mixedInto_24 : decode cX3_mixedInto 24 = .ok (.getfield 9, 3) := by decide +kernel
theorem dX3_mixedInto_27 : decode cX3_mixedInto 27 = .ok (.iload 5, 2) := by decide +kernel
theorem dX3_mixedInto_29 : decode cX3_mixedInto 29 = .ok (.iaload, 1) := by decide +kernel
theorem dX3_mixedInto_30 : decode cX3_mixedInto 30 = .ok (.i2l, 1) := by decide +kernel
theorem dX3_mixedInto_31 : decode cX3_mixedInto 31 = .ok (.invokestatic 36, 3) := by decide +kernel
theorem dX3_mixedInto_34 : decode cX3_mixedInto 34 = .ok (.lstore_n 3, 1) := by decide +kernel
theorem dX3_mixedInto_35 : decode cX3_mixedInto 35 = .ok (.iinc 5 1, 3) := by decide +kernel
theorem dX3_mixedInto_38 : decode cX3_mixedInto 38 = .ok (.goto (-25), 3) := by decide +kernel
theorem dX3_mixedInto_41 : decode cX3_mixedInto 41 = .ok (.lload_n 3, 1) := by decide +kernel
theorem dX3_mixedInto_42 : decode cX3_mixedInto 42 = .ok (.lreturn, 1) := by decide +kernel
theorem dX4_init_0 : decode cX4_init 0 = .ok (.aload_n 0, 1) := by decide +kernel
theorem dX4_init_1 : decode cX4_init 1 = .ok (.invokespecial 1, 3) := by decide +kernel
theorem dX4_init_4 : decode cX4_init 4 = .ok (.aload_n 0, 1) := by decide +kernel
theorem dX4_init_5 : decode cX4_init 5 = .ok (.ldc2_w 7, 3) := by decide +kernel
theorem dX4_init_8 : decode cX4_init 8 = .ok (.putfield 9, 3) := by decide +kernel
theorem dX4_init_11 : decode cX4_init 11 = .ok (.aload_n 0, 1) := by decide +kernel
theorem dX4_init_12 : decode cX4_init 12 = .ok (.ldc2_w 7, 3) := by decide +kernel
theorem dX4_init_15 : decode cX4_init 15 = .ok (.putfield 15, 3) := by decide +kernel
theorem dX4_init_18 : decode cX4_init 18 = .ok (.aload_n 0, 1) := by decide +kernel
theorem dX4_init_19 : decode cX4_init 19 = .ok (.iconst 0, 1) := by decide +kernel
theorem dX4_init_20 : decode cX4_init 20 = .ok (.putfield 18, 3) := by decide +kernel
theorem dX4_init_23 : decode cX4_init 23 = .ok (.aload_n 0, 1) := by decide +kernel
theorem dX4_init_24 : decode cX4_init 24 = .ok (.iconst 0, 1) := by decide +kernel
theorem dX4_init_25 : decode cX4_init 25 = .ok (.putfield 22, 3) := by decide +kernel
theorem dX4_init_28 : decode cX4_init 28 = .ok (.return_, 1) := by decide +kernel
theorem dX4_begin_0 : decode cX4_begin 0 = .ok (.aload_n 0, 1) := by decide +kernel
theorem dX4_begin_1 : decode cX4_begin 1 = .ok (.ldc2_w 7, 3) := by decide +kernel
theorem dX4_begin_4 : decode cX4_begin 4 = .ok (.putfield 9, 3) := by decide +kernel
theorem dX4_begin_7 : decode cX4_begin 7 = .ok (.aload_n 0, 1) := by decide +kernel
theorem dX4_begin_8 : decode cX4_begin 8 = .ok (.ldc2_w 7, 3) := by decide +kernel
theorem dX4_begin_11 : decode cX4_begin 11 = .ok (.putfield 15, 3) := by decide +kernel
theorem dX4_begin_14 : decode cX4_begin 14 = .ok (.return_, 1) := by decide +kernel
theorem dX4_weigh_0 : decode cX4_weigh 0 = .ok (.lload_n 1, 1) := by decide +kernel
theorem dX4_weigh_1 : decode cX4_weigh 1 = .ok (.aload_n 0, 1) := by decide +kernel
theorem dX4_weigh_2 : decode cX4_weigh 2 = .ok (.getfield 9, 3) := by decide +kernel
theorem dX4_weigh_5 : decode cX4_weigh 5 = .ok (.lcmp, 1) := by decide +kernel
theorem dX4_weigh_6 : decode cX4_weigh 6 = .ok (.ifCond .le 30, 3) := by decide +kernel
theorem dX4_weigh_9 : decode cX4_weigh 9 = .ok (.aload_n 0, 1) := by decide +kernel
theorem dX4_weigh_10 : decode cX4_weigh 10 = .ok (.aload_n 0, 1) := by decide +kernel
theorem dX4_weigh_11 : decode cX4_weigh 11 = .ok (.getfield 9, 3) := by decide +kernel
theorem dX4_weigh_14 : decode cX4_weigh 14 = .ok (.putfield 15, 3) := by decide +kernel
theorem dX4_weigh_17 : decode cX4_weigh 17 = .ok (.aload_n 0, 1) := by decide +kernel
theorem dX4_weigh_18 : decode cX4_weigh 18 = .ok (.lload_n 1, 1) := by decide +kernel
theorem dX4_weigh_19 : decode cX4_weigh 19 = .ok (.putfield 9, 3) := by decide +kernel
theorem dX4_weigh_22 : decode cX4_weigh 22 = .ok (.aload_n 0, 1) := by decide +kernel
theorem dX4_weigh_23 : decode cX4_weigh 23 = .ok (.iload_n 3, 1) := by decide +kernel
theorem dX4_weigh_24 : decode cX4_weigh 24 = .ok (.putfield 18, 3) := by decide +kernel
theorem dX4_weigh_27 : decode cX4_weigh 27 = .ok (.aload_n 0, 1) := by decide +kernel
theorem dX4_weigh_28 : decode cX4_weigh 28 = .ok (.iload 4, 2) := by decide +kernel
theorem dX4_weigh_30 : decode cX4_weigh 30 = .ok (.putfield 22, 3) := by decide +kernel
theorem dX4_weigh_33 : decode cX4_weigh 33 = .ok (.goto 17, 3) := by decide +kernel
theorem dX4_weigh_36 : decode cX4_weigh 36 = .ok (.lload_n 1, 1) := by decide +kernel
theorem dX4_weigh_37 : decode cX4_weigh 37 = .ok (.aload_n 0, 1) := by decide +kernel
theorem dX4_weigh_38 : decode cX4_weigh 38 = .ok (.getfield 15, 3) := by decide +kernel
theorem dX4_weigh_41 : decode cX4_weigh 41 = .ok (.lcmp, 1) := by decide +kernel
theorem dX4_weigh_42 : decode cX4_weigh 42 = .ok (.ifCond .le 8, 3) := by decide +kernel
theorem dX4_weigh_45 : decode cX4_weigh 45 = .ok (.aload_n 0, 1) := by decide +kernel
theorem dX4_weigh_46 : decode cX4_weigh 46 = .ok (.lload_n 1, 1) := by decide +kernel
theorem dX4_weigh_47 : decode cX4_weigh 47 = .ok (.putfield 15, 3) := by decide +kernel
theorem dX4_weigh_50 : decode cX4_weigh 50 = .ok (.return_, 1) := by decide +kernel
theorem dX5_init_0 : decode cX5_init 0 = .ok (.aload_n 0, 1) := by decide +kernel
theorem dX5_init_1 : decode cX5_init 1 = .ok (.invokespecial 3, 3) := by decide +kernel
theorem dX5_init_4 : decode cX5_init 4 = .ok (.aload_n 0, 1) := by decide +kernel
theorem dX5_init_5 : decode cX5_init 5 = .ok (.bipush 127, 2) := by decide +kernel
theorem dX5_init_7 : decode cX5_init 7 = .ok (.newarray .int, 2) := by decide +kernel
theorem dX5_init_9 : decode cX5_init 9 = .ok (.putfield 9, 3) := by decide +kernel
theorem dX5_init_12 : decode cX5_init 12 = .ok (.aload_n 0, 1) := by decide +kernel
theorem dX5_init_13 : decode cX5_init 13 = .ok (.bipush 127, 2) := by decide +kernel
theorem dX5_init_15 : decode cX5_init 15 = .ok (.newarray .int, 2) := by decide +kernel
theorem dX5_init_17 : decode cX5_init 17 = .ok (.putfield 15, 3) := by decide +kernel
theorem dX5_init_20 : decode cX5_init 20 = .ok (.aload_n 0, 1) := by decide +kernel
theorem dX5_init_21 : decode cX5_init 21 = .ok (.bipush 127, 2) := by decide +kernel
theorem dX5_init_23 : decode cX5_init 23 = .ok (.newarray .int, 2) := by decide +kernel
theorem dX5_init_25 : decode cX5_init 25 = .ok (.putfield 18, 3) := by decide +kernel
theorem dX5_init_28 : decode cX5_init 28 = .ok (.aload_n 0, 1) := by decide +kernel
theorem dX5_init_29 : decode cX5_init 29 = .ok (.bipush 127, 2) := by decide +kernel
theorem dX5_init_31 : decode cX5_init 31 = .ok (.newarray .int, 2) := by decide +kernel
theorem dX5_init_33 : decode cX5_init 33 = .ok (.putfield 21, 3) := by decide +kernel
theorem dX5_init_36 : decode cX5_init 36 = .ok (.aload_n 0, 1) := by decide +kernel
theorem dX5_init_37 : decode cX5_init 37 = .ok (.iconst 0, 1) := by decide +kernel
theorem dX5_init_38 : decode cX5_init 38 = .ok (.putfield 24, 3) := by decide +kernel
theorem dX5_init_41 : decode cX5_init 41 = .ok (.return_, 1) := by decide +kernel
theorem dX5_turnBack_0 : decode cX5_turnBack 0 = .ok (.iconst 0, 1) := by decide +kernel
theorem dX5_turnBack_1 : decode cX5_turnBack 1 = .ok (.istore_n 2, 1) := by decide +kernel
theorem dX5_turnBack_2 : decode cX5_turnBack 2 = .ok (.iload_n 2, 1) := by decide +kernel
theorem dX5_turnBack_3 : decode cX5_turnBack 3 = .ok (.aload_n 0, 1) := by decide +kernel
theorem dX5_turnBack_4 : decode cX5_turnBack 4 = .ok (.getfield 24, 3) := by decide +kernel
theorem dX5_turnBack_7 : decode cX5_turnBack 7 = .ok (.if_icmp .ge 116, 3) := by decide +kernel
theorem dX5_turnBack_10 : decode cX5_turnBack 10 = .ok (.iload_n 1, 1) := by decide +kernel
theorem dX5_turnBack_11 : decode cX5_turnBack 11 = .ok (.iload_n 2, 1) := by decide +kernel
theorem dX5_turnBack_12 : decode cX5_turnBack 12 = .ok (.imul, 1) := by decide +kernel
theorem dX5_turnBack_13 : decode cX5_turnBack 13 = .ok (.iconst 3, 1) := by decide +kernel
theorem dX5_turnBack_14 : decode cX5_turnBack 14 = .ok (.iand, 1) := by decide +kernel
theorem dX5_turnBack_15 : decode cX5_turnBack 15 = .ok (.istore_n 3, 1) := by decide +kernel
theorem dX5_turnBack_16 : decode cX5_turnBack 16 = .ok (.iload_n 3, 1) := by decide +kernel
theorem dX5_turnBack_17 : decode cX5_turnBack 17 = .ok (.iconst 1, 1) := by decide +kernel
theorem dX5_turnBack_18 : decode cX5_turnBack 18 = .ok (.iand, 1) := by decide +kernel
theorem dX5_turnBack_19 : decode cX5_turnBack 19 = .ok (.iconst 1, 1) := by decide +kernel
theorem dX5_turnBack_20 : decode cX5_turnBack 20 = .ok (.if_icmp .ne 7, 3) := by decide +kernel
theorem dX5_turnBack_23 : decode cX5_turnBack 23 = .ok (.iconst 1, 1) := by decide +kernel
theorem dX5_turnBack_24 : decode cX5_turnBack 24 = .ok (.goto 4, 3) := by decide +kernel
theorem dX5_turnBack_27 : decode cX5_turnBack 27 = .ok (.iconst 0, 1) := by decide +kernel
theorem dX5_turnBack_28 : decode cX5_turnBack 28 = .ok (.istore 4, 2) := by decide +kernel
theorem dX5_turnBack_30 : decode cX5_turnBack 30 = .ok (.iload 4, 2) := by decide +kernel
theorem dX5_turnBack_32 : decode cX5_turnBack 32 = .ok (.ifCond .eq 12, 3) := by decide +kernel
theorem dX5_turnBack_35 : decode cX5_turnBack 35 = .ok (.aload_n 0, 1) := by decide +kernel
theorem dX5_turnBack_36 : decode cX5_turnBack 36 = .ok (.getfield 15, 3) := by decide +kernel
theorem dX5_turnBack_39 : decode cX5_turnBack 39 = .ok (.iload_n 2, 1) := by decide +kernel
theorem dX5_turnBack_40 : decode cX5_turnBack 40 = .ok (.iaload, 1) := by decide +kernel
theorem dX5_turnBack_41 : decode cX5_turnBack 41 = .ok (.goto 9, 3) := by decide +kernel
theorem dX5_turnBack_44 : decode cX5_turnBack 44 = .ok (.aload_n 0, 1) := by decide +kernel
theorem dX5_turnBack_45 : decode cX5_turnBack 45 = .ok (.getfield 9, 3) := by decide +kernel
theorem dX5_turnBack_48 : decode cX5_turnBack 48 = .ok (.iload_n 2, 1) := by decide +kernel
theorem dX5_turnBack_49 : decode cX5_turnBack 49 = .ok (.iaload, 1) := by decide +kernel
theorem dX5_turnBack_50 : decode cX5_turnBack 50 = .ok (.istore 5, 2) := by decide +kernel
theorem dX5_turnBack_52 : decode cX5_turnBack 52 = .ok (.iload 4, 2) := by decide +kernel
theorem dX5_turnBack_54 : decode cX5_turnBack 54 = .ok (.ifCond .eq 12, 3) := by decide +kernel
theorem dX5_turnBack_57 : decode cX5_turnBack 57 = .ok (.aload_n 0, 1) := by decide +kernel
theorem dX5_turnBack_58 : decode cX5_turnBack 58 = .ok (.getfield 9, 3) := by decide +kernel
theorem dX5_turnBack_61 : decode cX5_turnBack 61 = .ok (.iload_n 2, 1) := by decide +kernel
theorem dX5_turnBack_62 : decode cX5_turnBack 62 = .ok (.iaload, 1) := by decide +kernel
theorem dX5_turnBack_63 : decode cX5_turnBack 63 = .ok (.goto 9, 3) := by decide +kernel
theorem dX5_turnBack_66 : decode cX5_turnBack 66 = .ok (.aload_n 0, 1) := by decide +kernel
theorem dX5_turnBack_67 : decode cX5_turnBack 67 = .ok (.getfield 15, 3) := by decide +kernel
theorem dX5_turnBack_70 : decode cX5_turnBack 70 = .ok (.iload_n 2, 1) := by decide +kernel
theorem dX5_turnBack_71 : decode cX5_turnBack 71 = .ok (.iaload, 1) := by decide +kernel
theorem dX5_turnBack_72 : decode cX5_turnBack 72 = .ok (.istore 6, 2) := by decide +kernel
theorem dX5_turnBack_74 : decode cX5_turnBack 74 = .ok (.aload_n 0, 1) := by decide +kernel
theorem dX5_turnBack_75 : decode cX5_turnBack 75 = .ok (.getfield 18, 3) := by decide +kernel
theorem dX5_turnBack_78 : decode cX5_turnBack 78 = .ok (.iload_n 2, 1) := by decide +kernel
theorem dX5_turnBack_79 : decode cX5_turnBack 79 = .ok (.iload_n 3, 1) := by decide +kernel
theorem dX5_turnBack_80 : decode cX5_turnBack 80 = .ok (.iconst 2, 1) := by decide +kernel
theorem dX5_turnBack_81 : decode cX5_turnBack 81 = .ok (.if_icmp .lt 9, 3) := by decide +kernel
theorem dX5_turnBack_84 : decode cX5_turnBack 84 = .ok (.iload 5, 2) := by decide +kernel
theorem dX5_turnBack_86 : decode cX5_turnBack 86 = .ok (.ineg, 1) := by decide +kernel
theorem dX5_turnBack_87 : decode cX5_turnBack 87 = .ok (.goto 5, 3) := by decide +kernel
theorem dX5_turnBack_90 : decode cX5_turnBack 90 = .ok (.iload 5, 2) := by decide +kernel
theorem dX5_turnBack_92 : decode cX5_turnBack 92 = .ok (.iastore, 1) := by decide +kernel
theorem dX5_turnBack_93 : decode cX5_turnBack 93 = .ok (.aload_n 0, 1) := by decide +kernel
theorem dX5_turnBack_94 : decode cX5_turnBack 94 = .ok (.getfield 21, 3) := by decide +kernel
theorem dX5_turnBack_97 : decode cX5_turnBack 97 = .ok (.iload_n 2, 1) := by decide +kernel
theorem dX5_turnBack_98 : decode cX5_turnBack 98 = .ok (.iload_n 3, 1) := by decide +kernel
theorem dX5_turnBack_99 : decode cX5_turnBack 99 = .ok (.iconst 1, 1) := by decide +kernel
theorem dX5_turnBack_100 : decode cX5_turnBack 100 = .ok (.if_icmp .eq 8, 3) := by decide +kernel
theorem dX5_turnBack_103 : decode cX5_turnBack 103 = .ok (.iload_n 3, 1) := by decide +kernel
theorem dX5_turnBack_104 : decode cX5_turnBack 104 = .ok (.iconst 2, 1) := by decide +kernel
theorem dX5_turnBack_105 : decode cX5_turnBack 105 = .ok (.if_icmp .ne 9, 3) := by decide +kernel
