theorem dX7_reel_41 : decode cX7_reel 41 = .ok (.iconst 1, 1) := by decide +kernel
theorem dX7_reel_42 : decode cX7_reel 42 = .ok (.bastore, 1) := by decide +kernel
theorem dX7_reel_43 : decode cX7_reel 43 = .ok (.aload_n 0, 1) := by decide +kernel
theorem dX7_reel_44 : decode cX7_reel 44 = .ok (.getfield 39, 3) := by decide +kernel
theorem dX7_reel_47 : decode cX7_reel 47 = .ok (.iload_n 1, 1) := by decide +kernel
theorem dX7_reel_48 : decode cX7_reel 48 = .ok (.iload_n 2, 1) := by decide +kernel
theorem dX7_reel_49 : decode cX7_reel 49 = .ok (.iastore, 1) := by decide +kernel
theorem dX7_reel_50 : decode cX7_reel 50 = .ok (.aload_n 0, 1) := by decide +kernel
theorem dX7_reel_51 : decode cX7_reel 51 = .ok (.getfield 42, 3) := by decide +kernel
theorem dX7_reel_54 : decode cX7_reel 54 = .ok (.iload_n 1, 1) := by decide +kernel
theorem dX7_reel_55 : decode cX7_reel 55 = .ok (.iload_n 3, 1) := by decide +kernel
theorem dX7_reel_56 : decode cX7_reel 56 = .ok (.iastore, 1) := by decide +kernel
theorem dX7_reel_57 : decode cX7_reel 57 = .ok (.iconst 0, 1) := by decide +kernel
theorem dX7_reel_58 : decode cX7_reel 58 = .ok (.istore 4, 2) := by decide +kernel
theorem dX7_reel_60 : decode cX7_reel 60 = .ok (.iload 4, 2) := by decide +kernel
theorem dX7_reel_62 : decode cX7_reel 62 = .ok (.sipush 300, 3) := by decide +kernel
theorem dX7_reel_65 : decode cX7_reel 65 = .ok (.if_icmp .ge 23, 3) := by decide +kernel
theorem dX7_reel_68 : decode cX7_reel 68 = .ok (.aload_n 0, 1) := by decide +kernel
theorem dX7_reel_69 : decode cX7_reel 69 = .ok (.getfield 45, 3) := by decide +kernel
theorem dX7_reel_72 : decode cX7_reel 72 = .ok (.sipush 300, 3) := by decide +kernel
theorem dX7_reel_75 : decode cX7_reel 75 = .ok (.iload_n 1, 1) := by decide +kernel
theorem dX7_reel_76 : decode cX7_reel 76 = .ok (.imul, 1) := by decide +kernel
theorem dX7_reel_77 : decode cX7_reel 77 = .ok (.iload 4, 2) := by decide +kernel
theorem dX7_reel_79 : decode cX7_reel 79 = .ok (.iadd, 1) := by decide +kernel
theorem dX7_reel_80 : decode cX7_reel 80 = .ok (.iconst 0, 1) := by decide +kernel
theorem dX7_reel_81 : decode cX7_reel 81 = .ok (.iastore, 1) := by decide +kernel
theorem dX7_reel_82 : decode cX7_reel 82 = .ok (.iinc 4 1, 3) := by decide +kernel
theorem dX7_reel_85 : decode cX7_reel 85 = .ok (.goto (-25), 3) := by decide +kernel
theorem dX7_reel_88 : decode cX7_reel 88 = .ok (.iload_n 3, 1) := by decide +kernel
theorem dX7_reel_89 : decode cX7_reel 89 = .ok (.ireturn, 1) := by decide +kernel
set_option maxRecDepth 20000 in
theorem ggX7_lose_X7_isReel : GoodIn wsX7_lose wsX7_isReel := goodIn_r _ [6, 7, 8, 5, 9] (by decide +kernel) (by decide +kernel)
set_option maxRecDepth 20000 in
theorem gX7_lose_X7_isReel : GoodIn wsX7_lose (va_wsS RX7 84 yX7_isReel wsX7_isReel) := goodIn_app (goodIn_of _ (by decide +kernel)) ggX7_lose_X7_isReel
set_option maxRecDepth 20000 in
theorem ggX7_lose_X7_meets : GoodIn wsX7_lose wsX7_meets := goodIn_r _ [13, 14, 15, 16, 17, 18, 19, 20, 21, 22, 23, 24, 25, 26, 27, 28, 29, 30, 31, 32, 33] (by decide +kernel) (by decide +kernel)
set_option maxRecDepth 20000 in
theorem gX7_lose_X7_meets : GoodIn wsX7_lose (wsV RX7 87 RX7 yX7_meets wsX7_meets) := goodIn_app (goodIn_of _ (by decide +kernel)) ggX7_lose_X7_meets
theorem dX7_lose_0 : decode cX7_lose 0 = .ok (.iload_n 1, 1) := by decide +kernel
theorem dX7_lose_1 : decode cX7_lose 1 = .ok (.invokestatic 84, 3) := by decide +kernel
theorem dX7_lose_4 : decode cX7_lose 4 = .ok (.ifCond .ne 6, 3) := by decide +kernel
theorem dX7_lose_7 : decode cX7_lose 7 = .ok (.bipush (-2), 2) := by decide +kernel
theorem dX7_lose_9 : decode cX7_lose 9 = .ok (.ireturn, 1) := by decide +kernel
theorem dX7_lose_10 : decode cX7_lose 10 = .ok (.aload_n 0, 1) := by decide +kernel
theorem dX7_lose_11 : decode cX7_lose 11 = .ok (.getfield 35, 3) := by decide +kernel
theorem dX7_lose_14 : decode cX7_lose 14 = .ok (.iload_n 1, 1) := by decide +kernel
theorem dX7_lose_15 : decode cX7_lose 15 = .ok (.baload, 1) := by decide +kernel
theorem dX7_lose_16 : decode cX7_lose 16 = .ok (.ifCond .ne 9, 3) := by decide +kernel
theorem dX7_lose_19 : decode cX7_lose 19 = .ok (.aload_n 0, 1) := by decide +kernel
theorem dX7_lose_20 : decode cX7_lose 20 = .ok (.iconst 1, 1) := by decide +kernel
theorem dX7_lose_21 : decode cX7_lose 21 = .ok (.invokevirtual 87, 3) := by decide +kernel
theorem dX7_lose_24 : decode cX7_lose 24 = .ok (.ireturn, 1) := by decide +kernel
theorem dX7_lose_25 : decode cX7_lose 25 = .ok (.aload_n 0, 1) := by decide +kernel
theorem dX7_lose_26 : decode cX7_lose 26 = .ok (.getfield 35, 3) := by decide +kernel
theorem dX7_lose_29 : decode cX7_lose 29 = .ok (.iload_n 1, 1) := by decide +kernel
theorem dX7_lose_30 : decode cX7_lose 30 = .ok (.iconst 0, 1) := by decide +kernel
theorem dX7_lose_31 : decode cX7_lose 31 = .ok (.bastore, 1) := by decide +kernel
theorem dX7_lose_32 : decode cX7_lose 32 = .ok (.aload_n 0, 1) := by decide +kernel
theorem dX7_lose_33 : decode cX7_lose 33 = .ok (.getfield 42, 3) := by decide +kernel
theorem dX7_lose_36 : decode cX7_lose 36 = .ok (.iload_n 1, 1) := by decide +kernel
theorem dX7_lose_37 : decode cX7_lose 37 = .ok (.iaload, 1) := by decide +kernel
theorem dX7_lose_38 : decode cX7_lose 38 = .ok (.ireturn, 1) := by decide +kernel
set_option maxRecDepth 20000 in
theorem ggX7_lacks_X7_in : GoodIn wsX7_lacks wsX7_in := goodIn_r _ [7] (by decide +kernel) (by decide +kernel)
set_option maxRecDepth 20000 in
theorem gX7_lacks_X7_in : GoodIn wsX7_lacks (va_wsS RX7 51 yX7_in wsX7_in) := goodIn_app (goodIn_of _ (by decide +kernel)) ggX7_lacks_X7_in
theorem dX7_lacks_0 : decode cX7_lacks 0 = .ok (.aload_n 0, 1) := by decide +kernel
theorem dX7_lacks_1 : decode cX7_lacks 1 = .ok (.getfield 35, 3) := by decide +kernel
theorem dX7_lacks_4 : decode cX7_lacks 4 = .ok (.iload_n 1, 1) := by decide +kernel
theorem dX7_lacks_5 : decode cX7_lacks 5 = .ok (.baload, 1) := by decide +kernel
theorem dX7_lacks_6 : decode cX7_lacks 6 = .ok (.ifCond .ne 7, 3) := by decide +kernel
theorem dX7_lacks_9 : decode cX7_lacks 9 = .ok (.iconst 1, 1) := by decide +kernel
theorem dX7_lacks_10 : decode cX7_lacks 10 = .ok (.goto 38, 3) := by decide +kernel
theorem dX7_lacks_13 : decode cX7_lacks 13 = .ok (.aload_n 0, 1) := by decide +kernel
theorem dX7_lacks_14 : decode cX7_lacks 14 = .ok (.getfield 39, 3) := by decide +kernel
theorem dX7_lacks_17 : decode cX7_lacks 17 = .ok (.iload_n 1, 1) := by decide +kernel
theorem dX7_lacks_18 : decode cX7_lacks 18 = .ok (.iaload, 1) := by decide +kernel
theorem dX7_lacks_19 : decode cX7_lacks 19 = .ok (.iload_n 2, 1) := by decide +kernel
theorem dX7_lacks_20 : decode cX7_lacks 20 = .ok (.if_icmp .eq 7, 3) := by decide +kernel
theorem dX7_lacks_23 : decode cX7_lacks 23 = .ok (.iconst 3, 1) := by decide +kernel
theorem dX7_lacks_24 : decode cX7_lacks 24 = .ok (.goto 24, 3) := by decide +kernel
theorem dX7_lacks_27 : decode cX7_lacks 27 = .ok (.iload_n 3, 1) := by decide +kernel
theorem dX7_lacks_28 : decode cX7_lacks 28 = .ok (.iconst 0, 1) := by decide +kernel
theorem dX7_lacks_29 : decode cX7_lacks 29 = .ok (.aload_n 0, 1) := by decide +kernel
theorem dX7_lacks_30 : decode cX7_lacks 30 = .ok (.getfield 42, 3) := by decide +kernel
theorem dX7_lacks_33 : decode cX7_lacks 33 = .ok (.iload_n 1, 1) := by decide +kernel
theorem dX7_lacks_34 : decode cX7_lacks 34 = .ok (.iaload, 1) := by decide +kernel
theorem dX7_lacks_35 : decode cX7_lacks 35 = .ok (.iconst 1, 1) := by decide +kernel
theorem dX7_lacks_36 : decode cX7_lacks 36 = .ok (.isub, 1) := by decide +kernel
theorem dX7_lacks_37 : decode cX7_lacks 37 = .ok (.invokestatic 51, 3) := by decide +kernel
theorem dX7_lacks_40 : decode cX7_lacks 40 = .ok (.ifCond .eq 7, 3) := by decide +kernel
theorem dX7_lacks_43 : decode cX7_lacks 43 = .ok (.iconst 0, 1) := by decide +kernel
theorem dX7_lacks_44 : decode cX7_lacks 44 = .ok (.goto 4, 3) := by decide +kernel
theorem dX7_lacks_47 : decode cX7_lacks 47 = .ok (.iconst 2, 1) := by decide +kernel
theorem dX7_lacks_48 : decode cX7_lacks 48 = .ok (.ireturn, 1) := by decide +kernel
theorem dX7_cut_0 : decode cX7_cut 0 = .ok (.iload_n 0, 1) := by decide +kernel
theorem dX7_cut_1 : decode cX7_cut 1 = .ok (.ifCond .ne 8, 3) := by decide +kernel
theorem dX7_cut_4 : decode cX7_cut 4 = .ok (.iload_n 1, 1) := by decide +kernel
theorem dX7_cut_5 : decode cX7_cut 5 = .ok (.i2b, 1) := by decide +kernel
theorem dX7_cut_6 : decode cX7_cut 6 = .ok (.goto 14, 3) := by decide +kernel
theorem dX7_cut_9 : decode cX7_cut 9 = .ok (.iload_n 0, 1) := by decide +kernel
theorem dX7_cut_10 : decode cX7_cut 10 = .ok (.iconst 1, 1) := by decide +kernel
theorem dX7_cut_11 : decode cX7_cut 11 = .ok (.if_icmp .ne 8, 3) := by decide +kernel
theorem dX7_cut_14 : decode cX7_cut 14 = .ok (.iload_n 1, 1) := by decide +kernel
theorem dX7_cut_15 : decode cX7_cut 15 = .ok (.i2s, 1) := by decide +kernel
theorem dX7_cut_16 : decode cX7_cut 16 = .ok (.goto 4, 3) := by decide +kernel
theorem dX7_cut_19 : decode cX7_cut 19 = .ok (.iload_n 1, 1) := by decide +kernel
theorem dX7_cut_20 : decode cX7_cut 20 = .ok (.ireturn, 1) := by decide +kernel
set_option maxRecDepth 20000 in
theorem ggX7_put_X7_isReel : GoodIn wsX7_put wsX7_isReel := goodIn_r _ [5, 6, 7, 4, 8] (by decide +kernel) (by decide +kernel)
set_option maxRecDepth 20000 in
theorem gX7_put_X7_isReel : GoodIn wsX7_put (va_wsS RX7 84 yX7_isReel wsX7_isReel) := goodIn_app (goodIn_of _ (by decide +kernel)) ggX7_put_X7_isReel
set_option maxRecDepth 20000 in
theorem ggX7_put_X7_in : GoodIn wsX7_put wsX7_in := goodIn_r _ [8] (by decide +kernel) (by decide +kernel)
set_option maxRecDepth 20000 in
theorem gX7_put_X7_in : GoodIn wsX7_put (va_wsS RX7 51 yX7_in wsX7_in) := goodIn_app (goodIn_of _ (by decide +kernel)) ggX7_put_X7_in
set_option maxRecDepth 20000 in
theorem ggX7_put_X7_lacks : GoodIn wsX7_put wsX7_lacks := goodIn_r _ [12, 13, 14, 15, 6, 7, 4, 8, 24, 25, 26, 27, 28, 29, 30, 31, 32, 33, 34, 35, 36, 37, 38, 39, 40, 41, 42] (by decide +kernel) (by decide +kernel)
set_option maxRecDepth 20000 in
theorem gX7_put_X7_lacks : GoodIn wsX7_put (wsV RX7 152 RX7 yX7_lacks wsX7_lacks) := goodIn_app (goodIn_of _ (by decide +kernel)) ggX7_put_X7_lacks
set_option maxRecDepth 20000 in
theorem ggX7_put_X7_meets : GoodIn wsX7_put wsX7_meets := goodIn_r _ [19, 20, 24, 25, 26, 27, 28, 29, 30, 31, 32, 33, 34, 35, 36, 37, 38, 39, 40, 41, 42] (by decide +kernel) (by decide +kernel)
set_option maxRecDepth 20000 in
theorem gX7_put_X7_meets : GoodIn wsX7_put (wsV RX7 87 RX7 yX7_meets wsX7_meets) := goodIn_app (goodIn_of _ (by decide +kernel)) ggX7_put_X7_meets
set_option maxRecDepth 20000 in
theorem ggX7_put_X7_cut : GoodIn wsX7_put wsX7_cut := goodIn_r _ [23] (by decide +kernel) (by decide +kernel)
set_option maxRecDepth 20000 in
theorem gX7_put_X7_cut : GoodIn wsX7_put (va_wsS RX7 155 yX7_cut wsX7_cut) := goodIn_app (goodIn_of _ (by decide +kernel)) ggX7_put_X7_cut
theorem dX7_put_0 : decode cX7_put 0 = .ok (.iload_n 1, 1) := by decide +kernel
theorem dX7_put_1 : decode cX7_put 1 = .ok (.invokestatic 84, 3) := by decide +kernel
theorem dX7_put_4 : decode cX7_put 4 = .ok (.ifCond .eq 12, 3) := by decide +kernel
theorem dX7_put_7 : decode cX7_put 7 = .ok (.iload_n 2, 1) := by decide +kernel
theorem dX7_put_8 : decode cX7_put 8 = .ok (.iconst 0, 1) := by decide +kernel
theorem dX7_put_9 : decode cX7_put 9 = .ok (.iconst 2, 1) := by decide +kernel
theorem dX7_put_10 : decode cX7_put 10 = .ok (.invokestatic 51, 3) := by decide +kernel
theorem dX7_put_13 : decode cX7_put 13 = .ok (.ifCond .ne 6, 3) := by decide +kernel
theorem dX7_put_16 : decode cX7_put 16 = .ok (.bipush (-2), 2) := by decide +kernel
theorem dX7_put_18 : decode cX7_put 18 = .ok (.ireturn, 1) := by decide +kernel
theorem dX7_put_19 : decode cX7_put 19 = .ok (.aload_n 0, 1) := by decide +kernel
theorem dX7_put_20 : decode cX7_put 20 = .ok (.iload_n 1, 1) := by decide +kernel
theorem dX7_put_21 : decode cX7_put 21 = .ok (.iload_n 2, 1) := by decide +kernel
theorem dX7_put_22 : decode cX7_put 22 = .ok (.iload_n 3, 1) := by decide +kernel
theorem dX7_put_23 : decode cX7_put 23 = .ok (.invokevirtual 152, 3) := by decide +kernel
theorem dX7_put_26 : decode cX7_put 26 = .ok (.istore 5, 2) := by decide +kernel
theorem dX7_put_28 : decode cX7_put 28 = .ok (.iload 5, 2) := by decide +kernel
theorem dX7_put_30 : decode cX7_put 30 = .ok (.ifCond .le 10, 3) := by decide +kernel
theorem dX7_put_33 : decode cX7_put 33 = .ok (.aload_n 0, 1) := by decide +kernel
theorem dX7_put_34 : decode cX7_put 34 = .ok (.iload 5, 2) := by decide +kernel
theorem dX7_put_36 : decode cX7_put 36 = .ok (.invokevirtual 87, 3) := by decide +kernel
theorem dX7_put_39 : decode cX7_put 39 = .ok (.ireturn, 1) := by decide +kernel
theorem dX7_put_40 : decode cX7_put 40 = .ok (.aload_n 0, 1) := by decide +kernel
theorem dX7_put_41 : decode cX7_put 41 = .ok (.getfield 45, 3) := by decide +kernel
theorem dX7_put_44 : decode cX7_put 44 = .ok (.sipush 300, 3) := by decide +kernel
theorem dX7_put_47 : decode cX7_put 47 = .ok (.iload_n 1, 1) := by decide +kernel
theorem dX7_put_48 : decode cX7_put 48 = .ok (.imul, 1) := by decide +kernel
theorem dX7_put_49 : decode cX7_put 49 = .ok (.iload_n 3, 1) := by decide +kernel
theorem dX7_put_50 : decode cX7_put 50 = .ok (.iadd, 1) := by decide +kernel
theorem dX7_put_51 : decode cX7_put 51 = .ok (.iload_n 2, 1) := by decide +kernel
theorem dX7_put_52 : decode cX7_put 52 = .ok (.iload 4, 2) := by decide +kernel
theorem dX7_put_54 : decode cX7_put 54 = .ok (.invokestatic 155, 3) := by decide +kernel
theorem dX7_put_57 : decode cX7_put 57 = .ok (.iastore, 1) := by decide +kernel
theorem dX7_put_58 : decode cX7_put 58 = .ok (.iconst 1, 1) := by decide +kernel
theorem dX7_put_59 : decode cX7_put 59 = .ok (.ireturn, 1) := by decide +kernel
set_option maxRecDepth 20000 in
theorem ggX7_get_X7_isReel : GoodIn wsX7_get wsX7_isReel := goodIn_r _ [7, 8, 9, 6, 10] (by decide +kernel) (by decide +kernel)
set_option maxRecDepth 20000 in
theorem gX7_get_X7_isReel : GoodIn wsX7_get (va_wsS RX7 84 yX7_isReel wsX7_isReel) := goodIn_app (goodIn_of _ (by decide +kernel)) ggX7_get_X7_isReel
set_option maxRecDepth 20000 in
theorem ggX7_get_X7_in : GoodIn wsX7_get wsX7_in := goodIn_r _ [10] (by decide +kernel) (by decide +kernel)
set_option maxRecDepth 20000 in
theorem gX7_get_X7_in : GoodIn wsX7_get (va_wsS RX7 51 yX7_in wsX7_in) := goodIn_app (goodIn_of _ (by decide +kernel)) ggX7_get_X7_in
set_option maxRecDepth 20000 in
theorem ggX7_get_X7_lacks : GoodIn wsX7_get wsX7_lacks := goodIn_r _ [14, 15, 16, 17, 8, 9, 6, 10, 18, 19, 20, 21, 22, 23, 24, 25, 26, 27, 28, 29, 30, 31, 32, 33, 34, 35, 36] (by decide +kernel) (by decide +kernel)
set_option maxRecDepth 20000 in
theorem gX7_get_X7_lacks : GoodIn wsX7_get (wsV RX7 152 RX7 yX7_lacks wsX7_lacks) := goodIn_app (goodIn_of _ (by decide +kernel)) ggX7_get_X7_lacks
theorem dX7_get_0 : decode cX7_get 0 = .ok (.iload_n 1, 1) := by decide +kernel
theorem dX7_get_1 : decode cX7_get 1 = .ok (.invokestatic 84, 3) := by decide +kernel
theorem dX7_get_4 : decode cX7_get 4 = .ok (.ifCond .eq 12, 3) := by decide +kernel
theorem dX7_get_7 : decode cX7_get 7 = .ok (.iload_n 2, 1) := by decide +kernel
theorem dX7_get_8 : decode cX7_get 8 = .ok (.iconst 0, 1) := by decide +kernel
theorem dX7_get_9 : decode cX7_get 9 = .ok (.iconst 2, 1) := by decide +kernel
theorem dX7_get_10 : decode cX7_get 10 = .ok (.invokestatic 51, 3) := by decide +kernel
theorem dX7_get_13 : decode cX7_get 13 = .ok (.ifCond .ne 6, 3) := by decide +kernel
theorem dX7_get_16 : decode cX7_get 16 = .ok (.ldc 97, 2) := by decide +kernel
theorem dX7_get_18 : decode cX7_get 18 = .ok (.ireturn, 1) := by decide +kernel
theorem dX7_get_19 : decode cX7_get 19 = .ok (.aload_n 0, 1) := by decide +kernel
theorem dX7_get_20 : decode cX7_get 20 = .ok (.iload_n 1, 1) := by decide +kernel
theorem dX7_get_21 : decode cX7_get 21 = .ok (.iload_n 2, 1) := by decide +kernel
theorem dX7_get_22 : decode cX7_get 22 = .ok (.iload_n 3, 1) := by decide +kernel
theorem dX7_get_23 : decode cX7_get 23 = .ok (.invokevirtual 152, 3) := by decide +kernel
theorem dX7_get_26 : decode cX7_get 26 = .ok (.istore 4, 2) := by decide +kernel
theorem dX7_get_28 : decode cX7_get 28 = .ok (.iload 4, 2) := by decide +kernel
theorem dX7_get_30 : decode cX7_get 30 = .ok (.ifCond .le 12, 3) := by decide +kernel
theorem dX7_get_33 : decode cX7_get 33 = .ok (.aload_n 0, 1) := by decide +kernel
theorem dX7_get_34 : decode cX7_get 34 = .ok (.iload 4, 2) := by decide +kernel
theorem dX7_get_36 : decode cX7_get 36 = .ok (.putfield 149, 3) := by decide +kernel
theorem dX7_get_39 : decode cX7_get 39 = .ok (.ldc 97, 2) := by decide +kernel
theorem dX7_get_41 : decode cX7_get 41 = .ok (.ireturn, 1) := by decide +kernel
theorem dX7_get_42 : decode cX7_get 42 = .ok (.aload_n 0, 1) := by decide +kernel
theorem dX7_get_43 : decode cX7_get 43 = .ok (.getfield 45, 3) := by decide +kernel
theorem dX7_get_46 : decode cX7_get 46 = .ok (.sipush 300, 3) := by decide +kernel
theorem dX7_get_49 : decode cX7_get 49 = .ok (.iload_n 1, 1) := by decide +kernel
theorem dX7_get_50 : decode cX7_get 50 = .ok (.imul, 1) := by decide +kernel
theorem dX7_get_51 : decode cX7_get 51 = .ok (.iload_n 3, 1) := by decide +kernel
theorem dX7_get_52 : decode cX7_get 52 = .ok (.iadd, 1) := by decide +kernel
theorem dX7_get_53 : decode cX7_get 53 = .ok (.iaload, 1) := by decide +kernel
theorem dX7_get_54 : decode cX7_get 54 = .ok (.ireturn, 1) := by decide +kernel
set_option maxRecDepth 20000 in
theorem ggX7_copy_X7_isReel : GoodIn wsX7_copy wsX7_isReel := goodIn_r _ [9, 10, 11, 8, 12] (by decide +kernel) (by decide +kernel)
set_option maxRecDepth 20000 in
theorem gX7_copy_X7_isReel : GoodIn wsX7_copy (va_wsS RX7 84 yX7_isReel wsX7_isReel) := goodIn_app (goodIn_of _ (by decide +kernel)) ggX7_copy_X7_isReel
set_option maxRecDepth 20000 in
theorem ggX7_copy_X7_meets : GoodIn wsX7_copy wsX7_meets := goodIn_r _ [16, 17, 18, 19, 20, 21, 22, 23, 24, 25, 26, 27, 28, 29, 30, 31, 32, 33, 34, 35, 36] (by decide +kernel) (by decide +kernel)
set_option maxRecDepth 20000 in
theorem gX7_copy_X7_meets : GoodIn wsX7_copy (wsV RX7 87 RX7 yX7_meets wsX7_meets) := goodIn_app (goodIn_of _ (by decide +kernel)) ggX7_copy_X7_meets
theorem dX7_copy_0 : decode cX7_copy 0 = .ok (.iload_n 1, 1) := by decide +kernel
theorem dX7_copy_1 : decode cX7_copy 1 = .ok (.invokestatic 84, 3) := by decide +kernel
theorem dX7_copy_4 : decode cX7_copy 4 = .ok (.ifCond .eq 10, 3) := by decide +kernel
theorem dX7_copy_7 : decode cX7_copy 7 = .ok (.iload_n 3, 1) := by decide +kernel
theorem dX7_copy_8 : decode cX7_copy 8 = .ok (.invokestatic 84, 3) := by decide +kernel
theorem dX7_copy_11 : decode cX7_copy 11 = .ok (.ifCond .ne 6, 3) := by decide +kernel
theorem dX7_copy_14 : decode cX7_copy 14 = .ok (.bipush (-2), 2) := by decide +kernel
theorem dX7_copy_16 : decode cX7_copy 16 = .ok (.ireturn, 1) := by decide +kernel
theorem dX7_copy_17 : decode cX7_copy 17 = .ok (.aload_n 0, 1) := by decide +kernel
theorem dX7_copy_18 : decode cX7_copy 18 = .ok (.getfield 35, 3) := by decide +kernel
theorem dX7_copy_21 : decode cX7_copy 21 = .ok (.iload_n 1, 1) := by decide +kernel
theorem dX7_copy_22 : decode cX7_copy 22 = .ok (.baload, 1) := by decide +kernel
theorem dX7_copy_23 : decode cX7_copy 23 = .ok (.ifCond .eq 12, 3) := by decide +kernel
theorem dX7_copy_26 : decode cX7_copy 26 = .ok (.aload_n 0, 1) := by decide +kernel
theorem dX7_copy_27 : decode cX7_copy 27 = .ok (.getfield 35, 3) := by decide +kernel
theorem dX7_copy_30 : decode cX7_copy 30 = .ok (.iload_n 3, 1) := by decide +kernel
theorem dX7_copy_31 : decode cX7_copy 31 = .ok (.baload, 1) := by decide +kernel
theorem dX7_copy_32 : decode cX7_copy 32 = .ok (.ifCond .ne 9, 3) := by decide +kernel
theorem dX7_copy_35 : decode cX7_copy 35 = .ok (.aload_n 0, 1) := by decide +kernel
theorem dX7_copy_36 : decode cX7_copy 36 = .ok (.iconst 1, 1) := by decide +kernel
theorem dX7_copy_37 : decode cX7_copy 37 = .ok (.invokevirtual 87, 3) := by decide +kernel
theorem dX7_copy_40 : decode cX7_copy 40 = .ok (.ireturn, 1) := by decide +kernel
theorem dX7_copy_41 : decode cX7_copy 41 = .ok (.aload_n 0, 1) := by decide +kernel
theorem dX7_copy_42 : decode cX7_copy 42 = .ok (.getfield 39, 3) := by decide +kernel
theorem dX7_copy_45 : decode cX7_copy 45 = .ok (.iload_n 1, 1) := by decide +kernel
theorem dX7_copy_46 : decode cX7_copy 46 = .ok (.iaload, 1) := by decide +kernel
theorem dX7_copy_47 : decode cX7_copy 47 = .ok (.aload_n 0, 1) := by decide +kernel
theorem dX7_copy_48 : decode cX7_copy 48 = .ok (.getfield 39, 3) := by decide +kernel
theorem dX7_copy_51 : decode cX7_copy 51 = .ok (.iload_n 3, 1) := by decide +kernel
theorem dX7_copy_52 : decode cX7_copy 52 = .ok (.iaload, 1) := by decide +kernel
theorem dX7_copy_53 : decode cX7_copy 53 = .ok (.if_icmp .eq 9, 3) := by decide +kernel
theorem dX7_copy_56 : decode cX7_copy 56 = .ok (.aload_n 0, 1) := by decide +kernel
theorem dX7_copy_57 : decode cX7_copy 57 = .ok (.iconst 4, 1) := by decide +kernel
theorem dX7_copy_58 : decode cX7_copy 58 = .ok (.invokevirtual 87, 3) := by decide +kernel
theorem dX7_copy_61 : decode cX7_copy 61 = .ok (.ireturn, 1) := by decide +kernel
theorem dX7_copy_62 : decode cX7_copy 62 = .ok (.iload_n 2, 1) := by decide +kernel
theorem dX7_copy_63 : decode cX7_copy 63 = .ok (.ifCond .lt 48, 3) := by decide +kernel
theorem dX7_copy_66 : decode cX7_copy 66 = .ok (.iload 4, 2) := by decide +kernel
theorem dX7_copy_68 : decode cX7_copy 68 = .ok (.ifCond .lt 43, 3) := by decide +kernel
theorem dX7_copy_71 : decode cX7_copy 71 = .ok (.iload 5, 2) := by decide +kernel
theorem dX7_copy_73 : decode cX7_copy 73 = .ok (.ifCond .lt 38, 3) := by decide +kernel
theorem dX7_copy_76 : decode cX7_copy 76 = .ok (.iload_n 2, 1) := by decide +kernel
theorem dX7_copy_77 : decode cX7_copy 77 = .ok (.i2l, 1) := by decide +kernel
theorem dX7_copy_78 : decode cX7_copy 78 = .ok (.iload 5, 2) := by decide +kernel
theorem dX7_copy_80 : decode cX7_copy 80 = .ok (.i2l, 1) := by decide +kernel
theorem dX7_copy_81 : decode cX7_copy 81 = .ok (.ladd, 1) := by decide +kernel
theorem dX7_copy_82 : decode cX7_copy 82 = .ok (.aload_n 0, 1) := by decide +kernel
theorem dX7_copy_83 : decode cX7_copy 83 = .ok (.getfield 42, 3) := by decide +kernel
theorem dX7_copy_86 : decode cX7_copy 86 = .ok (.iload_n 1, 1) := by decide +kernel
theorem dX7_copy_87 : decode cX7_copy 87 = .ok (.iaload, 1) := by decide +kernel
theorem dX7_copy_88 : decode cX7_copy 88 = .ok (.i2l, 1) := by decide +kernel
theorem dX7_copy_89 : decode cX7_copy 89 = .ok (.lcmp, 1) := by decide +kernel
theorem dX7_copy_90 : decode cX7_copy 90 = .ok (.ifCond .gt 21, 3) := by decide +kernel
theorem dX7_copy_93 : decode cX7_copy 93 = .ok (.iload 4, 2) := by decide +kernel
theorem dX7_copy_95 : decode cX7_copy 95 = .ok (.i2l, 1) := by decide +kernel
theorem dX7_copy_96 : decode cX7_copy 96 = .ok (.iload 5, 2) := by decide +kernel
theorem dX7_copy_98 : decode cX7_copy 98 = .ok (.i2l, 1) := by decide +kernel
theorem dX7_copy_99 : decode cX7_copy 99 = .ok (.ladd, 1) := by decide +kernel
theorem dX7_copy_100 : decode cX7_copy 100 = .ok (.aload_n 0, 1) := by decide +kernel
theorem dX7_copy_101 : decode cX7_copy 101 = .ok (.getfield 42, 3) := by decide +kernel
theorem dX7_copy_104 : decode cX7_copy 104 = .ok (.iload_n 3, 1) := by decide +kernel
theorem dX7_copy_105 : decode cX7_copy 105 = .ok (.iaload, 1) := by decide +kernel
theorem dX7_copy_106 : decode cX7_copy 106 = .ok (.i2l, 1) := by decide +kernel
theorem dX7_copy_107 : decode cX7_copy 107 = .ok (.lcmp, 1) := by decide +kernel
theorem dX7_copy_108 : decode cX7_copy 108 = .ok (.ifCond .le 9, 3) := by decide +kernel
theorem dX7_copy_111 : decode cX7_copy 111 = .ok (.aload_n 0, 1) := by decide +kernel
theorem dX7_copy_112 : decode cX7_copy 112 = .ok (.iconst 2, 1) := by decide +kernel
theorem dX7_copy_113 : decode cX7_copy 113 = .ok (.invokevirtual 87, 3) := by decide +kernel
theorem dX7_copy_116 : decode cX7_copy 116 = .ok (.ireturn, 1) := by decide +kernel
theorem dX7_copy_117 : decode cX7_copy 117 = .ok (.iconst 0, 1) := by decide +kernel
theorem dX7_copy_118 : decode cX7_copy 118 = .ok (.istore 6, 2) := by decide +kernel
theorem dX7_copy_120 : decode cX7_copy 120 = .ok (.iload 6, 2) := by decide +kernel
theorem dX7_copy_122 : decode cX7_copy 122 = .ok (.iload 5, 2) := by decide +kernel
theorem dX7_copy_124 : decode cX7_copy 124 = .ok (.if_icmp .ge 31, 3) := by decide +kernel
theorem dX7_copy_127 : decode cX7_copy 127 = .ok (.aload_n 0, 1) := by decide +kernel
theorem dX7_copy_128 : decode cX7_copy 128 = .ok (.getfield 48, 3) := by decide +kernel
theorem dX7_copy_131 : decode cX7_copy 131 = .ok (.iload 6, 2) := by decide +kernel
theorem dX7_copy_133 : decode cX7_copy 133 = .ok (.aload_n 0, 1) := by decide +kernel
theorem dX7_copy_134 : decode cX7_copy 134 = .ok (.getfield 45, 3) := by decide +kernel
theorem dX7_copy_137 : decode cX7_copy 137 = .ok (.sipush 300, 3) := by decide +kernel
theorem dX7_copy_140 : decode cX7_copy 140 = .ok (.iload_n 1, 1) := by decide +kernel
theorem dX7_copy_141 : decode cX7_copy 141 = .ok (.imul, 1) := by decide +kernel
theorem dX7_copy_142 : decode cX7_copy 142 = .ok (.iload_n 2, 1) := by decide +kernel
theorem dX7_copy_143 : decode cX7_copy 143 = .ok (.iadd, 1) := by decide +kernel
theorem dX7_copy_144 : decode cX7_copy 144 = .ok (.iload 6, 2) := by decide +kernel
theorem dX7_copy_146 : decode cX7_copy 146 = .ok (.iadd, 1) := by decide +kernel
theorem dX7_copy_147 : decode cX7_copy 147 = .ok (.iaload, 1) := by decide +kernel
theorem dX7_copy_148 : decode cX7_copy 148 = .ok (.iastore, 1) := by decide +kernel
theorem dX7_copy_149 : decode cX7_copy 149 = .ok (.iinc 6 1, 3) := by decide +kernel
theorem dX7_copy_152 : decode cX7_copy 152 = .ok (.goto (-32), 3) := by decide +kernel
theorem dX7_copy_155 : decode cX7_copy 155 = .ok (.iconst 0, 1) := by decide +kernel
theorem dX7_copy_156 : decode cX7_copy 156 = .ok (.istore 6, 2) := by decide +kernel
theorem dX7_copy_158 : decode cX7_copy 158 = .ok (.iload 6, 2) := by decide +kernel
theorem dX7_copy_160 : decode cX7_copy 160 = .ok (.iload 5, 2) := by decide +kernel
theorem dX7_copy_162 : decode cX7_copy 162 = .ok (.if_icmp .ge 32, 3) := by decide +kernel
theorem dX7_copy_165 : decode cX7_copy 165 = .ok (.aload_n 0, 1) := by decide +kernel
theorem dX7_copy_166 : decode cX7_copy 166 = .ok (.getfield 45, 3) := by decide +kernel
theorem dX7_copy_169 : decode cX7_copy 169 = .ok (.sipush 300, 3) := by decide +kernel
theorem dX7_copy_172 : decode cX7_copy 172 = .ok (.iload_n 3, 1) := by decide +kernel
theorem dX7_copy_173 : decode cX7_copy 173 = .ok (.imul, 1) := by decide +kernel
theorem dX7_copy_174 : decode cX7_copy 174 = .ok (.iload 4, 2) := by decide +kernel
theorem dX7_copy_176 : decode cX7_copy 176 = .ok (.iadd, 1) := by decide +kernel
theorem dX7_copy_177 : decode cX7_copy 177 = .ok (.iload 6, 2) := by decide +kernel
theorem dX7_copy_179 : decode cX7_copy 179 = .ok (.iadd, 1) := by decide +kernel
theorem dX7_copy_180 : decode cX7_copy 180 = .ok (.aload_n 0, 1) := by decide +kernel
theorem dX7_copy_181 : decode cX7_copy 181 = .ok (.getfield 48, 3) := by decide +kernel
theorem dX7_copy_184 : decode cX7_copy 184 = .ok (.iload 6, 2) := by decide +kernel
theorem dX7_copy_186 : decode cX7_copy 186 = .ok (.iaload, 1) := by decide +kernel
theorem dX7_copy_187 : decode cX7_copy 187 = .ok (.iastore, 1) := by decide +kernel
theorem dX7_copy_188 : decode cX7_copy 188 = .ok (.iinc 6 1, 3) := by decide +kernel
theorem dX7_copy_191 : decode cX7_copy 191 = .ok (.goto (-33), 3) := by decide +kernel
theorem dX7_copy_194 : decode cX7_copy 194 = .ok (.iconst 1, 1) := by decide +kernel
theorem dX7_copy_195 : decode cX7_copy 195 = .ok (.ireturn, 1) := by decide +kernel
set_option maxRecDepth 20000 in
theorem ggX7_add_X7_isRow : GoodIn wsX7_add wsX7_isRow := goodIn_r _ [9, 10, 11, 8, 12] (by decide +kernel) (by decide +kernel)
set_option maxRecDepth 20000 in
theorem gX7_add_X7_isRow : GoodIn wsX7_add (va_wsS RX7 55 yX7_isRow wsX7_isRow) := goodIn_app (goodIn_of _ (by decide +kernel)) ggX7_add_X7_isRow
set_option maxRecDepth 20000 in
theorem ggX7_add_X7_isReel : GoodIn wsX7_add wsX7_isReel := goodIn_r _ [15, 10, 11, 8, 12] (by decide +kernel) (by decide +kernel)
set_option maxRecDepth 20000 in
theorem gX7_add_X7_isReel : GoodIn wsX7_add (va_wsS RX7 84 yX7_isReel wsX7_isReel) := goodIn_app (goodIn_of _ (by decide +kernel)) ggX7_add_X7_isReel
set_option maxRecDepth 20000 in
theorem ggX7_add_X7_isShift : GoodIn wsX7_add wsX7_isShift := goodIn_r _ [18, 10, 11, 8, 12] (by decide +kernel) (by decide +kernel)
set_option maxRecDepth 20000 in
theorem gX7_add_X7_isShift : GoodIn wsX7_add (va_wsS RX7 73 yX7_isShift wsX7_isShift) := goodIn_app (goodIn_of _ (by decide +kernel)) ggX7_add_X7_isShift
set_option maxRecDepth 20000 in
theorem ggX7_add_X7_in : GoodIn wsX7_add wsX7_in := goodIn_r _ [12] (by decide +kernel) (by decide +kernel)
set_option maxRecDepth 20000 in
theorem gX7_add_X7_in : GoodIn wsX7_add (va_wsS RX7 51 yX7_in wsX7_in) := goodIn_app (goodIn_of _ (by decide +kernel)) ggX7_add_X7_in
set_option maxRecDepth 20000 in
theorem ggX7_add_X7_meets : GoodIn wsX7_add wsX7_meets := goodIn_r _ [22, 23, 32, 33, 34, 35, 36, 37, 38, 39, 40, 41, 42, 43, 44, 45, 46, 47, 48, 49, 50] (by decide +kernel) (by decide +kernel)
set_option maxRecDepth 20000 in
theorem gX7_add_X7_meets : GoodIn wsX7_add (wsV RX7 87 RX7 yX7_meets wsX7_meets) := goodIn_app (goodIn_of _ (by decide +kernel)) ggX7_add_X7_meets
set_option maxRecDepth 20000 in
theorem ggX7_add_X7_signOf : GoodIn wsX7_add wsX7_signOf := goodIn_r _ [27, 28, 2, 32, 33, 34, 35, 36, 37, 38, 39, 40, 41, 42, 43, 44, 45, 46, 47, 48, 49, 50] (by decide +kernel) (by decide +kernel)
set_option maxRecDepth 20000 in
theorem gX7_add_X7_signOf : GoodIn wsX7_add (wsV RX7 80 RX7 yX7_signOf wsX7_signOf) := goodIn_app (goodIn_of _ (by decide +kernel)) ggX7_add_X7_signOf
set_option maxRecDepth 20000 in
theorem ggX7_add_X7_cut : GoodIn wsX7_add wsX7_cut := goodIn_r _ [31] (by decide +kernel) (by decide +kernel)
set_option maxRecDepth 20000 in
theorem gX7_add_X7_cut : GoodIn wsX7_add (va_wsS RX7 155 yX7_cut wsX7_cut) := goodIn_app (goodIn_of _ (by decide +kernel)) ggX7_add_X7_cut
theorem dX7_add_0 : decode cX7_add 0 = .ok (.iload_n 1, 1) := by decide +kernel
theorem dX7_add_1 : decode cX7_add 1 = .ok (.invokestatic 55, 3) := by decide +kernel
theorem dX7_add_4 : decode cX7_add 4 = .ok (.ifCond .eq 36, 3) := by decide +kernel
theorem dX7_add_7 : decode cX7_add 7 = .ok (.iload_n 2, 1) := by decide +kernel
theorem dX7_add_8 : decode cX7_add 8 = .ok (.invokestatic 84, 3) := by decide +kernel
theorem dX7_add_11 : decode cX7_add 11 = .ok (.ifCond .eq 29, 3) := by decide +kernel
theorem dX7_add_14 : decode cX7_add 14 = .ok (.iload_n 3, 1) := by decide +kernel
theorem dX7_add_15 : decode cX7_add 15 = .ok (.ifCond .lt 25, 3) := by decide +kernel
theorem dX7_add_18 : decode cX7_add 18 = .ok (.iload 4, 2) := by decide +kernel
theorem dX7_add_20 : decode cX7_add 20 = .ok (.invokestatic 73, 3) := by decide +kernel
theorem dX7_add_23 : decode cX7_add 23 = .ok (.ifCond .eq 17, 3) := by decide +kernel
theorem dX7_add_26 : decode cX7_add 26 = .ok (.iload 5, 2) := by decide +kernel
theorem dX7_add_28 : decode cX7_add 28 = .ok (.sipush (-1000), 3) := by decide +kernel
theorem dX7_add_31 : decode cX7_add 31 = .ok (.sipush 1000, 3) := by decide +kernel
theorem dX7_add_34 : decode cX7_add 34 = .ok (.invokestatic 51, 3) := by decide +kernel
theorem dX7_add_37 : decode cX7_add 37 = .ok (.ifCond .ne 6, 3) := by decide +kernel
theorem dX7_add_40 : decode cX7_add 40 = .ok (.bipush (-2), 2) := by decide +kernel
theorem dX7_add_42 : decode cX7_add 42 = .ok (.ireturn, 1) := by decide +kernel
theorem dX7_add_43 : decode cX7_add 43 = .ok (.aload_n 0, 1) := by decide +kernel
theorem dX7_add_44 : decode cX7_add 44 = .ok (.getfield 35, 3) := by decide +kernel
theorem dX7_add_47 : decode cX7_add 47 = .ok (.iload_n 2, 1) := by decide +kernel
theorem dX7_add_48 : decode cX7_add 48 = .ok (.baload, 1) := by decide +kernel
theorem dX7_add_49 : decode cX7_add 49 = .ok (.ifCond .ne 9, 3) := by decide +kernel
theorem dX7_add_52 : decode cX7_add 52 = .ok (.aload_n 0, 1) := by decide +kernel
theorem dX7_add_53 : decode cX7_add 53 = .ok (.iconst 1, 1) := by decide +kernel
theorem dX7_add_54 : decode cX7_add 54 = .ok (.invokevirtual 87, 3) := by decide +kernel
theorem dX7_add_57 : decode cX7_add 57 = .ok (.ireturn, 1) := by decide +kernel
theorem dX7_add_58 : decode cX7_add 58 = .ok (.aload_n 0, 1) := by decide +kernel
theorem dX7_add_59 : decode cX7_add 59 = .ok (.getfield 7, 3) := by decide +kernel
theorem dX7_add_62 : decode cX7_add 62 = .ok (.iload_n 1, 1) := by decide +kernel
theorem dX7_add_63 : decode cX7_add 63 = .ok (.iaload, 1) := by decide +kernel
theorem dX7_add_64 : decode cX7_add 64 = .ok (.ifCond .ne 6, 3) := by decide +kernel
theorem dX7_add_67 : decode cX7_add 67 = .ok (.bipush (-3), 2) := by decide +kernel
theorem dX7_add_69 : decode cX7_add 69 = .ok (.ireturn, 1) := by decide +kernel
theorem dX7_add_70 : decode cX7_add 70 = .ok (.iload_n 3, 1) := by decide +kernel
theorem dX7_add_71 : decode cX7_add 71 = .ok (.aload_n 0, 1) := by decide +kernel
theorem dX7_add_72 : decode cX7_add 72 = .ok (.getfield 42, 3) := by decide +kernel
theorem dX7_add_75 : decode cX7_add 75 = .ok (.iload_n 2, 1) := by decide +kernel
theorem dX7_add_76 : decode cX7_add 76 = .ok (.iaload, 1) := by decide +kernel
theorem dX7_add_77 : decode cX7_add 77 = .ok (.if_icmp .le 9, 3) := by decide +kernel
theorem dX7_add_80 : decode cX7_add 80 = .ok (.aload_n 0, 1) := by decide +kernel
theorem dX7_add_81 : decode cX7_add 81 = .ok (.iconst 2, 1) := by decide +kernel
theorem dX7_add_82 : decode cX7_add 82 = .ok (.invokevirtual 87, 3) := by decide +kernel
theorem dX7_add_85 : decode cX7_add 85 = .ok (.ireturn, 1) := by decide +kernel
theorem dX7_add_86 : decode cX7_add 86 = .ok (.aload_n 0, 1) := by decide +kernel
theorem dX7_add_87 : decode cX7_add 87 = .ok (.getfield 7, 3) := by decide +kernel
theorem dX7_add_90 : decode cX7_add 90 = .ok (.iload_n 1, 1) := by decide +kernel
theorem dX7_add_91 : decode cX7_add 91 = .ok (.iaload, 1) := by decide +kernel
theorem dX7_add_92 : decode cX7_add 92 = .ok (.aload_n 0, 1) := by decide +kernel
theorem dX7_add_93 : decode cX7_add 93 = .ok (.getfield 42, 3) := by decide +kernel
theorem dX7_add_96 : decode cX7_add 96 = .ok (.iload_n 2, 1) := by decide +kernel
theorem dX7_add_97 : decode cX7_add 97 = .ok (.iaload, 1) := by decide +kernel
theorem dX7_add_98 : decode cX7_add 98 = .ok (.iload_n 3, 1) := by decide +kernel
theorem dX7_add_99 : decode cX7_add 99 = .ok (.isub, 1) := by decide +kernel
theorem dX7_add_100 : decode cX7_add 100 = .ok (.if_icmp .ge 12, 3) := by decide +kernel
theorem dX7_add_103 : decode cX7_add 103 = .ok (.aload_n 0, 1) := by decide +kernel
theorem dX7_add_104 : decode cX7_add 104 = .ok (.getfield 7, 3) := by decide +kernel
theorem dX7_add_107 : decode cX7_add 107 = .ok (.iload_n 1, 1) := by decide +kernel
theorem dX7_add_108 : decode cX7_add 108 = .ok (.iaload, 1) := by decide +kernel
theorem dX7_add_109 : decode cX7_add 109 = .ok (.goto 11, 3) := by decide +kernel
theorem dX7_add_112 : decode cX7_add 112 = .ok (.aload_n 0, 1) := by decide +kernel
theorem dX7_add_113 : decode cX7_add 113 = .ok (.getfield 42, 3) := by decide +kernel
theorem dX7_add_116 : decode cX7_add 116 = .ok (.iload_n 2, 1) := by decide +kernel
theorem dX7_add_117 : decode cX7_add 117 = .ok (.iaload, 1) := by decide +kernel
theorem dX7_add_118 : decode cX7_add 118 = .ok (.iload_n 3, 1) := by decide +kernel
theorem dX7_add_119 : decode cX7_add 119 = .ok (.isub, 1) := by decide +kernel
theorem dX7_add_120 : decode cX7_add 120 = .ok (.istore 6, 2) := by decide +kernel
theorem dX7_add_122 : decode cX7_add 122 = .ok (.iconst 0, 1) := by decide +kernel
theorem dX7_add_123 : decode cX7_add 123 = .ok (.istore 7, 2) := by decide +kernel
theorem dX7_add_125 : decode cX7_add 125 = .ok (.iload 7, 2) := by decide +kernel
theorem dX7_add_127 : decode cX7_add 127 = .ok (.iload 6, 2) := by decide +kernel
theorem dX7_add_129 : decode cX7_add 129 = .ok (.if_icmp .ge 58, 3) := by decide +kernel
theorem dX7_add_132 : decode cX7_add 132 = .ok (.sipush 300, 3) := by decide +kernel
theorem dX7_add_135 : decode cX7_add 135 = .ok (.iload_n 2, 1) := by decide +kernel
theorem dX7_add_136 : decode cX7_add 136 = .ok (.imul, 1) := by decide +kernel
theorem dX7_add_137 : decode cX7_add 137 = .ok (.iload_n 3, 1) := by decide +kernel
theorem dX7_add_138 : decode cX7_add 138 = .ok (.iadd, 1) := by decide +kernel
theorem dX7_add_139 : decode cX7_add 139 = .ok (.iload 7, 2) := by decide +kernel
theorem dX7_add_141 : decode cX7_add 141 = .ok (.iadd, 1) := by decide +kernel
theorem dX7_add_142 : decode cX7_add 142 = .ok (.istore 8, 2) := by decide +kernel
theorem dX7_add_144 : decode cX7_add 144 = .ok (.aload_n 0, 1) := by decide +kernel
theorem dX7_add_145 : decode cX7_add 145 = .ok (.getfield 45, 3) := by decide +kernel
theorem dX7_add_148 : decode cX7_add 148 = .ok (.iload 8, 2) := by decide +kernel
theorem dX7_add_150 : decode cX7_add 150 = .ok (.aload_n 0, 1) := by decide +kernel
theorem dX7_add_151 : decode cX7_add 151 = .ok (.getfield 39, 3) := by decide +kernel
theorem dX7_add_154 : decode cX7_add 154 = .ok (.iload_n 2, 1) := by decide +kernel
theorem dX7_add_155 : decode cX7_add 155 = .ok (.iaload, 1) := by decide +kernel
theorem dX7_add_156 : decode cX7_add 156 = .ok (.aload_n 0, 1) := by decide +kernel
theorem dX7_add_157 : decode cX7_add 157 = .ok (.getfield 45, 3) := by decide +kernel
theorem dX7_add_160 : decode cX7_add 160 = .ok (.iload 8, 2) := by decide +kernel
theorem dX7_add_162 : decode cX7_add 162 = .ok (.iaload, 1) := by decide +kernel
theorem dX7_add_163 : decode cX7_add 163 = .ok (.iload 5, 2) := by decide +kernel
theorem dX7_add_165 : decode cX7_add 165 = .ok (.aload_n 0, 1) := by decide +kernel
theorem dX7_add_166 : decode cX7_add 166 = .ok (.iload_n 1, 1) := by decide +kernel
theorem dX7_add_167 : decode cX7_add 167 = .ok (.iload 7, 2) := by decide +kernel
theorem dX7_add_169 : decode cX7_add 169 = .ok (.iload 4, 2) := by decide +kernel
theorem dX7_add_171 : decode cX7_add 171 = .ok (.iadd, 1) := by decide +kernel
theorem dX7_add_172 : decode cX7_add 172 = .ok (.invokevirtual 80, 3) := by decide +kernel
theorem dX7_add_175 : decode cX7_add 175 = .ok (.imul, 1) := by decide +kernel
theorem dX7_add_176 : decode cX7_add 176 = .ok (.iadd, 1) := by decide +kernel
theorem dX7_add_177 : decode cX7_add 177 = .ok (.invokestatic 155, 3) := by decide +kernel
theorem dX7_add_180 : decode cX7_add 180 = .ok (.iastore, 1) := by decide +kernel
theorem dX7_add_181 : decode cX7_add 181 = .ok (.iinc 7 1, 3) := by decide +kernel
theorem dX7_add_184 : decode cX7_add 184 = .ok (.goto (-59), 3) := by decide +kernel
theorem dX7_add_187 : decode cX7_add 187 = .ok (.iload 6, 2) := by decide +kernel
theorem dX7_add_189 : decode cX7_add 189 = .ok (.ireturn, 1) := by decide +kernel
theorem dX7_rowsThere_0 : decode cX7_rowsThere 0 = .ok (.iconst 0, 1) := by decide +kernel
theorem dX7_rowsThere_1 : decode cX7_rowsThere 1 = .ok (.istore_n 1, 1) := by decide +kernel
theorem dX7_rowsThere_2 : decode cX7_rowsThere 2 = .ok (.iconst 0, 1) := by decide +kernel
theorem dX7_rowsThere_3 : decode cX7_rowsThere 3 = .ok (.istore_n 2, 1) := by decide +kernel
theorem dX7_rowsThere_4 : decode cX7_rowsThere 4 = .ok (.iload_n 2, 1) := by decide +kernel
theorem dX7_rowsThere_5 : decode cX7_rowsThere 5 = .ok (.bipush 8, 2) := by decide +kernel
theorem dX7_rowsThere_7 : decode cX7_rowsThere 7 = .ok (.if_icmp .ge 26, 3) := by decide +kernel
theorem dX7_rowsThere_10 : decode cX7_rowsThere 10 = .ok (.iload_n 1, 1) := by decide +kernel
theorem dX7_rowsThere_11 : decode cX7_rowsThere 11 = .ok (.aload_n 0, 1) := by decide +kernel
theorem dX7_rowsThere_12 : decode cX7_rowsThere 12 = .ok (.getfield 7, 3) := by decide +kernel
theorem dX7_rowsThere_15 : decode cX7_rowsThere 15 = .ok (.iload_n 2, 1) := by decide +kernel
theorem dX7_rowsThere_16 : decode cX7_rowsThere 16 = .ok (.iaload, 1) := by decide +kernel
theorem dX7_rowsThere_17 : decode cX7_rowsThere 17 = .ok (.ifCond .le 7, 3) := by decide +kernel
theorem dX7_rowsThere_20 : decode cX7_rowsThere 20 = .ok (.iconst 1, 1) := by decide +kernel
theorem dX7_rowsThere_21 : decode cX7_rowsThere 21 = .ok (.goto 4, 3) := by decide +kernel
theorem dX7_rowsThere_24 : decode cX7_rowsThere 24 = .ok (.iconst 0, 1) := by decide +kernel
theorem dX7_rowsThere_25 : decode cX7_rowsThere 25 = .ok (.iadd, 1) := by decide +kernel
theorem dX7_rowsThere_26 : decode cX7_rowsThere 26 = .ok (.istore_n 1, 1) := by decide +kernel
theorem dX7_rowsThere_27 : decode cX7_rowsThere 27 = .ok (.iinc 2 1, 3) := by decide +kernel
theorem dX7_rowsThere_30 : decode cX7_rowsThere 30 = .ok (.goto (-26), 3) := by decide +kernel
theorem dX7_rowsThere_33 : decode cX7_rowsThere 33 = .ok (.iload_n 1, 1) := by decide +kernel
theorem dX7_rowsThere_34 : decode cX7_rowsThere 34 = .ok (.ireturn, 1) := by decide +kernel
set_option maxRecDepth 20000 in
theorem ggX7_count_X7_rowsThere : GoodIn wsX7_count wsX7_rowsThere := goodIn_r _ [9, 10, 11, 12, 13, 14, 15, 16, 17, 18, 19, 20, 21, 22, 23, 24, 25, 26, 27, 28, 29] (by decide +kernel) (by decide +kernel)
set_option maxRecDepth 20000 in
theorem gX7_count_X7_rowsThere : GoodIn wsX7_count (wsV RX7 158 RX7 yX7_rowsThere wsX7_rowsThere) := goodIn_app (goodIn_of _ (by decide +kernel)) ggX7_count_X7_rowsThere
theorem dX7_count_0 : decode cX7_count 0 = .ok (.iload_n 1, 1) := by decide +kernel
theorem dX7_count_1 : decode cX7_count 1 = .ok (.tableswitch 60 0 4 #[35, 40, 45, 50, 55], 35) := by decide +kernel
theorem dX7_count_36 : decode cX7_count 36 = .ok (.aload_n 0, 1) := by decide +kernel
theorem dX7_count_37 : decode cX7_count 37 = .ok (.invokevirtual 158, 3) := by decide +kernel
theorem dX7_count_40 : decode cX7_count 40 = .ok (.ireturn, 1) := by decide +kernel
theorem dX7_count_41 : decode cX7_count 41 = .ok (.aload_n 0, 1) := by decide +kernel
theorem dX7_count_42 : decode cX7_count 42 = .ok (.getfield 134, 3) := by decide +kernel
theorem dX7_count_45 : decode cX7_count 45 = .ok (.ireturn, 1) := by decide +kernel
theorem dX7_count_46 : decode cX7_count 46 = .ok (.aload_n 0, 1) := by decide +kernel
theorem dX7_count_47 : decode cX7_count 47 = .ok (.getfield 19, 3) := by decide +kernel
theorem dX7_count_50 : decode cX7_count 50 = .ok (.ireturn, 1) := by decide +kernel
theorem dX7_count_51 : decode cX7_count 51 = .ok (.aload_n 0, 1) := by decide +kernel
theorem dX7_count_52 : decode cX7_count 52 = .ok (.getfield 149, 3) := by decide +kernel
theorem dX7_count_55 : decode cX7_count 55 = .ok (.ireturn, 1) := by decide +kernel
theorem dX7_count_56 : decode cX7_count 56 = .ok (.aload_n 0, 1) := by decide +kernel
theorem dX7_count_57 : decode cX7_count 57 = .ok (.getfield 121, 3) := by decide +kernel
theorem dX7_count_60 : decode cX7_count 60 = .ok (.ireturn, 1) := by decide +kernel
theorem dX7_count_61 : decode cX7_count 61 = .ok (.bipush (-2), 2) := by decide +kernel
theorem dX7_count_63 : decode cX7_count 63 = .ok (.ireturn, 1) := by decide +kernel
set_option maxRecDepth 20000 in
theorem ggX7_digest_X7_count : GoodIn wsX7_digest wsX7_count := goodIn_r _ [9, 10, 11, 12, 13, 14, 15, 16, 8, 17, 3, 29, 30, 31, 32, 33, 34, 35, 36, 37, 38, 39, 40, 41, 42, 43, 44, 45, 46, 47] (by decide +kernel) (by decide +kernel)
set_option maxRecDepth 20000 in
theorem gX7_digest_X7_count : GoodIn wsX7_digest (wsV RX7 166 RX7 yX7_count wsX7_count) := goodIn_app (goodIn_of _ (by decide +kernel)) ggX7_digest_X7_count
set_option maxRecDepth 20000 in
theorem ggX7_digest_X7_signOf : GoodIn wsX7_digest wsX7_signOf := goodIn_r _ [21, 22, 3, 29, 30, 31, 32, 33, 34, 35, 36, 37, 38, 39, 40, 41, 42, 43, 44, 45, 46, 47] (by decide +kernel) (by decide +kernel)
set_option maxRecDepth 20000 in
theorem gX7_digest_X7_signOf : GoodIn wsX7_digest (wsV RX7 80 RX7 yX7_signOf wsX7_signOf) := goodIn_app (goodIn_of _ (by decide +kernel)) ggX7_digest_X7_signOf
set_option maxRecDepth 20000 in
theorem ggX7_digest_X7_range : GoodIn wsX7_digest wsX7_range := goodIn_r _ [26, 10, 27, 28, 29, 30, 31, 32, 33, 34, 35, 36, 37, 38, 39, 40, 41, 42, 43, 44, 45, 46, 47] (by decide +kernel) (by decide +kernel)
set_option maxRecDepth 20000 in
theorem gX7_digest_X7_range : GoodIn wsX7_digest (wsV RX7 169 RX7 yX7_range wsX7_range) := goodIn_app (goodIn_of _ (by decide +kernel)) ggX7_digest_X7_range
theorem dX7_digest_0 : decode cX7_digest 0 = .ok (.ldc2_w 162, 3) := by decide +kernel
theorem dX7_digest_3 : decode cX7_digest 3 = .ok (.lstore_n 1, 1) := by decide +kernel
theorem dX7_digest_4 : decode cX7_digest 4 = .ok (.iconst 0, 1) := by decide +kernel
theorem dX7_digest_5 : decode cX7_digest 5 = .ok (.istore_n 3, 1) := by decide +kernel
theorem dX7_digest_6 : decode cX7_digest 6 = .ok (.iload_n 3, 1) := by decide +kernel
theorem dX7_digest_7 : decode cX7_digest 7 = .ok (.iconst 5, 1) := by decide +kernel
theorem dX7_digest_8 : decode cX7_digest 8 = .ok (.if_icmp .ge 31, 3) := by decide +kernel
theorem dX7_digest_11 : decode cX7_digest 11 = .ok (.iload_n 3, 1) := by decide +kernel
theorem dX7_digest_12 : decode cX7_digest 12 = .ok (.iconst 3, 1) := by decide +kernel
theorem dX7_digest_13 : decode cX7_digest 13 = .ok (.if_icmp .ne 7, 3) := by decide +kernel
theorem dX7_digest_16 : decode cX7_digest 16 = .ok (.lload_n 1, 1) := by decide +kernel
theorem dX7_digest_17 : decode cX7_digest 17 = .ok (.goto 15, 3) := by decide +kernel
theorem dX7_digest_20 : decode cX7_digest 20 = .ok (.ldc2_w 164, 3) := by decide +kernel
theorem dX7_digest_23 : decode cX7_digest 23 = .ok (.lload_n 1, 1) := by decide +kernel
theorem dX7_digest_24 : decode cX7_digest 24 = .ok (.lmul, 1) := by decide +kernel
theorem dX7_digest_25 : decode cX7_digest 25 = .ok (.aload_n 0, 1) := by decide +kernel
theorem dX7_digest_26 : decode cX7_digest 26 = .ok (.iload_n 3, 1) := by decide +kernel
theorem dX7_digest_27 : decode cX7_digest 27 = .ok (.invokevirtual 166, 3) := by decide +kernel
theorem dX7_digest_30 : decode cX7_digest 30 = .ok (.i2l, 1) := by decide +kernel
theorem dX7_digest_31 : decode cX7_digest 31 = .ok (.ladd, 1) := by decide +kernel
theorem dX7_digest_32 : decode cX7_digest 32 = .ok (.lstore_n 1, 1) := by decide +kernel
theorem dX7_digest_33 : decode cX7_digest 33 = .ok (.iinc 3 1, 3) := by decide +kernel
theorem dX7_digest_36 : decode cX7_digest 36 = .ok (.goto (-30), 3) := by decide +kernel
theorem dX7_digest_39 : decode cX7_digest 39 = .ok (.iconst 0, 1) := by decide +kernel
theorem dX7_digest_40 : decode cX7_digest 40 = .ok (.istore_n 3, 1) := by decide +kernel
theorem dX7_digest_41 : decode cX7_digest 41 = .ok (.iload_n 3, 1) := by decide +kernel
theorem dX7_digest_42 : decode cX7_digest 42 = .ok (.bipush 8, 2) := by decide +kernel
theorem dX7_digest_44 : decode cX7_digest 44 = .ok (.if_icmp .ge 76, 3) := by decide +kernel
theorem dX7_digest_47 : decode cX7_digest 47 = .ok (.aload_n 0, 1) := by decide +kernel
theorem dX7_digest_48 : decode cX7_digest 48 = .ok (.getfield 7, 3) := by decide +kernel
theorem dX7_digest_51 : decode cX7_digest 51 = .ok (.iload_n 3, 1) := by decide +kernel
theorem dX7_digest_52 : decode cX7_digest 52 = .ok (.iaload, 1) := by decide +kernel
theorem dX7_digest_53 : decode cX7_digest 53 = .ok (.ifCond .le 61, 3) := by decide +kernel
theorem dX7_digest_56 : decode cX7_digest 56 = .ok (.ldc2_w 164, 3) := by decide +kernel
theorem dX7_digest_59 : decode cX7_digest 59 = .ok (.lload_n 1, 1) := by decide +kernel
theorem dX7_digest_60 : decode cX7_digest 60 = .ok (.lmul, 1) := by decide +kernel
theorem dX7_digest_61 : decode cX7_digest 61 = .ok (.iload_n 3, 1) := by decide +kernel
theorem dX7_digest_62 : decode cX7_digest 62 = .ok (.i2l, 1) := by decide +kernel
theorem dX7_digest_63 : decode cX7_digest 63 = .ok (.ladd, 1) := by decide +kernel
theorem dX7_digest_64 : decode cX7_digest 64 = .ok (.lstore_n 1, 1) := by decide +kernel
theorem dX7_digest_65 : decode cX7_digest 65 = .ok (.ldc2_w 164, 3) := by decide +kernel
theorem dX7_digest_68 : decode cX7_digest 68 = .ok (.lload_n 1, 1) := by decide +kernel
theorem dX7_digest_69 : decode cX7_digest 69 = .ok (.lmul, 1) := by decide +kernel
theorem dX7_digest_70 : decode cX7_digest 70 = .ok (.aload_n 0, 1) := by decide +kernel
theorem dX7_digest_71 : decode cX7_digest 71 = .ok (.getfield 7, 3) := by decide +kernel
theorem dX7_digest_74 : decode cX7_digest 74 = .ok (.iload_n 3, 1) := by decide +kernel
theorem dX7_digest_75 : decode cX7_digest 75 = .ok (.iaload, 1) := by decide +kernel
theorem dX7_digest_76 : decode cX7_digest 76 = .ok (.i2l, 1) := by decide +kernel
theorem dX7_digest_77 : decode cX7_digest 77 = .ok (.ladd, 1) := by decide +kernel
theorem dX7_digest_78 : decode cX7_digest 78 = .ok (.lstore_n 1, 1) := by decide +kernel
theorem dX7_digest_79 : decode cX7_digest 79 = .ok (.iconst 0, 1) := by decide +kernel
theorem dX7_digest_80 : decode cX7_digest 80 = .ok (.istore 4, 2) := by decide +kernel
theorem dX7_digest_82 : decode cX7_digest 82 = .ok (.iload 4, 2) := by decide +kernel
theorem dX7_digest_84 : decode cX7_digest 84 = .ok (.aload_n 0, 1) := by decide +kernel
theorem dX7_digest_85 : decode cX7_digest 85 = .ok (.getfield 7, 3) := by decide +kernel
theorem dX7_digest_88 : decode cX7_digest 88 = .ok (.iload_n 3, 1) := by decide +kernel
theorem dX7_digest_89 : decode cX7_digest 89 = .ok (.iaload, 1) := by decide +kernel
theorem dX7_digest_90 : decode cX7_digest 90 = .ok (.if_icmp .ge 24, 3) := by decide +kernel
theorem dX7_digest_93 : decode cX7_digest 93 = .ok (.ldc2_w 164, 3) := by decide +kernel
theorem dX7_digest_96 : decode cX7_digest 96 = .ok (.lload_n 1, 1) := by decide +kernel
theorem dX7_digest_97 : decode cX7_digest 97 = .ok (.lmul, 1) := by decide +kernel
theorem dX7_digest_98 : decode cX7_digest 98 = .ok (.aload_n 0, 1) := by decide +kernel
theorem dX7_digest_99 : decode cX7_digest 99 = .ok (.iload_n 3, 1) := by decide +kernel
theorem dX7_digest_100 : decode cX7_digest 100 = .ok (.iload 4, 2) := by decide +kernel
theorem dX7_digest_102 : decode cX7_digest 102 = .ok (.invokevirtual 80, 3) := by decide +kernel
theorem dX7_digest_105 : decode cX7_digest 105 = .ok (.i2l, 1) := by decide +kernel
theorem dX7_digest_106 : decode cX7_digest 106 = .ok (.ladd, 1) := by decide +kernel
theorem dX7_digest_107 : decode cX7_digest 107 = .ok (.lstore_n 1, 1) := by decide +kernel
theorem dX7_digest_108 : decode cX7_digest 108 = .ok (.iinc 4 1, 3) := by decide +kernel
theorem dX7_digest_111 : decode cX7_digest 111 = .ok (.goto (-29), 3) := by decide +kernel
theorem dX7_digest_114 : decode cX7_digest 114 = .ok (.iinc 3 1, 3) := by decide +kernel
theorem dX7_digest_117 : decode cX7_digest 117 = .ok (.goto (-76), 3) := by decide +kernel
theorem dX7_digest_120 : decode cX7_digest 120 = .ok (.ldc2_w 164, 3) := by decide +kernel
theorem dX7_digest_123 : decode cX7_digest 123 = .ok (.lload_n 1, 1) := by decide +kernel
theorem dX7_digest_124 : decode cX7_digest 124 = .ok (.lmul, 1) := by decide +kernel
theorem dX7_digest_125 : decode cX7_digest 125 = .ok (.aload_n 0, 1) := by decide +kernel
theorem dX7_digest_126 : decode cX7_digest 126 = .ok (.invokevirtual 169, 3) := by decide +kernel
theorem dX7_digest_129 : decode cX7_digest 129 = .ok (.ladd, 1) := by decide +kernel
theorem dX7_digest_130 : decode cX7_digest 130 = .ok (.lstore_n 1, 1) := by decide +kernel
theorem dX7_digest_131 : decode cX7_digest 131 = .ok (.ldc2_w 164, 3) := by decide +kernel
theorem dX7_digest_134 : decode cX7_digest 134 = .ok (.lload_n 1, 1) := by decide +kernel
theorem dX7_digest_135 : decode cX7_digest 135 = .ok (.lmul, 1) := by decide +kernel
theorem dX7_digest_136 : decode cX7_digest 136 = .ok (.aload_n 0, 1) := by decide +kernel
theorem dX7_digest_137 : decode cX7_digest 137 = .ok (.getfield 127, 3) := by decide +kernel
theorem dX7_digest_140 : decode cX7_digest 140 = .ok (.ladd, 1) := by decide +kernel
theorem dX7_digest_141 : decode cX7_digest 141 = .ok (.lreturn, 1) := by decide +kernel
theorem dJ6_bitCount_0f7a4_0 : decode cJ6_bitCount_0f7a4 0 = .ok (.iload_n 0, 1) := by decide +kernel
theorem dJ6_bitCount_0f7a4_1 : decode cJ6_bitCount_0f7a4 1 = .ok (.iload_n 0, 1) := by decide +kernel
theorem dJ6_bitCount_0f7a4_2 : decode cJ6_bitCount_0f7a4 2 = .ok (.iconst 1, 1) := by decide +kernel
theorem dJ6_bitCount_0f7a4_3 : decode cJ6_bitCount_0f7a4 3 = .ok (.iushr, 1) := by decide +kernel
theorem dJ6_bitCount_0f7a4_4 : decode cJ6_bitCount_0f7a4 4 = .ok (.ldc_w 265, 3) := by decide +kernel
theorem dJ6_bitCount_0f7a4_7 : decode cJ6_bitCount_0f7a4 7 = .ok (.iand, 1) := by decide +kernel
theorem dJ6_bitCount_0f7a4_8 : decode cJ6_bitCount_0f7a4 8 = .ok (.isub, 1) := by decide +kernel
theorem dJ6_bitCount_0f7a4_9 : decode cJ6_bitCount_0f7a4 9 = .ok (.istore_n 0, 1) := by decide +kernel
theorem dJ6_bitCount_0f7a4_10 : decode cJ6_bitCount_0f7a4 10 = .ok (.iload_n 0, 1) := by decide +kernel
theorem dJ6_bitCount_0f7a4_11 : decode cJ6_bitCount_0f7a4 11 = .ok (.ldc_w 266, 3) := by decide +kernel
theorem dJ6_bitCount_0f7a4_14 : decode cJ6_bitCount_0f7a4 14 = .ok (.iand, 1) := by decide +kernel
theorem dJ6_bitCount_0f7a4_15 : decode cJ6_bitCount_0f7a4 15 = .ok (.iload_n 0, 1) := by decide +kernel
theorem dJ6_bitCount_0f7a4_16 : decode cJ6_bitCount_0f7a4 16 = .ok (.iconst 2, 1) := by decide +kernel
theorem dJ6_bitCount_0f7a4_17 : decode cJ6_bitCount_0f7a4 17 = .ok (.iushr, 1) := by decide +kernel
theorem dJ6_bitCount_0f7a4_18 : decode cJ6_bitCount_0f7a4 18 = .ok (.ldc_w 266, 3) := by decide +kernel
theorem dJ6_bitCount_0f7a4_21 : decode cJ6_bitCount_0f7a4 21 = .ok (.iand, 1) := by decide +kernel
theorem dJ6_bitCount_0f7a4_22 : decode cJ6_bitCount_0f7a4 22 = .ok (.iadd, 1) := by decide +kernel
theorem dJ6_bitCount_0f7a4_23 : decode cJ6_bitCount_0f7a4 23 = .ok (.istore_n 0, 1) := by decide +kernel
theorem dJ6_bitCount_0f7a4_24 : decode cJ6_bitCount_0f7a4 24 = .ok (.iload_n 0, 1) := by decide +kernel
theorem dJ6_bitCount_0f7a4_25 : decode cJ6_bitCount_0f7a4 25 = .ok (.iload_n 0, 1) := by decide +kernel
theorem dJ6_bitCount_0f7a4_26 : decode cJ6_bitCount_0f7a4 26 = .ok (.iconst 4, 1) := by decide +kernel
theorem dJ6_bitCount_0f7a4_27 : decode cJ6_bitCount_0f7a4 27 = .ok (.iushr, 1) := by decide +kernel
theorem dJ6_bitCount_0f7a4_28 : decode cJ6_bitCount_0f7a4 28 = .ok (.iadd, 1) := by decide +kernel
theorem dJ6_bitCount_0f7a4_29 : decode cJ6_bitCount_0f7a4 29 = .ok (.ldc_w 267, 3) := by decide +kernel
theorem dJ6_bitCount_0f7a4_32 : decode cJ6_bitCount_0f7a4 32 = .ok (.iand, 1) := by decide +kernel
theorem dJ6_bitCount_0f7a4_33 : decode cJ6_bitCount_0f7a4 33 = .ok (.istore_n 0, 1) := by decide +kernel
theorem dJ6_bitCount_0f7a4_34 : decode cJ6_bitCount_0f7a4 34 = .ok (.iload_n 0, 1) := by decide +kernel
theorem dJ6_bitCount_0f7a4_35 : decode cJ6_bitCount_0f7a4 35 = .ok (.iload_n 0, 1) := by decide +kernel
theorem dJ6_bitCount_0f7a4_36 : decode cJ6_bitCount_0f7a4 36 = .ok (.bipush 8, 2) := by decide +kernel
theorem dJ6_bitCount_0f7a4_38 : decode cJ6_bitCount_0f7a4 38 = .ok (.iushr, 1) := by decide +kernel
theorem dJ6_bitCount_0f7a4_39 : decode cJ6_bitCount_0f7a4 39 = .ok (.iadd, 1) := by decide +kernel
theorem dJ6_bitCount_0f7a4_40 : decode cJ6_bitCount_0f7a4 40 = .ok (.istore_n 0, 1) := by decide +kernel
theorem dJ6_bitCount_0f7a4_41 : decode cJ6_bitCount_0f7a4 41 = .ok (.iload_n 0, 1) := by decide +kernel
theorem dJ6_bitCount_0f7a4_42 : decode cJ6_bitCount_0f7a4 42 = .ok (.iload_n 0, 1) := by decide +kernel
theorem dJ6_bitCount_0f7a4_43 : decode cJ6_bitCount_0f7a4 43 = .ok (.bipush 16, 2) := by decide +kernel
theorem dJ6_bitCount_0f7a4_45 : decode cJ6_bitCount_0f7a4 45 = .ok (.iushr, 1) := by decide +kernel
theorem dJ6_bitCount_0f7a4_46 : decode cJ6_bitCount_0f7a4 46 = .ok (.iadd, 1) := by decide +kernel
theorem dJ6_bitCount_0f7a4_47 : decode cJ6_bitCount_0f7a4 47 = .ok (.istore_n 0, 1) := by decide +kernel
theorem dJ6_bitCount_0f7a4_48 : decode cJ6_bitCount_0f7a4 48 = .ok (.iload_n 0, 1) := by decide +kernel
theorem dJ6_bitCount_0f7a4_49 : decode cJ6_bitCount_0f7a4 49 = .ok (.bipush 63, 2) := by decide +kernel
theorem dJ6_bitCount_0f7a4_51 : decode cJ6_bitCount_0f7a4 51 = .ok (.iand, 1) := by decide +kernel
theorem dJ6_bitCount_0f7a4_52 : decode cJ6_bitCount_0f7a4 52 = .ok (.ireturn, 1) := by decide +kernel
theorem dJ9_floorDiv_7cf53_0 : decode cJ9_floorDiv_7cf53 0 = .ok (.iload_n 0, 1) := by decide +kernel
theorem dJ9_floorDiv_7cf53_1 : decode cJ9_floorDiv_7cf53 1 = .ok (.iload_n 1, 1) := by decide +kernel
theorem dJ9_floorDiv_7cf53_2 : decode cJ9_floorDiv_7cf53 2 = .ok (.idiv, 1) := by decide +kernel
theorem dJ9_floorDiv_7cf53_3 : decode cJ9_floorDiv_7cf53 3 = .ok (.istore_n 2, 1) := by decide +kernel
theorem dJ9_floorDiv_7cf53_4 : decode cJ9_floorDiv_7cf53 4 = .ok (.iload_n 0, 1) := by decide +kernel
theorem dJ9_floorDiv_7cf53_5 : decode cJ9_floorDiv_7cf53 5 = .ok (.iload_n 1, 1) := by decide +kernel
theorem dJ9_floorDiv_7cf53_6 : decode cJ9_floorDiv_7cf53 6 = .ok (.ixor, 1) := by decide +kernel
theorem dJ9_floorDiv_7cf53_7 : decode cJ9_floorDiv_7cf53 7 = .ok (.ifCond .ge 14, 3) := by decide +kernel
theorem dJ9_floorDiv_7cf53_10 : decode cJ9_floorDiv_7cf53 10 = .ok (.iload_n 2, 1) := by decide +kernel
theorem dJ9_floorDiv_7cf53_11 : decode cJ9_floorDiv_7cf53 11 = .ok (.iload_n 1, 1) := by decide +kernel
theorem dJ9_floorDiv_7cf53_12 : decode cJ9_floorDiv_7cf53 12 = .ok (.imul, 1) := by decide +kernel
theorem dJ9_floorDiv_7cf53_13 : decode cJ9_floorDiv_7cf53 13 = .ok (.iload_n 0, 1) := by decide +kernel
theorem dJ9_floorDiv_7cf53_14 : decode cJ9_floorDiv_7cf53 14 = .ok (.if_icmp .eq 7, 3) := by decide +kernel
theorem dJ9_floorDiv_7cf53_17 : decode cJ9_floorDiv_7cf53 17 = .ok (.iload_n 2, 1) := by decide +kernel
theorem dJ9_floorDiv_7cf53_18 : decode cJ9_floorDiv_7cf53 18 = .ok (.iconst 1, 1) := by decide +kernel
theorem dJ9_floorDiv_7cf53_19 : decode cJ9_floorDiv_7cf53 19 = .ok (.isub, 1) := by decide +kernel
theorem dJ9_floorDiv_7cf53_20 : decode cJ9_floorDiv_7cf53 20 = .ok (.ireturn, 1) := by decide +kernel
theorem dJ9_floorDiv_7cf53_21 : decode cJ9_floorDiv_7cf53 21 = .ok (.iload_n 2, 1) := by decide +kernel
theorem dJ9_floorDiv_7cf53_22 : decode cJ9_floorDiv_7cf53 22 = .ok (.ireturn, 1) := by decide +kernel
theorem dJ9_floorMod_7cf53_0 : decode cJ9_floorMod_7cf53 0 = .ok (.iload_n 0, 1) := by decide +kernel
theorem dJ9_floorMod_7cf53_1 : decode cJ9_floorMod_7cf53 1 = .ok (.iload_n 1, 1) := by decide +kernel
theorem dJ9_floorMod_7cf53_2 : decode cJ9_floorMod_7cf53 2 = .ok (.irem, 1) := by decide +kernel
theorem dJ9_floorMod_7cf53_3 : decode cJ9_floorMod_7cf53 3 = .ok (.istore_n 2, 1) := by decide +kernel
theorem dJ9_floorMod_7cf53_4 : decode cJ9_floorMod_7cf53 4 = .ok (.iload_n 0, 1) := by decide +kernel
theorem dJ9_floorMod_7cf53_5 : decode cJ9_floorMod_7cf53 5 = .ok (.iload_n 1, 1) := by decide +kernel
theorem dJ9_floorMod_7cf53_6 : decode cJ9_floorMod_7cf53 6 = .ok (.ixor, 1) := by decide +kernel
theorem dJ9_floorMod_7cf53_7 : decode cJ9_floorMod_7cf53 7 = .ok (.ifCond .ge 11, 3) := by decide +kernel
theorem dJ9_floorMod_7cf53_10 : decode cJ9_floorMod_7cf53 10 = .ok (.iload_n 2, 1) := by decide +kernel
theorem dJ9_floorMod_7cf53_11 : decode cJ9_floorMod_7cf53 11 = .ok (.ifCond .eq 7, 3) := by decide +kernel
theorem dJ9_floorMod_7cf53_14 : decode cJ9_floorMod_7cf53 14 = .ok (.iload_n 2, 1) := by decide +kernel
theorem dJ9_floorMod_7cf53_15 : decode cJ9_floorMod_7cf53 15 = .ok (.iload_n 1, 1) := by decide +kernel
theorem dJ9_floorMod_7cf53_16 : decode cJ9_floorMod_7cf53 16 = .ok (.iadd, 1) := by decide +kernel
theorem dJ9_floorMod_7cf53_17 : decode cJ9_floorMod_7cf53 17 = .ok (.ireturn, 1) := by decide +kernel
theorem dJ9_floorMod_7cf53_18 : decode cJ9_floorMod_7cf53 18 = .ok (.iload_n 2, 1) := by decide +kernel
theorem dJ9_floorMod_7cf53_19 : decode cJ9_floorMod_7cf53 19 = .ok (.ireturn, 1) := by decide +kernel
theorem dJ9_abs_0f7a4_0 : decode cJ9_abs_0f7a4 0 = .ok (.iload_n 0, 1) := by decide +kernel
theorem dJ9_abs_0f7a4_1 : decode cJ9_abs_0f7a4 1 = .ok (.ifCond .ge 8, 3) := by decide +kernel
theorem dJ9_abs_0f7a4_4 : decode cJ9_abs_0f7a4 4 = .ok (.iload_n 0, 1) := by decide +kernel
theorem dJ9_abs_0f7a4_5 : decode cJ9_abs_0f7a4 5 = .ok (.ineg, 1) := by decide +kernel
theorem dJ9_abs_0f7a4_6 : decode cJ9_abs_0f7a4 6 = .ok (.goto 4, 3) := by decide +kernel
theorem dJ9_abs_0f7a4_9 : decode cJ9_abs_0f7a4 9 = .ok (.iload_n 0, 1) := by decide +kernel
theorem dJ9_abs_0f7a4_10 : decode cJ9_abs_0f7a4 10 = .ok (.ireturn, 1) := by decide +kernel
theorem dJ9_max_7cf53_0 : decode cJ9_max_7cf53 0 = .ok (.iload_n 0, 1) := by decide +kernel
theorem dJ9_max_7cf53_1 : decode cJ9_max_7cf53 1 = .ok (.iload_n 1, 1) := by decide +kernel
theorem dJ9_max_7cf53_2 : decode cJ9_max_7cf53 2 = .ok (.if_icmp .lt 7, 3) := by decide +kernel
theorem dJ9_max_7cf53_5 : decode cJ9_max_7cf53 5 = .ok (.iload_n 0, 1) := by decide +kernel
theorem dJ9_max_7cf53_6 : decode cJ9_max_7cf53 6 = .ok (.goto 4, 3) := by decide +kernel
theorem dJ9_max_7cf53_9 : decode cJ9_max_7cf53 9 = .ok (.iload_n 1, 1) := by decide +kernel
theorem dJ9_max_7cf53_10 : decode cJ9_max_7cf53 10 = .ok (.ireturn, 1) := by decide +kernel
theorem dJ9_min_7cf53_0 : decode cJ9_min_7cf53 0 = .ok (.iload_n 0, 1) := by decide +kernel
theorem dJ9_min_7cf53_1 : decode cJ9_min_7cf53 1 = .ok (.iload_n 1, 1) := by decide +kernel
theorem dJ9_min_7cf53_2 : decode cJ9_min_7cf53 2 = .ok (.if_icmp .gt 7, 3) := by decide +kernel
theorem dJ9_min_7cf53_5 : decode cJ9_min_7cf53 5 = .ok (.iload_n 0, 1) := by decide +kernel
theorem dJ9_min_7cf53_6 : decode cJ9_min_7cf53 6 = .ok (.goto 4, 3) := by decide +kernel
theorem dJ9_min_7cf53_9 : decode cJ9_min_7cf53 9 = .ok (.iload_n 1, 1) := by decide +kernel
theorem dJ9_min_7cf53_10 : decode cJ9_min_7cf53 10 = .ok (.ireturn, 1) := by decide +kernel
