theorem dX6_add_36 : decode cX6_add 36 = .ok (.sipush 1000, 3) := by decide +kernel
theorem dX6_add_39 : decode cX6_add 39 = .ok (.if_icmp .le 6, 3) := by decide +kernel
theorem dX6_add_42 : decode cX6_add 42 = .ok (.bipush (-2), 2) := by decide +kernel
theorem dX6_add_44 : decode cX6_add 44 = .ok (.ireturn, 1) := by decide +kernel
theorem dX6_add_45 : decode cX6_add 45 = .ok (.aload_n 0, 1) := by decide +kernel
theorem dX6_add_46 : decode cX6_add 46 = .ok (.getfield 17, 3) := by decide +kernel
theorem dX6_add_49 : decode cX6_add 49 = .ok (.iload_n 2, 1) := by decide +kernel
theorem dX6_add_50 : decode cX6_add 50 = .ok (.aaload, 1) := by decide +kernel
theorem dX6_add_51 : decode cX6_add 51 = .ok (.getfield 105, 3) := by decide +kernel
theorem dX6_add_54 : decode cX6_add 54 = .ok (.ifCond .eq 9, 3) := by decide +kernel
theorem dX6_add_57 : decode cX6_add 57 = .ok (.aload_n 0, 1) := by decide +kernel
theorem dX6_add_58 : decode cX6_add 58 = .ok (.iconst 1, 1) := by decide +kernel
theorem dX6_add_59 : decode cX6_add 59 = .ok (.invokevirtual 109, 3) := by decide +kernel
theorem dX6_add_62 : decode cX6_add 62 = .ok (.ireturn, 1) := by decide +kernel
theorem dX6_add_63 : decode cX6_add 63 = .ok (.aload_n 0, 1) := by decide +kernel
theorem dX6_add_64 : decode cX6_add 64 = .ok (.getfield 11, 3) := by decide +kernel
theorem dX6_add_67 : decode cX6_add 67 = .ok (.iload_n 1, 1) := by decide +kernel
theorem dX6_add_68 : decode cX6_add 68 = .ok (.aaload, 1) := by decide +kernel
theorem dX6_add_69 : decode cX6_add 69 = .ok (.invokevirtual 116, 3) := by decide +kernel
theorem dX6_add_72 : decode cX6_add 72 = .ok (.ifCond .eq 6, 3) := by decide +kernel
theorem dX6_add_75 : decode cX6_add 75 = .ok (.bipush (-3), 2) := by decide +kernel
theorem dX6_add_77 : decode cX6_add 77 = .ok (.ireturn, 1) := by decide +kernel
theorem dX6_add_78 : decode cX6_add 78 = .ok (.iload_n 3, 1) := by decide +kernel
theorem dX6_add_79 : decode cX6_add 79 = .ok (.aload_n 0, 1) := by decide +kernel
theorem dX6_add_80 : decode cX6_add 80 = .ok (.getfield 17, 3) := by decide +kernel
theorem dX6_add_83 : decode cX6_add 83 = .ok (.iload_n 2, 1) := by decide +kernel
theorem dX6_add_84 : decode cX6_add 84 = .ok (.aaload, 1) := by decide +kernel
theorem dX6_add_85 : decode cX6_add 85 = .ok (.getfield 112, 3) := by decide +kernel
theorem dX6_add_88 : decode cX6_add 88 = .ok (.if_icmp .le 9, 3) := by decide +kernel
theorem dX6_add_91 : decode cX6_add 91 = .ok (.aload_n 0, 1) := by decide +kernel
theorem dX6_add_92 : decode cX6_add 92 = .ok (.iconst 2, 1) := by decide +kernel
theorem dX6_add_93 : decode cX6_add 93 = .ok (.invokevirtual 109, 3) := by decide +kernel
theorem dX6_add_96 : decode cX6_add 96 = .ok (.ireturn, 1) := by decide +kernel
theorem dX6_add_97 : decode cX6_add 97 = .ok (.aload_n 0, 1) := by decide +kernel
theorem dX6_add_98 : decode cX6_add 98 = .ok (.getfield 11, 3) := by decide +kernel
theorem dX6_add_101 : decode cX6_add 101 = .ok (.iload_n 1, 1) := by decide +kernel
theorem dX6_add_102 : decode cX6_add 102 = .ok (.aaload, 1) := by decide +kernel
theorem dX6_add_103 : decode cX6_add 103 = .ok (.getfield 70, 3) := by decide +kernel
theorem dX6_add_106 : decode cX6_add 106 = .ok (.aload_n 0, 1) := by decide +kernel
theorem dX6_add_107 : decode cX6_add 107 = .ok (.getfield 17, 3) := by decide +kernel
theorem dX6_add_110 : decode cX6_add 110 = .ok (.iload_n 2, 1) := by decide +kernel
theorem dX6_add_111 : decode cX6_add 111 = .ok (.aaload, 1) := by decide +kernel
theorem dX6_add_112 : decode cX6_add 112 = .ok (.getfield 112, 3) := by decide +kernel
theorem dX6_add_115 : decode cX6_add 115 = .ok (.iload_n 3, 1) := by decide +kernel
theorem dX6_add_116 : decode cX6_add 116 = .ok (.isub, 1) := by decide +kernel
theorem dX6_add_117 : decode cX6_add 117 = .ok (.invokestatic 253, 3) := by decide +kernel
theorem dX6_add_120 : decode cX6_add 120 = .ok (.istore 6, 2) := by decide +kernel
theorem dX6_add_122 : decode cX6_add 122 = .ok (.iconst 0, 1) := by decide +kernel
theorem dX6_add_123 : decode cX6_add 123 = .ok (.istore 7, 2) := by decide +kernel
theorem dX6_add_125 : decode cX6_add 125 = .ok (.iload 7, 2) := by decide +kernel
theorem dX6_add_127 : decode cX6_add 127 = .ok (.iload 6, 2) := by decide +kernel
theorem dX6_add_129 : decode cX6_add 129 = .ok (.if_icmp .ge 57, 3) := by decide +kernel
theorem dX6_add_132 : decode cX6_add 132 = .ok (.iload 5, 2) := by decide +kernel
theorem dX6_add_134 : decode cX6_add 134 = .ok (.aload_n 0, 1) := by decide +kernel
theorem dX6_add_135 : decode cX6_add 135 = .ok (.getfield 11, 3) := by decide +kernel
theorem dX6_add_138 : decode cX6_add 138 = .ok (.iload_n 1, 1) := by decide +kernel
theorem dX6_add_139 : decode cX6_add 139 = .ok (.aaload, 1) := by decide +kernel
theorem dX6_add_140 : decode cX6_add 140 = .ok (.iload 7, 2) := by decide +kernel
theorem dX6_add_142 : decode cX6_add 142 = .ok (.iload 4, 2) := by decide +kernel
theorem dX6_add_144 : decode cX6_add 144 = .ok (.iadd, 1) := by decide +kernel
theorem dX6_add_145 : decode cX6_add 145 = .ok (.invokevirtual 91, 3) := by decide +kernel
theorem dX6_add_148 : decode cX6_add 148 = .ok (.imul, 1) := by decide +kernel
theorem dX6_add_149 : decode cX6_add 149 = .ok (.istore 8, 2) := by decide +kernel
theorem dX6_add_151 : decode cX6_add 151 = .ok (.aload_n 0, 1) := by decide +kernel
theorem dX6_add_152 : decode cX6_add 152 = .ok (.getfield 17, 3) := by decide +kernel
theorem dX6_add_155 : decode cX6_add 155 = .ok (.iload_n 2, 1) := by decide +kernel
theorem dX6_add_156 : decode cX6_add 156 = .ok (.aaload, 1) := by decide +kernel
theorem dX6_add_157 : decode cX6_add 157 = .ok (.iload_n 3, 1) := by decide +kernel
theorem dX6_add_158 : decode cX6_add 158 = .ok (.iload 7, 2) := by decide +kernel
theorem dX6_add_160 : decode cX6_add 160 = .ok (.iadd, 1) := by decide +kernel
theorem dX6_add_161 : decode cX6_add 161 = .ok (.aload_n 0, 1) := by decide +kernel
theorem dX6_add_162 : decode cX6_add 162 = .ok (.getfield 17, 3) := by decide +kernel
theorem dX6_add_165 : decode cX6_add 165 = .ok (.iload_n 2, 1) := by decide +kernel
theorem dX6_add_166 : decode cX6_add 166 = .ok (.aaload, 1) := by decide +kernel
theorem dX6_add_167 : decode cX6_add 167 = .ok (.iload_n 3, 1) := by decide +kernel
theorem dX6_add_168 : decode cX6_add 168 = .ok (.iload 7, 2) := by decide +kernel
theorem dX6_add_170 : decode cX6_add 170 = .ok (.iadd, 1) := by decide +kernel
theorem dX6_add_171 : decode cX6_add 171 = .ok (.invokevirtual 238, 3) := by decide +kernel
theorem dX6_add_174 : decode cX6_add 174 = .ok (.iload 8, 2) := by decide +kernel
theorem dX6_add_176 : decode cX6_add 176 = .ok (.iadd, 1) := by decide +kernel
theorem dX6_add_177 : decode cX6_add 177 = .ok (.invokevirtual 237, 3) := by decide +kernel
theorem dX6_add_180 : decode cX6_add 180 = .ok (.iinc 7 1, 3) := by decide +kernel
theorem dX6_add_183 : decode cX6_add 183 = .ok (.goto (-58), 3) := by decide +kernel
theorem dX6_add_186 : decode cX6_add 186 = .ok (.iload 6, 2) := by decide +kernel
theorem dX6_add_188 : decode cX6_add 188 = .ok (.ireturn, 1) := by decide +kernel
set_option maxRecDepth 20000 in
theorem ggX6_count_X6_rowsThatAre : GoodIn wsX6_count wsX6_rowsThatAre := goodIn_r _ [9, 10, 11, 12, 13, 14, 15, 16, 17, 18, 19, 20, 21, 22, 23, 24, 33, 34] (by decide +kernel) (by decide +kernel)
set_option maxRecDepth 20000 in
theorem gX6_count_X6_rowsThatAre : GoodIn wsX6_count (wsV RX6 256 RX6 yX6_rowsThatAre wsX6_rowsThatAre) := goodIn_app (goodIn_of _ (by decide +kernel)) ggX6_count_X6_rowsThatAre
theorem dX6_count_0 : decode cX6_count 0 = .ok (.iload_n 1, 1) := by decide +kernel
theorem dX6_count_1 : decode cX6_count 1 = .ok (.tableswitch 66 0 4 #[35, 40, 48, 53, 58], 35) := by decide +kernel
theorem dX6_count_36 : decode cX6_count 36 = .ok (.aload_n 0, 1) := by decide +kernel
theorem dX6_count_37 : decode cX6_count 37 = .ok (.invokevirtual 256, 3) := by decide +kernel
theorem dX6_count_40 : decode cX6_count 40 = .ok (.ireturn, 1) := by decide +kernel
theorem dX6_count_41 : decode cX6_count 41 = .ok (.aload_n 0, 1) := by decide +kernel
theorem dX6_count_42 : decode cX6_count 42 = .ok (.getfield 45, 3) := by decide +kernel
theorem dX6_count_45 : decode cX6_count 45 = .ok (.getfield 211, 3) := by decide +kernel
theorem dX6_count_48 : decode cX6_count 48 = .ok (.ireturn, 1) := by decide +kernel
theorem dX6_count_49 : decode cX6_count 49 = .ok (.aload_n 0, 1) := by decide +kernel
theorem dX6_count_50 : decode cX6_count 50 = .ok (.getfield 49, 3) := by decide +kernel
theorem dX6_count_53 : decode cX6_count 53 = .ok (.ireturn, 1) := by decide +kernel
theorem dX6_count_54 : decode cX6_count 54 = .ok (.aload_n 0, 1) := by decide +kernel
theorem dX6_count_55 : decode cX6_count 55 = .ok (.getfield 53, 3) := by decide +kernel
theorem dX6_count_58 : decode cX6_count 58 = .ok (.ireturn, 1) := by decide +kernel
theorem dX6_count_59 : decode cX6_count 59 = .ok (.aload_n 0, 1) := by decide +kernel
theorem dX6_count_60 : decode cX6_count 60 = .ok (.getfield 38, 3) := by decide +kernel
theorem dX6_count_63 : decode cX6_count 63 = .ok (.getfield 181, 3) := by decide +kernel
theorem dX6_count_66 : decode cX6_count 66 = .ok (.ireturn, 1) := by decide +kernel
theorem dX6_count_67 : decode cX6_count 67 = .ok (.bipush (-2), 2) := by decide +kernel
theorem dX6_count_69 : decode cX6_count 69 = .ok (.ireturn, 1) := by decide +kernel
set_option maxRecDepth 20000 in
theorem ggX6_digest_X6_rowsThatAre : GoodIn wsX6_digest wsX6_rowsThatAre := goodIn_r _ [10, 5, 11, 12, 13, 14, 15, 16, 38, 39, 40, 41, 42, 43, 44, 45, 54, 55] (by decide +kernel) (by decide +kernel)
set_option maxRecDepth 20000 in
theorem gX6_digest_X6_rowsThatAre : GoodIn wsX6_digest (wsV RX6 256 RX6 yX6_rowsThatAre wsX6_rowsThatAre) := goodIn_app (goodIn_of _ (by decide +kernel)) ggX6_digest_X6_rowsThatAre
set_option maxRecDepth 20000 in
theorem ggX6_digest_X6_mixed : GoodIn wsX6_digest wsX6_mixed := goodIn_r _ [19, 20] (by decide +kernel) (by decide +kernel)
set_option maxRecDepth 20000 in
theorem gX6_digest_X6_mixed : GoodIn wsX6_digest (va_wsS RX6 262 yX6_mixed wsX6_mixed) := goodIn_app (goodIn_of _ (by decide +kernel)) ggX6_digest_X6_mixed
set_option maxRecDepth 20000 in
theorem ggX6_digest_X3_isNone : GoodIn wsX6_digest wsX3_isNone := goodIn_r _ [15, 16, 54, 55] (by decide +kernel) (by decide +kernel)
set_option maxRecDepth 20000 in
theorem gX6_digest_X3_isNone : GoodIn wsX6_digest (wsV RX6 116 RX3 yX3_isNone wsX3_isNone) := goodIn_app (goodIn_of _ (by decide +kernel)) ggX6_digest_X3_isNone
set_option maxRecDepth 20000 in
theorem ggX6_digest_X3_mixedInto : GoodIn wsX6_digest wsX3_mixedInto := goodIn_r _ [24, 16, 25, 18, 9, 19, 20, 54, 55] (by decide +kernel) (by decide +kernel)
set_option maxRecDepth 20000 in
theorem gX6_digest_X3_mixedInto : GoodIn wsX6_digest (wsV RX6 266 RX3 yX3_mixedInto wsX3_mixedInto) := goodIn_app (goodIn_of _ (by decide +kernel)) ggX6_digest_X3_mixedInto
set_option maxRecDepth 20000 in
theorem ggX6_digest_X0_leastFitting : GoodIn wsX6_digest wsX0_leastFitting := goodIn_r _ [30, 31, 32, 33, 34, 35, 29, 36, 37, 46, 47, 48] (by decide +kernel) (by decide +kernel)
set_option maxRecDepth 20000 in
theorem gX6_digest_X0_leastFitting : GoodIn wsX6_digest (wsV RX6 215 RX0 yX0_leastFitting wsX0_leastFitting) := goodIn_app (goodIn_of _ (by decide +kernel)) ggX6_digest_X0_leastFitting
theorem dX6_digest_0 : decode cX6_digest 0 = .ok (.ldc2_w 260, 3) := by decide +kernel
theorem dX6_digest_3 : decode cX6_digest 3 = .ok (.lstore_n 1, 1) := by decide +kernel
theorem dX6_digest_4 : decode cX6_digest 4 = .ok (.lload_n 1, 1) := by decide +kernel
theorem dX6_digest_5 : decode cX6_digest 5 = .ok (.aload_n 0, 1) := by decide +kernel
theorem dX6_digest_6 : decode cX6_digest 6 = .ok (.invokevirtual 256, 3) := by decide +kernel
theorem dX6_digest_9 : decode cX6_digest 9 = .ok (.i2l, 1) := by decide +kernel
theorem dX6_digest_10 : decode cX6_digest 10 = .ok (.invokestatic 262, 3) := by decide +kernel
theorem dX6_digest_13 : decode cX6_digest 13 = .ok (.lstore_n 1, 1) := by decide +kernel
theorem dX6_digest_14 : decode cX6_digest 14 = .ok (.lload_n 1, 1) := by decide +kernel
theorem dX6_digest_15 : decode cX6_digest 15 = .ok (.aload_n 0, 1) := by decide +kernel
theorem dX6_digest_16 : decode cX6_digest 16 = .ok (.getfield 45, 3) := by decide +kernel
theorem dX6_digest_19 : decode cX6_digest 19 = .ok (.getfield 211, 3) := by decide +kernel
theorem dX6_digest_22 : decode cX6_digest 22 = .ok (.i2l, 1) := by decide +kernel
theorem dX6_digest_23 : decode cX6_digest 23 = .ok (.invokestatic 262, 3) := by decide +kernel
theorem dX6_digest_26 : decode cX6_digest 26 = .ok (.lstore_n 1, 1) := by decide +kernel
theorem dX6_digest_27 : decode cX6_digest 27 = .ok (.lload_n 1, 1) := by decide +kernel
theorem dX6_digest_28 : decode cX6_digest 28 = .ok (.aload_n 0, 1) := by decide +kernel
theorem dX6_digest_29 : decode cX6_digest 29 = .ok (.getfield 49, 3) := by decide +kernel
theorem dX6_digest_32 : decode cX6_digest 32 = .ok (.i2l, 1) := by decide +kernel
theorem dX6_digest_33 : decode cX6_digest 33 = .ok (.invokestatic 262, 3) := by decide +kernel
theorem dX6_digest_36 : decode cX6_digest 36 = .ok (.lstore_n 1, 1) := by decide +kernel
theorem dX6_digest_37 : decode cX6_digest 37 = .ok (.lload_n 1, 1) := by decide +kernel
theorem dX6_digest_38 : decode cX6_digest 38 = .ok (.aload_n 0, 1) := by decide +kernel
theorem dX6_digest_39 : decode cX6_digest 39 = .ok (.getfield 38, 3) := by decide +kernel
theorem dX6_digest_42 : decode cX6_digest 42 = .ok (.getfield 181, 3) := by decide +kernel
theorem dX6_digest_45 : decode cX6_digest 45 = .ok (.i2l, 1) := by decide +kernel
theorem dX6_digest_46 : decode cX6_digest 46 = .ok (.invokestatic 262, 3) := by decide +kernel
theorem dX6_digest_49 : decode cX6_digest 49 = .ok (.lstore_n 1, 1) := by decide +kernel
theorem dX6_digest_50 : decode cX6_digest 50 = .ok (.iconst 0, 1) := by decide +kernel
theorem dX6_digest_51 : decode cX6_digest 51 = .ok (.istore_n 3, 1) := by decide +kernel
theorem dX6_digest_52 : decode cX6_digest 52 = .ok (.iload_n 3, 1) := by decide +kernel
theorem dX6_digest_53 : decode cX6_digest 53 = .ok (.bipush 8, 2) := by decide +kernel
theorem dX6_digest_55 : decode cX6_digest 55 = .ok (.if_icmp .ge 37, 3) := by decide +kernel
theorem dX6_digest_58 : decode cX6_digest 58 = .ok (.aload_n 0, 1) := by decide +kernel
theorem dX6_digest_59 : decode cX6_digest 59 = .ok (.getfield 11, 3) := by decide +kernel
theorem dX6_digest_62 : decode cX6_digest 62 = .ok (.iload_n 3, 1) := by decide +kernel
theorem dX6_digest_63 : decode cX6_digest 63 = .ok (.aaload, 1) := by decide +kernel
theorem dX6_digest_64 : decode cX6_digest 64 = .ok (.invokevirtual 116, 3) := by decide +kernel
theorem dX6_digest_67 : decode cX6_digest 67 = .ok (.ifCond .ne 19, 3) := by decide +kernel
theorem dX6_digest_70 : decode cX6_digest 70 = .ok (.aload_n 0, 1) := by decide +kernel
theorem dX6_digest_71 : decode cX6_digest 71 = .ok (.getfield 11, 3) := by decide +kernel
theorem dX6_digest_74 : decode cX6_digest 74 = .ok (.iload_n 3, 1) := by decide +kernel
theorem dX6_digest_75 : decode cX6_digest 75 = .ok (.aaload, 1) := by decide +kernel
theorem dX6_digest_76 : decode cX6_digest 76 = .ok (.lload_n 1, 1) := by decide +kernel
theorem dX6_digest_77 : decode cX6_digest 77 = .ok (.iload_n 3, 1) := by decide +kernel
theorem dX6_digest_78 : decode cX6_digest 78 = .ok (.i2l, 1) := by decide +kernel
theorem dX6_digest_79 : decode cX6_digest 79 = .ok (.invokestatic 262, 3) := by decide +kernel
theorem dX6_digest_82 : decode cX6_digest 82 = .ok (.invokevirtual 266, 3) := by decide +kernel
theorem dX6_digest_85 : decode cX6_digest 85 = .ok (.lstore_n 1, 1) := by decide +kernel
theorem dX6_digest_86 : decode cX6_digest 86 = .ok (.iinc 3 1, 3) := by decide +kernel
theorem dX6_digest_89 : decode cX6_digest 89 = .ok (.goto (-37), 3) := by decide +kernel
theorem dX6_digest_92 : decode cX6_digest 92 = .ok (.lload_n 1, 1) := by decide +kernel
theorem dX6_digest_93 : decode cX6_digest 93 = .ok (.aload_n 0, 1) := by decide +kernel
theorem dX6_digest_94 : decode cX6_digest 94 = .ok (.getfield 45, 3) := by decide +kernel
theorem dX6_digest_97 : decode cX6_digest 97 = .ok (.invokevirtual 215, 3) := by decide +kernel
theorem dX6_digest_100 : decode cX6_digest 100 = .ok (.invokestatic 262, 3) := by decide +kernel
theorem dX6_digest_103 : decode cX6_digest 103 = .ok (.lstore_n 1, 1) := by decide +kernel
theorem dX6_digest_104 : decode cX6_digest 104 = .ok (.lload_n 1, 1) := by decide +kernel
theorem dX6_digest_105 : decode cX6_digest 105 = .ok (.aload_n 0, 1) := by decide +kernel
theorem dX6_digest_106 : decode cX6_digest 106 = .ok (.getfield 38, 3) := by decide +kernel
theorem dX6_digest_109 : decode cX6_digest 109 = .ok (.getfield 191, 3) := by decide +kernel
theorem dX6_digest_112 : decode cX6_digest 112 = .ok (.invokestatic 262, 3) := by decide +kernel
theorem dX6_digest_115 : decode cX6_digest 115 = .ok (.lreturn, 1) := by decide +kernel
theorem dX6_isRow_0 : decode cX6_isRow 0 = .ok (.iload_n 0, 1) := by decide +kernel
theorem dX6_isRow_1 : decode cX6_isRow 1 = .ok (.ifCond .lt 13, 3) := by decide +kernel
theorem dX6_isRow_4 : decode cX6_isRow 4 = .ok (.iload_n 0, 1) := by decide +kernel
theorem dX6_isRow_5 : decode cX6_isRow 5 = .ok (.bipush 8, 2) := by decide +kernel
theorem dX6_isRow_7 : decode cX6_isRow 7 = .ok (.if_icmp .ge 7, 3) := by decide +kernel
theorem dX6_isRow_10 : decode cX6_isRow 10 = .ok (.iconst 1, 1) := by decide +kernel
theorem dX6_isRow_11 : decode cX6_isRow 11 = .ok (.goto 4, 3) := by decide +kernel
theorem dX6_isRow_14 : decode cX6_isRow 14 = .ok (.iconst 0, 1) := by decide +kernel
theorem dX6_isRow_15 : decode cX6_isRow 15 = .ok (.ireturn, 1) := by decide +kernel
theorem dX6_isReel_0 : decode cX6_isReel 0 = .ok (.iload_n 0, 1) := by decide +kernel
theorem dX6_isReel_1 : decode cX6_isReel 1 = .ok (.ifCond .lt 12, 3) := by decide +kernel
theorem dX6_isReel_4 : decode cX6_isReel 4 = .ok (.iload_n 0, 1) := by decide +kernel
theorem dX6_isReel_5 : decode cX6_isReel 5 = .ok (.iconst 4, 1) := by decide +kernel
theorem dX6_isReel_6 : decode cX6_isReel 6 = .ok (.if_icmp .ge 7, 3) := by decide +kernel
theorem dX6_isReel_9 : decode cX6_isReel 9 = .ok (.iconst 1, 1) := by decide +kernel
theorem dX6_isReel_10 : decode cX6_isReel 10 = .ok (.goto 4, 3) := by decide +kernel
theorem dX6_isReel_13 : decode cX6_isReel 13 = .ok (.iconst 0, 1) := by decide +kernel
theorem dX6_isReel_14 : decode cX6_isReel 14 = .ok (.ireturn, 1) := by decide +kernel
theorem dX6_isForm_0 : decode cX6_isForm 0 = .ok (.iload_n 0, 1) := by decide +kernel
theorem dX6_isForm_1 : decode cX6_isForm 1 = .ok (.ifCond .lt 12, 3) := by decide +kernel
theorem dX6_isForm_4 : decode cX6_isForm 4 = .ok (.iload_n 0, 1) := by decide +kernel
theorem dX6_isForm_5 : decode cX6_isForm 5 = .ok (.iconst 3, 1) := by decide +kernel
theorem dX6_isForm_6 : decode cX6_isForm 6 = .ok (.if_icmp .ge 7, 3) := by decide +kernel
theorem dX6_isForm_9 : decode cX6_isForm 9 = .ok (.iconst 1, 1) := by decide +kernel
theorem dX6_isForm_10 : decode cX6_isForm 10 = .ok (.goto 4, 3) := by decide +kernel
theorem dX6_isForm_13 : decode cX6_isForm 13 = .ok (.iconst 0, 1) := by decide +kernel
theorem dX6_isForm_14 : decode cX6_isForm 14 = .ok (.ireturn, 1) := by decide +kernel
theorem dX6_isShift_0 : decode cX6_isShift 0 = .ok (.iload_n 0, 1) := by decide +kernel
theorem dX6_isShift_1 : decode cX6_isShift 1 = .ok (.ifCond .lt 13, 3) := by decide +kernel
theorem dX6_isShift_4 : decode cX6_isShift 4 = .ok (.iload_n 0, 1) := by decide +kernel
theorem dX6_isShift_5 : decode cX6_isShift 5 = .ok (.bipush 127, 2) := by decide +kernel
theorem dX6_isShift_7 : decode cX6_isShift 7 = .ok (.if_icmp .ge 7, 3) := by decide +kernel
theorem dX6_isShift_10 : decode cX6_isShift 10 = .ok (.iconst 1, 1) := by decide +kernel
theorem dX6_isShift_11 : decode cX6_isShift 11 = .ok (.goto 4, 3) := by decide +kernel
theorem dX6_isShift_14 : decode cX6_isShift 14 = .ok (.iconst 0, 1) := by decide +kernel
theorem dX6_isShift_15 : decode cX6_isShift 15 = .ok (.ireturn, 1) := by decide +kernel
theorem dX6_isSize_0 : decode cX6_isSize 0 = .ok (.iload_n 0, 1) := by decide +kernel
theorem dX6_isSize_1 : decode cX6_isSize 1 = .ok (.iconst 1, 1) := by decide +kernel
theorem dX6_isSize_2 : decode cX6_isSize 2 = .ok (.if_icmp .lt 13, 3) := by decide +kernel
theorem dX6_isSize_5 : decode cX6_isSize 5 = .ok (.iload_n 0, 1) := by decide +kernel
theorem dX6_isSize_6 : decode cX6_isSize 6 = .ok (.bipush 127, 2) := by decide +kernel
theorem dX6_isSize_8 : decode cX6_isSize 8 = .ok (.if_icmp .gt 7, 3) := by decide +kernel
theorem dX6_isSize_11 : decode cX6_isSize 11 = .ok (.iconst 1, 1) := by decide +kernel
theorem dX6_isSize_12 : decode cX6_isSize 12 = .ok (.goto 4, 3) := by decide +kernel
theorem dX6_isSize_15 : decode cX6_isSize 15 = .ok (.iconst 0, 1) := by decide +kernel
theorem dX6_isSize_16 : decode cX6_isSize 16 = .ok (.ireturn, 1) := by decide +kernel
theorem dX6_isPlace_0 : decode cX6_isPlace 0 = .ok (.iload_n 0, 1) := by decide +kernel
theorem dX6_isPlace_1 : decode cX6_isPlace 1 = .ok (.ifCond .lt 14, 3) := by decide +kernel
theorem dX6_isPlace_4 : decode cX6_isPlace 4 = .ok (.iload_n 0, 1) := by decide +kernel
theorem dX6_isPlace_5 : decode cX6_isPlace 5 = .ok (.sipush 300, 3) := by decide +kernel
theorem dX6_isPlace_8 : decode cX6_isPlace 8 = .ok (.if_icmp .gt 7, 3) := by decide +kernel
theorem dX6_isPlace_11 : decode cX6_isPlace 11 = .ok (.iconst 1, 1) := by decide +kernel
theorem dX6_isPlace_12 : decode cX6_isPlace 12 = .ok (.goto 4, 3) := by decide +kernel
theorem dX6_isPlace_15 : decode cX6_isPlace 15 = .ok (.iconst 0, 1) := by decide +kernel
theorem dX6_isPlace_16 : decode cX6_isPlace 16 = .ok (.ireturn, 1) := by decide +kernel
theorem dX6_isBits_0 : decode cX6_isBits 0 = .ok (.iload_n 0, 1) := by decide +kernel
theorem dX6_isBits_1 : decode cX6_isBits 1 = .ok (.iconst 2, 1) := by decide +kernel
theorem dX6_isBits_2 : decode cX6_isBits 2 = .ok (.if_icmp .lt 13, 3) := by decide +kernel
theorem dX6_isBits_5 : decode cX6_isBits 5 = .ok (.iload_n 0, 1) := by decide +kernel
theorem dX6_isBits_6 : decode cX6_isBits 6 = .ok (.bipush 7, 2) := by decide +kernel
theorem dX6_isBits_8 : decode cX6_isBits 8 = .ok (.if_icmp .gt 7, 3) := by decide +kernel
theorem dX6_isBits_11 : decode cX6_isBits 11 = .ok (.iconst 1, 1) := by decide +kernel
theorem dX6_isBits_12 : decode cX6_isBits 12 = .ok (.goto 4, 3) := by decide +kernel
theorem dX6_isBits_15 : decode cX6_isBits 15 = .ok (.iconst 0, 1) := by decide +kernel
theorem dX6_isBits_16 : decode cX6_isBits 16 = .ok (.ireturn, 1) := by decide +kernel
set_option maxRecDepth 20000 in
theorem ggX6_isRegister_X6_isBits : GoodIn wsX6_isRegister wsX6_isBits := goodIn_r _ [4] (by decide +kernel) (by decide +kernel)
set_option maxRecDepth 20000 in
theorem gX6_isRegister_X6_isBits : GoodIn wsX6_isRegister (va_wsS RX6 77 yX6_isBits wsX6_isBits) := goodIn_app (goodIn_of _ (by decide +kernel)) ggX6_isRegister_X6_isBits
theorem dX6_isRegister_0 : decode cX6_isRegister 0 = .ok (.iload_n 0, 1) := by decide +kernel
theorem dX6_isRegister_1 : decode cX6_isRegister 1 = .ok (.invokestatic 77, 3) := by decide +kernel
theorem dX6_isRegister_4 : decode cX6_isRegister 4 = .ok (.ifCond .ne 5, 3) := by decide +kernel
theorem dX6_isRegister_7 : decode cX6_isRegister 7 = .ok (.iconst 0, 1) := by decide +kernel
theorem dX6_isRegister_8 : decode cX6_isRegister 8 = .ok (.ireturn, 1) := by decide +kernel
theorem dX6_isRegister_9 : decode cX6_isRegister 9 = .ok (.iconst 1, 1) := by decide +kernel
theorem dX6_isRegister_10 : decode cX6_isRegister 10 = .ok (.iload_n 0, 1) := by decide +kernel
theorem dX6_isRegister_11 : decode cX6_isRegister 11 = .ok (.ishl, 1) := by decide +kernel
theorem dX6_isRegister_12 : decode cX6_isRegister 12 = .ok (.istore_n 3, 1) := by decide +kernel
theorem dX6_isRegister_13 : decode cX6_isRegister 13 = .ok (.iload_n 1, 1) := by decide +kernel
theorem dX6_isRegister_14 : decode cX6_isRegister 14 = .ok (.ifCond .le 28, 3) := by decide +kernel
theorem dX6_isRegister_17 : decode cX6_isRegister 17 = .ok (.iload_n 1, 1) := by decide +kernel
theorem dX6_isRegister_18 : decode cX6_isRegister 18 = .ok (.iload_n 3, 1) := by decide +kernel
theorem dX6_isRegister_19 : decode cX6_isRegister 19 = .ok (.if_icmp .ge 23, 3) := by decide +kernel
theorem dX6_isRegister_22 : decode cX6_isRegister 22 = .ok (.iload_n 1, 1) := by decide +kernel
theorem dX6_isRegister_23 : decode cX6_isRegister 23 = .ok (.iconst 1, 1) := by decide +kernel
theorem dX6_isRegister_24 : decode cX6_isRegister 24 = .ok (.iand, 1) := by decide +kernel
theorem dX6_isRegister_25 : decode cX6_isRegister 25 = .ok (.iconst 1, 1) := by decide +kernel
theorem dX6_isRegister_26 : decode cX6_isRegister 26 = .ok (.if_icmp .ne 16, 3) := by decide +kernel
theorem dX6_isRegister_29 : decode cX6_isRegister 29 = .ok (.iload_n 2, 1) := by decide +kernel
theorem dX6_isRegister_30 : decode cX6_isRegister 30 = .ok (.ifCond .le 12, 3) := by decide +kernel
theorem dX6_isRegister_33 : decode cX6_isRegister 33 = .ok (.iload_n 2, 1) := by decide +kernel
theorem dX6_isRegister_34 : decode cX6_isRegister 34 = .ok (.iload_n 3, 1) := by decide +kernel
theorem dX6_isRegister_35 : decode cX6_isRegister 35 = .ok (.if_icmp .ge 7, 3) := by decide +kernel
theorem dX6_isRegister_38 : decode cX6_isRegister 38 = .ok (.iconst 1, 1) := by decide +kernel
theorem dX6_isRegister_39 : decode cX6_isRegister 39 = .ok (.goto 4, 3) := by decide +kernel
theorem dX6_isRegister_42 : decode cX6_isRegister 42 = .ok (.iconst 0, 1) := by decide +kernel
theorem dX6_isRegister_43 : decode cX6_isRegister 43 = .ok (.ireturn, 1) := by decide +kernel
theorem dX6_areHops_0 : decode cX6_areHops 0 = .ok (.iconst 0, 1) := by decide +kernel
theorem dX6_areHops_1 : decode cX6_areHops 1 = .ok (.istore_n 3, 1) := by decide +kernel
theorem dX6_areHops_2 : decode cX6_areHops 2 = .ok (.getstatic 270, 3) := by decide +kernel
theorem dX6_areHops_5 : decode cX6_areHops 5 = .ok (.astore 4, 2) := by decide +kernel
theorem dX6_areHops_7 : decode cX6_areHops 7 = .ok (.aload 4, 2) := by decide +kernel
theorem dX6_areHops_9 : decode cX6_areHops 9 = .ok (.arraylength, 1) := by decide +kernel
theorem dX6_areHops_10 : decode cX6_areHops 10 = .ok (.istore 5, 2) := by decide +kernel
theorem dX6_areHops_12 : decode cX6_areHops 12 = .ok (.iconst 0, 1) := by decide +kernel
theorem dX6_areHops_13 : decode cX6_areHops 13 = .ok (.istore 6, 2) := by decide +kernel
theorem dX6_areHops_15 : decode cX6_areHops 15 = .ok (.iload 6, 2) := by decide +kernel
theorem dX6_areHops_17 : decode cX6_areHops 17 = .ok (.iload 5, 2) := by decide +kernel
theorem dX6_areHops_19 : decode cX6_areHops 19 = .ok (.if_icmp .ge 32, 3) := by decide +kernel
theorem dX6_areHops_22 : decode cX6_areHops 22 = .ok (.aload 4, 2) := by decide +kernel
theorem dX6_areHops_24 : decode cX6_areHops 24 = .ok (.iload 6, 2) := by decide +kernel
theorem dX6_areHops_26 : decode cX6_areHops 26 = .ok (.iaload, 1) := by decide +kernel
theorem dX6_areHops_27 : decode cX6_areHops 27 = .ok (.istore 7, 2) := by decide +kernel
theorem dX6_areHops_29 : decode cX6_areHops 29 = .ok (.iload_n 3, 1) := by decide +kernel
theorem dX6_areHops_30 : decode cX6_areHops 30 = .ok (.ifCond .ne 9, 3) := by decide +kernel
theorem dX6_areHops_33 : decode cX6_areHops 33 = .ok (.iload 7, 2) := by decide +kernel
theorem dX6_areHops_35 : decode cX6_areHops 35 = .ok (.iload_n 0, 1) := by decide +kernel
theorem dX6_areHops_36 : decode cX6_areHops 36 = .ok (.if_icmp .ne 7, 3) := by decide +kernel
theorem dX6_areHops_39 : decode cX6_areHops 39 = .ok (.iconst 1, 1) := by decide +kernel
theorem dX6_areHops_40 : decode cX6_areHops 40 = .ok (.goto 4, 3) := by decide +kernel
theorem dX6_areHops_43 : decode cX6_areHops 43 = .ok (.iconst 0, 1) := by decide +kernel
theorem dX6_areHops_44 : decode cX6_areHops 44 = .ok (.istore_n 3, 1) := by decide +kernel
theorem dX6_areHops_45 : decode cX6_areHops 45 = .ok (.iinc 6 1, 3) := by decide +kernel
theorem dX6_areHops_48 : decode cX6_areHops 48 = .ok (.goto (-33), 3) := by decide +kernel
theorem dX6_areHops_51 : decode cX6_areHops 51 = .ok (.iload_n 3, 1) := by decide +kernel
theorem dX6_areHops_52 : decode cX6_areHops 52 = .ok (.ifCond .eq 25, 3) := by decide +kernel
theorem dX6_areHops_55 : decode cX6_areHops 55 = .ok (.iload_n 1, 1) := by decide +kernel
theorem dX6_areHops_56 : decode cX6_areHops 56 = .ok (.ifCond .le 21, 3) := by decide +kernel
theorem dX6_areHops_59 : decode cX6_areHops 59 = .ok (.iload_n 1, 1) := by decide +kernel
theorem dX6_areHops_60 : decode cX6_areHops 60 = .ok (.iload_n 0, 1) := by decide +kernel
theorem dX6_areHops_61 : decode cX6_areHops 61 = .ok (.if_icmp .ge 16, 3) := by decide +kernel
theorem dX6_areHops_64 : decode cX6_areHops 64 = .ok (.iload_n 2, 1) := by decide +kernel
theorem dX6_areHops_65 : decode cX6_areHops 65 = .ok (.ifCond .le 12, 3) := by decide +kernel
theorem dX6_areHops_68 : decode cX6_areHops 68 = .ok (.iload_n 2, 1) := by decide +kernel
theorem dX6_areHops_69 : decode cX6_areHops 69 = .ok (.iload_n 0, 1) := by decide +kernel
theorem dX6_areHops_70 : decode cX6_areHops 70 = .ok (.if_icmp .ge 7, 3) := by decide +kernel
theorem dX6_areHops_73 : decode cX6_areHops 73 = .ok (.iconst 1, 1) := by decide +kernel
theorem dX6_areHops_74 : decode cX6_areHops 74 = .ok (.goto 4, 3) := by decide +kernel
theorem dX6_areHops_77 : decode cX6_areHops 77 = .ok (.iconst 0, 1) := by decide +kernel
theorem dX6_areHops_78 : decode cX6_areHops 78 = .ok (.ireturn, 1) := by decide +kernel
set_option maxRecDepth 20000 in
theorem ggX6_arePaired_X3_isNone : GoodIn wsX6_arePaired wsX3_isNone := goodIn_r _ [6, 7, 16, 17] (by decide +kernel) (by decide +kernel)
set_option maxRecDepth 20000 in
theorem gX6_arePaired_X3_isNone : GoodIn wsX6_arePaired (wsV RX6 116 RX3 yX3_isNone wsX3_isNone) := goodIn_app (goodIn_of _ (by decide +kernel)) ggX6_arePaired_X3_isNone
theorem dX6_arePaired_0 : decode cX6_arePaired 0 = .ok (.aload_n 0, 1) := by decide +kernel
theorem dX6_arePaired_1 : decode cX6_arePaired 1 = .ok (.getfield 11, 3) := by decide +kernel
theorem dX6_arePaired_4 : decode cX6_arePaired 4 = .ok (.iload_n 1, 1) := by decide +kernel
theorem dX6_arePaired_5 : decode cX6_arePaired 5 = .ok (.aaload, 1) := by decide +kernel
theorem dX6_arePaired_6 : decode cX6_arePaired 6 = .ok (.invokevirtual 116, 3) := by decide +kernel
theorem dX6_arePaired_9 : decode cX6_arePaired 9 = .ok (.ifCond .ne 28, 3) := by decide +kernel
theorem dX6_arePaired_12 : decode cX6_arePaired 12 = .ok (.aload_n 0, 1) := by decide +kernel
theorem dX6_arePaired_13 : decode cX6_arePaired 13 = .ok (.getfield 11, 3) := by decide +kernel
theorem dX6_arePaired_16 : decode cX6_arePaired 16 = .ok (.iload_n 1, 1) := by decide +kernel
theorem dX6_arePaired_17 : decode cX6_arePaired 17 = .ok (.aaload, 1) := by decide +kernel
theorem dX6_arePaired_18 : decode cX6_arePaired 18 = .ok (.getfield 70, 3) := by decide +kernel
theorem dX6_arePaired_21 : decode cX6_arePaired 21 = .ok (.aload_n 0, 1) := by decide +kernel
theorem dX6_arePaired_22 : decode cX6_arePaired 22 = .ok (.getfield 11, 3) := by decide +kernel
theorem dX6_arePaired_25 : decode cX6_arePaired 25 = .ok (.iload_n 2, 1) := by decide +kernel
theorem dX6_arePaired_26 : decode cX6_arePaired 26 = .ok (.aaload, 1) := by decide +kernel
theorem dX6_arePaired_27 : decode cX6_arePaired 27 = .ok (.getfield 70, 3) := by decide +kernel
theorem dX6_arePaired_30 : decode cX6_arePaired 30 = .ok (.if_icmp .ne 7, 3) := by decide +kernel
theorem dX6_arePaired_33 : decode cX6_arePaired 33 = .ok (.iconst 1, 1) := by decide +kernel
theorem dX6_arePaired_34 : decode cX6_arePaired 34 = .ok (.goto 4, 3) := by decide +kernel
theorem dX6_arePaired_37 : decode cX6_arePaired 37 = .ok (.iconst 0, 1) := by decide +kernel
theorem dX6_arePaired_38 : decode cX6_arePaired 38 = .ok (.ireturn, 1) := by decide +kernel
theorem dX6_isSizeOfAnyRow_0 : decode cX6_isSizeOfAnyRow 0 = .ok (.iconst 0, 1) := by decide +kernel
theorem dX6_isSizeOfAnyRow_1 : decode cX6_isSizeOfAnyRow 1 = .ok (.istore_n 2, 1) := by decide +kernel
theorem dX6_isSizeOfAnyRow_2 : decode cX6_isSizeOfAnyRow 2 = .ok (.iload_n 2, 1) := by decide +kernel
theorem dX6_isSizeOfAnyRow_3 : decode cX6_isSizeOfAnyRow 3 = .ok (.bipush 8, 2) := by decide +kernel
theorem dX6_isSizeOfAnyRow_5 : decode cX6_isSizeOfAnyRow 5 = .ok (.if_icmp .ge 24, 3) := by decide +kernel
theorem dX6_isSizeOfAnyRow_8 : decode cX6_isSizeOfAnyRow 8 = .ok (.aload_n 0, 1) := by decide +kernel
theorem dX6_isSizeOfAnyRow_9 : decode cX6_isSizeOfAnyRow 9 = .ok (.getfield 11, 3) := by decide +kernel
theorem dX6_isSizeOfAnyRow_12 : decode cX6_isSizeOfAnyRow 12 = .ok (.iload_n 2, 1) := by decide +kernel
theorem dX6_isSizeOfAnyRow_13 : decode cX6_isSizeOfAnyRow 13 = .ok (.aaload, 1) := by decide +kernel
theorem dX6_isSizeOfAnyRow_14 : decode cX6_isSizeOfAnyRow 14 = .ok (.getfield 70, 3) := by decide +kernel
theorem dX6_isSizeOfAnyRow_17 : decode cX6_isSizeOfAnyRow 17 = .ok (.iload_n 1, 1) := by decide +kernel
theorem dX6_isSizeOfAnyRow_18 : decode cX6_isSizeOfAnyRow 18 = .ok (.if_icmp .ne 5, 3) := by decide +kernel
theorem dX6_isSizeOfAnyRow_21 : decode cX6_isSizeOfAnyRow 21 = .ok (.iconst 1, 1) := by decide +kernel
theorem dX6_isSizeOfAnyRow_22 : decode cX6_isSizeOfAnyRow 22 = .ok (.ireturn, 1) := by decide +kernel
theorem dX6_isSizeOfAnyRow_23 : decode cX6_isSizeOfAnyRow 23 = .ok (.iinc 2 1, 3) := by decide +kernel
theorem dX6_isSizeOfAnyRow_26 : decode cX6_isSizeOfAnyRow 26 = .ok (.goto (-24), 3) := by decide +kernel
theorem dX6_isSizeOfAnyRow_29 : decode cX6_isSizeOfAnyRow 29 = .ok (.iconst 0, 1) := by decide +kernel
theorem dX6_isSizeOfAnyRow_30 : decode cX6_isSizeOfAnyRow 30 = .ok (.ireturn, 1) := by decide +kernel
theorem dX6_found_0 : decode cX6_found 0 = .ok (.aload_n 0, 1) := by decide +kernel
theorem dX6_found_1 : decode cX6_found 1 = .ok (.iload_n 1, 1) := by decide +kernel
theorem dX6_found_2 : decode cX6_found 2 = .ok (.putfield 53, 3) := by decide +kernel
theorem dX6_found_5 : decode cX6_found 5 = .ok (.bipush (-10), 2) := by decide +kernel
theorem dX6_found_7 : decode cX6_found 7 = .ok (.iload_n 1, 1) := by decide +kernel
theorem dX6_found_8 : decode cX6_found 8 = .ok (.isub, 1) := by decide +kernel
theorem dX6_found_9 : decode cX6_found 9 = .ok (.ireturn, 1) := by decide +kernel
set_option maxRecDepth 20000 in
theorem ggX6_stepped_J6_bitCount_0f7a4 : GoodIn wsX6_stepped wsJ6_bitCount_0f7a4 := goodIn_r _ [4, 5, 6, 7] (by decide +kernel) (by decide +kernel)
set_option maxRecDepth 20000 in
theorem gX6_stepped_J6_bitCount_0f7a4 : GoodIn wsX6_stepped (va_wsS RX6 273 yJ6_bitCount_0f7a4 wsJ6_bitCount_0f7a4) := goodIn_app (goodIn_of _ (by decide +kernel)) ggX6_stepped_J6_bitCount_0f7a4
theorem dX6_stepped_0 : decode cX6_stepped 0 = .ok (.iload_n 2, 1) := by decide +kernel
theorem dX6_stepped_1 : decode cX6_stepped 1 = .ok (.iload_n 1, 1) := by decide +kernel
theorem dX6_stepped_2 : decode cX6_stepped 2 = .ok (.iand, 1) := by decide +kernel
theorem dX6_stepped_3 : decode cX6_stepped 3 = .ok (.invokestatic 273, 3) := by decide +kernel
theorem dX6_stepped_6 : decode cX6_stepped 6 = .ok (.iconst 1, 1) := by decide +kernel
theorem dX6_stepped_7 : decode cX6_stepped 7 = .ok (.iand, 1) := by decide +kernel
theorem dX6_stepped_8 : decode cX6_stepped 8 = .ok (.istore_n 3, 1) := by decide +kernel
theorem dX6_stepped_9 : decode cX6_stepped 9 = .ok (.iload_n 2, 1) := by decide +kernel
theorem dX6_stepped_10 : decode cX6_stepped 10 = .ok (.iconst 1, 1) := by decide +kernel
theorem dX6_stepped_11 : decode cX6_stepped 11 = .ok (.ishr, 1) := by decide +kernel
theorem dX6_stepped_12 : decode cX6_stepped 12 = .ok (.iload_n 3, 1) := by decide +kernel
theorem dX6_stepped_13 : decode cX6_stepped 13 = .ok (.iload_n 0, 1) := by decide +kernel
theorem dX6_stepped_14 : decode cX6_stepped 14 = .ok (.iconst 1, 1) := by decide +kernel
theorem dX6_stepped_15 : decode cX6_stepped 15 = .ok (.isub, 1) := by decide +kernel
theorem dX6_stepped_16 : decode cX6_stepped 16 = .ok (.ishl, 1) := by decide +kernel
theorem dX6_stepped_17 : decode cX6_stepped 17 = .ok (.ior, 1) := by decide +kernel
theorem dX6_stepped_18 : decode cX6_stepped 18 = .ok (.ireturn, 1) := by decide +kernel
set_option maxRecDepth 20000 in
theorem ggX6_stepsToReturn_X6_stepped : GoodIn wsX6_stepsToReturn wsX6_stepped := goodIn_r _ [4, 5, 6, 7, 8, 9, 10, 11] (by decide +kernel) (by decide +kernel)
set_option maxRecDepth 20000 in
theorem gX6_stepsToReturn_X6_stepped : GoodIn wsX6_stepsToReturn (va_wsS RX6 276 yX6_stepped wsX6_stepped) := goodIn_app (goodIn_of _ (by decide +kernel)) ggX6_stepsToReturn_X6_stepped
theorem dX6_stepsToReturn_0 : decode cX6_stepsToReturn 0 = .ok (.iload_n 2, 1) := by decide +kernel
theorem dX6_stepsToReturn_1 : decode cX6_stepsToReturn 1 = .ok (.istore_n 3, 1) := by decide +kernel
theorem dX6_stepsToReturn_2 : decode cX6_stepsToReturn 2 = .ok (.iconst 1, 1) := by decide +kernel
theorem dX6_stepsToReturn_3 : decode cX6_stepsToReturn 3 = .ok (.istore 4, 2) := by decide +kernel
theorem dX6_stepsToReturn_5 : decode cX6_stepsToReturn 5 = .ok (.iload 4, 2) := by decide +kernel
theorem dX6_stepsToReturn_7 : decode cX6_stepsToReturn 7 = .ok (.bipush 127, 2) := by decide +kernel
theorem dX6_stepsToReturn_9 : decode cX6_stepsToReturn 9 = .ok (.if_icmp .gt 24, 3) := by decide +kernel
theorem dX6_stepsToReturn_12 : decode cX6_stepsToReturn 12 = .ok (.iload_n 0, 1) := by decide +kernel
theorem dX6_stepsToReturn_13 : decode cX6_stepsToReturn 13 = .ok (.iload_n 1, 1) := by decide +kernel
theorem dX6_stepsToReturn_14 : decode cX6_stepsToReturn 14 = .ok (.iload_n 3, 1) := by decide +kernel
theorem dX6_stepsToReturn_15 : decode cX6_stepsToReturn 15 = .ok (.invokestatic 276, 3) := by decide +kernel
theorem dX6_stepsToReturn_18 : decode cX6_stepsToReturn 18 = .ok (.istore_n 3, 1) := by decide +kernel
theorem dX6_stepsToReturn_19 : decode cX6_stepsToReturn 19 = .ok (.iload_n 3, 1) := by decide +kernel
theorem dX6_stepsToReturn_20 : decode cX6_stepsToReturn 20 = .ok (.iload_n 2, 1) := by decide +kernel
theorem dX6_stepsToReturn_21 : decode cX6_stepsToReturn 21 = .ok (.if_icmp .ne 6, 3) := by decide +kernel
theorem dX6_stepsToReturn_24 : decode cX6_stepsToReturn 24 = .ok (.iload 4, 2) := by decide +kernel
theorem dX6_stepsToReturn_26 : decode cX6_stepsToReturn 26 = .ok (.ireturn, 1) := by decide +kernel
theorem dX6_stepsToReturn_27 : decode cX6_stepsToReturn 27 = .ok (.iinc 4 1, 3) := by decide +kernel
theorem dX6_stepsToReturn_30 : decode cX6_stepsToReturn 30 = .ok (.goto (-25), 3) := by decide +kernel
theorem dX6_stepsToReturn_33 : decode cX6_stepsToReturn 33 = .ok (.bipush 127, 2) := by decide +kernel
theorem dX6_stepsToReturn_35 : decode cX6_stepsToReturn 35 = .ok (.ireturn, 1) := by decide +kernel
theorem dX6_meetings_0 : decode cX6_meetings 0 = .ok (.iconst 0, 1) := by decide +kernel
theorem dX6_meetings_1 : decode cX6_meetings 1 = .ok (.istore 5, 2) := by decide +kernel
theorem dX6_meetings_3 : decode cX6_meetings 3 = .ok (.iconst 0, 1) := by decide +kernel
theorem dX6_meetings_4 : decode cX6_meetings 4 = .ok (.istore 6, 2) := by decide +kernel
theorem dX6_meetings_6 : decode cX6_meetings 6 = .ok (.iload 6, 2) := by decide +kernel
theorem dX6_meetings_8 : decode cX6_meetings 8 = .ok (.iload_n 0, 1) := by decide +kernel
theorem dX6_meetings_9 : decode cX6_meetings 9 = .ok (.if_icmp .ge 32, 3) := by decide +kernel
theorem dX6_meetings_12 : decode cX6_meetings 12 = .ok (.iload_n 1, 1) := by decide +kernel
theorem dX6_meetings_13 : decode cX6_meetings 13 = .ok (.iload 6, 2) := by decide +kernel
theorem dX6_meetings_15 : decode cX6_meetings 15 = .ok (.imul, 1) := by decide +kernel
theorem dX6_meetings_16 : decode cX6_meetings 16 = .ok (.iload_n 0, 1) := by decide +kernel
theorem dX6_meetings_17 : decode cX6_meetings 17 = .ok (.irem, 1) := by decide +kernel
theorem dX6_meetings_18 : decode cX6_meetings 18 = .ok (.iload_n 2, 1) := by decide +kernel
theorem dX6_meetings_19 : decode cX6_meetings 19 = .ok (.iload 6, 2) := by decide +kernel
theorem dX6_meetings_21 : decode cX6_meetings 21 = .ok (.iload_n 3, 1) := by decide +kernel
theorem dX6_meetings_22 : decode cX6_meetings 22 = .ok (.iadd, 1) := by decide +kernel
theorem dX6_meetings_23 : decode cX6_meetings 23 = .ok (.imul, 1) := by decide +kernel
theorem dX6_meetings_24 : decode cX6_meetings 24 = .ok (.iload 4, 2) := by decide +kernel
theorem dX6_meetings_26 : decode cX6_meetings 26 = .ok (.iadd, 1) := by decide +kernel
theorem dX6_meetings_27 : decode cX6_meetings 27 = .ok (.iload_n 0, 1) := by decide +kernel
theorem dX6_meetings_28 : decode cX6_meetings 28 = .ok (.irem, 1) := by decide +kernel
theorem dX6_meetings_29 : decode cX6_meetings 29 = .ok (.if_icmp .ne 6, 3) := by decide +kernel
theorem dX6_meetings_32 : decode cX6_meetings 32 = .ok (.iinc 5 1, 3) := by decide +kernel
theorem dX6_meetings_35 : decode cX6_meetings 35 = .ok (.iinc 6 1, 3) := by decide +kernel
theorem dX6_meetings_38 : decode cX6_meetings 38 = .ok (.goto (-32), 3) := by decide +kernel
theorem dX6_meetings_41 : decode cX6_meetings 41 = .ok (.iload 5, 2) := by decide +kernel
theorem dX6_meetings_43 : decode cX6_meetings 43 = .ok (.ireturn, 1) := by decide +kernel
theorem dX6_mixed_0 : decode cX6_mixed 0 = .ok (.ldc2_w 279, 3) := by decide +kernel
theorem dX6_mixed_3 : decode cX6_mixed 3 = .ok (.lload_n 0, 1) := by decide +kernel
theorem dX6_mixed_4 : decode cX6_mixed 4 = .ok (.lmul, 1) := by decide +kernel
theorem dX6_mixed_5 : decode cX6_mixed 5 = .ok (.lload_n 2, 1) := by decide +kernel
theorem dX6_mixed_6 : decode cX6_mixed 6 = .ok (.ladd, 1) := by decide +kernel
theorem dX6_mixed_7 : decode cX6_mixed 7 = .ok (.lreturn, 1) := by decide +kernel
set_option maxRecDepth 20000 in
theorem ggX6_rowsThatAre_X3_isNone : GoodIn wsX6_rowsThatAre wsX3_isNone := goodIn_r _ [6, 7, 16, 17] (by decide +kernel) (by decide +kernel)
set_option maxRecDepth 20000 in
theorem gX6_rowsThatAre_X3_isNone : GoodIn wsX6_rowsThatAre (wsV RX6 116 RX3 yX3_isNone wsX3_isNone) := goodIn_app (goodIn_of _ (by decide +kernel)) ggX6_rowsThatAre_X3_isNone
theorem dX6_rowsThatAre_0 : decode cX6_rowsThatAre 0 = .ok (.iconst 0, 1) := by decide +kernel
theorem dX6_rowsThatAre_1 : decode cX6_rowsThatAre 1 = .ok (.istore_n 1, 1) := by decide +kernel
theorem dX6_rowsThatAre_2 : decode cX6_rowsThatAre 2 = .ok (.iconst 0, 1) := by decide +kernel
theorem dX6_rowsThatAre_3 : decode cX6_rowsThatAre 3 = .ok (.istore_n 2, 1) := by decide +kernel
theorem dX6_rowsThatAre_4 : decode cX6_rowsThatAre 4 = .ok (.iload_n 2, 1) := by decide +kernel
theorem dX6_rowsThatAre_5 : decode cX6_rowsThatAre 5 = .ok (.bipush 8, 2) := by decide +kernel
theorem dX6_rowsThatAre_7 : decode cX6_rowsThatAre 7 = .ok (.if_icmp .ge 24, 3) := by decide +kernel
theorem dX6_rowsThatAre_10 : decode cX6_rowsThatAre 10 = .ok (.aload_n 0, 1) := by decide +kernel
theorem dX6_rowsThatAre_11 : decode cX6_rowsThatAre 11 = .ok (.getfield 11, 3) := by decide +kernel
theorem dX6_rowsThatAre_14 : decode cX6_rowsThatAre 14 = .ok (.iload_n 2, 1) := by decide +kernel
theorem dX6_rowsThatAre_15 : decode cX6_rowsThatAre 15 = .ok (.aaload, 1) := by decide +kernel
theorem dX6_rowsThatAre_16 : decode cX6_rowsThatAre 16 = .ok (.invokevirtual 116, 3) := by decide +kernel
theorem dX6_rowsThatAre_19 : decode cX6_rowsThatAre 19 = .ok (.ifCond .ne 6, 3) := by decide +kernel
theorem dX6_rowsThatAre_22 : decode cX6_rowsThatAre 22 = .ok (.iinc 1 1, 3) := by decide +kernel
theorem dX6_rowsThatAre_25 : decode cX6_rowsThatAre 25 = .ok (.iinc 2 1, 3) := by decide +kernel
theorem dX6_rowsThatAre_28 : decode cX6_rowsThatAre 28 = .ok (.goto (-24), 3) := by decide +kernel
theorem dX6_rowsThatAre_31 : decode cX6_rowsThatAre 31 = .ok (.iload_n 1, 1) := by decide +kernel
theorem dX6_rowsThatAre_32 : decode cX6_rowsThatAre 32 = .ok (.ireturn, 1) := by decide +kernel
set_option maxRecDepth 20000 in
theorem ggX6_listen_X2_itemOrZero : GoodIn wsX6_listen wsX2_itemOrZero := goodIn_r _ [7, 8, 9, 10, 11, 6, 12, 13, 14, 32, 33, 34, 35] (by decide +kernel) (by decide +kernel)
set_option maxRecDepth 20000 in
theorem gX6_listen_X2_itemOrZero : GoodIn wsX6_listen (wsV RX6 238 RX2 yX2_itemOrZero wsX2_itemOrZero) := goodIn_app (goodIn_of _ (by decide +kernel)) ggX6_listen_X2_itemOrZero
set_option maxRecDepth 20000 in
theorem ggX6_listen_X6_quietened : GoodIn wsX6_listen wsX6_quietened := goodIn_r _ [18] (by decide +kernel) (by decide +kernel)
set_option maxRecDepth 20000 in
theorem gX6_listen_X6_quietened : GoodIn wsX6_listen (va_wsS RX6 282 yX6_quietened wsX6_quietened) := goodIn_app (goodIn_of _ (by decide +kernel)) ggX6_listen_X6_quietened
theorem dX6_listen_0 : decode cX6_listen 0 = .ok (.aload_n 0, 1) := by decide +kernel
theorem dX6_listen_1 : decode cX6_listen 1 = .ok (.getfield 24, 3) := by decide +kernel
theorem dX6_listen_4 : decode cX6_listen 4 = .ok (.iload_n 2, 1) := by decide +kernel
theorem dX6_listen_5 : decode cX6_listen 5 = .ok (.putfield 281, 3) := by decide +kernel
theorem dX6_listen_8 : decode cX6_listen 8 = .ok (.iconst 0, 1) := by decide +kernel
theorem dX6_listen_9 : decode cX6_listen 9 = .ok (.istore_n 3, 1) := by decide +kernel
theorem dX6_listen_10 : decode cX6_listen 10 = .ok (.iload_n 3, 1) := by decide +kernel
theorem dX6_listen_11 : decode cX6_listen 11 = .ok (.iload_n 2, 1) := by decide +kernel
theorem dX6_listen_12 : decode cX6_listen 12 = .ok (.if_icmp .ge 57, 3) := by decide +kernel
theorem dX6_listen_15 : decode cX6_listen 15 = .ok (.aload_n 0, 1) := by decide +kernel
theorem dX6_listen_16 : decode cX6_listen 16 = .ok (.getfield 24, 3) := by decide +kernel
theorem dX6_listen_19 : decode cX6_listen 19 = .ok (.getfield 87, 3) := by decide +kernel
theorem dX6_listen_22 : decode cX6_listen 22 = .ok (.iload_n 3, 1) := by decide +kernel
theorem dX6_listen_23 : decode cX6_listen 23 = .ok (.aload_n 0, 1) := by decide +kernel
theorem dX6_listen_24 : decode cX6_listen 24 = .ok (.getfield 17, 3) := by decide +kernel
theorem dX6_listen_27 : decode cX6_listen 27 = .ok (.iconst 0, 1) := by decide +kernel
theorem dX6_listen_28 : decode cX6_listen 28 = .ok (.aaload, 1) := by decide +kernel
theorem dX6_listen_29 : decode cX6_listen 29 = .ok (.iload_n 1, 1) := by decide +kernel
theorem dX6_listen_30 : decode cX6_listen 30 = .ok (.iload_n 3, 1) := by decide +kernel
theorem dX6_listen_31 : decode cX6_listen 31 = .ok (.iadd, 1) := by decide +kernel
theorem dX6_listen_32 : decode cX6_listen 32 = .ok (.invokevirtual 238, 3) := by decide +kernel
theorem dX6_listen_35 : decode cX6_listen 35 = .ok (.invokestatic 282, 3) := by decide +kernel
theorem dX6_listen_38 : decode cX6_listen 38 = .ok (.iastore, 1) := by decide +kernel
theorem dX6_listen_39 : decode cX6_listen 39 = .ok (.aload_n 0, 1) := by decide +kernel
theorem dX6_listen_40 : decode cX6_listen 40 = .ok (.getfield 24, 3) := by decide +kernel
theorem dX6_listen_43 : decode cX6_listen 43 = .ok (.getfield 285, 3) := by decide +kernel
theorem dX6_listen_46 : decode cX6_listen 46 = .ok (.iload_n 3, 1) := by decide +kernel
theorem dX6_listen_47 : decode cX6_listen 47 = .ok (.aload_n 0, 1) := by decide +kernel
theorem dX6_listen_48 : decode cX6_listen 48 = .ok (.getfield 17, 3) := by decide +kernel
theorem dX6_listen_51 : decode cX6_listen 51 = .ok (.iconst 1, 1) := by decide +kernel
theorem dX6_listen_52 : decode cX6_listen 52 = .ok (.aaload, 1) := by decide +kernel
theorem dX6_listen_53 : decode cX6_listen 53 = .ok (.iload_n 1, 1) := by decide +kernel
theorem dX6_listen_54 : decode cX6_listen 54 = .ok (.iload_n 3, 1) := by decide +kernel
theorem dX6_listen_55 : decode cX6_listen 55 = .ok (.iadd, 1) := by decide +kernel
theorem dX6_listen_56 : decode cX6_listen 56 = .ok (.invokevirtual 238, 3) := by decide +kernel
theorem dX6_listen_59 : decode cX6_listen 59 = .ok (.invokestatic 282, 3) := by decide +kernel
theorem dX6_listen_62 : decode cX6_listen 62 = .ok (.iastore, 1) := by decide +kernel
theorem dX6_listen_63 : decode cX6_listen 63 = .ok (.iinc 3 1, 3) := by decide +kernel
theorem dX6_listen_66 : decode cX6_listen 66 = .ok (.goto (-56), 3) := by decide +kernel
theorem dX6_listen_69 : decode cX6_listen 69 = .ok (.return_, 1) := by decide +kernel
theorem dX6_quietened_0 : decode cX6_quietened 0 = .ok (.iload_n 0, 1) := by decide +kernel
theorem dX6_quietened_1 : decode cX6_quietened 1 = .ok (.sipush (-10000), 3) := by decide +kernel
theorem dX6_quietened_4 : decode cX6_quietened 4 = .ok (.if_icmp .lt 10, 3) := by decide +kernel
theorem dX6_quietened_7 : decode cX6_quietened 7 = .ok (.iload_n 0, 1) := by decide +kernel
theorem dX6_quietened_8 : decode cX6_quietened 8 = .ok (.sipush 10000, 3) := by decide +kernel
theorem dX6_quietened_11 : decode cX6_quietened 11 = .ok (.if_icmp .le 7, 3) := by decide +kernel
theorem dX6_quietened_14 : decode cX6_quietened 14 = .ok (.iconst 0, 1) := by decide +kernel
theorem dX6_quietened_15 : decode cX6_quietened 15 = .ok (.goto 4, 3) := by decide +kernel
theorem dX6_quietened_18 : decode cX6_quietened 18 = .ok (.iload_n 0, 1) := by decide +kernel
theorem dX6_quietened_19 : decode cX6_quietened 19 = .ok (.ireturn, 1) := by decide +kernel
set_option maxRecDepth 20000 in
theorem ggX6_searchFor_X6_isRow : GoodIn wsX6_searchFor wsX6_isRow := goodIn_r _ [7] (by decide +kernel) (by decide +kernel)
set_option maxRecDepth 20000 in
theorem gX6_searchFor_X6_isRow : GoodIn wsX6_searchFor (va_wsS RX6 58 yX6_isRow wsX6_isRow) := goodIn_app (goodIn_of _ (by decide +kernel)) ggX6_searchFor_X6_isRow
set_option maxRecDepth 20000 in
theorem ggX6_searchFor_X6_isPlace : GoodIn wsX6_searchFor wsX6_isPlace := goodIn_r _ [10] (by decide +kernel) (by decide +kernel)
set_option maxRecDepth 20000 in
theorem gX6_searchFor_X6_isPlace : GoodIn wsX6_searchFor (va_wsS RX6 136 yX6_isPlace wsX6_isPlace) := goodIn_app (goodIn_of _ (by decide +kernel)) ggX6_searchFor_X6_isPlace
set_option maxRecDepth 20000 in
theorem ggX6_searchFor_X3_isNone : GoodIn wsX6_searchFor wsX3_isNone := goodIn_r _ [15, 16, 78, 79] (by decide +kernel) (by decide +kernel)
set_option maxRecDepth 20000 in
theorem gX6_searchFor_X3_isNone : GoodIn wsX6_searchFor (wsV RX6 116 RX3 yX3_isNone wsX3_isNone) := goodIn_app (goodIn_of _ (by decide +kernel)) ggX6_searchFor_X3_isNone
set_option maxRecDepth 20000 in
theorem ggX6_searchFor_X6_listen : GoodIn wsX6_searchFor wsX6_listen := goodIn_r _ [20, 3, 21, 22, 23, 24, 25, 26, 27, 28, 29, 30, 31, 32, 33, 34, 35, 6, 36, 70, 71, 72, 73, 74, 75, 76, 77, 80, 81, 82, 83, 84, 85, 86, 87, 88] (by decide +kernel) (by decide +kernel)
set_option maxRecDepth 20000 in
theorem gX6_searchFor_X6_listen : GoodIn wsX6_searchFor (wsV RX6 142 RX6 yX6_listen wsX6_listen) := goodIn_app (goodIn_of _ (by decide +kernel)) ggX6_searchFor_X6_listen
set_option maxRecDepth 20000 in
theorem ggX6_searchFor_X4_begin : GoodIn wsX6_searchFor wsX4_begin := goodIn_r _ [41, 42, 43, 44, 89, 90, 91, 92] (by decide +kernel) (by decide +kernel)
set_option maxRecDepth 20000 in
theorem gX6_searchFor_X4_begin : GoodIn wsX6_searchFor (wsV RX6 288 RX4 yX4_begin wsX4_begin) := goodIn_app (goodIn_of _ (by decide +kernel)) ggX6_searchFor_X4_begin
set_option maxRecDepth 20000 in
theorem ggX6_searchFor_X5_turnBack : GoodIn wsX6_searchFor wsX5_turnBack := goodIn_r _ [49, 50, 51, 52, 53, 54, 80, 81, 82, 83, 84] (by decide +kernel) (by decide +kernel)
set_option maxRecDepth 20000 in
theorem gX6_searchFor_X5_turnBack : GoodIn wsX6_searchFor (wsV RX6 146 RX5 yX5_turnBack wsX5_turnBack) := goodIn_app (goodIn_of _ (by decide +kernel)) ggX6_searchFor_X5_turnBack
set_option maxRecDepth 20000 in
theorem ggX6_searchFor_X3_sumOver : GoodIn wsX6_searchFor wsX3_sumOver := goodIn_r _ [58, 16, 59, 60, 61, 62, 63, 78, 79] (by decide +kernel) (by decide +kernel)
set_option maxRecDepth 20000 in
theorem gX6_searchFor_X3_sumOver : GoodIn wsX6_searchFor (wsV RX6 123 RX3 yX3_sumOver wsX3_sumOver) := goodIn_app (goodIn_of _ (by decide +kernel)) ggX6_searchFor_X3_sumOver
set_option maxRecDepth 20000 in
theorem ggX6_searchFor_X4_weigh : GoodIn wsX6_searchFor wsX4_weigh := goodIn_r _ [67, 43, 44, 68, 69, 89, 90, 91, 92] (by decide +kernel) (by decide +kernel)
set_option maxRecDepth 20000 in
theorem gX6_searchFor_X4_weigh : GoodIn wsX6_searchFor (wsV RX6 291 RX4 yX4_weigh wsX4_weigh) := goodIn_app (goodIn_of _ (by decide +kernel)) ggX6_searchFor_X4_weigh
theorem dX6_searchFor_0 : decode cX6_searchFor 0 = .ok (.iload_n 1, 1) := by decide +kernel
theorem dX6_searchFor_1 : decode cX6_searchFor 1 = .ok (.invokestatic 58, 3) := by decide +kernel
theorem dX6_searchFor_4 : decode cX6_searchFor 4 = .ok (.ifCond .eq 10, 3) := by decide +kernel
theorem dX6_searchFor_7 : decode cX6_searchFor 7 = .ok (.iload_n 2, 1) := by decide +kernel
theorem dX6_searchFor_8 : decode cX6_searchFor 8 = .ok (.invokestatic 136, 3) := by decide +kernel
theorem dX6_searchFor_11 : decode cX6_searchFor 11 = .ok (.ifCond .ne 6, 3) := by decide +kernel
theorem dX6_searchFor_14 : decode cX6_searchFor 14 = .ok (.bipush (-2), 2) := by decide +kernel
theorem dX6_searchFor_16 : decode cX6_searchFor 16 = .ok (.ireturn, 1) := by decide +kernel
theorem dX6_searchFor_17 : decode cX6_searchFor 17 = .ok (.aload_n 0, 1) := by decide +kernel
theorem dX6_searchFor_18 : decode cX6_searchFor 18 = .ok (.getfield 11, 3) := by decide +kernel
theorem dX6_searchFor_21 : decode cX6_searchFor 21 = .ok (.iload_n 1, 1) := by decide +kernel
theorem dX6_searchFor_22 : decode cX6_searchFor 22 = .ok (.aaload, 1) := by decide +kernel
theorem dX6_searchFor_23 : decode cX6_searchFor 23 = .ok (.invokevirtual 116, 3) := by decide +kernel
theorem dX6_searchFor_26 : decode cX6_searchFor 26 = .ok (.ifCond .eq 6, 3) := by decide +kernel
theorem dX6_searchFor_29 : decode cX6_searchFor 29 = .ok (.bipush (-3), 2) := by decide +kernel
theorem dX6_searchFor_31 : decode cX6_searchFor 31 = .ok (.ireturn, 1) := by decide +kernel
theorem dX6_searchFor_32 : decode cX6_searchFor 32 = .ok (.aload_n 0, 1) := by decide +kernel
theorem dX6_searchFor_33 : decode cX6_searchFor 33 = .ok (.iload_n 2, 1) := by decide +kernel
theorem dX6_searchFor_34 : decode cX6_searchFor 34 = .ok (.aload_n 0, 1) := by decide +kernel
theorem dX6_searchFor_35 : decode cX6_searchFor 35 = .ok (.getfield 11, 3) := by decide +kernel
theorem dX6_searchFor_38 : decode cX6_searchFor 38 = .ok (.iload_n 1, 1) := by decide +kernel
theorem dX6_searchFor_39 : decode cX6_searchFor 39 = .ok (.aaload, 1) := by decide +kernel
theorem dX6_searchFor_40 : decode cX6_searchFor 40 = .ok (.getfield 70, 3) := by decide +kernel
theorem dX6_searchFor_43 : decode cX6_searchFor 43 = .ok (.invokevirtual 142, 3) := by decide +kernel
theorem dX6_searchFor_46 : decode cX6_searchFor 46 = .ok (.aload_n 0, 1) := by decide +kernel
theorem dX6_searchFor_47 : decode cX6_searchFor 47 = .ok (.getfield 31, 3) := by decide +kernel
theorem dX6_searchFor_50 : decode cX6_searchFor 50 = .ok (.invokevirtual 288, 3) := by decide +kernel
theorem dX6_searchFor_53 : decode cX6_searchFor 53 = .ok (.iconst 0, 1) := by decide +kernel
theorem dX6_searchFor_54 : decode cX6_searchFor 54 = .ok (.istore_n 3, 1) := by decide +kernel
theorem dX6_searchFor_55 : decode cX6_searchFor 55 = .ok (.iload_n 3, 1) := by decide +kernel
theorem dX6_searchFor_56 : decode cX6_searchFor 56 = .ok (.iconst 4, 1) := by decide +kernel
theorem dX6_searchFor_57 : decode cX6_searchFor 57 = .ok (.if_icmp .ge 103, 3) := by decide +kernel
theorem dX6_searchFor_60 : decode cX6_searchFor 60 = .ok (.aload_n 0, 1) := by decide +kernel
theorem dX6_searchFor_61 : decode cX6_searchFor 61 = .ok (.getfield 24, 3) := by decide +kernel
theorem dX6_searchFor_64 : decode cX6_searchFor 64 = .ok (.iload_n 3, 1) := by decide +kernel
theorem dX6_searchFor_65 : decode cX6_searchFor 65 = .ok (.invokevirtual 146, 3) := by decide +kernel
theorem dX6_searchFor_68 : decode cX6_searchFor 68 = .ok (.iconst 0, 1) := by decide +kernel
theorem dX6_searchFor_69 : decode cX6_searchFor 69 = .ok (.istore 4, 2) := by decide +kernel
theorem dX6_searchFor_71 : decode cX6_searchFor 71 = .ok (.iload 4, 2) := by decide +kernel
theorem dX6_searchFor_73 : decode cX6_searchFor 73 = .ok (.aload_n 0, 1) := by decide +kernel
theorem dX6_searchFor_74 : decode cX6_searchFor 74 = .ok (.getfield 11, 3) := by decide +kernel
theorem dX6_searchFor_77 : decode cX6_searchFor 77 = .ok (.iload_n 1, 1) := by decide +kernel
theorem dX6_searchFor_78 : decode cX6_searchFor 78 = .ok (.aaload, 1) := by decide +kernel
theorem dX6_searchFor_79 : decode cX6_searchFor 79 = .ok (.getfield 70, 3) := by decide +kernel
theorem dX6_searchFor_82 : decode cX6_searchFor 82 = .ok (.if_icmp .ge 72, 3) := by decide +kernel
theorem dX6_searchFor_85 : decode cX6_searchFor 85 = .ok (.aload_n 0, 1) := by decide +kernel
theorem dX6_searchFor_86 : decode cX6_searchFor 86 = .ok (.getfield 11, 3) := by decide +kernel
theorem dX6_searchFor_89 : decode cX6_searchFor 89 = .ok (.iload_n 1, 1) := by decide +kernel
theorem dX6_searchFor_90 : decode cX6_searchFor 90 = .ok (.aaload, 1) := by decide +kernel
theorem dX6_searchFor_91 : decode cX6_searchFor 91 = .ok (.aload_n 0, 1) := by decide +kernel
theorem dX6_searchFor_92 : decode cX6_searchFor 92 = .ok (.getfield 24, 3) := by decide +kernel
theorem dX6_searchFor_95 : decode cX6_searchFor 95 = .ok (.getfield 150, 3) := by decide +kernel
theorem dX6_searchFor_98 : decode cX6_searchFor 98 = .ok (.iload 4, 2) := by decide +kernel
theorem dX6_searchFor_100 : decode cX6_searchFor 100 = .ok (.invokevirtual 123, 3) := by decide +kernel
theorem dX6_searchFor_103 : decode cX6_searchFor 103 = .ok (.i2l, 1) := by decide +kernel
theorem dX6_searchFor_104 : decode cX6_searchFor 104 = .ok (.lstore 5, 2) := by decide +kernel
theorem dX6_searchFor_106 : decode cX6_searchFor 106 = .ok (.aload_n 0, 1) := by decide +kernel
theorem dX6_searchFor_107 : decode cX6_searchFor 107 = .ok (.getfield 11, 3) := by decide +kernel
theorem dX6_searchFor_110 : decode cX6_searchFor 110 = .ok (.iload_n 1, 1) := by decide +kernel
theorem dX6_searchFor_111 : decode cX6_searchFor 111 = .ok (.aaload, 1) := by decide +kernel
theorem dX6_searchFor_112 : decode cX6_searchFor 112 = .ok (.aload_n 0, 1) := by decide +kernel
theorem dX6_searchFor_113 : decode cX6_searchFor 113 = .ok (.getfield 24, 3) := by decide +kernel
theorem dX6_searchFor_116 : decode cX6_searchFor 116 = .ok (.getfield 153, 3) := by decide +kernel
theorem dX6_searchFor_119 : decode cX6_searchFor 119 = .ok (.iload 4, 2) := by decide +kernel
theorem dX6_searchFor_121 : decode cX6_searchFor 121 = .ok (.invokevirtual 123, 3) := by decide +kernel
theorem dX6_searchFor_124 : decode cX6_searchFor 124 = .ok (.i2l, 1) := by decide +kernel
theorem dX6_searchFor_125 : decode cX6_searchFor 125 = .ok (.lstore 7, 2) := by decide +kernel
theorem dX6_searchFor_127 : decode cX6_searchFor 127 = .ok (.aload_n 0, 1) := by decide +kernel
theorem dX6_searchFor_128 : decode cX6_searchFor 128 = .ok (.getfield 31, 3) := by decide +kernel
theorem dX6_searchFor_131 : decode cX6_searchFor 131 = .ok (.lload 5, 2) := by decide +kernel
theorem dX6_searchFor_133 : decode cX6_searchFor 133 = .ok (.lload 5, 2) := by decide +kernel
theorem dX6_searchFor_135 : decode cX6_searchFor 135 = .ok (.lmul, 1) := by decide +kernel
theorem dX6_searchFor_136 : decode cX6_searchFor 136 = .ok (.lload 7, 2) := by decide +kernel
theorem dX6_searchFor_138 : decode cX6_searchFor 138 = .ok (.lload 7, 2) := by decide +kernel
theorem dX6_searchFor_140 : decode cX6_searchFor 140 = .ok (.lmul, 1) := by decide +kernel
theorem dX6_searchFor_141 : decode cX6_searchFor 141 = .ok (.ladd, 1) := by decide +kernel
theorem dX6_searchFor_142 : decode cX6_searchFor 142 = .ok (.iload_n 3, 1) := by decide +kernel
theorem dX6_searchFor_143 : decode cX6_searchFor 143 = .ok (.iload 4, 2) := by decide +kernel
theorem dX6_searchFor_145 : decode cX6_searchFor 145 = .ok (.invokevirtual 291, 3) := by decide +kernel
theorem dX6_searchFor_148 : decode cX6_searchFor 148 = .ok (.iinc 4 1, 3) := by decide +kernel
theorem dX6_searchFor_151 : decode cX6_searchFor 151 = .ok (.goto (-80), 3) := by decide +kernel
theorem dX6_searchFor_154 : decode cX6_searchFor 154 = .ok (.iinc 3 1, 3) := by decide +kernel
theorem dX6_searchFor_157 : decode cX6_searchFor 157 = .ok (.goto (-102), 3) := by decide +kernel
theorem dX6_searchFor_160 : decode cX6_searchFor 160 = .ok (.iconst 0, 1) := by decide +kernel
theorem dX6_searchFor_161 : decode cX6_searchFor 161 = .ok (.ireturn, 1) := by decide +kernel
set_option maxRecDepth 20000 in
theorem ggX6_takeOffLoudest_X3_sumOver : GoodIn wsX6_takeOffLoudest wsX3_sumOver := goodIn_r _ [12, 13, 14, 15, 16, 17, 18, 51, 52] (by decide +kernel) (by decide +kernel)
set_option maxRecDepth 20000 in
theorem gX6_takeOffLoudest_X3_sumOver : GoodIn wsX6_takeOffLoudest (wsV RX6 123 RX3 yX3_sumOver wsX3_sumOver) := goodIn_app (goodIn_of _ (by decide +kernel)) ggX6_takeOffLoudest_X3_sumOver
set_option maxRecDepth 20000 in
theorem ggX6_takeOffLoudest_X6_roundedRatio : GoodIn wsX6_takeOffLoudest wsX6_roundedRatio := goodIn_r _ [22, 23, 24, 17, 25] (by decide +kernel) (by decide +kernel)
set_option maxRecDepth 20000 in
theorem gX6_takeOffLoudest_X6_roundedRatio : GoodIn wsX6_takeOffLoudest (va_wsS RX6 295 yX6_roundedRatio wsX6_roundedRatio) := goodIn_app (goodIn_of _ (by decide +kernel)) ggX6_takeOffLoudest_X6_roundedRatio
set_option maxRecDepth 20000 in
theorem ggX6_takeOffLoudest_X3_takeOff : GoodIn wsX6_takeOffLoudest wsX3_takeOff := goodIn_r _ [29, 13, 30, 31, 32, 11, 33, 14, 15, 16, 17, 18, 51, 52] (by decide +kernel) (by decide +kernel)
set_option maxRecDepth 20000 in
theorem gX6_takeOffLoudest_X3_takeOff : GoodIn wsX6_takeOffLoudest (wsV RX6 298 RX3 yX3_takeOff wsX3_takeOff) := goodIn_app (goodIn_of _ (by decide +kernel)) ggX6_takeOffLoudest_X3_takeOff
set_option maxRecDepth 20000 in
theorem ggX6_takeOffLoudest_X1_keep : GoodIn wsX6_takeOffLoudest wsX1_keep := goodIn_r _ [38, 39, 40, 41, 42, 58, 59, 60, 61, 62] (by decide +kernel) (by decide +kernel)
set_option maxRecDepth 20000 in
theorem gX6_takeOffLoudest_X1_keep : GoodIn wsX6_takeOffLoudest (wsV RX6 302 RX1 yX1_keep wsX1_keep) := goodIn_app (goodIn_of _ (by decide +kernel)) ggX6_takeOffLoudest_X1_keep
theorem dX6_takeOffLoudest_0 : decode cX6_takeOffLoudest 0 = .ok (.iconst 0, 1) := by decide +kernel
theorem dX6_takeOffLoudest_1 : decode cX6_takeOffLoudest 1 = .ok (.istore_n 2, 1) := by decide +kernel
theorem dX6_takeOffLoudest_2 : decode cX6_takeOffLoudest 2 = .ok (.iconst 0, 1) := by decide +kernel
theorem dX6_takeOffLoudest_3 : decode cX6_takeOffLoudest 3 = .ok (.istore_n 3, 1) := by decide +kernel
theorem dX6_takeOffLoudest_4 : decode cX6_takeOffLoudest 4 = .ok (.iconst 0, 1) := by decide +kernel
theorem dX6_takeOffLoudest_5 : decode cX6_takeOffLoudest 5 = .ok (.istore 4, 2) := by decide +kernel
theorem dX6_takeOffLoudest_7 : decode cX6_takeOffLoudest 7 = .ok (.iconst 0, 1) := by decide +kernel
theorem dX6_takeOffLoudest_8 : decode cX6_takeOffLoudest 8 = .ok (.istore 5, 2) := by decide +kernel
theorem dX6_takeOffLoudest_10 : decode cX6_takeOffLoudest 10 = .ok (.iload 5, 2) := by decide +kernel
theorem dX6_takeOffLoudest_12 : decode cX6_takeOffLoudest 12 = .ok (.bipush 8, 2) := by decide +kernel
theorem dX6_takeOffLoudest_14 : decode cX6_takeOffLoudest 14 = .ok (.if_icmp .ge 84, 3) := by decide +kernel
theorem dX6_takeOffLoudest_17 : decode cX6_takeOffLoudest 17 = .ok (.aload_n 0, 1) := by decide +kernel
theorem dX6_takeOffLoudest_18 : decode cX6_takeOffLoudest 18 = .ok (.getfield 11, 3) := by decide +kernel
theorem dX6_takeOffLoudest_21 : decode cX6_takeOffLoudest 21 = .ok (.iload 5, 2) := by decide +kernel
theorem dX6_takeOffLoudest_23 : decode cX6_takeOffLoudest 23 = .ok (.aaload, 1) := by decide +kernel
theorem dX6_takeOffLoudest_24 : decode cX6_takeOffLoudest 24 = .ok (.getfield 70, 3) := by decide +kernel
theorem dX6_takeOffLoudest_27 : decode cX6_takeOffLoudest 27 = .ok (.iload_n 1, 1) := by decide +kernel
theorem dX6_takeOffLoudest_28 : decode cX6_takeOffLoudest 28 = .ok (.if_icmp .eq 6, 3) := by decide +kernel
theorem dX6_takeOffLoudest_31 : decode cX6_takeOffLoudest 31 = .ok (.goto 61, 3) := by decide +kernel
theorem dX6_takeOffLoudest_34 : decode cX6_takeOffLoudest 34 = .ok (.iconst 0, 1) := by decide +kernel
theorem dX6_takeOffLoudest_35 : decode cX6_takeOffLoudest 35 = .ok (.istore 6, 2) := by decide +kernel
theorem dX6_takeOffLoudest_37 : decode cX6_takeOffLoudest 37 = .ok (.iload 6, 2) := by decide +kernel
theorem dX6_takeOffLoudest_39 : decode cX6_takeOffLoudest 39 = .ok (.iload_n 1, 1) := by decide +kernel
theorem dX6_takeOffLoudest_40 : decode cX6_takeOffLoudest 40 = .ok (.if_icmp .ge 52, 3) := by decide +kernel
theorem dX6_takeOffLoudest_43 : decode cX6_takeOffLoudest 43 = .ok (.aload_n 0, 1) := by decide +kernel
theorem dX6_takeOffLoudest_44 : decode cX6_takeOffLoudest 44 = .ok (.getfield 11, 3) := by decide +kernel
theorem dX6_takeOffLoudest_47 : decode cX6_takeOffLoudest 47 = .ok (.iload 5, 2) := by decide +kernel
theorem dX6_takeOffLoudest_49 : decode cX6_takeOffLoudest 49 = .ok (.aaload, 1) := by decide +kernel
