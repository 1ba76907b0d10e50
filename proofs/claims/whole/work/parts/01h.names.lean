theorem dX7_takesOff_105 : decode cX7_takesOff 105 = .ok (.istore_n 2, 1) := by decide +kernel
theorem dX7_takesOff_106 : decode cX7_takesOff 106 = .ok (.iload 6, 2) := by decide +kernel
theorem dX7_takesOff_108 : decode cX7_takesOff 108 = .ok (.istore_n 3, 1) := by decide +kernel
theorem dX7_takesOff_109 : decode cX7_takesOff 109 = .ok (.iload 7, 2) := by decide +kernel
theorem dX7_takesOff_111 : decode cX7_takesOff 111 = .ok (.istore 4, 2) := by decide +kernel
theorem dX7_takesOff_113 : decode cX7_takesOff 113 = .ok (.iload 8, 2) := by decide +kernel
theorem dX7_takesOff_115 : decode cX7_takesOff 115 = .ok (.istore 5, 2) := by decide +kernel
theorem dX7_takesOff_117 : decode cX7_takesOff 117 = .ok (.iinc 7 1, 3) := by decide +kernel
theorem dX7_takesOff_120 : decode cX7_takesOff 120 = .ok (.goto (-97), 3) := by decide +kernel
theorem dX7_takesOff_123 : decode cX7_takesOff 123 = .ok (.iinc 6 1, 3) := by decide +kernel
theorem dX7_takesOff_126 : decode cX7_takesOff 126 = .ok (.goto (-113), 3) := by decide +kernel
theorem dX7_takesOff_129 : decode cX7_takesOff 129 = .ok (.iconst 2, 1) := by decide +kernel
theorem dX7_takesOff_130 : decode cX7_takesOff 130 = .ok (.iload 5, 2) := by decide +kernel
theorem dX7_takesOff_132 : decode cX7_takesOff 132 = .ok (.imul, 1) := by decide +kernel
theorem dX7_takesOff_133 : decode cX7_takesOff 133 = .ok (.iload_n 1, 1) := by decide +kernel
theorem dX7_takesOff_134 : decode cX7_takesOff 134 = .ok (.iadd, 1) := by decide +kernel
theorem dX7_takesOff_135 : decode cX7_takesOff 135 = .ok (.istore 6, 2) := by decide +kernel
theorem dX7_takesOff_137 : decode cX7_takesOff 137 = .ok (.iload 6, 2) := by decide +kernel
theorem dX7_takesOff_139 : decode cX7_takesOff 139 = .ok (.iconst 2, 1) := by decide +kernel
theorem dX7_takesOff_140 : decode cX7_takesOff 140 = .ok (.iload_n 1, 1) := by decide +kernel
theorem dX7_takesOff_141 : decode cX7_takesOff 141 = .ok (.imul, 1) := by decide +kernel
theorem dX7_takesOff_142 : decode cX7_takesOff 142 = .ok (.idiv, 1) := by decide +kernel
theorem dX7_takesOff_143 : decode cX7_takesOff 143 = .ok (.iload 6, 2) := by decide +kernel
theorem dX7_takesOff_145 : decode cX7_takesOff 145 = .ok (.iconst 2, 1) := by decide +kernel
theorem dX7_takesOff_146 : decode cX7_takesOff 146 = .ok (.iload_n 1, 1) := by decide +kernel
theorem dX7_takesOff_147 : decode cX7_takesOff 147 = .ok (.imul, 1) := by decide +kernel
theorem dX7_takesOff_148 : decode cX7_takesOff 148 = .ok (.irem, 1) := by decide +kernel
theorem dX7_takesOff_149 : decode cX7_takesOff 149 = .ok (.ifCond .ge 7, 3) := by decide +kernel
theorem dX7_takesOff_152 : decode cX7_takesOff 152 = .ok (.iconst 1, 1) := by decide +kernel
theorem dX7_takesOff_153 : decode cX7_takesOff 153 = .ok (.goto 4, 3) := by decide +kernel
theorem dX7_takesOff_156 : decode cX7_takesOff 156 = .ok (.iconst 0, 1) := by decide +kernel
theorem dX7_takesOff_157 : decode cX7_takesOff 157 = .ok (.isub, 1) := by decide +kernel
theorem dX7_takesOff_158 : decode cX7_takesOff 158 = .ok (.istore 7, 2) := by decide +kernel
theorem dX7_takesOff_160 : decode cX7_takesOff 160 = .ok (.iload 7, 2) := by decide +kernel
theorem dX7_takesOff_162 : decode cX7_takesOff 162 = .ok (.ifCond .ne 5, 3) := by decide +kernel
theorem dX7_takesOff_165 : decode cX7_takesOff 165 = .ok (.iconst 0, 1) := by decide +kernel
theorem dX7_takesOff_166 : decode cX7_takesOff 166 = .ok (.ireturn, 1) := by decide +kernel
theorem dX7_takesOff_167 : decode cX7_takesOff 167 = .ok (.iconst 0, 1) := by decide +kernel
theorem dX7_takesOff_168 : decode cX7_takesOff 168 = .ok (.istore 8, 2) := by decide +kernel
theorem dX7_takesOff_170 : decode cX7_takesOff 170 = .ok (.iload 8, 2) := by decide +kernel
theorem dX7_takesOff_172 : decode cX7_takesOff 172 = .ok (.iload_n 1, 1) := by decide +kernel
theorem dX7_takesOff_173 : decode cX7_takesOff 173 = .ok (.if_icmp .ge 32, 3) := by decide +kernel
theorem dX7_takesOff_176 : decode cX7_takesOff 176 = .ok (.aload_n 0, 1) := by decide +kernel
theorem dX7_takesOff_177 : decode cX7_takesOff 177 = .ok (.getfield 26, 3) := by decide +kernel
theorem dX7_takesOff_180 : decode cX7_takesOff 180 = .ok (.iload 8, 2) := by decide +kernel
theorem dX7_takesOff_182 : decode cX7_takesOff 182 = .ok (.dup2, 1) := by decide +kernel
theorem dX7_takesOff_183 : decode cX7_takesOff 183 = .ok (.iaload, 1) := by decide +kernel
theorem dX7_takesOff_184 : decode cX7_takesOff 184 = .ok (.iload 7, 2) := by decide +kernel
theorem dX7_takesOff_186 : decode cX7_takesOff 186 = .ok (.aload_n 0, 1) := by decide +kernel
theorem dX7_takesOff_187 : decode cX7_takesOff 187 = .ok (.iload_n 3, 1) := by decide +kernel
theorem dX7_takesOff_188 : decode cX7_takesOff 188 = .ok (.iload 8, 2) := by decide +kernel
theorem dX7_takesOff_190 : decode cX7_takesOff 190 = .ok (.iload 4, 2) := by decide +kernel
theorem dX7_takesOff_192 : decode cX7_takesOff 192 = .ok (.iadd, 1) := by decide +kernel
theorem dX7_takesOff_193 : decode cX7_takesOff 193 = .ok (.invokevirtual 80, 3) := by decide +kernel
theorem dX7_takesOff_196 : decode cX7_takesOff 196 = .ok (.imul, 1) := by decide +kernel
theorem dX7_takesOff_197 : decode cX7_takesOff 197 = .ok (.isub, 1) := by decide +kernel
theorem dX7_takesOff_198 : decode cX7_takesOff 198 = .ok (.iastore, 1) := by decide +kernel
theorem dX7_takesOff_199 : decode cX7_takesOff 199 = .ok (.iinc 8 1, 3) := by decide +kernel
theorem dX7_takesOff_202 : decode cX7_takesOff 202 = .ok (.goto (-32), 3) := by decide +kernel
theorem dX7_takesOff_205 : decode cX7_takesOff 205 = .ok (.aload_n 0, 1) := by decide +kernel
theorem dX7_takesOff_206 : decode cX7_takesOff 206 = .ok (.getfield 23, 3) := by decide +kernel
theorem dX7_takesOff_209 : decode cX7_takesOff 209 = .ok (.iconst 3, 1) := by decide +kernel
theorem dX7_takesOff_210 : decode cX7_takesOff 210 = .ok (.aload_n 0, 1) := by decide +kernel
theorem dX7_takesOff_211 : decode cX7_takesOff 211 = .ok (.getfield 121, 3) := by decide +kernel
theorem dX7_takesOff_214 : decode cX7_takesOff 214 = .ok (.imul, 1) := by decide +kernel
theorem dX7_takesOff_215 : decode cX7_takesOff 215 = .ok (.iload_n 3, 1) := by decide +kernel
theorem dX7_takesOff_216 : decode cX7_takesOff 216 = .ok (.iastore, 1) := by decide +kernel
theorem dX7_takesOff_217 : decode cX7_takesOff 217 = .ok (.aload_n 0, 1) := by decide +kernel
theorem dX7_takesOff_218 : decode cX7_takesOff 218 = .ok (.getfield 23, 3) := by decide +kernel
theorem dX7_takesOff_221 : decode cX7_takesOff 221 = .ok (.iconst 3, 1) := by decide +kernel
theorem dX7_takesOff_222 : decode cX7_takesOff 222 = .ok (.aload_n 0, 1) := by decide +kernel
theorem dX7_takesOff_223 : decode cX7_takesOff 223 = .ok (.getfield 121, 3) := by decide +kernel
theorem dX7_takesOff_226 : decode cX7_takesOff 226 = .ok (.imul, 1) := by decide +kernel
theorem dX7_takesOff_227 : decode cX7_takesOff 227 = .ok (.iconst 1, 1) := by decide +kernel
theorem dX7_takesOff_228 : decode cX7_takesOff 228 = .ok (.iadd, 1) := by decide +kernel
theorem dX7_takesOff_229 : decode cX7_takesOff 229 = .ok (.iload 4, 2) := by decide +kernel
theorem dX7_takesOff_231 : decode cX7_takesOff 231 = .ok (.iastore, 1) := by decide +kernel
theorem dX7_takesOff_232 : decode cX7_takesOff 232 = .ok (.aload_n 0, 1) := by decide +kernel
theorem dX7_takesOff_233 : decode cX7_takesOff 233 = .ok (.getfield 23, 3) := by decide +kernel
theorem dX7_takesOff_236 : decode cX7_takesOff 236 = .ok (.iconst 3, 1) := by decide +kernel
theorem dX7_takesOff_237 : decode cX7_takesOff 237 = .ok (.aload_n 0, 1) := by decide +kernel
theorem dX7_takesOff_238 : decode cX7_takesOff 238 = .ok (.getfield 121, 3) := by decide +kernel
theorem dX7_takesOff_241 : decode cX7_takesOff 241 = .ok (.imul, 1) := by decide +kernel
theorem dX7_takesOff_242 : decode cX7_takesOff 242 = .ok (.iconst 2, 1) := by decide +kernel
theorem dX7_takesOff_243 : decode cX7_takesOff 243 = .ok (.iadd, 1) := by decide +kernel
theorem dX7_takesOff_244 : decode cX7_takesOff 244 = .ok (.iload 7, 2) := by decide +kernel
theorem dX7_takesOff_246 : decode cX7_takesOff 246 = .ok (.iastore, 1) := by decide +kernel
theorem dX7_takesOff_247 : decode cX7_takesOff 247 = .ok (.iconst 1, 1) := by decide +kernel
theorem dX7_takesOff_248 : decode cX7_takesOff 248 = .ok (.ireturn, 1) := by decide +kernel
set_option maxRecDepth 20000 in
theorem ggX7_peeled_X7_in : GoodIn wsX7_peeled wsX7_in := goodIn_r _ [7] (by decide +kernel) (by decide +kernel)
set_option maxRecDepth 20000 in
theorem gX7_peeled_X7_in : GoodIn wsX7_peeled (va_wsS RX7 51 yX7_in wsX7_in) := goodIn_app (goodIn_of _ (by decide +kernel)) ggX7_peeled_X7_in
theorem dX7_peeled_0 : decode cX7_peeled 0 = .ok (.iload_n 1, 1) := by decide +kernel
theorem dX7_peeled_1 : decode cX7_peeled 1 = .ok (.iconst 0, 1) := by decide +kernel
theorem dX7_peeled_2 : decode cX7_peeled 2 = .ok (.aload_n 0, 1) := by decide +kernel
theorem dX7_peeled_3 : decode cX7_peeled 3 = .ok (.getfield 121, 3) := by decide +kernel
theorem dX7_peeled_6 : decode cX7_peeled 6 = .ok (.iconst 1, 1) := by decide +kernel
theorem dX7_peeled_7 : decode cX7_peeled 7 = .ok (.isub, 1) := by decide +kernel
theorem dX7_peeled_8 : decode cX7_peeled 8 = .ok (.invokestatic 51, 3) := by decide +kernel
theorem dX7_peeled_11 : decode cX7_peeled 11 = .ok (.ifCond .eq 25, 3) := by decide +kernel
theorem dX7_peeled_14 : decode cX7_peeled 14 = .ok (.iload_n 2, 1) := by decide +kernel
theorem dX7_peeled_15 : decode cX7_peeled 15 = .ok (.iconst 0, 1) := by decide +kernel
theorem dX7_peeled_16 : decode cX7_peeled 16 = .ok (.iconst 2, 1) := by decide +kernel
theorem dX7_peeled_17 : decode cX7_peeled 17 = .ok (.invokestatic 51, 3) := by decide +kernel
theorem dX7_peeled_20 : decode cX7_peeled 20 = .ok (.ifCond .eq 16, 3) := by decide +kernel
theorem dX7_peeled_23 : decode cX7_peeled 23 = .ok (.aload_n 0, 1) := by decide +kernel
theorem dX7_peeled_24 : decode cX7_peeled 24 = .ok (.getfield 23, 3) := by decide +kernel
theorem dX7_peeled_27 : decode cX7_peeled 27 = .ok (.iconst 3, 1) := by decide +kernel
theorem dX7_peeled_28 : decode cX7_peeled 28 = .ok (.iload_n 1, 1) := by decide +kernel
theorem dX7_peeled_29 : decode cX7_peeled 29 = .ok (.imul, 1) := by decide +kernel
theorem dX7_peeled_30 : decode cX7_peeled 30 = .ok (.iload_n 2, 1) := by decide +kernel
theorem dX7_peeled_31 : decode cX7_peeled 31 = .ok (.iadd, 1) := by decide +kernel
theorem dX7_peeled_32 : decode cX7_peeled 32 = .ok (.iaload, 1) := by decide +kernel
theorem dX7_peeled_33 : decode cX7_peeled 33 = .ok (.goto 5, 3) := by decide +kernel
theorem dX7_peeled_36 : decode cX7_peeled 36 = .ok (.ldc 130, 2) := by decide +kernel
theorem dX7_peeled_38 : decode cX7_peeled 38 = .ok (.ireturn, 1) := by decide +kernel
theorem dX7_noise_0 : decode cX7_noise 0 = .ok (.aload_n 0, 1) := by decide +kernel
theorem dX7_noise_1 : decode cX7_noise 1 = .ok (.getfield 127, 3) := by decide +kernel
theorem dX7_noise_4 : decode cX7_noise 4 = .ok (.lreturn, 1) := by decide +kernel
set_option maxRecDepth 20000 in
theorem ggX7_amount_X7_signOf : GoodIn wsX7_amount wsX7_signOf := goodIn_r _ [6, 7, 1, 18, 19, 20, 21, 22, 23, 24, 25, 26, 27, 28, 29, 30, 31, 32, 33, 34, 35, 36] (by decide +kernel) (by decide +kernel)
set_option maxRecDepth 20000 in
theorem gX7_amount_X7_signOf : GoodIn wsX7_amount (wsV RX7 80 RX7 yX7_signOf wsX7_signOf) := goodIn_app (goodIn_of _ (by decide +kernel)) ggX7_amount_X7_signOf
set_option maxRecDepth 20000 in
theorem ggX7_amount_X7_sample : GoodIn wsX7_amount wsX7_sample := goodIn_r _ [11, 12, 13, 14, 15, 16, 5, 17, 18, 19, 20, 21, 22, 23, 24, 25, 26, 27, 28, 29, 30, 31, 32, 33, 34, 35, 36] (by decide +kernel) (by decide +kernel)
set_option maxRecDepth 20000 in
theorem gX7_amount_X7_sample : GoodIn wsX7_amount (wsV RX7 94 RX7 yX7_sample wsX7_sample) := goodIn_app (goodIn_of _ (by decide +kernel)) ggX7_amount_X7_sample
theorem dX7_amount_0 : decode cX7_amount 0 = .ok (.iconst 0, 1) := by decide +kernel
theorem dX7_amount_1 : decode cX7_amount 1 = .ok (.istore 4, 2) := by decide +kernel
theorem dX7_amount_3 : decode cX7_amount 3 = .ok (.iconst 0, 1) := by decide +kernel
theorem dX7_amount_4 : decode cX7_amount 4 = .ok (.istore 5, 2) := by decide +kernel
theorem dX7_amount_6 : decode cX7_amount 6 = .ok (.iload 5, 2) := by decide +kernel
theorem dX7_amount_8 : decode cX7_amount 8 = .ok (.aload_n 0, 1) := by decide +kernel
theorem dX7_amount_9 : decode cX7_amount 9 = .ok (.getfield 7, 3) := by decide +kernel
theorem dX7_amount_12 : decode cX7_amount 12 = .ok (.iload_n 1, 1) := by decide +kernel
theorem dX7_amount_13 : decode cX7_amount 13 = .ok (.iaload, 1) := by decide +kernel
theorem dX7_amount_14 : decode cX7_amount 14 = .ok (.if_icmp .ge 33, 3) := by decide +kernel
theorem dX7_amount_17 : decode cX7_amount 17 = .ok (.iload 4, 2) := by decide +kernel
theorem dX7_amount_19 : decode cX7_amount 19 = .ok (.aload_n 0, 1) := by decide +kernel
theorem dX7_amount_20 : decode cX7_amount 20 = .ok (.iload_n 1, 1) := by decide +kernel
theorem dX7_amount_21 : decode cX7_amount 21 = .ok (.iload 5, 2) := by decide +kernel
theorem dX7_amount_23 : decode cX7_amount 23 = .ok (.iload_n 3, 1) := by decide +kernel
theorem dX7_amount_24 : decode cX7_amount 24 = .ok (.iadd, 1) := by decide +kernel
theorem dX7_amount_25 : decode cX7_amount 25 = .ok (.invokevirtual 80, 3) := by decide +kernel
theorem dX7_amount_28 : decode cX7_amount 28 = .ok (.aload_n 0, 1) := by decide +kernel
theorem dX7_amount_29 : decode cX7_amount 29 = .ok (.iconst 0, 1) := by decide +kernel
theorem dX7_amount_30 : decode cX7_amount 30 = .ok (.iload_n 2, 1) := by decide +kernel
theorem dX7_amount_31 : decode cX7_amount 31 = .ok (.iload 5, 2) := by decide +kernel
theorem dX7_amount_33 : decode cX7_amount 33 = .ok (.iadd, 1) := by decide +kernel
theorem dX7_amount_34 : decode cX7_amount 34 = .ok (.invokevirtual 94, 3) := by decide +kernel
theorem dX7_amount_37 : decode cX7_amount 37 = .ok (.imul, 1) := by decide +kernel
theorem dX7_amount_38 : decode cX7_amount 38 = .ok (.iadd, 1) := by decide +kernel
theorem dX7_amount_39 : decode cX7_amount 39 = .ok (.istore 4, 2) := by decide +kernel
theorem dX7_amount_41 : decode cX7_amount 41 = .ok (.iinc 5 1, 3) := by decide +kernel
theorem dX7_amount_44 : decode cX7_amount 44 = .ok (.goto (-38), 3) := by decide +kernel
theorem dX7_amount_47 : decode cX7_amount 47 = .ok (.iload 4, 2) := by decide +kernel
theorem dX7_amount_49 : decode cX7_amount 49 = .ok (.ifCond .ge 9, 3) := by decide +kernel
theorem dX7_amount_52 : decode cX7_amount 52 = .ok (.iload 4, 2) := by decide +kernel
theorem dX7_amount_54 : decode cX7_amount 54 = .ok (.ineg, 1) := by decide +kernel
theorem dX7_amount_55 : decode cX7_amount 55 = .ok (.goto 5, 3) := by decide +kernel
theorem dX7_amount_58 : decode cX7_amount 58 = .ok (.iload 4, 2) := by decide +kernel
theorem dX7_amount_60 : decode cX7_amount 60 = .ok (.ireturn, 1) := by decide +kernel
set_option maxRecDepth 20000 in
theorem ggX7_follow_X7_isRow : GoodIn wsX7_follow wsX7_isRow := goodIn_r _ [5, 6, 7, 4, 8] (by decide +kernel) (by decide +kernel)
set_option maxRecDepth 20000 in
theorem gX7_follow_X7_isRow : GoodIn wsX7_follow (va_wsS RX7 55 yX7_isRow wsX7_isRow) := goodIn_app (goodIn_of _ (by decide +kernel)) ggX7_follow_X7_isRow
set_option maxRecDepth 20000 in
theorem ggX7_follow_X7_in : GoodIn wsX7_follow wsX7_in := goodIn_r _ [8] (by decide +kernel) (by decide +kernel)
set_option maxRecDepth 20000 in
theorem gX7_follow_X7_in : GoodIn wsX7_follow (va_wsS RX7 51 yX7_in wsX7_in) := goodIn_app (goodIn_of _ (by decide +kernel)) ggX7_follow_X7_in
set_option maxRecDepth 20000 in
theorem ggX7_follow_X7_isShift : GoodIn wsX7_follow wsX7_isShift := goodIn_r _ [11, 6, 7, 4, 8] (by decide +kernel) (by decide +kernel)
set_option maxRecDepth 20000 in
theorem gX7_follow_X7_isShift : GoodIn wsX7_follow (va_wsS RX7 73 yX7_isShift wsX7_isShift) := goodIn_app (goodIn_of _ (by decide +kernel)) ggX7_follow_X7_isShift
set_option maxRecDepth 20000 in
theorem ggX7_follow_X7_amount : GoodIn wsX7_follow wsX7_amount := goodIn_r _ [15, 1, 16, 17, 18, 4, 19, 20, 21, 22, 23, 24, 25, 26, 27, 6, 7, 8, 28, 29, 30, 31, 32, 33, 34, 35, 36, 37, 38, 39, 40, 41, 42, 43, 44, 45, 46] (by decide +kernel) (by decide +kernel)
set_option maxRecDepth 20000 in
theorem gX7_follow_X7_amount : GoodIn wsX7_follow (wsV RX7 131 RX7 yX7_amount wsX7_amount) := goodIn_app (goodIn_of _ (by decide +kernel)) ggX7_follow_X7_amount
theorem dX7_follow_0 : decode cX7_follow 0 = .ok (.iload_n 1, 1) := by decide +kernel
theorem dX7_follow_1 : decode cX7_follow 1 = .ok (.invokestatic 55, 3) := by decide +kernel
theorem dX7_follow_4 : decode cX7_follow 4 = .ok (.ifCond .eq 32, 3) := by decide +kernel
theorem dX7_follow_7 : decode cX7_follow 7 = .ok (.iload_n 2, 1) := by decide +kernel
theorem dX7_follow_8 : decode cX7_follow 8 = .ok (.iconst 0, 1) := by decide +kernel
theorem dX7_follow_9 : decode cX7_follow 9 = .ok (.sipush 300, 3) := by decide +kernel
theorem dX7_follow_12 : decode cX7_follow 12 = .ok (.invokestatic 51, 3) := by decide +kernel
theorem dX7_follow_15 : decode cX7_follow 15 = .ok (.ifCond .eq 21, 3) := by decide +kernel
theorem dX7_follow_18 : decode cX7_follow 18 = .ok (.iload_n 3, 1) := by decide +kernel
theorem dX7_follow_19 : decode cX7_follow 19 = .ok (.invokestatic 73, 3) := by decide +kernel
theorem dX7_follow_22 : decode cX7_follow 22 = .ok (.ifCond .eq 14, 3) := by decide +kernel
theorem dX7_follow_25 : decode cX7_follow 25 = .ok (.iload 4, 2) := by decide +kernel
theorem dX7_follow_27 : decode cX7_follow 27 = .ok (.iconst 1, 1) := by decide +kernel
theorem dX7_follow_28 : decode cX7_follow 28 = .ok (.bipush 20, 2) := by decide +kernel
theorem dX7_follow_30 : decode cX7_follow 30 = .ok (.invokestatic 51, 3) := by decide +kernel
theorem dX7_follow_33 : decode cX7_follow 33 = .ok (.ifCond .ne 6, 3) := by decide +kernel
theorem dX7_follow_36 : decode cX7_follow 36 = .ok (.bipush (-2), 2) := by decide +kernel
theorem dX7_follow_38 : decode cX7_follow 38 = .ok (.ireturn, 1) := by decide +kernel
theorem dX7_follow_39 : decode cX7_follow 39 = .ok (.aload_n 0, 1) := by decide +kernel
theorem dX7_follow_40 : decode cX7_follow 40 = .ok (.getfield 7, 3) := by decide +kernel
theorem dX7_follow_43 : decode cX7_follow 43 = .ok (.iload_n 1, 1) := by decide +kernel
theorem dX7_follow_44 : decode cX7_follow 44 = .ok (.iaload, 1) := by decide +kernel
theorem dX7_follow_45 : decode cX7_follow 45 = .ok (.ifCond .ne 6, 3) := by decide +kernel
theorem dX7_follow_48 : decode cX7_follow 48 = .ok (.bipush (-3), 2) := by decide +kernel
theorem dX7_follow_50 : decode cX7_follow 50 = .ok (.ireturn, 1) := by decide +kernel
theorem dX7_follow_51 : decode cX7_follow 51 = .ok (.aload_n 0, 1) := by decide +kernel
theorem dX7_follow_52 : decode cX7_follow 52 = .ok (.getfield 7, 3) := by decide +kernel
theorem dX7_follow_55 : decode cX7_follow 55 = .ok (.iload_n 1, 1) := by decide +kernel
theorem dX7_follow_56 : decode cX7_follow 56 = .ok (.iaload, 1) := by decide +kernel
theorem dX7_follow_57 : decode cX7_follow 57 = .ok (.istore 5, 2) := by decide +kernel
theorem dX7_follow_59 : decode cX7_follow 59 = .ok (.iload_n 3, 1) := by decide +kernel
theorem dX7_follow_60 : decode cX7_follow 60 = .ok (.iload 5, 2) := by decide +kernel
theorem dX7_follow_62 : decode cX7_follow 62 = .ok (.irem, 1) := by decide +kernel
theorem dX7_follow_63 : decode cX7_follow 63 = .ok (.istore 6, 2) := by decide +kernel
theorem dX7_follow_65 : decode cX7_follow 65 = .ok (.iconst 0, 1) := by decide +kernel
theorem dX7_follow_66 : decode cX7_follow 66 = .ok (.istore 7, 2) := by decide +kernel
theorem dX7_follow_68 : decode cX7_follow 68 = .ok (.iload 7, 2) := by decide +kernel
theorem dX7_follow_70 : decode cX7_follow 70 = .ok (.iload 4, 2) := by decide +kernel
theorem dX7_follow_72 : decode cX7_follow 72 = .ok (.if_icmp .ge 107, 3) := by decide +kernel
theorem dX7_follow_75 : decode cX7_follow 75 = .ok (.iload_n 2, 1) := by decide +kernel
theorem dX7_follow_76 : decode cX7_follow 76 = .ok (.iload 7, 2) := by decide +kernel
theorem dX7_follow_78 : decode cX7_follow 78 = .ok (.iload 5, 2) := by decide +kernel
theorem dX7_follow_80 : decode cX7_follow 80 = .ok (.imul, 1) := by decide +kernel
theorem dX7_follow_81 : decode cX7_follow 81 = .ok (.iadd, 1) := by decide +kernel
theorem dX7_follow_82 : decode cX7_follow 82 = .ok (.istore 8, 2) := by decide +kernel
theorem dX7_follow_84 : decode cX7_follow 84 = .ok (.iload 6, 2) := by decide +kernel
theorem dX7_follow_86 : decode cX7_follow 86 = .ok (.iload 5, 2) := by decide +kernel
theorem dX7_follow_88 : decode cX7_follow 88 = .ok (.iadd, 1) := by decide +kernel
theorem dX7_follow_89 : decode cX7_follow 89 = .ok (.iconst 1, 1) := by decide +kernel
theorem dX7_follow_90 : decode cX7_follow 90 = .ok (.isub, 1) := by decide +kernel
theorem dX7_follow_91 : decode cX7_follow 91 = .ok (.iload 5, 2) := by decide +kernel
theorem dX7_follow_93 : decode cX7_follow 93 = .ok (.irem, 1) := by decide +kernel
theorem dX7_follow_94 : decode cX7_follow 94 = .ok (.istore 9, 2) := by decide +kernel
theorem dX7_follow_96 : decode cX7_follow 96 = .ok (.iload 6, 2) := by decide +kernel
theorem dX7_follow_98 : decode cX7_follow 98 = .ok (.iconst 1, 1) := by decide +kernel
theorem dX7_follow_99 : decode cX7_follow 99 = .ok (.iadd, 1) := by decide +kernel
theorem dX7_follow_100 : decode cX7_follow 100 = .ok (.iload 5, 2) := by decide +kernel
theorem dX7_follow_102 : decode cX7_follow 102 = .ok (.irem, 1) := by decide +kernel
theorem dX7_follow_103 : decode cX7_follow 103 = .ok (.istore 10, 2) := by decide +kernel
theorem dX7_follow_105 : decode cX7_follow 105 = .ok (.iload 6, 2) := by decide +kernel
theorem dX7_follow_107 : decode cX7_follow 107 = .ok (.istore 11, 2) := by decide +kernel
theorem dX7_follow_109 : decode cX7_follow 109 = .ok (.aload_n 0, 1) := by decide +kernel
theorem dX7_follow_110 : decode cX7_follow 110 = .ok (.iload_n 1, 1) := by decide +kernel
theorem dX7_follow_111 : decode cX7_follow 111 = .ok (.iload 8, 2) := by decide +kernel
theorem dX7_follow_113 : decode cX7_follow 113 = .ok (.iload 9, 2) := by decide +kernel
theorem dX7_follow_115 : decode cX7_follow 115 = .ok (.invokevirtual 131, 3) := by decide +kernel
theorem dX7_follow_118 : decode cX7_follow 118 = .ok (.aload_n 0, 1) := by decide +kernel
theorem dX7_follow_119 : decode cX7_follow 119 = .ok (.iload_n 1, 1) := by decide +kernel
theorem dX7_follow_120 : decode cX7_follow 120 = .ok (.iload 8, 2) := by decide +kernel
theorem dX7_follow_122 : decode cX7_follow 122 = .ok (.iload 11, 2) := by decide +kernel
theorem dX7_follow_124 : decode cX7_follow 124 = .ok (.invokevirtual 131, 3) := by decide +kernel
theorem dX7_follow_127 : decode cX7_follow 127 = .ok (.if_icmp .le 8, 3) := by decide +kernel
theorem dX7_follow_130 : decode cX7_follow 130 = .ok (.iload 9, 2) := by decide +kernel
theorem dX7_follow_132 : decode cX7_follow 132 = .ok (.goto 5, 3) := by decide +kernel
theorem dX7_follow_135 : decode cX7_follow 135 = .ok (.iload 11, 2) := by decide +kernel
theorem dX7_follow_137 : decode cX7_follow 137 = .ok (.istore 11, 2) := by decide +kernel
theorem dX7_follow_139 : decode cX7_follow 139 = .ok (.aload_n 0, 1) := by decide +kernel
theorem dX7_follow_140 : decode cX7_follow 140 = .ok (.iload_n 1, 1) := by decide +kernel
theorem dX7_follow_141 : decode cX7_follow 141 = .ok (.iload 8, 2) := by decide +kernel
theorem dX7_follow_143 : decode cX7_follow 143 = .ok (.iload 10, 2) := by decide +kernel
theorem dX7_follow_145 : decode cX7_follow 145 = .ok (.invokevirtual 131, 3) := by decide +kernel
theorem dX7_follow_148 : decode cX7_follow 148 = .ok (.aload_n 0, 1) := by decide +kernel
theorem dX7_follow_149 : decode cX7_follow 149 = .ok (.iload_n 1, 1) := by decide +kernel
theorem dX7_follow_150 : decode cX7_follow 150 = .ok (.iload 8, 2) := by decide +kernel
theorem dX7_follow_152 : decode cX7_follow 152 = .ok (.iload 11, 2) := by decide +kernel
theorem dX7_follow_154 : decode cX7_follow 154 = .ok (.invokevirtual 131, 3) := by decide +kernel
theorem dX7_follow_157 : decode cX7_follow 157 = .ok (.if_icmp .le 8, 3) := by decide +kernel
theorem dX7_follow_160 : decode cX7_follow 160 = .ok (.iload 10, 2) := by decide +kernel
theorem dX7_follow_162 : decode cX7_follow 162 = .ok (.goto 5, 3) := by decide +kernel
theorem dX7_follow_165 : decode cX7_follow 165 = .ok (.iload 11, 2) := by decide +kernel
theorem dX7_follow_167 : decode cX7_follow 167 = .ok (.istore 11, 2) := by decide +kernel
theorem dX7_follow_169 : decode cX7_follow 169 = .ok (.iload 11, 2) := by decide +kernel
theorem dX7_follow_171 : decode cX7_follow 171 = .ok (.istore 6, 2) := by decide +kernel
theorem dX7_follow_173 : decode cX7_follow 173 = .ok (.iinc 7 1, 3) := by decide +kernel
theorem dX7_follow_176 : decode cX7_follow 176 = .ok (.goto (-108), 3) := by decide +kernel
theorem dX7_follow_179 : decode cX7_follow 179 = .ok (.iload 6, 2) := by decide +kernel
theorem dX7_follow_181 : decode cX7_follow 181 = .ok (.ireturn, 1) := by decide +kernel
theorem dX7_divisor_0 : decode cX7_divisor 0 = .ok (.iload_n 0, 1) := by decide +kernel
theorem dX7_divisor_1 : decode cX7_divisor 1 = .ok (.istore_n 2, 1) := by decide +kernel
theorem dX7_divisor_2 : decode cX7_divisor 2 = .ok (.iload_n 1, 1) := by decide +kernel
theorem dX7_divisor_3 : decode cX7_divisor 3 = .ok (.istore_n 3, 1) := by decide +kernel
theorem dX7_divisor_4 : decode cX7_divisor 4 = .ok (.iload_n 3, 1) := by decide +kernel
theorem dX7_divisor_5 : decode cX7_divisor 5 = .ok (.ifCond .le 16, 3) := by decide +kernel
theorem dX7_divisor_8 : decode cX7_divisor 8 = .ok (.iload_n 2, 1) := by decide +kernel
theorem dX7_divisor_9 : decode cX7_divisor 9 = .ok (.iload_n 3, 1) := by decide +kernel
theorem dX7_divisor_10 : decode cX7_divisor 10 = .ok (.irem, 1) := by decide +kernel
theorem dX7_divisor_11 : decode cX7_divisor 11 = .ok (.istore 4, 2) := by decide +kernel
theorem dX7_divisor_13 : decode cX7_divisor 13 = .ok (.iload_n 3, 1) := by decide +kernel
theorem dX7_divisor_14 : decode cX7_divisor 14 = .ok (.istore_n 2, 1) := by decide +kernel
theorem dX7_divisor_15 : decode cX7_divisor 15 = .ok (.iload 4, 2) := by decide +kernel
theorem dX7_divisor_17 : decode cX7_divisor 17 = .ok (.istore_n 3, 1) := by decide +kernel
theorem dX7_divisor_18 : decode cX7_divisor 18 = .ok (.goto (-14), 3) := by decide +kernel
theorem dX7_divisor_21 : decode cX7_divisor 21 = .ok (.iload_n 2, 1) := by decide +kernel
theorem dX7_divisor_22 : decode cX7_divisor 22 = .ok (.ireturn, 1) := by decide +kernel
set_option maxRecDepth 20000 in
theorem ggX7_length_X7_in : GoodIn wsX7_length wsX7_in := goodIn_r _ [7] (by decide +kernel) (by decide +kernel)
set_option maxRecDepth 20000 in
theorem gX7_length_X7_in : GoodIn wsX7_length (va_wsS RX7 51 yX7_in wsX7_in) := goodIn_app (goodIn_of _ (by decide +kernel)) ggX7_length_X7_in
set_option maxRecDepth 20000 in
theorem ggX7_length_X7_divisor : GoodIn wsX7_length wsX7_divisor := goodIn_r _ [10] (by decide +kernel) (by decide +kernel)
set_option maxRecDepth 20000 in
theorem gX7_length_X7_divisor : GoodIn wsX7_length (va_wsS RX7 137 yX7_divisor wsX7_divisor) := goodIn_app (goodIn_of _ (by decide +kernel)) ggX7_length_X7_divisor
theorem dX7_length_0 : decode cX7_length 0 = .ok (.iload_n 1, 1) := by decide +kernel
theorem dX7_length_1 : decode cX7_length 1 = .ok (.iconst 2, 1) := by decide +kernel
theorem dX7_length_2 : decode cX7_length 2 = .ok (.bipush 127, 2) := by decide +kernel
theorem dX7_length_4 : decode cX7_length 4 = .ok (.invokestatic 51, 3) := by decide +kernel
theorem dX7_length_7 : decode cX7_length 7 = .ok (.ifCond .eq 14, 3) := by decide +kernel
theorem dX7_length_10 : decode cX7_length 10 = .ok (.iload_n 2, 1) := by decide +kernel
theorem dX7_length_11 : decode cX7_length 11 = .ok (.iconst 0, 1) := by decide +kernel
theorem dX7_length_12 : decode cX7_length 12 = .ok (.iload_n 1, 1) := by decide +kernel
theorem dX7_length_13 : decode cX7_length 13 = .ok (.iconst 1, 1) := by decide +kernel
theorem dX7_length_14 : decode cX7_length 14 = .ok (.isub, 1) := by decide +kernel
theorem dX7_length_15 : decode cX7_length 15 = .ok (.invokestatic 51, 3) := by decide +kernel
theorem dX7_length_18 : decode cX7_length 18 = .ok (.ifCond .ne 6, 3) := by decide +kernel
theorem dX7_length_21 : decode cX7_length 21 = .ok (.bipush (-2), 2) := by decide +kernel
theorem dX7_length_23 : decode cX7_length 23 = .ok (.ireturn, 1) := by decide +kernel
theorem dX7_length_24 : decode cX7_length 24 = .ok (.iconst 0, 1) := by decide +kernel
theorem dX7_length_25 : decode cX7_length 25 = .ok (.istore_n 3, 1) := by decide +kernel
theorem dX7_length_26 : decode cX7_length 26 = .ok (.iload_n 3, 1) := by decide +kernel
theorem dX7_length_27 : decode cX7_length 27 = .ok (.aload_n 0, 1) := by decide +kernel
theorem dX7_length_28 : decode cX7_length 28 = .ok (.getfield 134, 3) := by decide +kernel
theorem dX7_length_31 : decode cX7_length 31 = .ok (.if_icmp .ge 26, 3) := by decide +kernel
theorem dX7_length_34 : decode cX7_length 34 = .ok (.iload_n 1, 1) := by decide +kernel
theorem dX7_length_35 : decode cX7_length 35 = .ok (.aload_n 0, 1) := by decide +kernel
theorem dX7_length_36 : decode cX7_length 36 = .ok (.getfield 29, 3) := by decide +kernel
theorem dX7_length_39 : decode cX7_length 39 = .ok (.iload_n 3, 1) := by decide +kernel
theorem dX7_length_40 : decode cX7_length 40 = .ok (.iaload, 1) := by decide +kernel
theorem dX7_length_41 : decode cX7_length 41 = .ok (.invokestatic 137, 3) := by decide +kernel
theorem dX7_length_44 : decode cX7_length 44 = .ok (.iconst 1, 1) := by decide +kernel
theorem dX7_length_45 : decode cX7_length 45 = .ok (.if_icmp .le 6, 3) := by decide +kernel
theorem dX7_length_48 : decode cX7_length 48 = .ok (.bipush (-2), 2) := by decide +kernel
theorem dX7_length_50 : decode cX7_length 50 = .ok (.ireturn, 1) := by decide +kernel
theorem dX7_length_51 : decode cX7_length 51 = .ok (.iinc 3 1, 3) := by decide +kernel
theorem dX7_length_54 : decode cX7_length 54 = .ok (.goto (-28), 3) := by decide +kernel
theorem dX7_length_57 : decode cX7_length 57 = .ok (.aload_n 0, 1) := by decide +kernel
theorem dX7_length_58 : decode cX7_length 58 = .ok (.getfield 134, 3) := by decide +kernel
theorem dX7_length_61 : decode cX7_length 61 = .ok (.iconst 5, 1) := by decide +kernel
theorem dX7_length_62 : decode cX7_length 62 = .ok (.if_icmp .ne 6, 3) := by decide +kernel
theorem dX7_length_65 : decode cX7_length 65 = .ok (.bipush (-4), 2) := by decide +kernel
theorem dX7_length_67 : decode cX7_length 67 = .ok (.ireturn, 1) := by decide +kernel
theorem dX7_length_68 : decode cX7_length 68 = .ok (.aload_n 0, 1) := by decide +kernel
theorem dX7_length_69 : decode cX7_length 69 = .ok (.getfield 29, 3) := by decide +kernel
theorem dX7_length_72 : decode cX7_length 72 = .ok (.aload_n 0, 1) := by decide +kernel
theorem dX7_length_73 : decode cX7_length 73 = .ok (.getfield 134, 3) := by decide +kernel
theorem dX7_length_76 : decode cX7_length 76 = .ok (.iload_n 1, 1) := by decide +kernel
theorem dX7_length_77 : decode cX7_length 77 = .ok (.iastore, 1) := by decide +kernel
theorem dX7_length_78 : decode cX7_length 78 = .ok (.aload_n 0, 1) := by decide +kernel
theorem dX7_length_79 : decode cX7_length 79 = .ok (.getfield 32, 3) := by decide +kernel
theorem dX7_length_82 : decode cX7_length 82 = .ok (.aload_n 0, 1) := by decide +kernel
theorem dX7_length_83 : decode cX7_length 83 = .ok (.getfield 134, 3) := by decide +kernel
theorem dX7_length_86 : decode cX7_length 86 = .ok (.iload_n 2, 1) := by decide +kernel
theorem dX7_length_87 : decode cX7_length 87 = .ok (.iastore, 1) := by decide +kernel
theorem dX7_length_88 : decode cX7_length 88 = .ok (.aload_n 0, 1) := by decide +kernel
theorem dX7_length_89 : decode cX7_length 89 = .ok (.dup, 1) := by decide +kernel
theorem dX7_length_90 : decode cX7_length 90 = .ok (.getfield 134, 3) := by decide +kernel
theorem dX7_length_93 : decode cX7_length 93 = .ok (.iconst 1, 1) := by decide +kernel
theorem dX7_length_94 : decode cX7_length 94 = .ok (.iadd, 1) := by decide +kernel
theorem dX7_length_95 : decode cX7_length 95 = .ok (.putfield 134, 3) := by decide +kernel
theorem dX7_length_98 : decode cX7_length 98 = .ok (.aload_n 0, 1) := by decide +kernel
theorem dX7_length_99 : decode cX7_length 99 = .ok (.getfield 134, 3) := by decide +kernel
theorem dX7_length_102 : decode cX7_length 102 = .ok (.ireturn, 1) := by decide +kernel
theorem dX7_reset_0 : decode cX7_reset 0 = .ok (.aload_n 0, 1) := by decide +kernel
theorem dX7_reset_1 : decode cX7_reset 1 = .ok (.getfield 134, 3) := by decide +kernel
theorem dX7_reset_4 : decode cX7_reset 4 = .ok (.istore_n 1, 1) := by decide +kernel
theorem dX7_reset_5 : decode cX7_reset 5 = .ok (.aload_n 0, 1) := by decide +kernel
theorem dX7_reset_6 : decode cX7_reset 6 = .ok (.iconst 0, 1) := by decide +kernel
theorem dX7_reset_7 : decode cX7_reset 7 = .ok (.putfield 134, 3) := by decide +kernel
theorem dX7_reset_10 : decode cX7_reset 10 = .ok (.iload_n 1, 1) := by decide +kernel
theorem dX7_reset_11 : decode cX7_reset 11 = .ok (.ireturn, 1) := by decide +kernel
theorem dX7_range_0 : decode cX7_range 0 = .ok (.lconst 0, 1) := by decide +kernel
theorem dX7_range_1 : decode cX7_range 1 = .ok (.lstore_n 1, 1) := by decide +kernel
theorem dX7_range_2 : decode cX7_range 2 = .ok (.lconst 1, 1) := by decide +kernel
theorem dX7_range_3 : decode cX7_range 3 = .ok (.lstore_n 3, 1) := by decide +kernel
theorem dX7_range_4 : decode cX7_range 4 = .ok (.iconst 0, 1) := by decide +kernel
theorem dX7_range_5 : decode cX7_range 5 = .ok (.istore 5, 2) := by decide +kernel
theorem dX7_range_7 : decode cX7_range 7 = .ok (.iload 5, 2) := by decide +kernel
theorem dX7_range_9 : decode cX7_range 9 = .ok (.aload_n 0, 1) := by decide +kernel
theorem dX7_range_10 : decode cX7_range 10 = .ok (.getfield 134, 3) := by decide +kernel
theorem dX7_range_13 : decode cX7_range 13 = .ok (.if_icmp .ge 49, 3) := by decide +kernel
theorem dX7_range_16 : decode cX7_range 16 = .ok (.lload_n 1, 1) := by decide +kernel
theorem dX7_range_17 : decode cX7_range 17 = .ok (.aload_n 0, 1) := by decide +kernel
theorem dX7_range_18 : decode cX7_range 18 = .ok (.getfield 29, 3) := by decide +kernel
theorem dX7_range_21 : decode cX7_range 21 = .ok (.iload 5, 2) := by decide +kernel
theorem dX7_range_23 : decode cX7_range 23 = .ok (.iaload, 1) := by decide +kernel
theorem dX7_range_24 : decode cX7_range 24 = .ok (.i2l, 1) := by decide +kernel
theorem dX7_range_25 : decode cX7_range 25 = .ok (.lrem, 1) := by decide +kernel
theorem dX7_range_26 : decode cX7_range 26 = .ok (.aload_n 0, 1) := by decide +kernel
theorem dX7_range_27 : decode cX7_range 27 = .ok (.getfield 32, 3) := by decide +kernel
theorem dX7_range_30 : decode cX7_range 30 = .ok (.iload 5, 2) := by decide +kernel
theorem dX7_range_32 : decode cX7_range 32 = .ok (.iaload, 1) := by decide +kernel
theorem dX7_range_33 : decode cX7_range 33 = .ok (.i2l, 1) := by decide +kernel
theorem dX7_range_34 : decode cX7_range 34 = .ok (.lcmp, 1) := by decide +kernel
theorem dX7_range_35 : decode cX7_range 35 = .ok (.ifCond .eq 10, 3) := by decide +kernel
theorem dX7_range_38 : decode cX7_range 38 = .ok (.lload_n 1, 1) := by decide +kernel
theorem dX7_range_39 : decode cX7_range 39 = .ok (.lload_n 3, 1) := by decide +kernel
theorem dX7_range_40 : decode cX7_range 40 = .ok (.ladd, 1) := by decide +kernel
theorem dX7_range_41 : decode cX7_range 41 = .ok (.lstore_n 1, 1) := by decide +kernel
theorem dX7_range_42 : decode cX7_range 42 = .ok (.goto (-26), 3) := by decide +kernel
theorem dX7_range_45 : decode cX7_range 45 = .ok (.lload_n 3, 1) := by decide +kernel
theorem dX7_range_46 : decode cX7_range 46 = .ok (.aload_n 0, 1) := by decide +kernel
theorem dX7_range_47 : decode cX7_range 47 = .ok (.getfield 29, 3) := by decide +kernel
theorem dX7_range_50 : decode cX7_range 50 = .ok (.iload 5, 2) := by decide +kernel
theorem dX7_range_52 : decode cX7_range 52 = .ok (.iaload, 1) := by decide +kernel
theorem dX7_range_53 : decode cX7_range 53 = .ok (.i2l, 1) := by decide +kernel
theorem dX7_range_54 : decode cX7_range 54 = .ok (.lmul, 1) := by decide +kernel
theorem dX7_range_55 : decode cX7_range 55 = .ok (.lstore_n 3, 1) := by decide +kernel
theorem dX7_range_56 : decode cX7_range 56 = .ok (.iinc 5 1, 3) := by decide +kernel
theorem dX7_range_59 : decode cX7_range 59 = .ok (.goto (-52), 3) := by decide +kernel
theorem dX7_range_62 : decode cX7_range 62 = .ok (.lload_n 1, 1) := by decide +kernel
theorem dX7_range_63 : decode cX7_range 63 = .ok (.lreturn, 1) := by decide +kernel
set_option maxRecDepth 20000 in
theorem ggX7_mend_X7_in : GoodIn wsX7_mend wsX7_in := goodIn_r _ [7] (by decide +kernel) (by decide +kernel)
set_option maxRecDepth 20000 in
theorem gX7_mend_X7_in : GoodIn wsX7_mend (va_wsS RX7 51 yX7_in wsX7_in) := goodIn_app (goodIn_of _ (by decide +kernel)) ggX7_mend_X7_in
theorem dX7_mend_0 : decode cX7_mend 0 = .ok (.iload_n 1, 1) := by decide +kernel
theorem dX7_mend_1 : decode cX7_mend 1 = .ok (.iconst 1, 1) := by decide +kernel
theorem dX7_mend_2 : decode cX7_mend 2 = .ok (.sipush 20000, 3) := by decide +kernel
theorem dX7_mend_5 : decode cX7_mend 5 = .ok (.invokestatic 51, 3) := by decide +kernel
theorem dX7_mend_8 : decode cX7_mend 8 = .ok (.ifCond .ne 6, 3) := by decide +kernel
theorem dX7_mend_11 : decode cX7_mend 11 = .ok (.bipush (-2), 2) := by decide +kernel
theorem dX7_mend_13 : decode cX7_mend 13 = .ok (.ireturn, 1) := by decide +kernel
theorem dX7_mend_14 : decode cX7_mend 14 = .ok (.iconst 0, 1) := by decide +kernel
theorem dX7_mend_15 : decode cX7_mend 15 = .ok (.istore_n 2, 1) := by decide +kernel
theorem dX7_mend_16 : decode cX7_mend 16 = .ok (.iconst (-1), 1) := by decide +kernel
theorem dX7_mend_17 : decode cX7_mend 17 = .ok (.istore_n 3, 1) := by decide +kernel
theorem dX7_mend_18 : decode cX7_mend 18 = .ok (.iconst 0, 1) := by decide +kernel
theorem dX7_mend_19 : decode cX7_mend 19 = .ok (.istore 4, 2) := by decide +kernel
theorem dX7_mend_21 : decode cX7_mend 21 = .ok (.iload 4, 2) := by decide +kernel
theorem dX7_mend_23 : decode cX7_mend 23 = .ok (.iload_n 1, 1) := by decide +kernel
theorem dX7_mend_24 : decode cX7_mend 24 = .ok (.if_icmp .ge 72, 3) := by decide +kernel
theorem dX7_mend_27 : decode cX7_mend 27 = .ok (.iconst 0, 1) := by decide +kernel
theorem dX7_mend_28 : decode cX7_mend 28 = .ok (.istore 5, 2) := by decide +kernel
theorem dX7_mend_30 : decode cX7_mend 30 = .ok (.iconst 0, 1) := by decide +kernel
theorem dX7_mend_31 : decode cX7_mend 31 = .ok (.istore 6, 2) := by decide +kernel
theorem dX7_mend_33 : decode cX7_mend 33 = .ok (.iload 6, 2) := by decide +kernel
theorem dX7_mend_35 : decode cX7_mend 35 = .ok (.aload_n 0, 1) := by decide +kernel
theorem dX7_mend_36 : decode cX7_mend 36 = .ok (.getfield 134, 3) := by decide +kernel
theorem dX7_mend_39 : decode cX7_mend 39 = .ok (.if_icmp .ge 39, 3) := by decide +kernel
theorem dX7_mend_42 : decode cX7_mend 42 = .ok (.iload 5, 2) := by decide +kernel
theorem dX7_mend_44 : decode cX7_mend 44 = .ok (.iload 4, 2) := by decide +kernel
theorem dX7_mend_46 : decode cX7_mend 46 = .ok (.aload_n 0, 1) := by decide +kernel
theorem dX7_mend_47 : decode cX7_mend 47 = .ok (.getfield 29, 3) := by decide +kernel
theorem dX7_mend_50 : decode cX7_mend 50 = .ok (.iload 6, 2) := by decide +kernel
theorem dX7_mend_52 : decode cX7_mend 52 = .ok (.iaload, 1) := by decide +kernel
theorem dX7_mend_53 : decode cX7_mend 53 = .ok (.irem, 1) := by decide +kernel
theorem dX7_mend_54 : decode cX7_mend 54 = .ok (.aload_n 0, 1) := by decide +kernel
theorem dX7_mend_55 : decode cX7_mend 55 = .ok (.getfield 32, 3) := by decide +kernel
theorem dX7_mend_58 : decode cX7_mend 58 = .ok (.iload 6, 2) := by decide +kernel
theorem dX7_mend_60 : decode cX7_mend 60 = .ok (.iaload, 1) := by decide +kernel
theorem dX7_mend_61 : decode cX7_mend 61 = .ok (.if_icmp .ne 7, 3) := by decide +kernel
theorem dX7_mend_64 : decode cX7_mend 64 = .ok (.iconst 1, 1) := by decide +kernel
theorem dX7_mend_65 : decode cX7_mend 65 = .ok (.goto 4, 3) := by decide +kernel
theorem dX7_mend_68 : decode cX7_mend 68 = .ok (.iconst 0, 1) := by decide +kernel
theorem dX7_mend_69 : decode cX7_mend 69 = .ok (.iadd, 1) := by decide +kernel
theorem dX7_mend_70 : decode cX7_mend 70 = .ok (.istore 5, 2) := by decide +kernel
theorem dX7_mend_72 : decode cX7_mend 72 = .ok (.iinc 6 1, 3) := by decide +kernel
theorem dX7_mend_75 : decode cX7_mend 75 = .ok (.goto (-42), 3) := by decide +kernel
theorem dX7_mend_78 : decode cX7_mend 78 = .ok (.iload 5, 2) := by decide +kernel
theorem dX7_mend_80 : decode cX7_mend 80 = .ok (.iload_n 3, 1) := by decide +kernel
theorem dX7_mend_81 : decode cX7_mend 81 = .ok (.if_icmp .le 9, 3) := by decide +kernel
theorem dX7_mend_84 : decode cX7_mend 84 = .ok (.iload 5, 2) := by decide +kernel
theorem dX7_mend_86 : decode cX7_mend 86 = .ok (.istore_n 3, 1) := by decide +kernel
theorem dX7_mend_87 : decode cX7_mend 87 = .ok (.iload 4, 2) := by decide +kernel
theorem dX7_mend_89 : decode cX7_mend 89 = .ok (.istore_n 2, 1) := by decide +kernel
theorem dX7_mend_90 : decode cX7_mend 90 = .ok (.iinc 4 1, 3) := by decide +kernel
theorem dX7_mend_93 : decode cX7_mend 93 = .ok (.goto (-72), 3) := by decide +kernel
theorem dX7_mend_96 : decode cX7_mend 96 = .ok (.bipush 10, 2) := by decide +kernel
theorem dX7_mend_98 : decode cX7_mend 98 = .ok (.iload_n 2, 1) := by decide +kernel
theorem dX7_mend_99 : decode cX7_mend 99 = .ok (.imul, 1) := by decide +kernel
theorem dX7_mend_100 : decode cX7_mend 100 = .ok (.iload_n 3, 1) := by decide +kernel
theorem dX7_mend_101 : decode cX7_mend 101 = .ok (.iadd, 1) := by decide +kernel
theorem dX7_mend_102 : decode cX7_mend 102 = .ok (.ireturn, 1) := by decide +kernel
set_option maxRecDepth 20000 in
theorem ggX7_isPrime_X7_in : GoodIn wsX7_isPrime wsX7_in := goodIn_r _ [4] (by decide +kernel) (by decide +kernel)
set_option maxRecDepth 20000 in
theorem gX7_isPrime_X7_in : GoodIn wsX7_isPrime (va_wsS RX7 51 yX7_in wsX7_in) := goodIn_app (goodIn_of _ (by decide +kernel)) ggX7_isPrime_X7_in
theorem dX7_isPrime_0 : decode cX7_isPrime 0 = .ok (.iload_n 0, 1) := by decide +kernel
theorem dX7_isPrime_1 : decode cX7_isPrime 1 = .ok (.iconst 2, 1) := by decide +kernel
theorem dX7_isPrime_2 : decode cX7_isPrime 2 = .ok (.bipush 31, 2) := by decide +kernel
theorem dX7_isPrime_4 : decode cX7_isPrime 4 = .ok (.invokestatic 51, 3) := by decide +kernel
theorem dX7_isPrime_7 : decode cX7_isPrime 7 = .ok (.ifCond .ne 5, 3) := by decide +kernel
theorem dX7_isPrime_10 : decode cX7_isPrime 10 = .ok (.iconst 0, 1) := by decide +kernel
theorem dX7_isPrime_11 : decode cX7_isPrime 11 = .ok (.ireturn, 1) := by decide +kernel
theorem dX7_isPrime_12 : decode cX7_isPrime 12 = .ok (.iconst 2, 1) := by decide +kernel
theorem dX7_isPrime_13 : decode cX7_isPrime 13 = .ok (.istore_n 1, 1) := by decide +kernel
theorem dX7_isPrime_14 : decode cX7_isPrime 14 = .ok (.iload_n 1, 1) := by decide +kernel
theorem dX7_isPrime_15 : decode cX7_isPrime 15 = .ok (.iload_n 0, 1) := by decide +kernel
theorem dX7_isPrime_16 : decode cX7_isPrime 16 = .ok (.if_icmp .ge 17, 3) := by decide +kernel
theorem dX7_isPrime_19 : decode cX7_isPrime 19 = .ok (.iload_n 0, 1) := by decide +kernel
theorem dX7_isPrime_20 : decode cX7_isPrime 20 = .ok (.iload_n 1, 1) := by decide +kernel
theorem dX7_isPrime_21 : decode cX7_isPrime 21 = .ok (.irem, 1) := by decide +kernel
theorem dX7_isPrime_22 : decode cX7_isPrime 22 = .ok (.ifCond .ne 5, 3) := by decide +kernel
theorem dX7_isPrime_25 : decode cX7_isPrime 25 = .ok (.iconst 0, 1) := by decide +kernel
theorem dX7_isPrime_26 : decode cX7_isPrime 26 = .ok (.ireturn, 1) := by decide +kernel
theorem dX7_isPrime_27 : decode cX7_isPrime 27 = .ok (.iinc 1 1, 3) := by decide +kernel
theorem dX7_isPrime_30 : decode cX7_isPrime 30 = .ok (.goto (-16), 3) := by decide +kernel
theorem dX7_isPrime_33 : decode cX7_isPrime 33 = .ok (.iconst 1, 1) := by decide +kernel
theorem dX7_isPrime_34 : decode cX7_isPrime 34 = .ok (.ireturn, 1) := by decide +kernel
theorem dX7_hitsOf_0 : decode cX7_hitsOf 0 = .ok (.iconst 0, 1) := by decide +kernel
theorem dX7_hitsOf_1 : decode cX7_hitsOf 1 = .ok (.istore 5, 2) := by decide +kernel
theorem dX7_hitsOf_3 : decode cX7_hitsOf 3 = .ok (.iconst 0, 1) := by decide +kernel
theorem dX7_hitsOf_4 : decode cX7_hitsOf 4 = .ok (.istore 6, 2) := by decide +kernel
theorem dX7_hitsOf_6 : decode cX7_hitsOf 6 = .ok (.iload 6, 2) := by decide +kernel
theorem dX7_hitsOf_8 : decode cX7_hitsOf 8 = .ok (.iload_n 0, 1) := by decide +kernel
theorem dX7_hitsOf_9 : decode cX7_hitsOf 9 = .ok (.if_icmp .ge 39, 3) := by decide +kernel
theorem dX7_hitsOf_12 : decode cX7_hitsOf 12 = .ok (.iload 5, 2) := by decide +kernel
theorem dX7_hitsOf_14 : decode cX7_hitsOf 14 = .ok (.iload_n 1, 1) := by decide +kernel
theorem dX7_hitsOf_15 : decode cX7_hitsOf 15 = .ok (.iload 6, 2) := by decide +kernel
theorem dX7_hitsOf_17 : decode cX7_hitsOf 17 = .ok (.imul, 1) := by decide +kernel
theorem dX7_hitsOf_18 : decode cX7_hitsOf 18 = .ok (.iload_n 0, 1) := by decide +kernel
theorem dX7_hitsOf_19 : decode cX7_hitsOf 19 = .ok (.irem, 1) := by decide +kernel
theorem dX7_hitsOf_20 : decode cX7_hitsOf 20 = .ok (.iload_n 2, 1) := by decide +kernel
theorem dX7_hitsOf_21 : decode cX7_hitsOf 21 = .ok (.iload 6, 2) := by decide +kernel
theorem dX7_hitsOf_23 : decode cX7_hitsOf 23 = .ok (.iload_n 3, 1) := by decide +kernel
theorem dX7_hitsOf_24 : decode cX7_hitsOf 24 = .ok (.iadd, 1) := by decide +kernel
theorem dX7_hitsOf_25 : decode cX7_hitsOf 25 = .ok (.imul, 1) := by decide +kernel
theorem dX7_hitsOf_26 : decode cX7_hitsOf 26 = .ok (.iload 4, 2) := by decide +kernel
theorem dX7_hitsOf_28 : decode cX7_hitsOf 28 = .ok (.iadd, 1) := by decide +kernel
theorem dX7_hitsOf_29 : decode cX7_hitsOf 29 = .ok (.iload_n 0, 1) := by decide +kernel
theorem dX7_hitsOf_30 : decode cX7_hitsOf 30 = .ok (.irem, 1) := by decide +kernel
theorem dX7_hitsOf_31 : decode cX7_hitsOf 31 = .ok (.if_icmp .ne 7, 3) := by decide +kernel
theorem dX7_hitsOf_34 : decode cX7_hitsOf 34 = .ok (.iconst 1, 1) := by decide +kernel
theorem dX7_hitsOf_35 : decode cX7_hitsOf 35 = .ok (.goto 4, 3) := by decide +kernel
theorem dX7_hitsOf_38 : decode cX7_hitsOf 38 = .ok (.iconst 0, 1) := by decide +kernel
theorem dX7_hitsOf_39 : decode cX7_hitsOf 39 = .ok (.iadd, 1) := by decide +kernel
theorem dX7_hitsOf_40 : decode cX7_hitsOf 40 = .ok (.istore 5, 2) := by decide +kernel
theorem dX7_hitsOf_42 : decode cX7_hitsOf 42 = .ok (.iinc 6 1, 3) := by decide +kernel
theorem dX7_hitsOf_45 : decode cX7_hitsOf 45 = .ok (.goto (-39), 3) := by decide +kernel
theorem dX7_hitsOf_48 : decode cX7_hitsOf 48 = .ok (.iload 5, 2) := by decide +kernel
theorem dX7_hitsOf_50 : decode cX7_hitsOf 50 = .ok (.ireturn, 1) := by decide +kernel
set_option maxRecDepth 20000 in
theorem ggX7_isHop_X7_isPrime : GoodIn wsX7_isHop wsX7_isPrime := goodIn_r _ [4, 5, 6, 3, 7] (by decide +kernel) (by decide +kernel)
set_option maxRecDepth 20000 in
theorem gX7_isHop_X7_isPrime : GoodIn wsX7_isHop (va_wsS RX7 140 yX7_isPrime wsX7_isPrime) := goodIn_app (goodIn_of _ (by decide +kernel)) ggX7_isHop_X7_isPrime
set_option maxRecDepth 20000 in
theorem ggX7_isHop_X7_in : GoodIn wsX7_isHop wsX7_in := goodIn_r _ [7] (by decide +kernel) (by decide +kernel)
set_option maxRecDepth 20000 in
theorem gX7_isHop_X7_in : GoodIn wsX7_isHop (va_wsS RX7 51 yX7_in wsX7_in) := goodIn_app (goodIn_of _ (by decide +kernel)) ggX7_isHop_X7_in
theorem dX7_isHop_0 : decode cX7_isHop 0 = .ok (.iload_n 0, 1) := by decide +kernel
theorem dX7_isHop_1 : decode cX7_isHop 1 = .ok (.invokestatic 140, 3) := by decide +kernel
theorem dX7_isHop_4 : decode cX7_isHop 4 = .ok (.ifCond .eq 18, 3) := by decide +kernel
theorem dX7_isHop_7 : decode cX7_isHop 7 = .ok (.iload_n 1, 1) := by decide +kernel
theorem dX7_isHop_8 : decode cX7_isHop 8 = .ok (.iconst 1, 1) := by decide +kernel
theorem dX7_isHop_9 : decode cX7_isHop 9 = .ok (.iload_n 0, 1) := by decide +kernel
theorem dX7_isHop_10 : decode cX7_isHop 10 = .ok (.iconst 1, 1) := by decide +kernel
theorem dX7_isHop_11 : decode cX7_isHop 11 = .ok (.isub, 1) := by decide +kernel
theorem dX7_isHop_12 : decode cX7_isHop 12 = .ok (.invokestatic 51, 3) := by decide +kernel
theorem dX7_isHop_15 : decode cX7_isHop 15 = .ok (.ifCond .eq 7, 3) := by decide +kernel
theorem dX7_isHop_18 : decode cX7_isHop 18 = .ok (.iconst 1, 1) := by decide +kernel
theorem dX7_isHop_19 : decode cX7_isHop 19 = .ok (.goto 4, 3) := by decide +kernel
theorem dX7_isHop_22 : decode cX7_isHop 22 = .ok (.iconst 0, 1) := by decide +kernel
theorem dX7_isHop_23 : decode cX7_isHop 23 = .ok (.ireturn, 1) := by decide +kernel
set_option maxRecDepth 20000 in
theorem ggX7_hits_X7_isHop : GoodIn wsX7_hits wsX7_isHop := goodIn_r _ [4, 5, 6, 3, 7, 8, 9, 10] (by decide +kernel) (by decide +kernel)
set_option maxRecDepth 20000 in
theorem gX7_hits_X7_isHop : GoodIn wsX7_hits (va_wsS RX7 143 yX7_isHop wsX7_isHop) := goodIn_app (goodIn_of _ (by decide +kernel)) ggX7_hits_X7_isHop
set_option maxRecDepth 20000 in
theorem ggX7_hits_X7_in : GoodIn wsX7_hits wsX7_in := goodIn_r _ [10] (by decide +kernel) (by decide +kernel)
set_option maxRecDepth 20000 in
theorem gX7_hits_X7_in : GoodIn wsX7_hits (va_wsS RX7 51 yX7_in wsX7_in) := goodIn_app (goodIn_of _ (by decide +kernel)) ggX7_hits_X7_in
set_option maxRecDepth 20000 in
theorem ggX7_hits_X7_hitsOf : GoodIn wsX7_hits wsX7_hitsOf := goodIn_r _ [13] (by decide +kernel) (by decide +kernel)
set_option maxRecDepth 20000 in
theorem gX7_hits_X7_hitsOf : GoodIn wsX7_hits (va_wsS RX7 146 yX7_hitsOf wsX7_hitsOf) := goodIn_app (goodIn_of _ (by decide +kernel)) ggX7_hits_X7_hitsOf
theorem dX7_hits_0 : decode cX7_hits 0 = .ok (.iload_n 1, 1) := by decide +kernel
theorem dX7_hits_1 : decode cX7_hits 1 = .ok (.iload_n 2, 1) := by decide +kernel
theorem dX7_hits_2 : decode cX7_hits 2 = .ok (.invokestatic 143, 3) := by decide +kernel
theorem dX7_hits_5 : decode cX7_hits 5 = .ok (.ifCond .eq 48, 3) := by decide +kernel
theorem dX7_hits_8 : decode cX7_hits 8 = .ok (.iload_n 1, 1) := by decide +kernel
theorem dX7_hits_9 : decode cX7_hits 9 = .ok (.iload_n 3, 1) := by decide +kernel
theorem dX7_hits_10 : decode cX7_hits 10 = .ok (.invokestatic 143, 3) := by decide +kernel
theorem dX7_hits_13 : decode cX7_hits 13 = .ok (.ifCond .eq 40, 3) := by decide +kernel
theorem dX7_hits_16 : decode cX7_hits 16 = .ok (.iload 4, 2) := by decide +kernel
theorem dX7_hits_18 : decode cX7_hits 18 = .ok (.iconst 0, 1) := by decide +kernel
theorem dX7_hits_19 : decode cX7_hits 19 = .ok (.iload_n 1, 1) := by decide +kernel
theorem dX7_hits_20 : decode cX7_hits 20 = .ok (.iconst 1, 1) := by decide +kernel
theorem dX7_hits_21 : decode cX7_hits 21 = .ok (.isub, 1) := by decide +kernel
theorem dX7_hits_22 : decode cX7_hits 22 = .ok (.invokestatic 51, 3) := by decide +kernel
theorem dX7_hits_25 : decode cX7_hits 25 = .ok (.ifCond .eq 28, 3) := by decide +kernel
theorem dX7_hits_28 : decode cX7_hits 28 = .ok (.iload 5, 2) := by decide +kernel
theorem dX7_hits_30 : decode cX7_hits 30 = .ok (.iconst 0, 1) := by decide +kernel
theorem dX7_hits_31 : decode cX7_hits 31 = .ok (.iload_n 1, 1) := by decide +kernel
theorem dX7_hits_32 : decode cX7_hits 32 = .ok (.iconst 1, 1) := by decide +kernel
theorem dX7_hits_33 : decode cX7_hits 33 = .ok (.isub, 1) := by decide +kernel
theorem dX7_hits_34 : decode cX7_hits 34 = .ok (.invokestatic 51, 3) := by decide +kernel
theorem dX7_hits_37 : decode cX7_hits 37 = .ok (.ifCond .eq 16, 3) := by decide +kernel
theorem dX7_hits_40 : decode cX7_hits 40 = .ok (.iload_n 1, 1) := by decide +kernel
theorem dX7_hits_41 : decode cX7_hits 41 = .ok (.iload_n 2, 1) := by decide +kernel
theorem dX7_hits_42 : decode cX7_hits 42 = .ok (.iload_n 3, 1) := by decide +kernel
theorem dX7_hits_43 : decode cX7_hits 43 = .ok (.iload 4, 2) := by decide +kernel
theorem dX7_hits_45 : decode cX7_hits 45 = .ok (.iload 5, 2) := by decide +kernel
theorem dX7_hits_47 : decode cX7_hits 47 = .ok (.invokestatic 146, 3) := by decide +kernel
theorem dX7_hits_50 : decode cX7_hits 50 = .ok (.goto 5, 3) := by decide +kernel
theorem dX7_hits_53 : decode cX7_hits 53 = .ok (.bipush (-2), 2) := by decide +kernel
theorem dX7_hits_55 : decode cX7_hits 55 = .ok (.ireturn, 1) := by decide +kernel
set_option maxRecDepth 20000 in
theorem ggX7_worst_X7_isHop : GoodIn wsX7_worst wsX7_isHop := goodIn_r _ [4, 5, 6, 3, 7, 8, 9, 10] (by decide +kernel) (by decide +kernel)
set_option maxRecDepth 20000 in
theorem gX7_worst_X7_isHop : GoodIn wsX7_worst (va_wsS RX7 143 yX7_isHop wsX7_isHop) := goodIn_app (goodIn_of _ (by decide +kernel)) ggX7_worst_X7_isHop
set_option maxRecDepth 20000 in
theorem ggX7_worst_X7_hitsOf : GoodIn wsX7_worst wsX7_hitsOf := goodIn_r _ [13] (by decide +kernel) (by decide +kernel)
set_option maxRecDepth 20000 in
theorem gX7_worst_X7_hitsOf : GoodIn wsX7_worst (va_wsS RX7 146 yX7_hitsOf wsX7_hitsOf) := goodIn_app (goodIn_of _ (by decide +kernel)) ggX7_worst_X7_hitsOf
theorem dX7_worst_0 : decode cX7_worst 0 = .ok (.iload_n 1, 1) := by decide +kernel
theorem dX7_worst_1 : decode cX7_worst 1 = .ok (.iload_n 2, 1) := by decide +kernel
theorem dX7_worst_2 : decode cX7_worst 2 = .ok (.invokestatic 143, 3) := by decide +kernel
theorem dX7_worst_5 : decode cX7_worst 5 = .ok (.ifCond .eq 11, 3) := by decide +kernel
theorem dX7_worst_8 : decode cX7_worst 8 = .ok (.iload_n 1, 1) := by decide +kernel
theorem dX7_worst_9 : decode cX7_worst 9 = .ok (.iload_n 3, 1) := by decide +kernel
theorem dX7_worst_10 : decode cX7_worst 10 = .ok (.invokestatic 143, 3) := by decide +kernel
theorem dX7_worst_13 : decode cX7_worst 13 = .ok (.ifCond .ne 6, 3) := by decide +kernel
theorem dX7_worst_16 : decode cX7_worst 16 = .ok (.bipush (-2), 2) := by decide +kernel
theorem dX7_worst_18 : decode cX7_worst 18 = .ok (.ireturn, 1) := by decide +kernel
theorem dX7_worst_19 : decode cX7_worst 19 = .ok (.iconst 0, 1) := by decide +kernel
theorem dX7_worst_20 : decode cX7_worst 20 = .ok (.istore 4, 2) := by decide +kernel
theorem dX7_worst_22 : decode cX7_worst 22 = .ok (.iconst 0, 1) := by decide +kernel
theorem dX7_worst_23 : decode cX7_worst 23 = .ok (.istore 5, 2) := by decide +kernel
theorem dX7_worst_25 : decode cX7_worst 25 = .ok (.iload 5, 2) := by decide +kernel
theorem dX7_worst_27 : decode cX7_worst 27 = .ok (.iload_n 1, 1) := by decide +kernel
theorem dX7_worst_28 : decode cX7_worst 28 = .ok (.if_icmp .ge 71, 3) := by decide +kernel
theorem dX7_worst_31 : decode cX7_worst 31 = .ok (.iconst 0, 1) := by decide +kernel
theorem dX7_worst_32 : decode cX7_worst 32 = .ok (.istore 6, 2) := by decide +kernel
theorem dX7_worst_34 : decode cX7_worst 34 = .ok (.iload 6, 2) := by decide +kernel
theorem dX7_worst_36 : decode cX7_worst 36 = .ok (.iload_n 1, 1) := by decide +kernel
theorem dX7_worst_37 : decode cX7_worst 37 = .ok (.if_icmp .ge 56, 3) := by decide +kernel
theorem dX7_worst_40 : decode cX7_worst 40 = .ok (.iload_n 2, 1) := by decide +kernel
theorem dX7_worst_41 : decode cX7_worst 41 = .ok (.iload_n 3, 1) := by decide +kernel
theorem dX7_worst_42 : decode cX7_worst 42 = .ok (.if_icmp .ne 17, 3) := by decide +kernel
theorem dX7_worst_45 : decode cX7_worst 45 = .ok (.iload 5, 2) := by decide +kernel
theorem dX7_worst_47 : decode cX7_worst 47 = .ok (.ifCond .ne 12, 3) := by decide +kernel
theorem dX7_worst_50 : decode cX7_worst 50 = .ok (.iload 6, 2) := by decide +kernel
theorem dX7_worst_52 : decode cX7_worst 52 = .ok (.ifCond .ne 7, 3) := by decide +kernel
theorem dX7_worst_55 : decode cX7_worst 55 = .ok (.iconst 0, 1) := by decide +kernel
theorem dX7_worst_56 : decode cX7_worst 56 = .ok (.goto 13, 3) := by decide +kernel
theorem dX7_worst_59 : decode cX7_worst 59 = .ok (.iload_n 1, 1) := by decide +kernel
theorem dX7_worst_60 : decode cX7_worst 60 = .ok (.iload_n 2, 1) := by decide +kernel
theorem dX7_worst_61 : decode cX7_worst 61 = .ok (.iload_n 3, 1) := by decide +kernel
theorem dX7_worst_62 : decode cX7_worst 62 = .ok (.iload 5, 2) := by decide +kernel
theorem dX7_worst_64 : decode cX7_worst 64 = .ok (.iload 6, 2) := by decide +kernel
theorem dX7_worst_66 : decode cX7_worst 66 = .ok (.invokestatic 146, 3) := by decide +kernel
theorem dX7_worst_69 : decode cX7_worst 69 = .ok (.istore 7, 2) := by decide +kernel
theorem dX7_worst_71 : decode cX7_worst 71 = .ok (.iload 7, 2) := by decide +kernel
theorem dX7_worst_73 : decode cX7_worst 73 = .ok (.iload 4, 2) := by decide +kernel
theorem dX7_worst_75 : decode cX7_worst 75 = .ok (.if_icmp .le 8, 3) := by decide +kernel
theorem dX7_worst_78 : decode cX7_worst 78 = .ok (.iload 7, 2) := by decide +kernel
theorem dX7_worst_80 : decode cX7_worst 80 = .ok (.goto 5, 3) := by decide +kernel
theorem dX7_worst_83 : decode cX7_worst 83 = .ok (.iload 4, 2) := by decide +kernel
theorem dX7_worst_85 : decode cX7_worst 85 = .ok (.istore 4, 2) := by decide +kernel
theorem dX7_worst_87 : decode cX7_worst 87 = .ok (.iinc 6 1, 3) := by decide +kernel
theorem dX7_worst_90 : decode cX7_worst 90 = .ok (.goto (-56), 3) := by decide +kernel
theorem dX7_worst_93 : decode cX7_worst 93 = .ok (.iinc 5 1, 3) := by decide +kernel
theorem dX7_worst_96 : decode cX7_worst 96 = .ok (.goto (-71), 3) := by decide +kernel
theorem dX7_worst_99 : decode cX7_worst 99 = .ok (.iload 4, 2) := by decide +kernel
theorem dX7_worst_101 : decode cX7_worst 101 = .ok (.ireturn, 1) := by decide +kernel
theorem dX7_meets_0 : decode cX7_meets 0 = .ok (.aload_n 0, 1) := by decide +kernel
theorem dX7_meets_1 : decode cX7_meets 1 = .ok (.iload_n 1, 1) := by decide +kernel
theorem dX7_meets_2 : decode cX7_meets 2 = .ok (.putfield 149, 3) := by decide +kernel
theorem dX7_meets_5 : decode cX7_meets 5 = .ok (.bipush (-10), 2) := by decide +kernel
theorem dX7_meets_7 : decode cX7_meets 7 = .ok (.iload_n 1, 1) := by decide +kernel
theorem dX7_meets_8 : decode cX7_meets 8 = .ok (.isub, 1) := by decide +kernel
theorem dX7_meets_9 : decode cX7_meets 9 = .ok (.ireturn, 1) := by decide +kernel
set_option maxRecDepth 20000 in
theorem ggX7_isReel_X7_in : GoodIn wsX7_isReel wsX7_in := goodIn_r _ [4] (by decide +kernel) (by decide +kernel)
set_option maxRecDepth 20000 in
theorem gX7_isReel_X7_in : GoodIn wsX7_isReel (va_wsS RX7 51 yX7_in wsX7_in) := goodIn_app (goodIn_of _ (by decide +kernel)) ggX7_isReel_X7_in
theorem dX7_isReel_0 : decode cX7_isReel 0 = .ok (.iload_n 0, 1) := by decide +kernel
theorem dX7_isReel_1 : decode cX7_isReel 1 = .ok (.iconst 0, 1) := by decide +kernel
theorem dX7_isReel_2 : decode cX7_isReel 2 = .ok (.iconst 3, 1) := by decide +kernel
theorem dX7_isReel_3 : decode cX7_isReel 3 = .ok (.invokestatic 51, 3) := by decide +kernel
theorem dX7_isReel_6 : decode cX7_isReel 6 = .ok (.ireturn, 1) := by decide +kernel
set_option maxRecDepth 20000 in
theorem ggX7_reel_X7_isReel : GoodIn wsX7_reel wsX7_isReel := goodIn_r _ [8, 9, 10, 7, 11] (by decide +kernel) (by decide +kernel)
set_option maxRecDepth 20000 in
theorem gX7_reel_X7_isReel : GoodIn wsX7_reel (va_wsS RX7 84 yX7_isReel wsX7_isReel) := goodIn_app (goodIn_of _ (by decide +kernel)) ggX7_reel_X7_isReel
set_option maxRecDepth 20000 in
theorem ggX7_reel_X7_in : GoodIn wsX7_reel wsX7_in := goodIn_r _ [11] (by decide +kernel) (by decide +kernel)
set_option maxRecDepth 20000 in
theorem gX7_reel_X7_in : GoodIn wsX7_reel (va_wsS RX7 51 yX7_in wsX7_in) := goodIn_app (goodIn_of _ (by decide +kernel)) ggX7_reel_X7_in
set_option maxRecDepth 20000 in
theorem ggX7_reel_X7_meets : GoodIn wsX7_reel wsX7_meets := goodIn_r _ [15, 16, 17, 18, 19, 20, 21, 22, 23, 24, 25, 26, 27, 28, 29, 30, 31, 32, 33, 34, 35] (by decide +kernel) (by decide +kernel)
set_option maxRecDepth 20000 in
theorem gX7_reel_X7_meets : GoodIn wsX7_reel (wsV RX7 87 RX7 yX7_meets wsX7_meets) := goodIn_app (goodIn_of _ (by decide +kernel)) ggX7_reel_X7_meets
theorem dX7_reel_0 : decode cX7_reel 0 = .ok (.iload_n 1, 1) := by decide +kernel
theorem dX7_reel_1 : decode cX7_reel 1 = .ok (.invokestatic 84, 3) := by decide +kernel
theorem dX7_reel_4 : decode cX7_reel 4 = .ok (.ifCond .eq 19, 3) := by decide +kernel
theorem dX7_reel_7 : decode cX7_reel 7 = .ok (.iload_n 2, 1) := by decide +kernel
theorem dX7_reel_8 : decode cX7_reel 8 = .ok (.iconst 0, 1) := by decide +kernel
theorem dX7_reel_9 : decode cX7_reel 9 = .ok (.iconst 2, 1) := by decide +kernel
theorem dX7_reel_10 : decode cX7_reel 10 = .ok (.invokestatic 51, 3) := by decide +kernel
theorem dX7_reel_13 : decode cX7_reel 13 = .ok (.ifCond .eq 10, 3) := by decide +kernel
theorem dX7_reel_16 : decode cX7_reel 16 = .ok (.iload_n 3, 1) := by decide +kernel
theorem dX7_reel_17 : decode cX7_reel 17 = .ok (.sipush 300, 3) := by decide +kernel
theorem dX7_reel_20 : decode cX7_reel 20 = .ok (.if_icmp .le 6, 3) := by decide +kernel
theorem dX7_reel_23 : decode cX7_reel 23 = .ok (.bipush (-2), 2) := by decide +kernel
theorem dX7_reel_25 : decode cX7_reel 25 = .ok (.ireturn, 1) := by decide +kernel
theorem dX7_reel_26 : decode cX7_reel 26 = .ok (.iload_n 3, 1) := by decide +kernel
theorem dX7_reel_27 : decode cX7_reel 27 = .ok (.ifCond .ge 9, 3) := by decide +kernel
theorem dX7_reel_30 : decode cX7_reel 30 = .ok (.aload_n 0, 1) := by decide +kernel
theorem dX7_reel_31 : decode cX7_reel 31 = .ok (.iconst 5, 1) := by decide +kernel
theorem dX7_reel_32 : decode cX7_reel 32 = .ok (.invokevirtual 87, 3) := by decide +kernel
theorem dX7_reel_35 : decode cX7_reel 35 = .ok (.ireturn, 1) := by decide +kernel
theorem dX7_reel_36 : decode cX7_reel 36 = .ok (.aload_n 0, 1) := by decide +kernel
theorem dX7_reel_37 : decode cX7_reel 37 = .ok (.getfield 35, 3) := by decide +kernel
theorem dX7_reel_40 : decode cX7_reel 40 = .ok (.iload_n 1, 1) := by decide +kernel
