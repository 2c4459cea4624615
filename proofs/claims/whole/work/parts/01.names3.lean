theorem dX9_init_175 : decode cX9_init 175 = .ok (.dup, 1) := by decide +kernel
theorem dX9_init_176 : decode cX9_init 176 = .ok (.iconst 1, 1) := by decide +kernel
theorem dX9_init_177 : decode cX9_init 177 = .ok (.iconst (-1), 1) := by decide +kernel
theorem dX9_init_178 : decode cX9_init 178 = .ok (.iastore, 1) := by decide +kernel
theorem dX9_init_179 : decode cX9_init 179 = .ok (.dup, 1) := by decide +kernel
theorem dX9_init_180 : decode cX9_init 180 = .ok (.iconst 2, 1) := by decide +kernel
theorem dX9_init_181 : decode cX9_init 181 = .ok (.iconst (-1), 1) := by decide +kernel
theorem dX9_init_182 : decode cX9_init 182 = .ok (.iastore, 1) := by decide +kernel
theorem dX9_init_183 : decode cX9_init 183 = .ok (.dup, 1) := by decide +kernel
theorem dX9_init_184 : decode cX9_init 184 = .ok (.iconst 3, 1) := by decide +kernel
theorem dX9_init_185 : decode cX9_init 185 = .ok (.iconst (-1), 1) := by decide +kernel
theorem dX9_init_186 : decode cX9_init 186 = .ok (.iastore, 1) := by decide +kernel
theorem dX9_init_187 : decode cX9_init 187 = .ok (.putfield 65, 3) := by decide +kernel
theorem dX9_init_190 : decode cX9_init 190 = .ok (.aload_n 0, 1) := by decide +kernel
theorem dX9_init_191 : decode cX9_init 191 = .ok (.iconst 4, 1) := by decide +kernel
theorem dX9_init_192 : decode cX9_init 192 = .ok (.newarray .int, 2) := by decide +kernel
theorem dX9_init_194 : decode cX9_init 194 = .ok (.putfield 68, 3) := by decide +kernel
theorem dX9_init_197 : decode cX9_init 197 = .ok (.aload_n 0, 1) := by decide +kernel
theorem dX9_init_198 : decode cX9_init 198 = .ok (.sipush 240, 3) := by decide +kernel
theorem dX9_init_201 : decode cX9_init 201 = .ok (.newarray .long, 2) := by decide +kernel
theorem dX9_init_203 : decode cX9_init 203 = .ok (.putfield 71, 3) := by decide +kernel
theorem dX9_init_206 : decode cX9_init 206 = .ok (.aload_n 0, 1) := by decide +kernel
theorem dX9_init_207 : decode cX9_init 207 = .ok (.sipush 240, 3) := by decide +kernel
theorem dX9_init_210 : decode cX9_init 210 = .ok (.newarray .float, 2) := by decide +kernel
theorem dX9_init_212 : decode cX9_init 212 = .ok (.putfield 74, 3) := by decide +kernel
theorem dX9_init_215 : decode cX9_init 215 = .ok (.aload_n 0, 1) := by decide +kernel
theorem dX9_init_216 : decode cX9_init 216 = .ok (.sipush 240, 3) := by decide +kernel
theorem dX9_init_219 : decode cX9_init 219 = .ok (.newarray .double, 2) := by decide +kernel
theorem dX9_init_221 : decode cX9_init 221 = .ok (.putfield 78, 3) := by decide +kernel
theorem dX9_init_224 : decode cX9_init 224 = .ok (.return_, 1) := by decide +kernel
theorem dX9_in_0 : decode cX9_in 0 = .ok (.lload_n 0, 1) := by decide +kernel
theorem dX9_in_1 : decode cX9_in 1 = .ok (.lload_n 2, 1) := by decide +kernel
theorem dX9_in_2 : decode cX9_in 2 = .ok (.lcmp, 1) := by decide +kernel
theorem dX9_in_3 : decode cX9_in 3 = .ok (.ifCond .lt 14, 3) := by decide +kernel
theorem dX9_in_6 : decode cX9_in 6 = .ok (.lload_n 0, 1) := by decide +kernel
theorem dX9_in_7 : decode cX9_in 7 = .ok (.lload 4, 2) := by decide +kernel
theorem dX9_in_9 : decode cX9_in 9 = .ok (.lcmp, 1) := by decide +kernel
theorem dX9_in_10 : decode cX9_in 10 = .ok (.ifCond .gt 7, 3) := by decide +kernel
theorem dX9_in_13 : decode cX9_in 13 = .ok (.iconst 1, 1) := by decide +kernel
theorem dX9_in_14 : decode cX9_in 14 = .ok (.goto 4, 3) := by decide +kernel
theorem dX9_in_17 : decode cX9_in 17 = .ok (.iconst 0, 1) := by decide +kernel
theorem dX9_in_18 : decode cX9_in 18 = .ok (.ireturn, 1) := by decide +kernel
theorem dX9_has_0 : decode cX9_has 0 = .ok (.lload_n 0, 1) := by decide +kernel
theorem dX9_has_1 : decode cX9_has 1 = .ok (.iload_n 2, 1) := by decide +kernel
theorem dX9_has_2 : decode cX9_has 2 = .ok (.lushr, 1) := by decide +kernel
theorem dX9_has_3 : decode cX9_has 3 = .ok (.lconst 1, 1) := by decide +kernel
theorem dX9_has_4 : decode cX9_has 4 = .ok (.land, 1) := by decide +kernel
theorem dX9_has_5 : decode cX9_has 5 = .ok (.lconst 1, 1) := by decide +kernel
theorem dX9_has_6 : decode cX9_has 6 = .ok (.lcmp, 1) := by decide +kernel
theorem dX9_has_7 : decode cX9_has 7 = .ok (.ifCond .ne 7, 3) := by decide +kernel
theorem dX9_has_10 : decode cX9_has 10 = .ok (.iconst 1, 1) := by decide +kernel
theorem dX9_has_11 : decode cX9_has 11 = .ok (.goto 4, 3) := by decide +kernel
theorem dX9_has_14 : decode cX9_has 14 = .ok (.iconst 0, 1) := by decide +kernel
theorem dX9_has_15 : decode cX9_has 15 = .ok (.ireturn, 1) := by decide +kernel
theorem dX9_told_0 : decode cX9_told 0 = .ok (.ldc2_w 82, 3) := by decide +kernel
theorem dX9_told_3 : decode cX9_told 3 = .ok (.iload_n 0, 1) := by decide +kernel
theorem dX9_told_4 : decode cX9_told 4 = .ok (.i2l, 1) := by decide +kernel
theorem dX9_told_5 : decode cX9_told 5 = .ok (.ladd, 1) := by decide +kernel
theorem dX9_told_6 : decode cX9_told 6 = .ok (.lreturn, 1) := by decide +kernel
theorem dX9_plus_0 : decode cX9_plus 0 = .ok (.lload_n 0, 1) := by decide +kernel
theorem dX9_plus_1 : decode cX9_plus 1 = .ok (.lconst 0, 1) := by decide +kernel
theorem dX9_plus_2 : decode cX9_plus 2 = .ok (.lcmp, 1) := by decide +kernel
theorem dX9_plus_3 : decode cX9_plus 3 = .ok (.ifCond .lt 17, 3) := by decide +kernel
theorem dX9_plus_6 : decode cX9_plus 6 = .ok (.lload_n 2, 1) := by decide +kernel
theorem dX9_plus_7 : decode cX9_plus 7 = .ok (.lconst 0, 1) := by decide +kernel
theorem dX9_plus_8 : decode cX9_plus 8 = .ok (.lcmp, 1) := by decide +kernel
theorem dX9_plus_9 : decode cX9_plus 9 = .ok (.ifCond .lt 11, 3) := by decide +kernel
theorem dX9_plus_12 : decode cX9_plus 12 = .ok (.lload_n 0, 1) := by decide +kernel
theorem dX9_plus_13 : decode cX9_plus 13 = .ok (.lload_n 2, 1) := by decide +kernel
theorem dX9_plus_14 : decode cX9_plus 14 = .ok (.ladd, 1) := by decide +kernel
theorem dX9_plus_15 : decode cX9_plus 15 = .ok (.lconst 0, 1) := by decide +kernel
theorem dX9_plus_16 : decode cX9_plus 16 = .ok (.lcmp, 1) := by decide +kernel
theorem dX9_plus_17 : decode cX9_plus 17 = .ok (.ifCond .ge 9, 3) := by decide +kernel
theorem dX9_plus_20 : decode cX9_plus 20 = .ok (.ldc2_w 84, 3) := by decide +kernel
theorem dX9_plus_23 : decode cX9_plus 23 = .ok (.goto 6, 3) := by decide +kernel
theorem dX9_plus_26 : decode cX9_plus 26 = .ok (.lload_n 0, 1) := by decide +kernel
theorem dX9_plus_27 : decode cX9_plus 27 = .ok (.lload_n 2, 1) := by decide +kernel
theorem dX9_plus_28 : decode cX9_plus 28 = .ok (.ladd, 1) := by decide +kernel
theorem dX9_plus_29 : decode cX9_plus 29 = .ok (.lreturn, 1) := by decide +kernel
theorem dX9_times_0 : decode cX9_times 0 = .ok (.lload_n 0, 1) := by decide +kernel
theorem dX9_times_1 : decode cX9_times 1 = .ok (.lconst 0, 1) := by decide +kernel
theorem dX9_times_2 : decode cX9_times 2 = .ok (.lcmp, 1) := by decide +kernel
theorem dX9_times_3 : decode cX9_times 3 = .ok (.ifCond .eq 9, 3) := by decide +kernel
theorem dX9_times_6 : decode cX9_times 6 = .ok (.lload_n 2, 1) := by decide +kernel
theorem dX9_times_7 : decode cX9_times 7 = .ok (.lconst 0, 1) := by decide +kernel
theorem dX9_times_8 : decode cX9_times 8 = .ok (.lcmp, 1) := by decide +kernel
theorem dX9_times_9 : decode cX9_times 9 = .ok (.ifCond .ne 5, 3) := by decide +kernel
theorem dX9_times_12 : decode cX9_times 12 = .ok (.lconst 0, 1) := by decide +kernel
theorem dX9_times_13 : decode cX9_times 13 = .ok (.lreturn, 1) := by decide +kernel
theorem dX9_times_14 : decode cX9_times 14 = .ok (.lload_n 0, 1) := by decide +kernel
theorem dX9_times_15 : decode cX9_times 15 = .ok (.lconst 0, 1) := by decide +kernel
theorem dX9_times_16 : decode cX9_times 16 = .ok (.lcmp, 1) := by decide +kernel
theorem dX9_times_17 : decode cX9_times 17 = .ok (.ifCond .lt 19, 3) := by decide +kernel
theorem dX9_times_20 : decode cX9_times 20 = .ok (.lload_n 2, 1) := by decide +kernel
theorem dX9_times_21 : decode cX9_times 21 = .ok (.lconst 0, 1) := by decide +kernel
theorem dX9_times_22 : decode cX9_times 22 = .ok (.lcmp, 1) := by decide +kernel
theorem dX9_times_23 : decode cX9_times 23 = .ok (.ifCond .lt 13, 3) := by decide +kernel
theorem dX9_times_26 : decode cX9_times 26 = .ok (.lload_n 0, 1) := by decide +kernel
theorem dX9_times_27 : decode cX9_times 27 = .ok (.ldc2_w 86, 3) := by decide +kernel
theorem dX9_times_30 : decode cX9_times 30 = .ok (.lload_n 2, 1) := by decide +kernel
theorem dX9_times_31 : decode cX9_times 31 = .ok (.ldiv, 1) := by decide +kernel
theorem dX9_times_32 : decode cX9_times 32 = .ok (.lcmp, 1) := by decide +kernel
theorem dX9_times_33 : decode cX9_times 33 = .ok (.ifCond .le 9, 3) := by decide +kernel
theorem dX9_times_36 : decode cX9_times 36 = .ok (.ldc2_w 84, 3) := by decide +kernel
theorem dX9_times_39 : decode cX9_times 39 = .ok (.goto 6, 3) := by decide +kernel
theorem dX9_times_42 : decode cX9_times 42 = .ok (.lload_n 0, 1) := by decide +kernel
theorem dX9_times_43 : decode cX9_times 43 = .ok (.lload_n 2, 1) := by decide +kernel
theorem dX9_times_44 : decode cX9_times 44 = .ok (.lmul, 1) := by decide +kernel
theorem dX9_times_45 : decode cX9_times 45 = .ok (.lreturn, 1) := by decide +kernel
theorem dX9_divisor_0 : decode cX9_divisor 0 = .ok (.lload_n 0, 1) := by decide +kernel
theorem dX9_divisor_1 : decode cX9_divisor 1 = .ok (.lstore 4, 2) := by decide +kernel
theorem dX9_divisor_3 : decode cX9_divisor 3 = .ok (.lload_n 2, 1) := by decide +kernel
theorem dX9_divisor_4 : decode cX9_divisor 4 = .ok (.lstore 6, 2) := by decide +kernel
theorem dX9_divisor_6 : decode cX9_divisor 6 = .ok (.lload 6, 2) := by decide +kernel
theorem dX9_divisor_8 : decode cX9_divisor 8 = .ok (.lconst 0, 1) := by decide +kernel
theorem dX9_divisor_9 : decode cX9_divisor 9 = .ok (.lcmp, 1) := by decide +kernel
theorem dX9_divisor_10 : decode cX9_divisor 10 = .ok (.ifCond .eq 21, 3) := by decide +kernel
theorem dX9_divisor_13 : decode cX9_divisor 13 = .ok (.lload 4, 2) := by decide +kernel
theorem dX9_divisor_15 : decode cX9_divisor 15 = .ok (.lload 6, 2) := by decide +kernel
theorem dX9_divisor_17 : decode cX9_divisor 17 = .ok (.lrem, 1) := by decide +kernel
theorem dX9_divisor_18 : decode cX9_divisor 18 = .ok (.lstore 8, 2) := by decide +kernel
theorem dX9_divisor_20 : decode cX9_divisor 20 = .ok (.lload 6, 2) := by decide +kernel
theorem dX9_divisor_22 : decode cX9_divisor 22 = .ok (.lstore 4, 2) := by decide +kernel
theorem dX9_divisor_24 : decode cX9_divisor 24 = .ok (.lload 8, 2) := by decide +kernel
theorem dX9_divisor_26 : decode cX9_divisor 26 = .ok (.lstore 6, 2) := by decide +kernel
theorem dX9_divisor_28 : decode cX9_divisor 28 = .ok (.goto (-22), 3) := by decide +kernel
theorem dX9_divisor_31 : decode cX9_divisor 31 = .ok (.lload 4, 2) := by decide +kernel
theorem dX9_divisor_33 : decode cX9_divisor 33 = .ok (.lreturn, 1) := by decide +kernel
set_option maxRecDepth 20000 in
theorem ggX9_lowest_X9_divisor : GoodIn wsX9_lowest wsX9_divisor := goodIn_r _ [4] (by decide +kernel) (by decide +kernel)
set_option maxRecDepth 20000 in
theorem gX9_lowest_X9_divisor : GoodIn wsX9_lowest (va_wsS RX9 88 yX9_divisor wsX9_divisor) := goodIn_app (goodIn_of _ (by decide +kernel)) ggX9_lowest_X9_divisor
theorem dX9_lowest_0 : decode cX9_lowest 0 = .ok (.lload_n 0, 1) := by decide +kernel
theorem dX9_lowest_1 : decode cX9_lowest 1 = .ok (.lload_n 2, 1) := by decide +kernel
theorem dX9_lowest_2 : decode cX9_lowest 2 = .ok (.invokestatic 88, 3) := by decide +kernel
theorem dX9_lowest_5 : decode cX9_lowest 5 = .ok (.lstore 5, 2) := by decide +kernel
theorem dX9_lowest_7 : decode cX9_lowest 7 = .ok (.iload 4, 2) := by decide +kernel
theorem dX9_lowest_9 : decode cX9_lowest 9 = .ok (.ifCond .ne 7, 3) := by decide +kernel
theorem dX9_lowest_12 : decode cX9_lowest 12 = .ok (.lload_n 0, 1) := by decide +kernel
theorem dX9_lowest_13 : decode cX9_lowest 13 = .ok (.goto 4, 3) := by decide +kernel
theorem dX9_lowest_16 : decode cX9_lowest 16 = .ok (.lload_n 2, 1) := by decide +kernel
theorem dX9_lowest_17 : decode cX9_lowest 17 = .ok (.lload 5, 2) := by decide +kernel
theorem dX9_lowest_19 : decode cX9_lowest 19 = .ok (.ldiv, 1) := by decide +kernel
theorem dX9_lowest_20 : decode cX9_lowest 20 = .ok (.lreturn, 1) := by decide +kernel
set_option maxRecDepth 20000 in
theorem ggX9_isPoint_X9_in : GoodIn wsX9_isPoint wsX9_in := goodIn_r _ [5] (by decide +kernel) (by decide +kernel)
set_option maxRecDepth 20000 in
theorem gX9_isPoint_X9_in : GoodIn wsX9_isPoint (va_wsS RX9 96 yX9_in wsX9_in) := goodIn_app (goodIn_of _ (by decide +kernel)) ggX9_isPoint_X9_in
theorem dX9_isPoint_0 : decode cX9_isPoint 0 = .ok (.iload_n 1, 1) := by decide +kernel
theorem dX9_isPoint_1 : decode cX9_isPoint 1 = .ok (.i2l, 1) := by decide +kernel
theorem dX9_isPoint_2 : decode cX9_isPoint 2 = .ok (.lconst 0, 1) := by decide +kernel
theorem dX9_isPoint_3 : decode cX9_isPoint 3 = .ok (.aload_n 0, 1) := by decide +kernel
theorem dX9_isPoint_4 : decode cX9_isPoint 4 = .ok (.getfield 92, 3) := by decide +kernel
theorem dX9_isPoint_7 : decode cX9_isPoint 7 = .ok (.iconst 1, 1) := by decide +kernel
theorem dX9_isPoint_8 : decode cX9_isPoint 8 = .ok (.isub, 1) := by decide +kernel
theorem dX9_isPoint_9 : decode cX9_isPoint 9 = .ok (.i2l, 1) := by decide +kernel
theorem dX9_isPoint_10 : decode cX9_isPoint 10 = .ok (.invokestatic 96, 3) := by decide +kernel
theorem dX9_isPoint_13 : decode cX9_isPoint 13 = .ok (.ireturn, 1) := by decide +kernel
set_option maxRecDepth 20000 in
theorem ggX9_isLine_X9_in : GoodIn wsX9_isLine wsX9_in := goodIn_r _ [5] (by decide +kernel) (by decide +kernel)
set_option maxRecDepth 20000 in
theorem gX9_isLine_X9_in : GoodIn wsX9_isLine (va_wsS RX9 96 yX9_in wsX9_in) := goodIn_app (goodIn_of _ (by decide +kernel)) ggX9_isLine_X9_in
theorem dX9_isLine_0 : decode cX9_isLine 0 = .ok (.iload_n 1, 1) := by decide +kernel
theorem dX9_isLine_1 : decode cX9_isLine 1 = .ok (.i2l, 1) := by decide +kernel
theorem dX9_isLine_2 : decode cX9_isLine 2 = .ok (.lconst 0, 1) := by decide +kernel
theorem dX9_isLine_3 : decode cX9_isLine 3 = .ok (.aload_n 0, 1) := by decide +kernel
theorem dX9_isLine_4 : decode cX9_isLine 4 = .ok (.getfield 100, 3) := by decide +kernel
theorem dX9_isLine_7 : decode cX9_isLine 7 = .ok (.iconst 1, 1) := by decide +kernel
theorem dX9_isLine_8 : decode cX9_isLine 8 = .ok (.isub, 1) := by decide +kernel
theorem dX9_isLine_9 : decode cX9_isLine 9 = .ok (.i2l, 1) := by decide +kernel
theorem dX9_isLine_10 : decode cX9_isLine 10 = .ok (.invokestatic 96, 3) := by decide +kernel
theorem dX9_isLine_13 : decode cX9_isLine 13 = .ok (.ireturn, 1) := by decide +kernel
set_option maxRecDepth 20000 in
theorem ggX9_areTwo_X9_isPoint : GoodIn wsX9_areTwo wsX9_isPoint := goodIn_r _ [5, 6, 7, 8, 4, 9, 10, 11, 12, 13, 14, 15, 16, 17, 18, 19, 20, 21, 22, 23, 24, 25, 26, 27, 28, 29, 30, 31, 32, 33, 34, 35, 36, 37, 38, 39, 40, 41, 42, 43, 44, 45, 46] (by decide +kernel) (by decide +kernel)
set_option maxRecDepth 20000 in
theorem gX9_areTwo_X9_isPoint : GoodIn wsX9_areTwo (wsV RX9 103 RX9 yX9_isPoint wsX9_isPoint) := goodIn_app (goodIn_of _ (by decide +kernel)) ggX9_areTwo_X9_isPoint
theorem dX9_areTwo_0 : decode cX9_areTwo 0 = .ok (.aload_n 0, 1) := by decide +kernel
theorem dX9_areTwo_1 : decode cX9_areTwo 1 = .ok (.iload_n 1, 1) := by decide +kernel
theorem dX9_areTwo_2 : decode cX9_areTwo 2 = .ok (.invokevirtual 103, 3) := by decide +kernel
theorem dX9_areTwo_5 : decode cX9_areTwo 5 = .ok (.ifCond .eq 20, 3) := by decide +kernel
theorem dX9_areTwo_8 : decode cX9_areTwo 8 = .ok (.aload_n 0, 1) := by decide +kernel
theorem dX9_areTwo_9 : decode cX9_areTwo 9 = .ok (.iload_n 2, 1) := by decide +kernel
theorem dX9_areTwo_10 : decode cX9_areTwo 10 = .ok (.invokevirtual 103, 3) := by decide +kernel
theorem dX9_areTwo_13 : decode cX9_areTwo 13 = .ok (.ifCond .eq 12, 3) := by decide +kernel
theorem dX9_areTwo_16 : decode cX9_areTwo 16 = .ok (.iload_n 1, 1) := by decide +kernel
theorem dX9_areTwo_17 : decode cX9_areTwo 17 = .ok (.iload_n 2, 1) := by decide +kernel
theorem dX9_areTwo_18 : decode cX9_areTwo 18 = .ok (.if_icmp .eq 7, 3) := by decide +kernel
theorem dX9_areTwo_21 : decode cX9_areTwo 21 = .ok (.iconst 1, 1) := by decide +kernel
theorem dX9_areTwo_22 : decode cX9_areTwo 22 = .ok (.goto 4, 3) := by decide +kernel
theorem dX9_areTwo_25 : decode cX9_areTwo 25 = .ok (.iconst 0, 1) := by decide +kernel
theorem dX9_areTwo_26 : decode cX9_areTwo 26 = .ok (.ireturn, 1) := by decide +kernel
set_option maxRecDepth 20000 in
theorem ggX9_isOut_X9_in : GoodIn wsX9_isOut wsX9_in := goodIn_r _ [5] (by decide +kernel) (by decide +kernel)
set_option maxRecDepth 20000 in
theorem gX9_isOut_X9_in : GoodIn wsX9_isOut (va_wsS RX9 96 yX9_in wsX9_in) := goodIn_app (goodIn_of _ (by decide +kernel)) ggX9_isOut_X9_in
theorem dX9_isOut_0 : decode cX9_isOut 0 = .ok (.iload_n 0, 1) := by decide +kernel
theorem dX9_isOut_1 : decode cX9_isOut 1 = .ok (.i2l, 1) := by decide +kernel
theorem dX9_isOut_2 : decode cX9_isOut 2 = .ok (.lconst 0, 1) := by decide +kernel
theorem dX9_isOut_3 : decode cX9_isOut 3 = .ok (.ldc2_w 107, 3) := by decide +kernel
theorem dX9_isOut_6 : decode cX9_isOut 6 = .ok (.invokestatic 96, 3) := by decide +kernel
theorem dX9_isOut_9 : decode cX9_isOut 9 = .ok (.ireturn, 1) := by decide +kernel
set_option maxRecDepth 20000 in
theorem ggX9_isRate_X9_in : GoodIn wsX9_isRate wsX9_in := goodIn_r _ [5] (by decide +kernel) (by decide +kernel)
set_option maxRecDepth 20000 in
theorem gX9_isRate_X9_in : GoodIn wsX9_isRate (va_wsS RX9 96 yX9_in wsX9_in) := goodIn_app (goodIn_of _ (by decide +kernel)) ggX9_isRate_X9_in
theorem dX9_isRate_0 : decode cX9_isRate 0 = .ok (.iload_n 0, 1) := by decide +kernel
theorem dX9_isRate_1 : decode cX9_isRate 1 = .ok (.i2l, 1) := by decide +kernel
theorem dX9_isRate_2 : decode cX9_isRate 2 = .ok (.lconst 0, 1) := by decide +kernel
theorem dX9_isRate_3 : decode cX9_isRate 3 = .ok (.ldc2_w 109, 3) := by decide +kernel
theorem dX9_isRate_6 : decode cX9_isRate 6 = .ok (.invokestatic 96, 3) := by decide +kernel
theorem dX9_isRate_9 : decode cX9_isRate 9 = .ok (.ireturn, 1) := by decide +kernel
theorem dX9_isPart_0 : decode cX9_isPart 0 = .ok (.iload_n 0, 1) := by decide +kernel
theorem dX9_isPart_1 : decode cX9_isPart 1 = .ok (.ifCond .eq 8, 3) := by decide +kernel
theorem dX9_isPart_4 : decode cX9_isPart 4 = .ok (.iload_n 0, 1) := by decide +kernel
theorem dX9_isPart_5 : decode cX9_isPart 5 = .ok (.iconst 1, 1) := by decide +kernel
theorem dX9_isPart_6 : decode cX9_isPart 6 = .ok (.if_icmp .ne 7, 3) := by decide +kernel
theorem dX9_isPart_9 : decode cX9_isPart 9 = .ok (.iconst 1, 1) := by decide +kernel
theorem dX9_isPart_10 : decode cX9_isPart 10 = .ok (.goto 4, 3) := by decide +kernel
theorem dX9_isPart_13 : decode cX9_isPart 13 = .ok (.iconst 0, 1) := by decide +kernel
theorem dX9_isPart_14 : decode cX9_isPart 14 = .ok (.ireturn, 1) := by decide +kernel
theorem dX9_lineOf_0 : decode cX9_lineOf 0 = .ok (.iconst 0, 1) := by decide +kernel
theorem dX9_lineOf_1 : decode cX9_lineOf 1 = .ok (.istore_n 3, 1) := by decide +kernel
theorem dX9_lineOf_2 : decode cX9_lineOf 2 = .ok (.iload_n 3, 1) := by decide +kernel
theorem dX9_lineOf_3 : decode cX9_lineOf 3 = .ok (.aload_n 0, 1) := by decide +kernel
theorem dX9_lineOf_4 : decode cX9_lineOf 4 = .ok (.getfield 100, 3) := by decide +kernel
theorem dX9_lineOf_7 : decode cX9_lineOf 7 = .ok (.if_icmp .ge 51, 3) := by decide +kernel
theorem dX9_lineOf_10 : decode cX9_lineOf 10 = .ok (.aload_n 0, 1) := by decide +kernel
theorem dX9_lineOf_11 : decode cX9_lineOf 11 = .ok (.getfield 16, 3) := by decide +kernel
theorem dX9_lineOf_14 : decode cX9_lineOf 14 = .ok (.iload_n 3, 1) := by decide +kernel
theorem dX9_lineOf_15 : decode cX9_lineOf 15 = .ok (.iaload, 1) := by decide +kernel
theorem dX9_lineOf_16 : decode cX9_lineOf 16 = .ok (.iload_n 1, 1) := by decide +kernel
theorem dX9_lineOf_17 : decode cX9_lineOf 17 = .ok (.if_icmp .ne 13, 3) := by decide +kernel
theorem dX9_lineOf_20 : decode cX9_lineOf 20 = .ok (.aload_n 0, 1) := by decide +kernel
theorem dX9_lineOf_21 : decode cX9_lineOf 21 = .ok (.getfield 19, 3) := by decide +kernel
theorem dX9_lineOf_24 : decode cX9_lineOf 24 = .ok (.iload_n 3, 1) := by decide +kernel
theorem dX9_lineOf_25 : decode cX9_lineOf 25 = .ok (.iaload, 1) := by decide +kernel
theorem dX9_lineOf_26 : decode cX9_lineOf 26 = .ok (.iload_n 2, 1) := by decide +kernel
theorem dX9_lineOf_27 : decode cX9_lineOf 27 = .ok (.if_icmp .eq 23, 3) := by decide +kernel
theorem dX9_lineOf_30 : decode cX9_lineOf 30 = .ok (.aload_n 0, 1) := by decide +kernel
theorem dX9_lineOf_31 : decode cX9_lineOf 31 = .ok (.getfield 16, 3) := by decide +kernel
theorem dX9_lineOf_34 : decode cX9_lineOf 34 = .ok (.iload_n 3, 1) := by decide +kernel
theorem dX9_lineOf_35 : decode cX9_lineOf 35 = .ok (.iaload, 1) := by decide +kernel
theorem dX9_lineOf_36 : decode cX9_lineOf 36 = .ok (.iload_n 2, 1) := by decide +kernel
theorem dX9_lineOf_37 : decode cX9_lineOf 37 = .ok (.if_icmp .ne 15, 3) := by decide +kernel
theorem dX9_lineOf_40 : decode cX9_lineOf 40 = .ok (.aload_n 0, 1) := by decide +kernel
theorem dX9_lineOf_41 : decode cX9_lineOf 41 = .ok (.getfield 19, 3) := by decide +kernel
theorem dX9_lineOf_44 : decode cX9_lineOf 44 = .ok (.iload_n 3, 1) := by decide +kernel
theorem dX9_lineOf_45 : decode cX9_lineOf 45 = .ok (.iaload, 1) := by decide +kernel
theorem dX9_lineOf_46 : decode cX9_lineOf 46 = .ok (.iload_n 1, 1) := by decide +kernel
theorem dX9_lineOf_47 : decode cX9_lineOf 47 = .ok (.if_icmp .ne 5, 3) := by decide +kernel
theorem dX9_lineOf_50 : decode cX9_lineOf 50 = .ok (.iload_n 3, 1) := by decide +kernel
theorem dX9_lineOf_51 : decode cX9_lineOf 51 = .ok (.ireturn, 1) := by decide +kernel
theorem dX9_lineOf_52 : decode cX9_lineOf 52 = .ok (.iinc 3 1, 3) := by decide +kernel
theorem dX9_lineOf_55 : decode cX9_lineOf 55 = .ok (.goto (-53), 3) := by decide +kernel
theorem dX9_lineOf_58 : decode cX9_lineOf 58 = .ok (.iconst (-1), 1) := by decide +kernel
theorem dX9_lineOf_59 : decode cX9_lineOf 59 = .ok (.ireturn, 1) := by decide +kernel
theorem dX9_weighs_0 : decode cX9_weighs 0 = .ok (.iload_n 2, 1) := by decide +kernel
theorem dX9_weighs_1 : decode cX9_weighs 1 = .ok (.aload_n 0, 1) := by decide +kernel
theorem dX9_weighs_2 : decode cX9_weighs 2 = .ok (.getfield 111, 3) := by decide +kernel
theorem dX9_weighs_5 : decode cX9_weighs 5 = .ok (.if_icmp .le 12, 3) := by decide +kernel
theorem dX9_weighs_8 : decode cX9_weighs 8 = .ok (.iload_n 2, 1) := by decide +kernel
theorem dX9_weighs_9 : decode cX9_weighs 9 = .ok (.aload_n 0, 1) := by decide +kernel
theorem dX9_weighs_10 : decode cX9_weighs 10 = .ok (.getfield 111, 3) := by decide +kernel
theorem dX9_weighs_13 : decode cX9_weighs 13 = .ok (.isub, 1) := by decide +kernel
theorem dX9_weighs_14 : decode cX9_weighs 14 = .ok (.goto 4, 3) := by decide +kernel
theorem dX9_weighs_17 : decode cX9_weighs 17 = .ok (.iconst 0, 1) := by decide +kernel
theorem dX9_weighs_18 : decode cX9_weighs 18 = .ok (.istore_n 3, 1) := by decide +kernel
theorem dX9_weighs_19 : decode cX9_weighs 19 = .ok (.iload_n 1, 1) := by decide +kernel
theorem dX9_weighs_20 : decode cX9_weighs 20 = .ok (.tableswitch 70 1 5 #[36, 40, 42, 51, 55], 36) := by decide +kernel
theorem dX9_weighs_56 : decode cX9_weighs 56 = .ok (.iconst 2, 1) := by decide +kernel
theorem dX9_weighs_57 : decode cX9_weighs 57 = .ok (.iload_n 2, 1) := by decide +kernel
theorem dX9_weighs_58 : decode cX9_weighs 58 = .ok (.imul, 1) := by decide +kernel
theorem dX9_weighs_59 : decode cX9_weighs 59 = .ok (.ireturn, 1) := by decide +kernel
theorem dX9_weighs_60 : decode cX9_weighs 60 = .ok (.iload_n 3, 1) := by decide +kernel
theorem dX9_weighs_61 : decode cX9_weighs 61 = .ok (.ireturn, 1) := by decide +kernel
theorem dX9_weighs_62 : decode cX9_weighs 62 = .ok (.iconst 2, 1) := by decide +kernel
theorem dX9_weighs_63 : decode cX9_weighs 63 = .ok (.iload_n 2, 1) := by decide +kernel
theorem dX9_weighs_64 : decode cX9_weighs 64 = .ok (.imul, 1) := by decide +kernel
theorem dX9_weighs_65 : decode cX9_weighs 65 = .ok (.aload_n 0, 1) := by decide +kernel
theorem dX9_weighs_66 : decode cX9_weighs 66 = .ok (.getfield 111, 3) := by decide +kernel
theorem dX9_weighs_69 : decode cX9_weighs 69 = .ok (.iadd, 1) := by decide +kernel
theorem dX9_weighs_70 : decode cX9_weighs 70 = .ok (.ireturn, 1) := by decide +kernel
theorem dX9_weighs_71 : decode cX9_weighs 71 = .ok (.iload_n 3, 1) := by decide +kernel
theorem dX9_weighs_72 : decode cX9_weighs 72 = .ok (.iconst 2, 1) := by decide +kernel
theorem dX9_weighs_73 : decode cX9_weighs 73 = .ok (.idiv, 1) := by decide +kernel
theorem dX9_weighs_74 : decode cX9_weighs 74 = .ok (.ireturn, 1) := by decide +kernel
theorem dX9_weighs_75 : decode cX9_weighs 75 = .ok (.aload_n 0, 1) := by decide +kernel
theorem dX9_weighs_76 : decode cX9_weighs 76 = .ok (.getfield 111, 3) := by decide +kernel
theorem dX9_weighs_79 : decode cX9_weighs 79 = .ok (.iconst 2, 1) := by decide +kernel
theorem dX9_weighs_80 : decode cX9_weighs 80 = .ok (.irem, 1) := by decide +kernel
theorem dX9_weighs_81 : decode cX9_weighs 81 = .ok (.ifCond .ne 7, 3) := by decide +kernel
theorem dX9_weighs_84 : decode cX9_weighs 84 = .ok (.iload_n 2, 1) := by decide +kernel
theorem dX9_weighs_85 : decode cX9_weighs 85 = .ok (.goto 4, 3) := by decide +kernel
theorem dX9_weighs_88 : decode cX9_weighs 88 = .ok (.iconst 1, 1) := by decide +kernel
theorem dX9_weighs_89 : decode cX9_weighs 89 = .ok (.ireturn, 1) := by decide +kernel
theorem dX9_weighs_90 : decode cX9_weighs 90 = .ok (.iload_n 2, 1) := by decide +kernel
theorem dX9_weighs_91 : decode cX9_weighs 91 = .ok (.ireturn, 1) := by decide +kernel
set_option maxRecDepth 20000 in
theorem ggX9_weight_X9_weighs : GoodIn wsX9_weight wsX9_weighs := goodIn_r _ [7, 8, 9, 10, 11, 12, 13, 14, 15, 16, 17, 18, 19, 20, 21, 22, 23, 24, 25, 26, 27, 28, 29, 30, 31, 32, 33, 34, 35, 36, 37, 38, 39, 40, 41, 42, 43, 44, 45] (by decide +kernel) (by decide +kernel)
set_option maxRecDepth 20000 in
theorem gX9_weight_X9_weighs : GoodIn wsX9_weight (wsV RX9 114 RX9 yX9_weighs wsX9_weighs) := goodIn_app (goodIn_of _ (by decide +kernel)) ggX9_weight_X9_weighs
theorem dX9_weight_0 : decode cX9_weight 0 = .ok (.aload_n 0, 1) := by decide +kernel
theorem dX9_weight_1 : decode cX9_weight 1 = .ok (.aload_n 0, 1) := by decide +kernel
theorem dX9_weight_2 : decode cX9_weight 2 = .ok (.getfield 9, 3) := by decide +kernel
theorem dX9_weight_5 : decode cX9_weight 5 = .ok (.iload_n 1, 1) := by decide +kernel
theorem dX9_weight_6 : decode cX9_weight 6 = .ok (.iaload, 1) := by decide +kernel
theorem dX9_weight_7 : decode cX9_weight 7 = .ok (.aload_n 0, 1) := by decide +kernel
theorem dX9_weight_8 : decode cX9_weight 8 = .ok (.getfield 13, 3) := by decide +kernel
theorem dX9_weight_11 : decode cX9_weight 11 = .ok (.iload_n 1, 1) := by decide +kernel
theorem dX9_weight_12 : decode cX9_weight 12 = .ok (.iaload, 1) := by decide +kernel
theorem dX9_weight_13 : decode cX9_weight 13 = .ok (.invokevirtual 114, 3) := by decide +kernel
theorem dX9_weight_16 : decode cX9_weight 16 = .ok (.ireturn, 1) := by decide +kernel
set_option maxRecDepth 20000 in
theorem ggX9_points_X9_in : GoodIn wsX9_points wsX9_in := goodIn_r _ [7] (by decide +kernel) (by decide +kernel)
set_option maxRecDepth 20000 in
theorem gX9_points_X9_in : GoodIn wsX9_points (va_wsS RX9 96 yX9_in wsX9_in) := goodIn_app (goodIn_of _ (by decide +kernel)) ggX9_points_X9_in
theorem dX9_points_0 : decode cX9_points 0 = .ok (.iload_n 1, 1) := by decide +kernel
theorem dX9_points_1 : decode cX9_points 1 = .ok (.i2l, 1) := by decide +kernel
theorem dX9_points_2 : decode cX9_points 2 = .ok (.lconst 0, 1) := by decide +kernel
theorem dX9_points_3 : decode cX9_points 3 = .ok (.ldc2_w 118, 3) := by decide +kernel
theorem dX9_points_6 : decode cX9_points 6 = .ok (.invokestatic 96, 3) := by decide +kernel
theorem dX9_points_9 : decode cX9_points 9 = .ok (.ifCond .ne 6, 3) := by decide +kernel
theorem dX9_points_12 : decode cX9_points 12 = .ok (.bipush (-2), 2) := by decide +kernel
theorem dX9_points_14 : decode cX9_points 14 = .ok (.ireturn, 1) := by decide +kernel
theorem dX9_points_15 : decode cX9_points 15 = .ok (.aload_n 0, 1) := by decide +kernel
theorem dX9_points_16 : decode cX9_points 16 = .ok (.getfield 92, 3) := by decide +kernel
theorem dX9_points_19 : decode cX9_points 19 = .ok (.istore_n 2, 1) := by decide +kernel
theorem dX9_points_20 : decode cX9_points 20 = .ok (.aload_n 0, 1) := by decide +kernel
theorem dX9_points_21 : decode cX9_points 21 = .ok (.iload_n 1, 1) := by decide +kernel
theorem dX9_points_22 : decode cX9_points 22 = .ok (.putfield 92, 3) := by decide +kernel
theorem dX9_points_25 : decode cX9_points 25 = .ok (.aload_n 0, 1) := by decide +kernel
theorem dX9_points_26 : decode cX9_points 26 = .ok (.iconst 0, 1) := by decide +kernel
theorem dX9_points_27 : decode cX9_points 27 = .ok (.putfield 100, 3) := by decide +kernel
theorem dX9_points_30 : decode cX9_points 30 = .ok (.iload_n 2, 1) := by decide +kernel
theorem dX9_points_31 : decode cX9_points 31 = .ok (.ireturn, 1) := by decide +kernel
set_option maxRecDepth 20000 in
theorem ggX9_line_X9_in : GoodIn wsX9_line wsX9_in := goodIn_r _ [11] (by decide +kernel) (by decide +kernel)
set_option maxRecDepth 20000 in
theorem gX9_line_X9_in : GoodIn wsX9_line (va_wsS RX9 96 yX9_in wsX9_in) := goodIn_app (goodIn_of _ (by decide +kernel)) ggX9_line_X9_in
set_option maxRecDepth 20000 in
theorem ggX9_line_X9_areTwo : GoodIn wsX9_line wsX9_areTwo := goodIn_r _ [15, 16, 17, 18, 10, 19, 20, 8, 9, 11, 25, 26, 27, 28, 29, 30, 31, 32, 33, 34, 35, 36, 37, 38, 39, 40, 41, 42, 43, 44, 45, 46, 47, 48, 49, 50, 51, 52, 53, 54, 55, 56, 57, 58, 59, 60, 61] (by decide +kernel) (by decide +kernel)
set_option maxRecDepth 20000 in
theorem gX9_line_X9_areTwo : GoodIn wsX9_line (wsV RX9 124 RX9 yX9_areTwo wsX9_areTwo) := goodIn_app (goodIn_of _ (by decide +kernel)) ggX9_line_X9_areTwo
set_option maxRecDepth 20000 in
theorem ggX9_line_X9_lineOf : GoodIn wsX9_line wsX9_lineOf := goodIn_r _ [24, 3, 6, 7, 25, 26, 27, 28, 29, 30, 31, 32, 33, 34, 35, 36, 37, 38, 39, 40, 41, 42, 43, 44, 45, 46, 47, 48, 49, 50, 51, 52, 53, 54, 55, 56, 57, 58, 59, 60, 61] (by decide +kernel) (by decide +kernel)
set_option maxRecDepth 20000 in
theorem gX9_line_X9_lineOf : GoodIn wsX9_line (wsV RX9 128 RX9 yX9_lineOf wsX9_lineOf) := goodIn_app (goodIn_of _ (by decide +kernel)) ggX9_line_X9_lineOf
theorem dX9_line_0 : decode cX9_line 0 = .ok (.iload_n 1, 1) := by decide +kernel
theorem dX9_line_1 : decode cX9_line 1 = .ok (.i2l, 1) := by decide +kernel
theorem dX9_line_2 : decode cX9_line 2 = .ok (.lconst 0, 1) := by decide +kernel
theorem dX9_line_3 : decode cX9_line 3 = .ok (.ldc2_w 120, 3) := by decide +kernel
theorem dX9_line_6 : decode cX9_line 6 = .ok (.invokestatic 96, 3) := by decide +kernel
theorem dX9_line_9 : decode cX9_line 9 = .ok (.ifCond .eq 25, 3) := by decide +kernel
theorem dX9_line_12 : decode cX9_line 12 = .ok (.iload_n 2, 1) := by decide +kernel
theorem dX9_line_13 : decode cX9_line 13 = .ok (.i2l, 1) := by decide +kernel
theorem dX9_line_14 : decode cX9_line 14 = .ok (.lconst 0, 1) := by decide +kernel
theorem dX9_line_15 : decode cX9_line 15 = .ok (.ldc2_w 122, 3) := by decide +kernel
theorem dX9_line_18 : decode cX9_line 18 = .ok (.invokestatic 96, 3) := by decide +kernel
theorem dX9_line_21 : decode cX9_line 21 = .ok (.ifCond .eq 13, 3) := by decide +kernel
theorem dX9_line_24 : decode cX9_line 24 = .ok (.aload_n 0, 1) := by decide +kernel
theorem dX9_line_25 : decode cX9_line 25 = .ok (.iload_n 3, 1) := by decide +kernel
theorem dX9_line_26 : decode cX9_line 26 = .ok (.iload 4, 2) := by decide +kernel
theorem dX9_line_28 : decode cX9_line 28 = .ok (.invokevirtual 124, 3) := by decide +kernel
theorem dX9_line_31 : decode cX9_line 31 = .ok (.ifCond .ne 6, 3) := by decide +kernel
theorem dX9_line_34 : decode cX9_line 34 = .ok (.bipush (-2), 2) := by decide +kernel
theorem dX9_line_36 : decode cX9_line 36 = .ok (.ireturn, 1) := by decide +kernel
theorem dX9_line_37 : decode cX9_line 37 = .ok (.aload_n 0, 1) := by decide +kernel
theorem dX9_line_38 : decode cX9_line 38 = .ok (.iload_n 3, 1) := by decide +kernel
theorem dX9_line_39 : decode cX9_line 39 = .ok (.iload 4, 2) := by decide +kernel
theorem dX9_line_41 : decode cX9_line 41 = .ok (.invokevirtual 128, 3) := by decide +kernel
theorem dX9_line_44 : decode cX9_line 44 = .ok (.iconst (-1), 1) := by decide +kernel
theorem dX9_line_45 : decode cX9_line 45 = .ok (.if_icmp .eq 6, 3) := by decide +kernel
theorem dX9_line_48 : decode cX9_line 48 = .ok (.bipush (-3), 2) := by decide +kernel
theorem dX9_line_50 : decode cX9_line 50 = .ok (.ireturn, 1) := by decide +kernel
theorem dX9_line_51 : decode cX9_line 51 = .ok (.aload_n 0, 1) := by decide +kernel
theorem dX9_line_52 : decode cX9_line 52 = .ok (.getfield 100, 3) := by decide +kernel
theorem dX9_line_55 : decode cX9_line 55 = .ok (.bipush 40, 2) := by decide +kernel
theorem dX9_line_57 : decode cX9_line 57 = .ok (.if_icmp .ne 6, 3) := by decide +kernel
theorem dX9_line_60 : decode cX9_line 60 = .ok (.bipush (-4), 2) := by decide +kernel
theorem dX9_line_62 : decode cX9_line 62 = .ok (.ireturn, 1) := by decide +kernel
theorem dX9_line_63 : decode cX9_line 63 = .ok (.aload_n 0, 1) := by decide +kernel
theorem dX9_line_64 : decode cX9_line 64 = .ok (.getfield 9, 3) := by decide +kernel
theorem dX9_line_67 : decode cX9_line 67 = .ok (.aload_n 0, 1) := by decide +kernel
theorem dX9_line_68 : decode cX9_line 68 = .ok (.getfield 100, 3) := by decide +kernel
theorem dX9_line_71 : decode cX9_line 71 = .ok (.iload_n 1, 1) := by decide +kernel
theorem dX9_line_72 : decode cX9_line 72 = .ok (.iastore, 1) := by decide +kernel
theorem dX9_line_73 : decode cX9_line 73 = .ok (.aload_n 0, 1) := by decide +kernel
theorem dX9_line_74 : decode cX9_line 74 = .ok (.getfield 13, 3) := by decide +kernel
theorem dX9_line_77 : decode cX9_line 77 = .ok (.aload_n 0, 1) := by decide +kernel
theorem dX9_line_78 : decode cX9_line 78 = .ok (.getfield 100, 3) := by decide +kernel
theorem dX9_line_81 : decode cX9_line 81 = .ok (.iload_n 2, 1) := by decide +kernel
theorem dX9_line_82 : decode cX9_line 82 = .ok (.iastore, 1) := by decide +kernel
theorem dX9_line_83 : decode cX9_line 83 = .ok (.aload_n 0, 1) := by decide +kernel
theorem dX9_line_84 : decode cX9_line 84 = .ok (.getfield 16, 3) := by decide +kernel
theorem dX9_line_87 : decode cX9_line 87 = .ok (.aload_n 0, 1) := by decide +kernel
theorem dX9_line_88 : decode cX9_line 88 = .ok (.getfield 100, 3) := by decide +kernel
theorem dX9_line_91 : decode cX9_line 91 = .ok (.iload_n 3, 1) := by decide +kernel
theorem dX9_line_92 : decode cX9_line 92 = .ok (.iload 4, 2) := by decide +kernel
theorem dX9_line_94 : decode cX9_line 94 = .ok (.if_icmp .ge 7, 3) := by decide +kernel
theorem dX9_line_97 : decode cX9_line 97 = .ok (.iload_n 3, 1) := by decide +kernel
theorem dX9_line_98 : decode cX9_line 98 = .ok (.goto 5, 3) := by decide +kernel
theorem dX9_line_101 : decode cX9_line 101 = .ok (.iload 4, 2) := by decide +kernel
theorem dX9_line_103 : decode cX9_line 103 = .ok (.iastore, 1) := by decide +kernel
theorem dX9_line_104 : decode cX9_line 104 = .ok (.aload_n 0, 1) := by decide +kernel
theorem dX9_line_105 : decode cX9_line 105 = .ok (.getfield 19, 3) := by decide +kernel
theorem dX9_line_108 : decode cX9_line 108 = .ok (.aload_n 0, 1) := by decide +kernel
theorem dX9_line_109 : decode cX9_line 109 = .ok (.getfield 100, 3) := by decide +kernel
theorem dX9_line_112 : decode cX9_line 112 = .ok (.iload_n 3, 1) := by decide +kernel
theorem dX9_line_113 : decode cX9_line 113 = .ok (.iload 4, 2) := by decide +kernel
theorem dX9_line_115 : decode cX9_line 115 = .ok (.if_icmp .ge 8, 3) := by decide +kernel
theorem dX9_line_118 : decode cX9_line 118 = .ok (.iload 4, 2) := by decide +kernel
theorem dX9_line_120 : decode cX9_line 120 = .ok (.goto 4, 3) := by decide +kernel
theorem dX9_line_123 : decode cX9_line 123 = .ok (.iload_n 3, 1) := by decide +kernel
theorem dX9_line_124 : decode cX9_line 124 = .ok (.iastore, 1) := by decide +kernel
theorem dX9_line_125 : decode cX9_line 125 = .ok (.aload_n 0, 1) := by decide +kernel
theorem dX9_line_126 : decode cX9_line 126 = .ok (.dup, 1) := by decide +kernel
theorem dX9_line_127 : decode cX9_line 127 = .ok (.getfield 100, 3) := by decide +kernel
theorem dX9_line_130 : decode cX9_line 130 = .ok (.iconst 1, 1) := by decide +kernel
theorem dX9_line_131 : decode cX9_line 131 = .ok (.iadd, 1) := by decide +kernel
theorem dX9_line_132 : decode cX9_line 132 = .ok (.putfield 100, 3) := by decide +kernel
theorem dX9_line_135 : decode cX9_line 135 = .ok (.aload_n 0, 1) := by decide +kernel
theorem dX9_line_136 : decode cX9_line 136 = .ok (.getfield 100, 3) := by decide +kernel
theorem dX9_line_139 : decode cX9_line 139 = .ok (.iconst 1, 1) := by decide +kernel
theorem dX9_line_140 : decode cX9_line 140 = .ok (.isub, 1) := by decide +kernel
theorem dX9_line_141 : decode cX9_line 141 = .ok (.ireturn, 1) := by decide +kernel
set_option maxRecDepth 20000 in
theorem ggX9_told__X9_isLine : GoodIn wsX9_told_ wsX9_isLine := goodIn_r _ [9, 10, 11, 12, 8, 13, 23, 24, 25, 26, 27, 28, 29, 30, 31, 32, 33, 34, 35, 36, 37, 38, 39, 40, 41, 42, 43, 44, 45, 46, 47, 48, 49, 50, 51, 52, 53, 54, 55, 56, 57, 58, 59] (by decide +kernel) (by decide +kernel)
set_option maxRecDepth 20000 in
theorem gX9_told__X9_isLine : GoodIn wsX9_told_ (wsV RX9 131 RX9 yX9_isLine wsX9_isLine) := goodIn_app (goodIn_of _ (by decide +kernel)) ggX9_told__X9_isLine
set_option maxRecDepth 20000 in
theorem ggX9_told__X9_weight : GoodIn wsX9_told_ wsX9_weight := goodIn_r _ [17, 1, 2, 18, 19, 20, 8, 21, 22, 23, 24, 25, 26, 27, 28, 29, 30, 31, 32, 33, 34, 35, 36, 37, 38, 39, 40, 41, 42, 43, 44, 45, 46, 47, 48, 49, 50, 51, 52, 53, 54, 55, 56, 57, 58, 59] (by decide +kernel) (by decide +kernel)
set_option maxRecDepth 20000 in
theorem gX9_told__X9_weight : GoodIn wsX9_told_ (wsV RX9 134 RX9 yX9_weight wsX9_weight) := goodIn_app (goodIn_of _ (by decide +kernel)) ggX9_told__X9_weight
theorem dX9_told__0 : decode cX9_told_ 0 = .ok (.aload_n 0, 1) := by decide +kernel
theorem dX9_told__1 : decode cX9_told_ 1 = .ok (.iload_n 1, 1) := by decide +kernel
theorem dX9_told__2 : decode cX9_told_ 2 = .ok (.invokevirtual 131, 3) := by decide +kernel
theorem dX9_told__5 : decode cX9_told_ 5 = .ok (.ifCond .ne 6, 3) := by decide +kernel
theorem dX9_told__8 : decode cX9_told_ 8 = .ok (.bipush (-2), 2) := by decide +kernel
theorem dX9_told__10 : decode cX9_told_ 10 = .ok (.ireturn, 1) := by decide +kernel
theorem dX9_told__11 : decode cX9_told_ 11 = .ok (.iload_n 2, 1) := by decide +kernel
theorem dX9_told__12 : decode cX9_told_ 12 = .ok (.tableswitch 70 0 4 #[36, 43, 50, 56, 63], 36) := by decide +kernel
theorem dX9_told__48 : decode cX9_told_ 48 = .ok (.aload_n 0, 1) := by decide +kernel
theorem dX9_told__49 : decode cX9_told_ 49 = .ok (.getfield 9, 3) := by decide +kernel
theorem dX9_told__52 : decode cX9_told_ 52 = .ok (.iload_n 1, 1) := by decide +kernel
theorem dX9_told__53 : decode cX9_told_ 53 = .ok (.iaload, 1) := by decide +kernel
theorem dX9_told__54 : decode cX9_told_ 54 = .ok (.ireturn, 1) := by decide +kernel
theorem dX9_told__55 : decode cX9_told_ 55 = .ok (.aload_n 0, 1) := by decide +kernel
theorem dX9_told__56 : decode cX9_told_ 56 = .ok (.getfield 13, 3) := by decide +kernel
theorem dX9_told__59 : decode cX9_told_ 59 = .ok (.iload_n 1, 1) := by decide +kernel
theorem dX9_told__60 : decode cX9_told_ 60 = .ok (.iaload, 1) := by decide +kernel
theorem dX9_told__61 : decode cX9_told_ 61 = .ok (.ireturn, 1) := by decide +kernel
theorem dX9_told__62 : decode cX9_told_ 62 = .ok (.aload_n 0, 1) := by decide +kernel
theorem dX9_told__63 : decode cX9_told_ 63 = .ok (.iload_n 1, 1) := by decide +kernel
theorem dX9_told__64 : decode cX9_told_ 64 = .ok (.invokevirtual 134, 3) := by decide +kernel
theorem dX9_told__67 : decode cX9_told_ 67 = .ok (.ireturn, 1) := by decide +kernel
theorem dX9_told__68 : decode cX9_told_ 68 = .ok (.aload_n 0, 1) := by decide +kernel
theorem dX9_told__69 : decode cX9_told_ 69 = .ok (.getfield 16, 3) := by decide +kernel
theorem dX9_told__72 : decode cX9_told_ 72 = .ok (.iload_n 1, 1) := by decide +kernel
theorem dX9_told__73 : decode cX9_told_ 73 = .ok (.iaload, 1) := by decide +kernel
theorem dX9_told__74 : decode cX9_told_ 74 = .ok (.ireturn, 1) := by decide +kernel
theorem dX9_told__75 : decode cX9_told_ 75 = .ok (.aload_n 0, 1) := by decide +kernel
theorem dX9_told__76 : decode cX9_told_ 76 = .ok (.getfield 19, 3) := by decide +kernel
theorem dX9_told__79 : decode cX9_told_ 79 = .ok (.iload_n 1, 1) := by decide +kernel
theorem dX9_told__80 : decode cX9_told_ 80 = .ok (.iaload, 1) := by decide +kernel
theorem dX9_told__81 : decode cX9_told_ 81 = .ok (.ireturn, 1) := by decide +kernel
theorem dX9_told__82 : decode cX9_told_ 82 = .ok (.bipush (-2), 2) := by decide +kernel
theorem dX9_told__84 : decode cX9_told_ 84 = .ok (.ireturn, 1) := by decide +kernel
set_option maxRecDepth 20000 in
theorem ggX9_set_X9_isLine : GoodIn wsX9_set wsX9_isLine := goodIn_r _ [7, 8, 9, 10, 6, 11, 12, 13, 14, 15, 16, 17, 18, 19, 20, 21, 22, 23, 24, 25, 26, 27, 28, 29, 30, 31, 32, 33, 34, 35, 36, 37, 38, 39, 40, 41, 42, 43, 44, 45, 46, 47, 48] (by decide +kernel) (by decide +kernel)
set_option maxRecDepth 20000 in
theorem gX9_set_X9_isLine : GoodIn wsX9_set (wsV RX9 131 RX9 yX9_isLine wsX9_isLine) := goodIn_app (goodIn_of _ (by decide +kernel)) ggX9_set_X9_isLine
set_option maxRecDepth 20000 in
theorem ggX9_set_X9_in : GoodIn wsX9_set wsX9_in := goodIn_r _ [11] (by decide +kernel) (by decide +kernel)
set_option maxRecDepth 20000 in
theorem gX9_set_X9_in : GoodIn wsX9_set (va_wsS RX9 96 yX9_in wsX9_in) := goodIn_app (goodIn_of _ (by decide +kernel)) ggX9_set_X9_in
theorem dX9_set_0 : decode cX9_set 0 = .ok (.aload_n 0, 1) := by decide +kernel
theorem dX9_set_1 : decode cX9_set 1 = .ok (.iload_n 1, 1) := by decide +kernel
theorem dX9_set_2 : decode cX9_set 2 = .ok (.invokevirtual 131, 3) := by decide +kernel
theorem dX9_set_5 : decode cX9_set 5 = .ok (.ifCond .eq 15, 3) := by decide +kernel
theorem dX9_set_8 : decode cX9_set 8 = .ok (.iload_n 2, 1) := by decide +kernel
theorem dX9_set_9 : decode cX9_set 9 = .ok (.i2l, 1) := by decide +kernel
theorem dX9_set_10 : decode cX9_set 10 = .ok (.lconst 0, 1) := by decide +kernel
theorem dX9_set_11 : decode cX9_set 11 = .ok (.ldc2_w 122, 3) := by decide +kernel
theorem dX9_set_14 : decode cX9_set 14 = .ok (.invokestatic 96, 3) := by decide +kernel
theorem dX9_set_17 : decode cX9_set 17 = .ok (.ifCond .ne 6, 3) := by decide +kernel
theorem dX9_set_20 : decode cX9_set 20 = .ok (.bipush (-2), 2) := by decide +kernel
theorem dX9_set_22 : decode cX9_set 22 = .ok (.ireturn, 1) := by decide +kernel
theorem dX9_set_23 : decode cX9_set 23 = .ok (.aload_n 0, 1) := by decide +kernel
theorem dX9_set_24 : decode cX9_set 24 = .ok (.getfield 13, 3) := by decide +kernel
theorem dX9_set_27 : decode cX9_set 27 = .ok (.iload_n 1, 1) := by decide +kernel
theorem dX9_set_28 : decode cX9_set 28 = .ok (.iaload, 1) := by decide +kernel
theorem dX9_set_29 : decode cX9_set 29 = .ok (.istore_n 3, 1) := by decide +kernel
theorem dX9_set_30 : decode cX9_set 30 = .ok (.aload_n 0, 1) := by decide +kernel
theorem dX9_set_31 : decode cX9_set 31 = .ok (.getfield 13, 3) := by decide +kernel
theorem dX9_set_34 : decode cX9_set 34 = .ok (.iload_n 1, 1) := by decide +kernel
theorem dX9_set_35 : decode cX9_set 35 = .ok (.iload_n 2, 1) := by decide +kernel
theorem dX9_set_36 : decode cX9_set 36 = .ok (.iastore, 1) := by decide +kernel
theorem dX9_set_37 : decode cX9_set 37 = .ok (.iload_n 3, 1) := by decide +kernel
theorem dX9_set_38 : decode cX9_set 38 = .ok (.ireturn, 1) := by decide +kernel
set_option maxRecDepth 20000 in
theorem ggX9_turns_X9_isLine : GoodIn wsX9_turns wsX9_isLine := goodIn_r _ [7, 8, 9, 10, 6, 11, 12, 13, 14, 15, 16, 17, 18, 19, 20, 21, 22, 23, 24, 25, 26, 27, 28, 29, 30, 31, 32, 33, 34, 35, 36, 37, 38, 39, 40, 41, 42, 43, 44, 45, 46, 47, 48] (by decide +kernel) (by decide +kernel)
set_option maxRecDepth 20000 in
theorem gX9_turns_X9_isLine : GoodIn wsX9_turns (wsV RX9 131 RX9 yX9_isLine wsX9_isLine) := goodIn_app (goodIn_of _ (by decide +kernel)) ggX9_turns_X9_isLine
set_option maxRecDepth 20000 in
theorem ggX9_turns_X9_in : GoodIn wsX9_turns wsX9_in := goodIn_r _ [11] (by decide +kernel) (by decide +kernel)
set_option maxRecDepth 20000 in
theorem gX9_turns_X9_in : GoodIn wsX9_turns (va_wsS RX9 96 yX9_in wsX9_in) := goodIn_app (goodIn_of _ (by decide +kernel)) ggX9_turns_X9_in
theorem dX9_turns_0 : decode cX9_turns 0 = .ok (.aload_n 0, 1) := by decide +kernel
theorem dX9_turns_1 : decode cX9_turns 1 = .ok (.iload_n 1, 1) := by decide +kernel
theorem dX9_turns_2 : decode cX9_turns 2 = .ok (.invokevirtual 131, 3) := by decide +kernel
theorem dX9_turns_5 : decode cX9_turns 5 = .ok (.ifCond .eq 15, 3) := by decide +kernel
theorem dX9_turns_8 : decode cX9_turns 8 = .ok (.iload_n 2, 1) := by decide +kernel
theorem dX9_turns_9 : decode cX9_turns 9 = .ok (.i2l, 1) := by decide +kernel
theorem dX9_turns_10 : decode cX9_turns 10 = .ok (.lconst 0, 1) := by decide +kernel
theorem dX9_turns_11 : decode cX9_turns 11 = .ok (.ldc2_w 120, 3) := by decide +kernel
theorem dX9_turns_14 : decode cX9_turns 14 = .ok (.invokestatic 96, 3) := by decide +kernel
theorem dX9_turns_17 : decode cX9_turns 17 = .ok (.ifCond .ne 6, 3) := by decide +kernel
theorem dX9_turns_20 : decode cX9_turns 20 = .ok (.bipush (-2), 2) := by decide +kernel
theorem dX9_turns_22 : decode cX9_turns 22 = .ok (.ireturn, 1) := by decide +kernel
theorem dX9_turns_23 : decode cX9_turns 23 = .ok (.aload_n 0, 1) := by decide +kernel
theorem dX9_turns_24 : decode cX9_turns 24 = .ok (.getfield 9, 3) := by decide +kernel
theorem dX9_turns_27 : decode cX9_turns 27 = .ok (.iload_n 1, 1) := by decide +kernel
theorem dX9_turns_28 : decode cX9_turns 28 = .ok (.iaload, 1) := by decide +kernel
theorem dX9_turns_29 : decode cX9_turns 29 = .ok (.istore_n 3, 1) := by decide +kernel
theorem dX9_turns_30 : decode cX9_turns 30 = .ok (.aload_n 0, 1) := by decide +kernel
theorem dX9_turns_31 : decode cX9_turns 31 = .ok (.getfield 9, 3) := by decide +kernel
theorem dX9_turns_34 : decode cX9_turns 34 = .ok (.iload_n 1, 1) := by decide +kernel
theorem dX9_turns_35 : decode cX9_turns 35 = .ok (.iload_n 2, 1) := by decide +kernel
theorem dX9_turns_36 : decode cX9_turns 36 = .ok (.iastore, 1) := by decide +kernel
theorem dX9_turns_37 : decode cX9_turns 37 = .ok (.iload_n 3, 1) := by decide +kernel
theorem dX9_turns_38 : decode cX9_turns 38 = .ok (.ireturn, 1) := by decide +kernel
set_option maxRecDepth 20000 in
theorem ggX9_drop_X9_isLine : GoodIn wsX9_drop wsX9_isLine := goodIn_r _ [10, 1, 11, 12, 9, 13, 14, 15, 16, 17, 18, 19, 20, 21, 22, 23, 24, 25, 26, 27, 28, 29, 30, 31, 32, 33, 34, 35, 36, 37, 38, 39, 40, 41, 42, 43, 44, 45, 46, 47, 48, 49, 50] (by decide +kernel) (by decide +kernel)
set_option maxRecDepth 20000 in
theorem gX9_drop_X9_isLine : GoodIn wsX9_drop (wsV RX9 131 RX9 yX9_isLine wsX9_isLine) := goodIn_app (goodIn_of _ (by decide +kernel)) ggX9_drop_X9_isLine
theorem dX9_drop_0 : decode cX9_drop 0 = .ok (.aload_n 0, 1) := by decide +kernel
theorem dX9_drop_1 : decode cX9_drop 1 = .ok (.iload_n 1, 1) := by decide +kernel
theorem dX9_drop_2 : decode cX9_drop 2 = .ok (.invokevirtual 131, 3) := by decide +kernel
theorem dX9_drop_5 : decode cX9_drop 5 = .ok (.ifCond .ne 6, 3) := by decide +kernel
theorem dX9_drop_8 : decode cX9_drop 8 = .ok (.bipush (-2), 2) := by decide +kernel
theorem dX9_drop_10 : decode cX9_drop 10 = .ok (.ireturn, 1) := by decide +kernel
theorem dX9_drop_11 : decode cX9_drop 11 = .ok (.aload_n 0, 1) := by decide +kernel
theorem dX9_drop_12 : decode cX9_drop 12 = .ok (.dup, 1) := by decide +kernel
theorem dX9_drop_13 : decode cX9_drop 13 = .ok (.getfield 100, 3) := by decide +kernel
theorem dX9_drop_16 : decode cX9_drop 16 = .ok (.iconst 1, 1) := by decide +kernel
theorem dX9_drop_17 : decode cX9_drop 17 = .ok (.isub, 1) := by decide +kernel
theorem dX9_drop_18 : decode cX9_drop 18 = .ok (.putfield 100, 3) := by decide +kernel
theorem dX9_drop_21 : decode cX9_drop 21 = .ok (.iload_n 1, 1) := by decide +kernel
theorem dX9_drop_22 : decode cX9_drop 22 = .ok (.istore_n 2, 1) := by decide +kernel
theorem dX9_drop_23 : decode cX9_drop 23 = .ok (.iload_n 2, 1) := by decide +kernel
theorem dX9_drop_24 : decode cX9_drop 24 = .ok (.aload_n 0, 1) := by decide +kernel
theorem dX9_drop_25 : decode cX9_drop 25 = .ok (.getfield 100, 3) := by decide +kernel
theorem dX9_drop_28 : decode cX9_drop 28 = .ok (.if_icmp .ge 65, 3) := by decide +kernel
theorem dX9_drop_31 : decode cX9_drop 31 = .ok (.aload_n 0, 1) := by decide +kernel
theorem dX9_drop_32 : decode cX9_drop 32 = .ok (.getfield 9, 3) := by decide +kernel
theorem dX9_drop_35 : decode cX9_drop 35 = .ok (.iload_n 2, 1) := by decide +kernel
theorem dX9_drop_36 : decode cX9_drop 36 = .ok (.aload_n 0, 1) := by decide +kernel
theorem dX9_drop_37 : decode cX9_drop 37 = .ok (.getfield 9, 3) := by decide +kernel
theorem dX9_drop_40 : decode cX9_drop 40 = .ok (.iload_n 2, 1) := by decide +kernel
theorem dX9_drop_41 : decode cX9_drop 41 = .ok (.iconst 1, 1) := by decide +kernel
theorem dX9_drop_42 : decode cX9_drop 42 = .ok (.iadd, 1) := by decide +kernel
theorem dX9_drop_43 : decode cX9_drop 43 = .ok (.iaload, 1) := by decide +kernel
theorem dX9_drop_44 : decode cX9_drop 44 = .ok (.iastore, 1) := by decide +kernel
theorem dX9_drop_45 : decode cX9_drop 45 = .ok (.aload_n 0, 1) := by decide +kernel
theorem dX9_drop_46 : decode cX9_drop 46 = .ok (.getfield 13, 3) := by decide +kernel
theorem dX9_drop_49 : decode cX9_drop 49 = .ok (.iload_n 2, 1) := by decide +kernel
theorem dX9_drop_50 : decode cX9_drop 50 = .ok (.aload_n 0, 1) := by decide +kernel
theorem dX9_drop_51 : decode cX9_drop 51 = .ok (.getfield 13, 3) := by decide +kernel
theorem dX9_drop_54 : decode cX9_drop 54 = .ok (.iload_n 2, 1) := by decide +kernel
theorem dX9_drop_55 : decode cX9_drop 55 = .ok (.iconst 1, 1) := by decide +kernel
theorem dX9_drop_56 : decode cX9_drop 56 = .ok (.iadd, 1) := by decide +kernel
theorem dX9_drop_57 : decode cX9_drop 57 = .ok (.iaload, 1) := by decide +kernel
theorem dX9_drop_58 : decode cX9_drop 58 = .ok (.iastore, 1) := by decide +kernel
theorem dX9_drop_59 : decode cX9_drop 59 = .ok (.aload_n 0, 1) := by decide +kernel
theorem dX9_drop_60 : decode cX9_drop 60 = .ok (.getfield 16, 3) := by decide +kernel
theorem dX9_drop_63 : decode cX9_drop 63 = .ok (.iload_n 2, 1) := by decide +kernel
theorem dX9_drop_64 : decode cX9_drop 64 = .ok (.aload_n 0, 1) := by decide +kernel
theorem dX9_drop_65 : decode cX9_drop 65 = .ok (.getfield 16, 3) := by decide +kernel
theorem dX9_drop_68 : decode cX9_drop 68 = .ok (.iload_n 2, 1) := by decide +kernel
theorem dX9_drop_69 : decode cX9_drop 69 = .ok (.iconst 1, 1) := by decide +kernel
theorem dX9_drop_70 : decode cX9_drop 70 = .ok (.iadd, 1) := by decide +kernel
theorem dX9_drop_71 : decode cX9_drop 71 = .ok (.iaload, 1) := by decide +kernel
theorem dX9_drop_72 : decode cX9_drop 72 = .ok (.iastore, 1) := by decide +kernel
theorem dX9_drop_73 : decode cX9_drop 73 = .ok (.aload_n 0, 1) := by decide +kernel
theorem dX9_drop_74 : decode cX9_drop 74 = .ok (.getfield 19, 3) := by decide +kernel
theorem dX9_drop_77 : decode cX9_drop 77 = .ok (.iload_n 2, 1) := by decide +kernel
theorem dX9_drop_78 : decode cX9_drop 78 = .ok (.aload_n 0, 1) := by decide +kernel
theorem dX9_drop_79 : decode cX9_drop 79 = .ok (.getfield 19, 3) := by decide +kernel
theorem dX9_drop_82 : decode cX9_drop 82 = .ok (.iload_n 2, 1) := by decide +kernel
theorem dX9_drop_83 : decode cX9_drop 83 = .ok (.iconst 1, 1) := by decide +kernel
theorem dX9_drop_84 : decode cX9_drop 84 = .ok (.iadd, 1) := by decide +kernel
theorem dX9_drop_85 : decode cX9_drop 85 = .ok (.iaload, 1) := by decide +kernel
theorem dX9_drop_86 : decode cX9_drop 86 = .ok (.iastore, 1) := by decide +kernel
theorem dX9_drop_87 : decode cX9_drop 87 = .ok (.iinc 2 1, 3) := by decide +kernel
theorem dX9_drop_90 : decode cX9_drop 90 = .ok (.goto (-67), 3) := by decide +kernel
theorem dX9_drop_93 : decode cX9_drop 93 = .ok (.aload_n 0, 1) := by decide +kernel
theorem dX9_drop_94 : decode cX9_drop 94 = .ok (.getfield 100, 3) := by decide +kernel
theorem dX9_drop_97 : decode cX9_drop 97 = .ok (.ireturn, 1) := by decide +kernel
set_option maxRecDepth 20000 in
theorem ggX9_tide_X9_in : GoodIn wsX9_tide wsX9_in := goodIn_r _ [6] (by decide +kernel) (by decide +kernel)
set_option maxRecDepth 20000 in
theorem gX9_tide_X9_in : GoodIn wsX9_tide (va_wsS RX9 96 yX9_in wsX9_in) := goodIn_app (goodIn_of _ (by decide +kernel)) ggX9_tide_X9_in
theorem dX9_tide_0 : decode cX9_tide 0 = .ok (.iload_n 1, 1) := by decide +kernel
theorem dX9_tide_1 : decode cX9_tide 1 = .ok (.i2l, 1) := by decide +kernel
theorem dX9_tide_2 : decode cX9_tide 2 = .ok (.lconst 0, 1) := by decide +kernel
theorem dX9_tide_3 : decode cX9_tide 3 = .ok (.ldc2_w 109, 3) := by decide +kernel
theorem dX9_tide_6 : decode cX9_tide 6 = .ok (.invokestatic 96, 3) := by decide +kernel
theorem dX9_tide_9 : decode cX9_tide 9 = .ok (.ifCond .ne 6, 3) := by decide +kernel
theorem dX9_tide_12 : decode cX9_tide 12 = .ok (.bipush (-2), 2) := by decide +kernel
theorem dX9_tide_14 : decode cX9_tide 14 = .ok (.ireturn, 1) := by decide +kernel
theorem dX9_tide_15 : decode cX9_tide 15 = .ok (.aload_n 0, 1) := by decide +kernel
theorem dX9_tide_16 : decode cX9_tide 16 = .ok (.getfield 111, 3) := by decide +kernel
theorem dX9_tide_19 : decode cX9_tide 19 = .ok (.istore_n 2, 1) := by decide +kernel
theorem dX9_tide_20 : decode cX9_tide 20 = .ok (.aload_n 0, 1) := by decide +kernel
theorem dX9_tide_21 : decode cX9_tide 21 = .ok (.iload_n 1, 1) := by decide +kernel
theorem dX9_tide_22 : decode cX9_tide 22 = .ok (.putfield 111, 3) := by decide +kernel
theorem dX9_tide_25 : decode cX9_tide 25 = .ok (.iload_n 2, 1) := by decide +kernel
theorem dX9_tide_26 : decode cX9_tide 26 = .ok (.ireturn, 1) := by decide +kernel
set_option maxRecDepth 20000 in
theorem ggX9_between_X9_areTwo : GoodIn wsX9_between wsX9_areTwo := goodIn_r _ [5, 6, 7, 8, 4, 9, 10, 11, 12, 13, 21, 22, 23, 24, 25, 26, 27, 28, 29, 30, 31, 32, 33, 34, 35, 36, 37, 38, 39, 40, 41, 42, 43, 44, 45, 46, 47, 48, 49, 50, 51, 52, 53, 54, 55, 56, 57] (by decide +kernel) (by decide +kernel)
set_option maxRecDepth 20000 in
theorem gX9_between_X9_areTwo : GoodIn wsX9_between (wsV RX9 124 RX9 yX9_areTwo wsX9_areTwo) := goodIn_app (goodIn_of _ (by decide +kernel)) ggX9_between_X9_areTwo
set_option maxRecDepth 20000 in
theorem ggX9_between_X9_lineOf : GoodIn wsX9_between wsX9_lineOf := goodIn_r _ [17, 18, 19, 20, 21, 22, 23, 24, 25, 26, 27, 28, 29, 30, 31, 32, 33, 34, 35, 36, 37, 38, 39, 40, 41, 42, 43, 44, 45, 46, 47, 48, 49, 50, 51, 52, 53, 54, 55, 56, 57] (by decide +kernel) (by decide +kernel)
set_option maxRecDepth 20000 in
theorem gX9_between_X9_lineOf : GoodIn wsX9_between (wsV RX9 128 RX9 yX9_lineOf wsX9_lineOf) := goodIn_app (goodIn_of _ (by decide +kernel)) ggX9_between_X9_lineOf
theorem dX9_between_0 : decode cX9_between 0 = .ok (.aload_n 0, 1) := by decide +kernel
theorem dX9_between_1 : decode cX9_between 1 = .ok (.iload_n 1, 1) := by decide +kernel
theorem dX9_between_2 : decode cX9_between 2 = .ok (.iload_n 2, 1) := by decide +kernel
theorem dX9_between_3 : decode cX9_between 3 = .ok (.invokevirtual 124, 3) := by decide +kernel
theorem dX9_between_6 : decode cX9_between 6 = .ok (.ifCond .eq 12, 3) := by decide +kernel
theorem dX9_between_9 : decode cX9_between 9 = .ok (.aload_n 0, 1) := by decide +kernel
theorem dX9_between_10 : decode cX9_between 10 = .ok (.iload_n 1, 1) := by decide +kernel
theorem dX9_between_11 : decode cX9_between 11 = .ok (.iload_n 2, 1) := by decide +kernel
theorem dX9_between_12 : decode cX9_between 12 = .ok (.invokevirtual 128, 3) := by decide +kernel
theorem dX9_between_15 : decode cX9_between 15 = .ok (.goto 5, 3) := by decide +kernel
theorem dX9_between_18 : decode cX9_between 18 = .ok (.bipush (-2), 2) := by decide +kernel
theorem dX9_between_20 : decode cX9_between 20 = .ok (.ireturn, 1) := by decide +kernel
theorem dX9_nearOf_0 : decode cX9_nearOf 0 = .ok (.iconst 0, 1) := by decide +kernel
theorem dX9_nearOf_1 : decode cX9_nearOf 1 = .ok (.istore_n 3, 1) := by decide +kernel
theorem dX9_nearOf_2 : decode cX9_nearOf 2 = .ok (.iconst 0, 1) := by decide +kernel
theorem dX9_nearOf_3 : decode cX9_nearOf 3 = .ok (.istore 4, 2) := by decide +kernel
theorem dX9_nearOf_5 : decode cX9_nearOf 5 = .ok (.iload 4, 2) := by decide +kernel
theorem dX9_nearOf_7 : decode cX9_nearOf 7 = .ok (.aload_n 0, 1) := by decide +kernel
theorem dX9_nearOf_8 : decode cX9_nearOf 8 = .ok (.getfield 100, 3) := by decide +kernel
theorem dX9_nearOf_11 : decode cX9_nearOf 11 = .ok (.if_icmp .ge 59, 3) := by decide +kernel
theorem dX9_nearOf_14 : decode cX9_nearOf 14 = .ok (.iload_n 3, 1) := by decide +kernel
theorem dX9_nearOf_15 : decode cX9_nearOf 15 = .ok (.aload_n 0, 1) := by decide +kernel
theorem dX9_nearOf_16 : decode cX9_nearOf 16 = .ok (.getfield 16, 3) := by decide +kernel
theorem dX9_nearOf_19 : decode cX9_nearOf 19 = .ok (.iload 4, 2) := by decide +kernel
theorem dX9_nearOf_21 : decode cX9_nearOf 21 = .ok (.iaload, 1) := by decide +kernel
theorem dX9_nearOf_22 : decode cX9_nearOf 22 = .ok (.iload_n 1, 1) := by decide +kernel
theorem dX9_nearOf_23 : decode cX9_nearOf 23 = .ok (.if_icmp .ne 15, 3) := by decide +kernel
theorem dX9_nearOf_26 : decode cX9_nearOf 26 = .ok (.iconst 1, 1) := by decide +kernel
theorem dX9_nearOf_27 : decode cX9_nearOf 27 = .ok (.aload_n 0, 1) := by decide +kernel
theorem dX9_nearOf_28 : decode cX9_nearOf 28 = .ok (.getfield 19, 3) := by decide +kernel
theorem dX9_nearOf_31 : decode cX9_nearOf 31 = .ok (.iload 4, 2) := by decide +kernel
theorem dX9_nearOf_33 : decode cX9_nearOf 33 = .ok (.iaload, 1) := by decide +kernel
theorem dX9_nearOf_34 : decode cX9_nearOf 34 = .ok (.ishl, 1) := by decide +kernel
theorem dX9_nearOf_35 : decode cX9_nearOf 35 = .ok (.goto 27, 3) := by decide +kernel
theorem dX9_nearOf_38 : decode cX9_nearOf 38 = .ok (.aload_n 0, 1) := by decide +kernel
theorem dX9_nearOf_39 : decode cX9_nearOf 39 = .ok (.getfield 19, 3) := by decide +kernel
theorem dX9_nearOf_42 : decode cX9_nearOf 42 = .ok (.iload 4, 2) := by decide +kernel
theorem dX9_nearOf_44 : decode cX9_nearOf 44 = .ok (.iaload, 1) := by decide +kernel
theorem dX9_nearOf_45 : decode cX9_nearOf 45 = .ok (.iload_n 1, 1) := by decide +kernel
theorem dX9_nearOf_46 : decode cX9_nearOf 46 = .ok (.if_icmp .ne 15, 3) := by decide +kernel
theorem dX9_nearOf_49 : decode cX9_nearOf 49 = .ok (.iconst 1, 1) := by decide +kernel
theorem dX9_nearOf_50 : decode cX9_nearOf 50 = .ok (.aload_n 0, 1) := by decide +kernel
theorem dX9_nearOf_51 : decode cX9_nearOf 51 = .ok (.getfield 16, 3) := by decide +kernel
theorem dX9_nearOf_54 : decode cX9_nearOf 54 = .ok (.iload 4, 2) := by decide +kernel
theorem dX9_nearOf_56 : decode cX9_nearOf 56 = .ok (.iaload, 1) := by decide +kernel
theorem dX9_nearOf_57 : decode cX9_nearOf 57 = .ok (.ishl, 1) := by decide +kernel
theorem dX9_nearOf_58 : decode cX9_nearOf 58 = .ok (.goto 4, 3) := by decide +kernel
theorem dX9_nearOf_61 : decode cX9_nearOf 61 = .ok (.iconst 0, 1) := by decide +kernel
theorem dX9_nearOf_62 : decode cX9_nearOf 62 = .ok (.ior, 1) := by decide +kernel
theorem dX9_nearOf_63 : decode cX9_nearOf 63 = .ok (.istore_n 3, 1) := by decide +kernel
theorem dX9_nearOf_64 : decode cX9_nearOf 64 = .ok (.iinc 4 1, 3) := by decide +kernel
theorem dX9_nearOf_67 : decode cX9_nearOf 67 = .ok (.goto (-62), 3) := by decide +kernel
theorem dX9_nearOf_70 : decode cX9_nearOf 70 = .ok (.iload_n 3, 1) := by decide +kernel
theorem dX9_nearOf_71 : decode cX9_nearOf 71 = .ok (.iload_n 2, 1) := by decide +kernel
theorem dX9_nearOf_72 : decode cX9_nearOf 72 = .ok (.iconst (-1), 1) := by decide +kernel
theorem dX9_nearOf_73 : decode cX9_nearOf 73 = .ok (.ixor, 1) := by decide +kernel
theorem dX9_nearOf_74 : decode cX9_nearOf 74 = .ok (.iand, 1) := by decide +kernel
theorem dX9_nearOf_75 : decode cX9_nearOf 75 = .ok (.ireturn, 1) := by decide +kernel
set_option maxRecDepth 20000 in
theorem ggX9_near_X9_isPoint : GoodIn wsX9_near wsX9_isPoint := goodIn_r _ [5, 6, 7, 8, 4, 9, 21, 22, 23, 24, 25, 26, 27, 28, 29, 30, 31, 32, 33, 34, 35, 36, 37, 38, 39, 40, 41, 42, 43, 44, 45, 46, 47, 48, 49, 50, 51, 52, 53, 54, 55, 56, 57] (by decide +kernel) (by decide +kernel)
set_option maxRecDepth 20000 in
theorem gX9_near_X9_isPoint : GoodIn wsX9_near (wsV RX9 103 RX9 yX9_isPoint wsX9_isPoint) := goodIn_app (goodIn_of _ (by decide +kernel)) ggX9_near_X9_isPoint
set_option maxRecDepth 20000 in
theorem ggX9_near_X9_isOut : GoodIn wsX9_near wsX9_isOut := goodIn_r _ [12, 13, 7, 8, 4, 9] (by decide +kernel) (by decide +kernel)
set_option maxRecDepth 20000 in
theorem gX9_near_X9_isOut : GoodIn wsX9_near (va_wsS RX9 138 yX9_isOut wsX9_isOut) := goodIn_app (goodIn_of _ (by decide +kernel)) ggX9_near_X9_isOut
set_option maxRecDepth 20000 in
theorem ggX9_near_X9_nearOf : GoodIn wsX9_near wsX9_nearOf := goodIn_r _ [17, 18, 19, 20, 21, 22, 23, 24, 25, 26, 27, 28, 29, 30, 31, 32, 33, 34, 35, 36, 37, 38, 39, 40, 41, 42, 43, 44, 45, 46, 47, 48, 49, 50, 51, 52, 53, 54, 55, 56, 57] (by decide +kernel) (by decide +kernel)
set_option maxRecDepth 20000 in
theorem gX9_near_X9_nearOf : GoodIn wsX9_near (wsV RX9 141 RX9 yX9_nearOf wsX9_nearOf) := goodIn_app (goodIn_of _ (by decide +kernel)) ggX9_near_X9_nearOf
theorem dX9_near_0 : decode cX9_near 0 = .ok (.aload_n 0, 1) := by decide +kernel
theorem dX9_near_1 : decode cX9_near 1 = .ok (.iload_n 1, 1) := by decide +kernel
theorem dX9_near_2 : decode cX9_near 2 = .ok (.invokevirtual 103, 3) := by decide +kernel
theorem dX9_near_5 : decode cX9_near 5 = .ok (.ifCond .eq 19, 3) := by decide +kernel
theorem dX9_near_8 : decode cX9_near 8 = .ok (.iload_n 2, 1) := by decide +kernel
theorem dX9_near_9 : decode cX9_near 9 = .ok (.invokestatic 138, 3) := by decide +kernel
theorem dX9_near_12 : decode cX9_near 12 = .ok (.ifCond .eq 12, 3) := by decide +kernel
theorem dX9_near_15 : decode cX9_near 15 = .ok (.aload_n 0, 1) := by decide +kernel
theorem dX9_near_16 : decode cX9_near 16 = .ok (.iload_n 1, 1) := by decide +kernel
theorem dX9_near_17 : decode cX9_near 17 = .ok (.iload_n 2, 1) := by decide +kernel
theorem dX9_near_18 : decode cX9_near 18 = .ok (.invokevirtual 141, 3) := by decide +kernel
theorem dX9_near_21 : decode cX9_near 21 = .ok (.goto 5, 3) := by decide +kernel
theorem dX9_near_24 : decode cX9_near 24 = .ok (.bipush (-2), 2) := by decide +kernel
theorem dX9_near_26 : decode cX9_near 26 = .ok (.ireturn, 1) := by decide +kernel
theorem dX9_free_0 : decode cX9_free 0 = .ok (.iconst 1, 1) := by decide +kernel
theorem dX9_free_1 : decode cX9_free 1 = .ok (.aload_n 0, 1) := by decide +kernel
theorem dX9_free_2 : decode cX9_free 2 = .ok (.getfield 92, 3) := by decide +kernel
theorem dX9_free_5 : decode cX9_free 5 = .ok (.ishl, 1) := by decide +kernel
theorem dX9_free_6 : decode cX9_free 6 = .ok (.iconst 1, 1) := by decide +kernel
theorem dX9_free_7 : decode cX9_free 7 = .ok (.isub, 1) := by decide +kernel
theorem dX9_free_8 : decode cX9_free 8 = .ok (.iload_n 1, 1) := by decide +kernel
theorem dX9_free_9 : decode cX9_free 9 = .ok (.iconst (-1), 1) := by decide +kernel
theorem dX9_free_10 : decode cX9_free 10 = .ok (.ixor, 1) := by decide +kernel
theorem dX9_free_11 : decode cX9_free 11 = .ok (.iand, 1) := by decide +kernel
theorem dX9_free_12 : decode cX9_free 12 = .ok (.ireturn, 1) := by decide +kernel
theorem dX9_many_0 : decode cX9_many 0 = .ok (.iconst 0, 1) := by decide +kernel
theorem dX9_many_1 : decode cX9_many 1 = .ok (.istore_n 1, 1) := by decide +kernel
theorem dX9_many_2 : decode cX9_many 2 = .ok (.iconst 0, 1) := by decide +kernel
theorem dX9_many_3 : decode cX9_many 3 = .ok (.istore_n 2, 1) := by decide +kernel
theorem dX9_many_4 : decode cX9_many 4 = .ok (.iload_n 2, 1) := by decide +kernel
theorem dX9_many_5 : decode cX9_many 5 = .ok (.bipush 12, 2) := by decide +kernel
theorem dX9_many_7 : decode cX9_many 7 = .ok (.if_icmp .ge 17, 3) := by decide +kernel
theorem dX9_many_10 : decode cX9_many 10 = .ok (.iload_n 1, 1) := by decide +kernel
theorem dX9_many_11 : decode cX9_many 11 = .ok (.iload_n 0, 1) := by decide +kernel
theorem dX9_many_12 : decode cX9_many 12 = .ok (.iload_n 2, 1) := by decide +kernel
theorem dX9_many_13 : decode cX9_many 13 = .ok (.iushr, 1) := by decide +kernel
theorem dX9_many_14 : decode cX9_many 14 = .ok (.iconst 1, 1) := by decide +kernel
theorem dX9_many_15 : decode cX9_many 15 = .ok (.iand, 1) := by decide +kernel
theorem dX9_many_16 : decode cX9_many 16 = .ok (.iadd, 1) := by decide +kernel
theorem dX9_many_17 : decode cX9_many 17 = .ok (.istore_n 1, 1) := by decide +kernel
theorem dX9_many_18 : decode cX9_many 18 = .ok (.iinc 2 1, 3) := by decide +kernel
theorem dX9_many_21 : decode cX9_many 21 = .ok (.goto (-17), 3) := by decide +kernel
theorem dX9_many_24 : decode cX9_many 24 = .ok (.iload_n 1, 1) := by decide +kernel
theorem dX9_many_25 : decode cX9_many 25 = .ok (.ireturn, 1) := by decide +kernel
set_option maxRecDepth 20000 in
theorem ggX9_countsBy_X9_countsOf : GoodIn wsX9_countsBy wsX9_countsOf := goodIn_r _ [8, 1, 9, 10, 11, 12, 7, 13, 14, 15, 16, 17, 18, 19, 20, 21, 22, 23, 24, 25, 26, 27, 28, 29, 30, 31, 32, 33, 34, 35, 36, 37, 38, 39, 40, 41, 42, 43, 44, 45, 46, 47, 48, 49, 50, 51, 52, 53, 54, 55, 56, 57, 58] (by decide +kernel) (by decide +kernel)
set_option maxRecDepth 20000 in
theorem gX9_countsBy_X9_countsOf : GoodIn wsX9_countsBy (wsV RX9 144 RX9 yX9_countsOf wsX9_countsOf) := goodIn_app (goodIn_of _ (by decide +kernel)) ggX9_countsBy_X9_countsOf
theorem dX9_countsBy_0 : decode cX9_countsBy 0 = .ok (.iconst 0, 1) := by decide +kernel
theorem dX9_countsBy_1 : decode cX9_countsBy 1 = .ok (.istore_n 2, 1) := by decide +kernel
theorem dX9_countsBy_2 : decode cX9_countsBy 2 = .ok (.iload_n 2, 1) := by decide +kernel
theorem dX9_countsBy_3 : decode cX9_countsBy 3 = .ok (.bipush 7, 2) := by decide +kernel
theorem dX9_countsBy_5 : decode cX9_countsBy 5 = .ok (.if_icmp .ge 24, 3) := by decide +kernel
theorem dX9_countsBy_8 : decode cX9_countsBy 8 = .ok (.aload_n 0, 1) := by decide +kernel
theorem dX9_countsBy_9 : decode cX9_countsBy 9 = .ok (.getfield 25, 3) := by decide +kernel
theorem dX9_countsBy_12 : decode cX9_countsBy 12 = .ok (.iload_n 2, 1) := by decide +kernel
theorem dX9_countsBy_13 : decode cX9_countsBy 13 = .ok (.iload_n 2, 1) := by decide +kernel
theorem dX9_countsBy_14 : decode cX9_countsBy 14 = .ok (.ifCond .ne 7, 3) := by decide +kernel
theorem dX9_countsBy_17 : decode cX9_countsBy 17 = .ok (.lconst 1, 1) := by decide +kernel
theorem dX9_countsBy_18 : decode cX9_countsBy 18 = .ok (.goto 4, 3) := by decide +kernel
theorem dX9_countsBy_21 : decode cX9_countsBy 21 = .ok (.lconst 0, 1) := by decide +kernel
theorem dX9_countsBy_22 : decode cX9_countsBy 22 = .ok (.lastore, 1) := by decide +kernel
theorem dX9_countsBy_23 : decode cX9_countsBy 23 = .ok (.iinc 2 1, 3) := by decide +kernel
theorem dX9_countsBy_26 : decode cX9_countsBy 26 = .ok (.goto (-24), 3) := by decide +kernel
theorem dX9_countsBy_29 : decode cX9_countsBy 29 = .ok (.iconst 1, 1) := by decide +kernel
theorem dX9_countsBy_30 : decode cX9_countsBy 30 = .ok (.istore_n 2, 1) := by decide +kernel
theorem dX9_countsBy_31 : decode cX9_countsBy 31 = .ok (.iload_n 2, 1) := by decide +kernel
theorem dX9_countsBy_32 : decode cX9_countsBy 32 = .ok (.iload_n 1, 1) := by decide +kernel
theorem dX9_countsBy_33 : decode cX9_countsBy 33 = .ok (.if_icmp .gt 22, 3) := by decide +kernel
theorem dX9_countsBy_36 : decode cX9_countsBy 36 = .ok (.iload_n 2, 1) := by decide +kernel
theorem dX9_countsBy_37 : decode cX9_countsBy 37 = .ok (.iload_n 1, 1) := by decide +kernel
theorem dX9_countsBy_38 : decode cX9_countsBy 38 = .ok (.iconst (-1), 1) := by decide +kernel
theorem dX9_countsBy_39 : decode cX9_countsBy 39 = .ok (.ixor, 1) := by decide +kernel
theorem dX9_countsBy_40 : decode cX9_countsBy 40 = .ok (.iand, 1) := by decide +kernel
theorem dX9_countsBy_41 : decode cX9_countsBy 41 = .ok (.ifCond .ne 8, 3) := by decide +kernel
theorem dX9_countsBy_44 : decode cX9_countsBy 44 = .ok (.aload_n 0, 1) := by decide +kernel
theorem dX9_countsBy_45 : decode cX9_countsBy 45 = .ok (.iload_n 2, 1) := by decide +kernel
theorem dX9_countsBy_46 : decode cX9_countsBy 46 = .ok (.invokevirtual 144, 3) := by decide +kernel
theorem dX9_countsBy_49 : decode cX9_countsBy 49 = .ok (.iinc 2 1, 3) := by decide +kernel
theorem dX9_countsBy_52 : decode cX9_countsBy 52 = .ok (.goto (-21), 3) := by decide +kernel
theorem dX9_countsBy_55 : decode cX9_countsBy 55 = .ok (.aload_n 0, 1) := by decide +kernel
theorem dX9_countsBy_56 : decode cX9_countsBy 56 = .ok (.iconst 0, 1) := by decide +kernel
theorem dX9_countsBy_57 : decode cX9_countsBy 57 = .ok (.putfield 148, 3) := by decide +kernel
theorem dX9_countsBy_60 : decode cX9_countsBy 60 = .ok (.iconst 0, 1) := by decide +kernel
theorem dX9_countsBy_61 : decode cX9_countsBy 61 = .ok (.istore_n 2, 1) := by decide +kernel
theorem dX9_countsBy_62 : decode cX9_countsBy 62 = .ok (.iload_n 2, 1) := by decide +kernel
theorem dX9_countsBy_63 : decode cX9_countsBy 63 = .ok (.bipush 7, 2) := by decide +kernel
theorem dX9_countsBy_65 : decode cX9_countsBy 65 = .ok (.if_icmp .ge 51, 3) := by decide +kernel
theorem dX9_countsBy_68 : decode cX9_countsBy 68 = .ok (.aload_n 0, 1) := by decide +kernel
theorem dX9_countsBy_69 : decode cX9_countsBy 69 = .ok (.getfield 29, 3) := by decide +kernel
theorem dX9_countsBy_72 : decode cX9_countsBy 72 = .ok (.iload_n 2, 1) := by decide +kernel
theorem dX9_countsBy_73 : decode cX9_countsBy 73 = .ok (.aload_n 0, 1) := by decide +kernel
theorem dX9_countsBy_74 : decode cX9_countsBy 74 = .ok (.getfield 25, 3) := by decide +kernel
theorem dX9_countsBy_77 : decode cX9_countsBy 77 = .ok (.bipush 7, 2) := by decide +kernel
theorem dX9_countsBy_79 : decode cX9_countsBy 79 = .ok (.iload_n 1, 1) := by decide +kernel
theorem dX9_countsBy_80 : decode cX9_countsBy 80 = .ok (.imul, 1) := by decide +kernel
theorem dX9_countsBy_81 : decode cX9_countsBy 81 = .ok (.iload_n 2, 1) := by decide +kernel
theorem dX9_countsBy_82 : decode cX9_countsBy 82 = .ok (.iadd, 1) := by decide +kernel
theorem dX9_countsBy_83 : decode cX9_countsBy 83 = .ok (.laload, 1) := by decide +kernel
theorem dX9_countsBy_84 : decode cX9_countsBy 84 = .ok (.lastore, 1) := by decide +kernel
theorem dX9_countsBy_85 : decode cX9_countsBy 85 = .ok (.aload_n 0, 1) := by decide +kernel
theorem dX9_countsBy_86 : decode cX9_countsBy 86 = .ok (.dup, 1) := by decide +kernel
theorem dX9_countsBy_87 : decode cX9_countsBy 87 = .ok (.getfield 148, 3) := by decide +kernel
theorem dX9_countsBy_90 : decode cX9_countsBy 90 = .ok (.aload_n 0, 1) := by decide +kernel
theorem dX9_countsBy_91 : decode cX9_countsBy 91 = .ok (.getfield 29, 3) := by decide +kernel
theorem dX9_countsBy_94 : decode cX9_countsBy 94 = .ok (.iload_n 2, 1) := by decide +kernel
theorem dX9_countsBy_95 : decode cX9_countsBy 95 = .ok (.laload, 1) := by decide +kernel
theorem dX9_countsBy_96 : decode cX9_countsBy 96 = .ok (.lconst 0, 1) := by decide +kernel
theorem dX9_countsBy_97 : decode cX9_countsBy 97 = .ok (.lcmp, 1) := by decide +kernel
theorem dX9_countsBy_98 : decode cX9_countsBy 98 = .ok (.ifCond .ge 7, 3) := by decide +kernel
theorem dX9_countsBy_101 : decode cX9_countsBy 101 = .ok (.iconst 1, 1) := by decide +kernel
theorem dX9_countsBy_102 : decode cX9_countsBy 102 = .ok (.goto 4, 3) := by decide +kernel
theorem dX9_countsBy_105 : decode cX9_countsBy 105 = .ok (.iconst 0, 1) := by decide +kernel
theorem dX9_countsBy_106 : decode cX9_countsBy 106 = .ok (.ior, 1) := by decide +kernel
theorem dX9_countsBy_107 : decode cX9_countsBy 107 = .ok (.putfield 148, 3) := by decide +kernel
theorem dX9_countsBy_110 : decode cX9_countsBy 110 = .ok (.iinc 2 1, 3) := by decide +kernel
theorem dX9_countsBy_113 : decode cX9_countsBy 113 = .ok (.goto (-51), 3) := by decide +kernel
theorem dX9_countsBy_116 : decode cX9_countsBy 116 = .ok (.return_, 1) := by decide +kernel
set_option maxRecDepth 20000 in
theorem ggX9_countsOf_X9_has : GoodIn wsX9_countsOf wsX9_has := goodIn_r _ [7] (by decide +kernel) (by decide +kernel)
set_option maxRecDepth 20000 in
theorem gX9_countsOf_X9_has : GoodIn wsX9_countsOf (va_wsS RX9 152 yX9_has wsX9_has) := goodIn_app (goodIn_of _ (by decide +kernel)) ggX9_countsOf_X9_has
set_option maxRecDepth 20000 in
theorem ggX9_countsOf_X9_times : GoodIn wsX9_countsOf wsX9_times := goodIn_r _ [10, 11, 12] (by decide +kernel) (by decide +kernel)
set_option maxRecDepth 20000 in
theorem gX9_countsOf_X9_times : GoodIn wsX9_countsOf (va_wsS RX9 156 yX9_times wsX9_times) := goodIn_app (goodIn_of _ (by decide +kernel)) ggX9_countsOf_X9_times
set_option maxRecDepth 20000 in
theorem ggX9_countsOf_X9_plus : GoodIn wsX9_countsOf wsX9_plus := goodIn_r _ [15, 12] (by decide +kernel) (by decide +kernel)
set_option maxRecDepth 20000 in
theorem gX9_countsOf_X9_plus : GoodIn wsX9_countsOf (va_wsS RX9 159 yX9_plus wsX9_plus) := goodIn_app (goodIn_of _ (by decide +kernel)) ggX9_countsOf_X9_plus
theorem dX9_countsOf_0 : decode cX9_countsOf 0 = .ok (.iconst 0, 1) := by decide +kernel
theorem dX9_countsOf_1 : decode cX9_countsOf 1 = .ok (.istore_n 2, 1) := by decide +kernel
theorem dX9_countsOf_2 : decode cX9_countsOf 2 = .ok (.iload_n 1, 1) := by decide +kernel
theorem dX9_countsOf_3 : decode cX9_countsOf 3 = .ok (.i2l, 1) := by decide +kernel
theorem dX9_countsOf_4 : decode cX9_countsOf 4 = .ok (.iload_n 2, 1) := by decide +kernel
theorem dX9_countsOf_5 : decode cX9_countsOf 5 = .ok (.invokestatic 152, 3) := by decide +kernel
theorem dX9_countsOf_8 : decode cX9_countsOf 8 = .ok (.ifCond .ne 9, 3) := by decide +kernel
theorem dX9_countsOf_11 : decode cX9_countsOf 11 = .ok (.iinc 2 1, 3) := by decide +kernel
theorem dX9_countsOf_14 : decode cX9_countsOf 14 = .ok (.goto (-12), 3) := by decide +kernel
theorem dX9_countsOf_17 : decode cX9_countsOf 17 = .ok (.iload_n 1, 1) := by decide +kernel
theorem dX9_countsOf_18 : decode cX9_countsOf 18 = .ok (.iconst 1, 1) := by decide +kernel
theorem dX9_countsOf_19 : decode cX9_countsOf 19 = .ok (.iload_n 2, 1) := by decide +kernel
theorem dX9_countsOf_20 : decode cX9_countsOf 20 = .ok (.ishl, 1) := by decide +kernel
theorem dX9_countsOf_21 : decode cX9_countsOf 21 = .ok (.iconst (-1), 1) := by decide +kernel
theorem dX9_countsOf_22 : decode cX9_countsOf 22 = .ok (.ixor, 1) := by decide +kernel
theorem dX9_countsOf_23 : decode cX9_countsOf 23 = .ok (.iand, 1) := by decide +kernel
theorem dX9_countsOf_24 : decode cX9_countsOf 24 = .ok (.istore_n 3, 1) := by decide +kernel
theorem dX9_countsOf_25 : decode cX9_countsOf 25 = .ok (.iconst 0, 1) := by decide +kernel
theorem dX9_countsOf_26 : decode cX9_countsOf 26 = .ok (.istore 4, 2) := by decide +kernel
theorem dX9_countsOf_28 : decode cX9_countsOf 28 = .ok (.iload 4, 2) := by decide +kernel
theorem dX9_countsOf_30 : decode cX9_countsOf 30 = .ok (.bipush 7, 2) := by decide +kernel
theorem dX9_countsOf_32 : decode cX9_countsOf 32 = .ok (.if_icmp .ge 33, 3) := by decide +kernel
theorem dX9_countsOf_35 : decode cX9_countsOf 35 = .ok (.aload_n 0, 1) := by decide +kernel
theorem dX9_countsOf_36 : decode cX9_countsOf 36 = .ok (.getfield 25, 3) := by decide +kernel
theorem dX9_countsOf_39 : decode cX9_countsOf 39 = .ok (.bipush 7, 2) := by decide +kernel
theorem dX9_countsOf_41 : decode cX9_countsOf 41 = .ok (.iload_n 1, 1) := by decide +kernel
theorem dX9_countsOf_42 : decode cX9_countsOf 42 = .ok (.imul, 1) := by decide +kernel
theorem dX9_countsOf_43 : decode cX9_countsOf 43 = .ok (.iload 4, 2) := by decide +kernel
theorem dX9_countsOf_45 : decode cX9_countsOf 45 = .ok (.iadd, 1) := by decide +kernel
theorem dX9_countsOf_46 : decode cX9_countsOf 46 = .ok (.aload_n 0, 1) := by decide +kernel
theorem dX9_countsOf_47 : decode cX9_countsOf 47 = .ok (.getfield 25, 3) := by decide +kernel
theorem dX9_countsOf_50 : decode cX9_countsOf 50 = .ok (.bipush 7, 2) := by decide +kernel
theorem dX9_countsOf_52 : decode cX9_countsOf 52 = .ok (.iload_n 3, 1) := by decide +kernel
theorem dX9_countsOf_53 : decode cX9_countsOf 53 = .ok (.imul, 1) := by decide +kernel
theorem dX9_countsOf_54 : decode cX9_countsOf 54 = .ok (.iload 4, 2) := by decide +kernel
theorem dX9_countsOf_56 : decode cX9_countsOf 56 = .ok (.iadd, 1) := by decide +kernel
theorem dX9_countsOf_57 : decode cX9_countsOf 57 = .ok (.laload, 1) := by decide +kernel
theorem dX9_countsOf_58 : decode cX9_countsOf 58 = .ok (.lastore, 1) := by decide +kernel
theorem dX9_countsOf_59 : decode cX9_countsOf 59 = .ok (.iinc 4 1, 3) := by decide +kernel
theorem dX9_countsOf_62 : decode cX9_countsOf 62 = .ok (.goto (-34), 3) := by decide +kernel
theorem dX9_countsOf_65 : decode cX9_countsOf 65 = .ok (.iload_n 2, 1) := by decide +kernel
theorem dX9_countsOf_66 : decode cX9_countsOf 66 = .ok (.iconst 1, 1) := by decide +kernel
theorem dX9_countsOf_67 : decode cX9_countsOf 67 = .ok (.iadd, 1) := by decide +kernel
theorem dX9_countsOf_68 : decode cX9_countsOf 68 = .ok (.istore 4, 2) := by decide +kernel
theorem dX9_countsOf_70 : decode cX9_countsOf 70 = .ok (.iload 4, 2) := by decide +kernel
theorem dX9_countsOf_72 : decode cX9_countsOf 72 = .ok (.aload_n 0, 1) := by decide +kernel
theorem dX9_countsOf_73 : decode cX9_countsOf 73 = .ok (.getfield 92, 3) := by decide +kernel
theorem dX9_countsOf_76 : decode cX9_countsOf 76 = .ok (.if_icmp .ge 112, 3) := by decide +kernel
theorem dX9_countsOf_79 : decode cX9_countsOf 79 = .ok (.aload_n 0, 1) := by decide +kernel
theorem dX9_countsOf_80 : decode cX9_countsOf 80 = .ok (.getfield 32, 3) := by decide +kernel
theorem dX9_countsOf_83 : decode cX9_countsOf 83 = .ok (.bipush 12, 2) := by decide +kernel
theorem dX9_countsOf_85 : decode cX9_countsOf 85 = .ok (.iload_n 2, 1) := by decide +kernel
theorem dX9_countsOf_86 : decode cX9_countsOf 86 = .ok (.imul, 1) := by decide +kernel
theorem dX9_countsOf_87 : decode cX9_countsOf 87 = .ok (.iload 4, 2) := by decide +kernel
theorem dX9_countsOf_89 : decode cX9_countsOf 89 = .ok (.iadd, 1) := by decide +kernel
theorem dX9_countsOf_90 : decode cX9_countsOf 90 = .ok (.iaload, 1) := by decide +kernel
theorem dX9_countsOf_91 : decode cX9_countsOf 91 = .ok (.istore 5, 2) := by decide +kernel
theorem dX9_countsOf_93 : decode cX9_countsOf 93 = .ok (.iconst 1, 1) := by decide +kernel
theorem dX9_countsOf_94 : decode cX9_countsOf 94 = .ok (.istore 6, 2) := by decide +kernel
theorem dX9_countsOf_96 : decode cX9_countsOf 96 = .ok (.iload 6, 2) := by decide +kernel
theorem dX9_countsOf_98 : decode cX9_countsOf 98 = .ok (.bipush 7, 2) := by decide +kernel
theorem dX9_countsOf_100 : decode cX9_countsOf 100 = .ok (.if_icmp .ge 82, 3) := by decide +kernel
theorem dX9_countsOf_103 : decode cX9_countsOf 103 = .ok (.iload 5, 2) := by decide +kernel
theorem dX9_countsOf_105 : decode cX9_countsOf 105 = .ok (.ifCond .lt 77, 3) := by decide +kernel
theorem dX9_countsOf_108 : decode cX9_countsOf 108 = .ok (.iload_n 3, 1) := by decide +kernel
theorem dX9_countsOf_109 : decode cX9_countsOf 109 = .ok (.i2l, 1) := by decide +kernel
theorem dX9_countsOf_110 : decode cX9_countsOf 110 = .ok (.iload 4, 2) := by decide +kernel
theorem dX9_countsOf_112 : decode cX9_countsOf 112 = .ok (.invokestatic 152, 3) := by decide +kernel
theorem dX9_countsOf_115 : decode cX9_countsOf 115 = .ok (.ifCond .eq 67, 3) := by decide +kernel
theorem dX9_countsOf_118 : decode cX9_countsOf 118 = .ok (.iload 5, 2) := by decide +kernel
theorem dX9_countsOf_120 : decode cX9_countsOf 120 = .ok (.i2l, 1) := by decide +kernel
theorem dX9_countsOf_121 : decode cX9_countsOf 121 = .ok (.aload_n 0, 1) := by decide +kernel
theorem dX9_countsOf_122 : decode cX9_countsOf 122 = .ok (.getfield 25, 3) := by decide +kernel
theorem dX9_countsOf_125 : decode cX9_countsOf 125 = .ok (.bipush 7, 2) := by decide +kernel
theorem dX9_countsOf_127 : decode cX9_countsOf 127 = .ok (.iload_n 3, 1) := by decide +kernel
theorem dX9_countsOf_128 : decode cX9_countsOf 128 = .ok (.iconst 1, 1) := by decide +kernel
theorem dX9_countsOf_129 : decode cX9_countsOf 129 = .ok (.iload 4, 2) := by decide +kernel
theorem dX9_countsOf_131 : decode cX9_countsOf 131 = .ok (.ishl, 1) := by decide +kernel
theorem dX9_countsOf_132 : decode cX9_countsOf 132 = .ok (.iconst (-1), 1) := by decide +kernel
theorem dX9_countsOf_133 : decode cX9_countsOf 133 = .ok (.ixor, 1) := by decide +kernel
theorem dX9_countsOf_134 : decode cX9_countsOf 134 = .ok (.iand, 1) := by decide +kernel
theorem dX9_countsOf_135 : decode cX9_countsOf 135 = .ok (.imul, 1) := by decide +kernel
theorem dX9_countsOf_136 : decode cX9_countsOf 136 = .ok (.iload 6, 2) := by decide +kernel
theorem dX9_countsOf_138 : decode cX9_countsOf 138 = .ok (.iadd, 1) := by decide +kernel
theorem dX9_countsOf_139 : decode cX9_countsOf 139 = .ok (.iconst 1, 1) := by decide +kernel
theorem dX9_countsOf_140 : decode cX9_countsOf 140 = .ok (.isub, 1) := by decide +kernel
theorem dX9_countsOf_141 : decode cX9_countsOf 141 = .ok (.laload, 1) := by decide +kernel
theorem dX9_countsOf_142 : decode cX9_countsOf 142 = .ok (.invokestatic 156, 3) := by decide +kernel
theorem dX9_countsOf_145 : decode cX9_countsOf 145 = .ok (.lstore 7, 2) := by decide +kernel
theorem dX9_countsOf_147 : decode cX9_countsOf 147 = .ok (.aload_n 0, 1) := by decide +kernel
theorem dX9_countsOf_148 : decode cX9_countsOf 148 = .ok (.getfield 25, 3) := by decide +kernel
theorem dX9_countsOf_151 : decode cX9_countsOf 151 = .ok (.bipush 7, 2) := by decide +kernel
theorem dX9_countsOf_153 : decode cX9_countsOf 153 = .ok (.iload_n 1, 1) := by decide +kernel
theorem dX9_countsOf_154 : decode cX9_countsOf 154 = .ok (.imul, 1) := by decide +kernel
theorem dX9_countsOf_155 : decode cX9_countsOf 155 = .ok (.iload 6, 2) := by decide +kernel
theorem dX9_countsOf_157 : decode cX9_countsOf 157 = .ok (.iadd, 1) := by decide +kernel
theorem dX9_countsOf_158 : decode cX9_countsOf 158 = .ok (.aload_n 0, 1) := by decide +kernel
theorem dX9_countsOf_159 : decode cX9_countsOf 159 = .ok (.getfield 25, 3) := by decide +kernel
theorem dX9_countsOf_162 : decode cX9_countsOf 162 = .ok (.bipush 7, 2) := by decide +kernel
theorem dX9_countsOf_164 : decode cX9_countsOf 164 = .ok (.iload_n 1, 1) := by decide +kernel
theorem dX9_countsOf_165 : decode cX9_countsOf 165 = .ok (.imul, 1) := by decide +kernel
theorem dX9_countsOf_166 : decode cX9_countsOf 166 = .ok (.iload 6, 2) := by decide +kernel
theorem dX9_countsOf_168 : decode cX9_countsOf 168 = .ok (.iadd, 1) := by decide +kernel
theorem dX9_countsOf_169 : decode cX9_countsOf 169 = .ok (.laload, 1) := by decide +kernel
theorem dX9_countsOf_170 : decode cX9_countsOf 170 = .ok (.lload 7, 2) := by decide +kernel
theorem dX9_countsOf_172 : decode cX9_countsOf 172 = .ok (.invokestatic 159, 3) := by decide +kernel
theorem dX9_countsOf_175 : decode cX9_countsOf 175 = .ok (.lastore, 1) := by decide +kernel
theorem dX9_countsOf_176 : decode cX9_countsOf 176 = .ok (.iinc 6 1, 3) := by decide +kernel
theorem dX9_countsOf_179 : decode cX9_countsOf 179 = .ok (.goto (-83), 3) := by decide +kernel
theorem dX9_countsOf_182 : decode cX9_countsOf 182 = .ok (.iinc 4 1, 3) := by decide +kernel
theorem dX9_countsOf_185 : decode cX9_countsOf 185 = .ok (.goto (-115), 3) := by decide +kernel
theorem dX9_countsOf_188 : decode cX9_countsOf 188 = .ok (.return_, 1) := by decide +kernel
set_option maxRecDepth 20000 in
theorem ggX9_lays_X9_weight : GoodIn wsX9_lays wsX9_weight := goodIn_r _ [9, 10, 11, 12, 13, 14, 8, 15, 16, 17, 18, 19, 20, 21, 22, 23, 24, 25, 26, 27, 28, 29, 30, 31, 32, 33, 34, 35, 36, 37, 38, 39, 40, 41, 42, 43, 44, 45, 46, 47, 48, 49, 50, 51, 52, 53] (by decide +kernel) (by decide +kernel)
set_option maxRecDepth 20000 in
theorem gX9_lays_X9_weight : GoodIn wsX9_lays (wsV RX9 134 RX9 yX9_weight wsX9_weight) := goodIn_app (goodIn_of _ (by decide +kernel)) ggX9_lays_X9_weight
theorem dX9_lays_0 : decode cX9_lays 0 = .ok (.iconst 0, 1) := by decide +kernel
theorem dX9_lays_1 : decode cX9_lays 1 = .ok (.istore_n 2, 1) := by decide +kernel
theorem dX9_lays_2 : decode cX9_lays 2 = .ok (.iload_n 2, 1) := by decide +kernel
theorem dX9_lays_3 : decode cX9_lays 3 = .ok (.sipush 144, 3) := by decide +kernel
theorem dX9_lays_6 : decode cX9_lays 6 = .ok (.if_icmp .ge 24, 3) := by decide +kernel
theorem dX9_lays_9 : decode cX9_lays 9 = .ok (.aload_n 0, 1) := by decide +kernel
theorem dX9_lays_10 : decode cX9_lays 10 = .ok (.getfield 32, 3) := by decide +kernel
theorem dX9_lays_13 : decode cX9_lays 13 = .ok (.iload_n 2, 1) := by decide +kernel
theorem dX9_lays_14 : decode cX9_lays 14 = .ok (.iload_n 1, 1) := by decide +kernel
theorem dX9_lays_15 : decode cX9_lays 15 = .ok (.ifCond .eq 7, 3) := by decide +kernel
theorem dX9_lays_18 : decode cX9_lays 18 = .ok (.iconst 1, 1) := by decide +kernel
theorem dX9_lays_19 : decode cX9_lays 19 = .ok (.goto 4, 3) := by decide +kernel
theorem dX9_lays_22 : decode cX9_lays 22 = .ok (.iconst (-1), 1) := by decide +kernel
theorem dX9_lays_23 : decode cX9_lays 23 = .ok (.iastore, 1) := by decide +kernel
theorem dX9_lays_24 : decode cX9_lays 24 = .ok (.iinc 2 1, 3) := by decide +kernel
theorem dX9_lays_27 : decode cX9_lays 27 = .ok (.goto (-25), 3) := by decide +kernel
theorem dX9_lays_30 : decode cX9_lays 30 = .ok (.iconst 0, 1) := by decide +kernel
theorem dX9_lays_31 : decode cX9_lays 31 = .ok (.istore_n 2, 1) := by decide +kernel
theorem dX9_lays_32 : decode cX9_lays 32 = .ok (.iload_n 2, 1) := by decide +kernel
theorem dX9_lays_33 : decode cX9_lays 33 = .ok (.aload_n 0, 1) := by decide +kernel
theorem dX9_lays_34 : decode cX9_lays 34 = .ok (.getfield 100, 3) := by decide +kernel
theorem dX9_lays_37 : decode cX9_lays 37 = .ok (.if_icmp .ge 43, 3) := by decide +kernel
theorem dX9_lays_40 : decode cX9_lays 40 = .ok (.aload_n 0, 1) := by decide +kernel
theorem dX9_lays_41 : decode cX9_lays 41 = .ok (.getfield 32, 3) := by decide +kernel
theorem dX9_lays_44 : decode cX9_lays 44 = .ok (.bipush 12, 2) := by decide +kernel
theorem dX9_lays_46 : decode cX9_lays 46 = .ok (.aload_n 0, 1) := by decide +kernel
theorem dX9_lays_47 : decode cX9_lays 47 = .ok (.getfield 16, 3) := by decide +kernel
theorem dX9_lays_50 : decode cX9_lays 50 = .ok (.iload_n 2, 1) := by decide +kernel
theorem dX9_lays_51 : decode cX9_lays 51 = .ok (.iaload, 1) := by decide +kernel
theorem dX9_lays_52 : decode cX9_lays 52 = .ok (.imul, 1) := by decide +kernel
theorem dX9_lays_53 : decode cX9_lays 53 = .ok (.aload_n 0, 1) := by decide +kernel
theorem dX9_lays_54 : decode cX9_lays 54 = .ok (.getfield 19, 3) := by decide +kernel
theorem dX9_lays_57 : decode cX9_lays 57 = .ok (.iload_n 2, 1) := by decide +kernel
theorem dX9_lays_58 : decode cX9_lays 58 = .ok (.iaload, 1) := by decide +kernel
theorem dX9_lays_59 : decode cX9_lays 59 = .ok (.iadd, 1) := by decide +kernel
theorem dX9_lays_60 : decode cX9_lays 60 = .ok (.iload_n 1, 1) := by decide +kernel
theorem dX9_lays_61 : decode cX9_lays 61 = .ok (.ifCond .eq 7, 3) := by decide +kernel
theorem dX9_lays_64 : decode cX9_lays 64 = .ok (.iconst (-1), 1) := by decide +kernel
theorem dX9_lays_65 : decode cX9_lays 65 = .ok (.goto 8, 3) := by decide +kernel
theorem dX9_lays_68 : decode cX9_lays 68 = .ok (.aload_n 0, 1) := by decide +kernel
theorem dX9_lays_69 : decode cX9_lays 69 = .ok (.iload_n 2, 1) := by decide +kernel
theorem dX9_lays_70 : decode cX9_lays 70 = .ok (.invokevirtual 134, 3) := by decide +kernel
theorem dX9_lays_73 : decode cX9_lays 73 = .ok (.iastore, 1) := by decide +kernel
theorem dX9_lays_74 : decode cX9_lays 74 = .ok (.iinc 2 1, 3) := by decide +kernel
theorem dX9_lays_77 : decode cX9_lays 77 = .ok (.goto (-45), 3) := by decide +kernel
theorem dX9_lays_80 : decode cX9_lays 80 = .ok (.return_, 1) := by decide +kernel
set_option maxRecDepth 20000 in
theorem ggX9_findsCounts_X9_lays : GoodIn wsX9_findsCounts wsX9_lays := goodIn_r _ [5, 6, 7, 8, 9, 10, 11, 12, 4, 13, 14, 15, 16, 17, 18, 19, 20, 48, 49, 50, 51, 52, 53, 54, 55, 56, 57, 58, 59, 60, 61, 62, 63, 64, 65, 66, 67, 68, 69, 70, 71, 72, 73, 74, 75, 76, 77, 78, 79, 80, 81, 82, 83, 84] (by decide +kernel) (by decide +kernel)
set_option maxRecDepth 20000 in
theorem gX9_findsCounts_X9_lays : GoodIn wsX9_findsCounts (wsV RX9 162 RX9 yX9_lays wsX9_lays) := goodIn_app (goodIn_of _ (by decide +kernel)) ggX9_findsCounts_X9_lays
set_option maxRecDepth 20000 in
theorem ggX9_findsCounts_X9_free : GoodIn wsX9_findsCounts wsX9_free := goodIn_r _ [24, 25, 48, 49, 50, 51, 52, 53, 54, 55, 56, 57, 58, 59, 60, 61, 62, 63, 64, 65, 66, 67, 68, 69, 70, 71, 72, 73, 74, 75, 76, 77, 78, 79, 80, 81, 82, 83, 84] (by decide +kernel) (by decide +kernel)
set_option maxRecDepth 20000 in
theorem gX9_findsCounts_X9_free : GoodIn wsX9_findsCounts (wsV RX9 166 RX9 yX9_free wsX9_free) := goodIn_app (goodIn_of _ (by decide +kernel)) ggX9_findsCounts_X9_free
set_option maxRecDepth 20000 in
theorem ggX9_findsCounts_X9_countsBy : GoodIn wsX9_findsCounts wsX9_countsBy := goodIn_r _ [29, 30, 31, 32, 33, 34, 35, 4, 36, 25, 6, 37, 38, 39, 40, 41, 42, 43, 44, 45, 46, 47, 48, 49, 50, 51, 52, 53, 54, 55, 56, 57, 58, 59, 60, 61, 62, 63, 64, 65, 66, 67, 68, 69, 70, 71, 72, 73, 74, 75, 76, 77, 78, 79, 80, 81, 82, 83, 84] (by decide +kernel) (by decide +kernel)
set_option maxRecDepth 20000 in
theorem gX9_findsCounts_X9_countsBy : GoodIn wsX9_findsCounts (wsV RX9 169 RX9 yX9_countsBy wsX9_countsBy) := goodIn_app (goodIn_of _ (by decide +kernel)) ggX9_findsCounts_X9_countsBy
theorem dX9_findsCounts_0 : decode cX9_findsCounts 0 = .ok (.aload_n 0, 1) := by decide +kernel
theorem dX9_findsCounts_1 : decode cX9_findsCounts 1 = .ok (.iconst 0, 1) := by decide +kernel
theorem dX9_findsCounts_2 : decode cX9_findsCounts 2 = .ok (.invokevirtual 162, 3) := by decide +kernel
theorem dX9_findsCounts_5 : decode cX9_findsCounts 5 = .ok (.aload_n 0, 1) := by decide +kernel
theorem dX9_findsCounts_6 : decode cX9_findsCounts 6 = .ok (.aload_n 0, 1) := by decide +kernel
theorem dX9_findsCounts_7 : decode cX9_findsCounts 7 = .ok (.iload_n 1, 1) := by decide +kernel
theorem dX9_findsCounts_8 : decode cX9_findsCounts 8 = .ok (.invokevirtual 166, 3) := by decide +kernel
theorem dX9_findsCounts_11 : decode cX9_findsCounts 11 = .ok (.invokevirtual 169, 3) := by decide +kernel
theorem dX9_findsCounts_14 : decode cX9_findsCounts 14 = .ok (.return_, 1) := by decide +kernel
set_option maxRecDepth 20000 in
theorem ggX9_counts_X9_isOut : GoodIn wsX9_counts wsX9_isOut := goodIn_r _ [7, 8, 9, 10, 6, 11] (by decide +kernel) (by decide +kernel)
set_option maxRecDepth 20000 in
theorem gX9_counts_X9_isOut : GoodIn wsX9_counts (va_wsS RX9 138 yX9_isOut wsX9_isOut) := goodIn_app (goodIn_of _ (by decide +kernel)) ggX9_counts_X9_isOut
set_option maxRecDepth 20000 in
theorem ggX9_counts_X9_in : GoodIn wsX9_counts wsX9_in := goodIn_r _ [11] (by decide +kernel) (by decide +kernel)
set_option maxRecDepth 20000 in
theorem gX9_counts_X9_in : GoodIn wsX9_counts (va_wsS RX9 96 yX9_in wsX9_in) := goodIn_app (goodIn_of _ (by decide +kernel)) ggX9_counts_X9_in
set_option maxRecDepth 20000 in
theorem ggX9_counts_X9_told : GoodIn wsX9_counts wsX9_told := goodIn_r _ [14, 15] (by decide +kernel) (by decide +kernel)
set_option maxRecDepth 20000 in
theorem gX9_counts_X9_told : GoodIn wsX9_counts (va_wsS RX9 174 yX9_told wsX9_told) := goodIn_app (goodIn_of _ (by decide +kernel)) ggX9_counts_X9_told
set_option maxRecDepth 20000 in
theorem ggX9_counts_X9_findsCounts : GoodIn wsX9_counts wsX9_findsCounts := goodIn_r _ [19, 20, 21, 22, 6, 23, 24, 25, 26, 27, 28, 29, 30, 31, 32, 33, 34, 35, 36, 37, 38, 39, 40, 41, 42, 43, 44, 45, 46, 47, 48, 2, 3, 49, 50, 51, 52, 53, 54, 55, 56, 57, 58, 59, 60, 61, 62, 63, 64, 65, 66, 67, 68, 69, 70, 71, 72, 73, 74, 75, 76, 77, 78, 79, 80, 81, 82, 83, 84, 85, 86, 87, 88, 89, 90, 91, 92, 93, 94, 95, 96, 97, 98, 99, 100] (by decide +kernel) (by decide +kernel)
set_option maxRecDepth 20000 in
theorem gX9_counts_X9_findsCounts : GoodIn wsX9_counts (wsV RX9 178 RX9 yX9_findsCounts wsX9_findsCounts) := goodIn_app (goodIn_of _ (by decide +kernel)) ggX9_counts_X9_findsCounts
theorem dX9_counts_0 : decode cX9_counts 0 = .ok (.iload_n 1, 1) := by decide +kernel
theorem dX9_counts_1 : decode cX9_counts 1 = .ok (.invokestatic 138, 3) := by decide +kernel
theorem dX9_counts_4 : decode cX9_counts 4 = .ok (.ifCond .eq 15, 3) := by decide +kernel
theorem dX9_counts_7 : decode cX9_counts 7 = .ok (.iload_n 2, 1) := by decide +kernel
theorem dX9_counts_8 : decode cX9_counts 8 = .ok (.i2l, 1) := by decide +kernel
theorem dX9_counts_9 : decode cX9_counts 9 = .ok (.lconst 0, 1) := by decide +kernel
theorem dX9_counts_10 : decode cX9_counts 10 = .ok (.ldc2_w 172, 3) := by decide +kernel
theorem dX9_counts_13 : decode cX9_counts 13 = .ok (.invokestatic 96, 3) := by decide +kernel
theorem dX9_counts_16 : decode cX9_counts 16 = .ok (.ifCond .ne 9, 3) := by decide +kernel
theorem dX9_counts_19 : decode cX9_counts 19 = .ok (.bipush (-2), 2) := by decide +kernel
theorem dX9_counts_21 : decode cX9_counts 21 = .ok (.invokestatic 174, 3) := by decide +kernel
theorem dX9_counts_24 : decode cX9_counts 24 = .ok (.lreturn, 1) := by decide +kernel
theorem dX9_counts_25 : decode cX9_counts 25 = .ok (.aload_n 0, 1) := by decide +kernel
theorem dX9_counts_26 : decode cX9_counts 26 = .ok (.iload_n 1, 1) := by decide +kernel
theorem dX9_counts_27 : decode cX9_counts 27 = .ok (.invokevirtual 178, 3) := by decide +kernel
theorem dX9_counts_30 : decode cX9_counts 30 = .ok (.aload_n 0, 1) := by decide +kernel
theorem dX9_counts_31 : decode cX9_counts 31 = .ok (.getfield 148, 3) := by decide +kernel
theorem dX9_counts_34 : decode cX9_counts 34 = .ok (.ifCond .eq 11, 3) := by decide +kernel
theorem dX9_counts_37 : decode cX9_counts 37 = .ok (.bipush (-5), 2) := by decide +kernel
theorem dX9_counts_39 : decode cX9_counts 39 = .ok (.invokestatic 174, 3) := by decide +kernel
theorem dX9_counts_42 : decode cX9_counts 42 = .ok (.goto 9, 3) := by decide +kernel
theorem dX9_counts_45 : decode cX9_counts 45 = .ok (.aload_n 0, 1) := by decide +kernel
theorem dX9_counts_46 : decode cX9_counts 46 = .ok (.getfield 29, 3) := by decide +kernel
theorem dX9_counts_49 : decode cX9_counts 49 = .ok (.iload_n 2, 1) := by decide +kernel
theorem dX9_counts_50 : decode cX9_counts 50 = .ok (.laload, 1) := by decide +kernel
theorem dX9_counts_51 : decode cX9_counts 51 = .ok (.lreturn, 1) := by decide +kernel
theorem dX9_at_0 : decode cX9_at 0 = .ok (.iload_n 1, 1) := by decide +kernel
theorem dX9_at_1 : decode cX9_at 1 = .ok (.iload_n 2, 1) := by decide +kernel
theorem dX9_at_2 : decode cX9_at 2 = .ok (.isub, 1) := by decide +kernel
theorem dX9_at_3 : decode cX9_at 3 = .ok (.istore_n 3, 1) := by decide +kernel
theorem dX9_at_4 : decode cX9_at 4 = .ok (.iload_n 3, 1) := by decide +kernel
theorem dX9_at_5 : decode cX9_at 5 = .ok (.ifCond .lt 10, 3) := by decide +kernel
theorem dX9_at_8 : decode cX9_at 8 = .ok (.iload_n 3, 1) := by decide +kernel
theorem dX9_at_9 : decode cX9_at 9 = .ok (.iconst 2, 1) := by decide +kernel
theorem dX9_at_10 : decode cX9_at 10 = .ok (.irem, 1) := by decide +kernel
theorem dX9_at_11 : decode cX9_at 11 = .ok (.iconst 1, 1) := by decide +kernel
theorem dX9_at_12 : decode cX9_at 12 = .ok (.if_icmp .ne 5, 3) := by decide +kernel
theorem dX9_at_15 : decode cX9_at 15 = .ok (.lconst 0, 1) := by decide +kernel
theorem dX9_at_16 : decode cX9_at 16 = .ok (.lreturn, 1) := by decide +kernel
theorem dX9_at_17 : decode cX9_at 17 = .ok (.iload_n 3, 1) := by decide +kernel
theorem dX9_at_18 : decode cX9_at 18 = .ok (.iconst 4, 1) := by decide +kernel
theorem dX9_at_19 : decode cX9_at 19 = .ok (.irem, 1) := by decide +kernel
theorem dX9_at_20 : decode cX9_at 20 = .ok (.ifCond .ne 14, 3) := by decide +kernel
theorem dX9_at_23 : decode cX9_at 23 = .ok (.aload_n 0, 1) := by decide +kernel
theorem dX9_at_24 : decode cX9_at 24 = .ok (.getfield 29, 3) := by decide +kernel
theorem dX9_at_27 : decode cX9_at 27 = .ok (.iload_n 3, 1) := by decide +kernel
theorem dX9_at_28 : decode cX9_at 28 = .ok (.iconst 2, 1) := by decide +kernel
theorem dX9_at_29 : decode cX9_at 29 = .ok (.idiv, 1) := by decide +kernel
theorem dX9_at_30 : decode cX9_at 30 = .ok (.laload, 1) := by decide +kernel
theorem dX9_at_31 : decode cX9_at 31 = .ok (.goto 12, 3) := by decide +kernel
theorem dX9_at_34 : decode cX9_at 34 = .ok (.aload_n 0, 1) := by decide +kernel
theorem dX9_at_35 : decode cX9_at 35 = .ok (.getfield 29, 3) := by decide +kernel
theorem dX9_at_38 : decode cX9_at 38 = .ok (.iload_n 3, 1) := by decide +kernel
theorem dX9_at_39 : decode cX9_at 39 = .ok (.iconst 2, 1) := by decide +kernel
theorem dX9_at_40 : decode cX9_at 40 = .ok (.idiv, 1) := by decide +kernel
theorem dX9_at_41 : decode cX9_at 41 = .ok (.laload, 1) := by decide +kernel
theorem dX9_at_42 : decode cX9_at 42 = .ok (.lneg, 1) := by decide +kernel
theorem dX9_at_43 : decode cX9_at 43 = .ok (.lreturn, 1) := by decide +kernel
set_option maxRecDepth 20000 in
theorem ggX9_coef_X9_isOut : GoodIn wsX9_coef wsX9_isOut := goodIn_r _ [6, 7, 8, 9, 5, 10] (by decide +kernel) (by decide +kernel)
set_option maxRecDepth 20000 in
theorem gX9_coef_X9_isOut : GoodIn wsX9_coef (va_wsS RX9 138 yX9_isOut wsX9_isOut) := goodIn_app (goodIn_of _ (by decide +kernel)) ggX9_coef_X9_isOut
set_option maxRecDepth 20000 in
theorem ggX9_coef_X9_in : GoodIn wsX9_coef wsX9_in := goodIn_r _ [10] (by decide +kernel) (by decide +kernel)
set_option maxRecDepth 20000 in
theorem gX9_coef_X9_in : GoodIn wsX9_coef (va_wsS RX9 96 yX9_in wsX9_in) := goodIn_app (goodIn_of _ (by decide +kernel)) ggX9_coef_X9_in
set_option maxRecDepth 20000 in
theorem ggX9_coef_X9_told : GoodIn wsX9_coef wsX9_told := goodIn_r _ [13, 14] (by decide +kernel) (by decide +kernel)
set_option maxRecDepth 20000 in
theorem gX9_coef_X9_told : GoodIn wsX9_coef (va_wsS RX9 174 yX9_told wsX9_told) := goodIn_app (goodIn_of _ (by decide +kernel)) ggX9_coef_X9_told
set_option maxRecDepth 20000 in
theorem ggX9_coef_X9_findsCounts : GoodIn wsX9_coef wsX9_findsCounts := goodIn_r _ [18, 19, 20, 21, 5, 22, 23, 24, 25, 26, 27, 28, 29, 30, 31, 32, 33, 34, 35, 36, 37, 38, 39, 40, 41, 42, 43, 44, 45, 46, 47, 2, 48, 49, 50, 51, 52, 53, 54, 55, 56, 57, 58, 59, 60, 61, 62, 63, 71, 72, 73, 74, 75, 76, 77, 78, 79, 80, 81, 82, 83, 84, 85, 86, 87, 88, 89, 90, 91, 92, 93, 94, 95, 96, 97, 98, 99, 100, 101, 102, 103, 104, 105, 106, 107] (by decide +kernel) (by decide +kernel)
set_option maxRecDepth 20000 in
theorem gX9_coef_X9_findsCounts : GoodIn wsX9_coef (wsV RX9 178 RX9 yX9_findsCounts wsX9_findsCounts) := goodIn_app (goodIn_of _ (by decide +kernel)) ggX9_coef_X9_findsCounts
set_option maxRecDepth 20000 in
theorem ggX9_coef_X9_free : GoodIn wsX9_coef wsX9_free := goodIn_r _ [41, 42, 71, 72, 73, 74, 75, 76, 77, 78, 79, 80, 81, 82, 83, 84, 85, 86, 87, 88, 89, 90, 91, 92, 93, 94, 95, 96, 97, 98, 99, 100, 101, 102, 103, 104, 105, 106, 107] (by decide +kernel) (by decide +kernel)
set_option maxRecDepth 20000 in
theorem gX9_coef_X9_free : GoodIn wsX9_coef (wsV RX9 166 RX9 yX9_free wsX9_free) := goodIn_app (goodIn_of _ (by decide +kernel)) ggX9_coef_X9_free
set_option maxRecDepth 20000 in
theorem ggX9_coef_X9_many : GoodIn wsX9_coef wsX9_many := goodIn_r _ [66] (by decide +kernel) (by decide +kernel)
set_option maxRecDepth 20000 in
theorem gX9_coef_X9_many : GoodIn wsX9_coef (va_wsS RX9 181 yX9_many wsX9_many) := goodIn_app (goodIn_of _ (by decide +kernel)) ggX9_coef_X9_many
set_option maxRecDepth 20000 in
theorem ggX9_coef_X9_at : GoodIn wsX9_coef wsX9_at := goodIn_r _ [70, 48, 71, 72, 73, 74, 75, 76, 77, 78, 79, 80, 81, 82, 83, 84, 85, 86, 87, 88, 89, 90, 91, 92, 93, 94, 95, 96, 97, 98, 99, 100, 101, 102, 103, 104, 105, 106, 107] (by decide +kernel) (by decide +kernel)
set_option maxRecDepth 20000 in
theorem gX9_coef_X9_at : GoodIn wsX9_coef (wsV RX9 184 RX9 yX9_at wsX9_at) := goodIn_app (goodIn_of _ (by decide +kernel)) ggX9_coef_X9_at
theorem dX9_coef_0 : decode cX9_coef 0 = .ok (.iload_n 1, 1) := by decide +kernel
theorem dX9_coef_1 : decode cX9_coef 1 = .ok (.invokestatic 138, 3) := by decide +kernel
theorem dX9_coef_4 : decode cX9_coef 4 = .ok (.ifCond .eq 15, 3) := by decide +kernel
theorem dX9_coef_7 : decode cX9_coef 7 = .ok (.iload_n 2, 1) := by decide +kernel
theorem dX9_coef_8 : decode cX9_coef 8 = .ok (.i2l, 1) := by decide +kernel
theorem dX9_coef_9 : decode cX9_coef 9 = .ok (.lconst 0, 1) := by decide +kernel
theorem dX9_coef_10 : decode cX9_coef 10 = .ok (.ldc2_w 118, 3) := by decide +kernel
theorem dX9_coef_13 : decode cX9_coef 13 = .ok (.invokestatic 96, 3) := by decide +kernel
theorem dX9_coef_16 : decode cX9_coef 16 = .ok (.ifCond .ne 9, 3) := by decide +kernel
theorem dX9_coef_19 : decode cX9_coef 19 = .ok (.bipush (-2), 2) := by decide +kernel
theorem dX9_coef_21 : decode cX9_coef 21 = .ok (.invokestatic 174, 3) := by decide +kernel
theorem dX9_coef_24 : decode cX9_coef 24 = .ok (.lreturn, 1) := by decide +kernel
theorem dX9_coef_25 : decode cX9_coef 25 = .ok (.aload_n 0, 1) := by decide +kernel
theorem dX9_coef_26 : decode cX9_coef 26 = .ok (.iload_n 1, 1) := by decide +kernel
theorem dX9_coef_27 : decode cX9_coef 27 = .ok (.invokevirtual 178, 3) := by decide +kernel
theorem dX9_coef_30 : decode cX9_coef 30 = .ok (.aload_n 0, 1) := by decide +kernel
theorem dX9_coef_31 : decode cX9_coef 31 = .ok (.getfield 148, 3) := by decide +kernel
theorem dX9_coef_34 : decode cX9_coef 34 = .ok (.ifCond .eq 11, 3) := by decide +kernel
theorem dX9_coef_37 : decode cX9_coef 37 = .ok (.bipush (-5), 2) := by decide +kernel
theorem dX9_coef_39 : decode cX9_coef 39 = .ok (.invokestatic 174, 3) := by decide +kernel
theorem dX9_coef_42 : decode cX9_coef 42 = .ok (.goto 16, 3) := by decide +kernel
theorem dX9_coef_45 : decode cX9_coef 45 = .ok (.aload_n 0, 1) := by decide +kernel
theorem dX9_coef_46 : decode cX9_coef 46 = .ok (.aload_n 0, 1) := by decide +kernel
theorem dX9_coef_47 : decode cX9_coef 47 = .ok (.iload_n 1, 1) := by decide +kernel
theorem dX9_coef_48 : decode cX9_coef 48 = .ok (.invokevirtual 166, 3) := by decide +kernel
theorem dX9_coef_51 : decode cX9_coef 51 = .ok (.invokestatic 181, 3) := by decide +kernel
theorem dX9_coef_54 : decode cX9_coef 54 = .ok (.iload_n 2, 1) := by decide +kernel
theorem dX9_coef_55 : decode cX9_coef 55 = .ok (.invokevirtual 184, 3) := by decide +kernel
theorem dX9_coef_58 : decode cX9_coef 58 = .ok (.lreturn, 1) := by decide +kernel
set_option maxRecDepth 20000 in
theorem ggX9_findsTerms_X9_findsCounts : GoodIn wsX9_findsTerms wsX9_findsCounts := goodIn_r _ [12, 13, 14, 15, 11, 16, 17, 18, 19, 20, 21, 22, 23, 24, 25, 26, 27, 28, 29, 30, 31, 32, 33, 34, 35, 36, 37, 38, 39, 40, 41, 4, 7, 42, 43, 44, 45, 46, 47, 48, 49, 50, 51, 52, 53, 54, 55, 56, 57, 58, 59, 60, 61, 62, 63, 64, 65, 66, 67, 68, 69, 70, 71, 72, 73, 74, 75, 76, 77, 78, 79, 80, 81, 82, 83, 84, 85, 86, 87, 88, 89, 90, 91, 92, 93] (by decide +kernel) (by decide +kernel)
set_option maxRecDepth 20000 in
theorem gX9_findsTerms_X9_findsCounts : GoodIn wsX9_findsTerms (wsV RX9 178 RX9 yX9_findsCounts wsX9_findsCounts) := goodIn_app (goodIn_of _ (by decide +kernel)) ggX9_findsTerms_X9_findsCounts
set_option maxRecDepth 20000 in
theorem ggX9_findsTerms_X9_times : GoodIn wsX9_findsTerms wsX9_times := goodIn_r _ [51, 52, 53] (by decide +kernel) (by decide +kernel)
set_option maxRecDepth 20000 in
theorem gX9_findsTerms_X9_times : GoodIn wsX9_findsTerms (va_wsS RX9 156 yX9_times wsX9_times) := goodIn_app (goodIn_of _ (by decide +kernel)) ggX9_findsTerms_X9_times
set_option maxRecDepth 20000 in
theorem ggX9_findsTerms_X9_plus : GoodIn wsX9_findsTerms wsX9_plus := goodIn_r _ [56, 53] (by decide +kernel) (by decide +kernel)
set_option maxRecDepth 20000 in
theorem gX9_findsTerms_X9_plus : GoodIn wsX9_findsTerms (va_wsS RX9 159 yX9_plus wsX9_plus) := goodIn_app (goodIn_of _ (by decide +kernel)) ggX9_findsTerms_X9_plus
theorem dX9_findsTerms_0 : decode cX9_findsTerms 0 = .ok (.aload_n 0, 1) := by decide +kernel
theorem dX9_findsTerms_1 : decode cX9_findsTerms 1 = .ok (.iload_n 1, 1) := by decide +kernel
theorem dX9_findsTerms_2 : decode cX9_findsTerms 2 = .ok (.invokevirtual 178, 3) := by decide +kernel
theorem dX9_findsTerms_5 : decode cX9_findsTerms 5 = .ok (.lconst 1, 1) := by decide +kernel
theorem dX9_findsTerms_6 : decode cX9_findsTerms 6 = .ok (.lstore_n 3, 1) := by decide +kernel
theorem dX9_findsTerms_7 : decode cX9_findsTerms 7 = .ok (.aload_n 0, 1) := by decide +kernel
theorem dX9_findsTerms_8 : decode cX9_findsTerms 8 = .ok (.lconst 0, 1) := by decide +kernel
theorem dX9_findsTerms_9 : decode cX9_findsTerms 9 = .ok (.putfield 188, 3) := by decide +kernel
theorem dX9_findsTerms_12 : decode cX9_findsTerms 12 = .ok (.aload_n 0, 1) := by decide +kernel
theorem dX9_findsTerms_13 : decode cX9_findsTerms 13 = .ok (.lconst 0, 1) := by decide +kernel
theorem dX9_findsTerms_14 : decode cX9_findsTerms 14 = .ok (.putfield 192, 3) := by decide +kernel
theorem dX9_findsTerms_17 : decode cX9_findsTerms 17 = .ok (.aload_n 0, 1) := by decide +kernel
theorem dX9_findsTerms_18 : decode cX9_findsTerms 18 = .ok (.lconst 0, 1) := by decide +kernel
theorem dX9_findsTerms_19 : decode cX9_findsTerms 19 = .ok (.putfield 195, 3) := by decide +kernel
theorem dX9_findsTerms_22 : decode cX9_findsTerms 22 = .ok (.aload_n 0, 1) := by decide +kernel
theorem dX9_findsTerms_23 : decode cX9_findsTerms 23 = .ok (.aload_n 0, 1) := by decide +kernel
theorem dX9_findsTerms_24 : decode cX9_findsTerms 24 = .ok (.getfield 148, 3) := by decide +kernel
theorem dX9_findsTerms_27 : decode cX9_findsTerms 27 = .ok (.putfield 198, 3) := by decide +kernel
theorem dX9_findsTerms_30 : decode cX9_findsTerms 30 = .ok (.iconst 0, 1) := by decide +kernel
theorem dX9_findsTerms_31 : decode cX9_findsTerms 31 = .ok (.istore 5, 2) := by decide +kernel
theorem dX9_findsTerms_33 : decode cX9_findsTerms 33 = .ok (.iload 5, 2) := by decide +kernel
theorem dX9_findsTerms_35 : decode cX9_findsTerms 35 = .ok (.bipush 7, 2) := by decide +kernel
theorem dX9_findsTerms_37 : decode cX9_findsTerms 37 = .ok (.if_icmp .ge 127, 3) := by decide +kernel
theorem dX9_findsTerms_40 : decode cX9_findsTerms 40 = .ok (.aload_n 0, 1) := by decide +kernel
theorem dX9_findsTerms_41 : decode cX9_findsTerms 41 = .ok (.getfield 35, 3) := by decide +kernel
theorem dX9_findsTerms_44 : decode cX9_findsTerms 44 = .ok (.iload 5, 2) := by decide +kernel
theorem dX9_findsTerms_46 : decode cX9_findsTerms 46 = .ok (.aload_n 0, 1) := by decide +kernel
theorem dX9_findsTerms_47 : decode cX9_findsTerms 47 = .ok (.getfield 29, 3) := by decide +kernel
theorem dX9_findsTerms_50 : decode cX9_findsTerms 50 = .ok (.iload 5, 2) := by decide +kernel
theorem dX9_findsTerms_52 : decode cX9_findsTerms 52 = .ok (.laload, 1) := by decide +kernel
theorem dX9_findsTerms_53 : decode cX9_findsTerms 53 = .ok (.lload_n 3, 1) := by decide +kernel
theorem dX9_findsTerms_54 : decode cX9_findsTerms 54 = .ok (.invokestatic 156, 3) := by decide +kernel
theorem dX9_findsTerms_57 : decode cX9_findsTerms 57 = .ok (.lastore, 1) := by decide +kernel
theorem dX9_findsTerms_58 : decode cX9_findsTerms 58 = .ok (.lload_n 3, 1) := by decide +kernel
theorem dX9_findsTerms_59 : decode cX9_findsTerms 59 = .ok (.iload_n 2, 1) := by decide +kernel
theorem dX9_findsTerms_60 : decode cX9_findsTerms 60 = .ok (.i2l, 1) := by decide +kernel
theorem dX9_findsTerms_61 : decode cX9_findsTerms 61 = .ok (.lmul, 1) := by decide +kernel
theorem dX9_findsTerms_62 : decode cX9_findsTerms 62 = .ok (.lstore_n 3, 1) := by decide +kernel
theorem dX9_findsTerms_63 : decode cX9_findsTerms 63 = .ok (.aload_n 0, 1) := by decide +kernel
theorem dX9_findsTerms_64 : decode cX9_findsTerms 64 = .ok (.dup, 1) := by decide +kernel
theorem dX9_findsTerms_65 : decode cX9_findsTerms 65 = .ok (.getfield 198, 3) := by decide +kernel
theorem dX9_findsTerms_68 : decode cX9_findsTerms 68 = .ok (.aload_n 0, 1) := by decide +kernel
theorem dX9_findsTerms_69 : decode cX9_findsTerms 69 = .ok (.getfield 35, 3) := by decide +kernel
theorem dX9_findsTerms_72 : decode cX9_findsTerms 72 = .ok (.iload 5, 2) := by decide +kernel
theorem dX9_findsTerms_74 : decode cX9_findsTerms 74 = .ok (.laload, 1) := by decide +kernel
theorem dX9_findsTerms_75 : decode cX9_findsTerms 75 = .ok (.lconst 0, 1) := by decide +kernel
theorem dX9_findsTerms_76 : decode cX9_findsTerms 76 = .ok (.lcmp, 1) := by decide +kernel
theorem dX9_findsTerms_77 : decode cX9_findsTerms 77 = .ok (.ifCond .ge 7, 3) := by decide +kernel
theorem dX9_findsTerms_80 : decode cX9_findsTerms 80 = .ok (.iconst 1, 1) := by decide +kernel
theorem dX9_findsTerms_81 : decode cX9_findsTerms 81 = .ok (.goto 4, 3) := by decide +kernel
theorem dX9_findsTerms_84 : decode cX9_findsTerms 84 = .ok (.iconst 0, 1) := by decide +kernel
theorem dX9_findsTerms_85 : decode cX9_findsTerms 85 = .ok (.ior, 1) := by decide +kernel
theorem dX9_findsTerms_86 : decode cX9_findsTerms 86 = .ok (.putfield 198, 3) := by decide +kernel
theorem dX9_findsTerms_89 : decode cX9_findsTerms 89 = .ok (.aload_n 0, 1) := by decide +kernel
theorem dX9_findsTerms_90 : decode cX9_findsTerms 90 = .ok (.aload_n 0, 1) := by decide +kernel
theorem dX9_findsTerms_91 : decode cX9_findsTerms 91 = .ok (.getfield 188, 3) := by decide +kernel
theorem dX9_findsTerms_94 : decode cX9_findsTerms 94 = .ok (.aload_n 0, 1) := by decide +kernel
theorem dX9_findsTerms_95 : decode cX9_findsTerms 95 = .ok (.getfield 35, 3) := by decide +kernel
theorem dX9_findsTerms_98 : decode cX9_findsTerms 98 = .ok (.iload 5, 2) := by decide +kernel
theorem dX9_findsTerms_100 : decode cX9_findsTerms 100 = .ok (.laload, 1) := by decide +kernel
theorem dX9_findsTerms_101 : decode cX9_findsTerms 101 = .ok (.invokestatic 159, 3) := by decide +kernel
theorem dX9_findsTerms_104 : decode cX9_findsTerms 104 = .ok (.putfield 188, 3) := by decide +kernel
theorem dX9_findsTerms_107 : decode cX9_findsTerms 107 = .ok (.aload_n 0, 1) := by decide +kernel
theorem dX9_findsTerms_108 : decode cX9_findsTerms 108 = .ok (.aload_n 0, 1) := by decide +kernel
theorem dX9_findsTerms_109 : decode cX9_findsTerms 109 = .ok (.getfield 192, 3) := by decide +kernel
theorem dX9_findsTerms_112 : decode cX9_findsTerms 112 = .ok (.iload 5, 2) := by decide +kernel
theorem dX9_findsTerms_114 : decode cX9_findsTerms 114 = .ok (.i2l, 1) := by decide +kernel
theorem dX9_findsTerms_115 : decode cX9_findsTerms 115 = .ok (.aload_n 0, 1) := by decide +kernel
theorem dX9_findsTerms_116 : decode cX9_findsTerms 116 = .ok (.getfield 35, 3) := by decide +kernel
theorem dX9_findsTerms_119 : decode cX9_findsTerms 119 = .ok (.iload 5, 2) := by decide +kernel
theorem dX9_findsTerms_121 : decode cX9_findsTerms 121 = .ok (.laload, 1) := by decide +kernel
theorem dX9_findsTerms_122 : decode cX9_findsTerms 122 = .ok (.invokestatic 156, 3) := by decide +kernel
theorem dX9_findsTerms_125 : decode cX9_findsTerms 125 = .ok (.invokestatic 159, 3) := by decide +kernel
theorem dX9_findsTerms_128 : decode cX9_findsTerms 128 = .ok (.putfield 192, 3) := by decide +kernel
theorem dX9_findsTerms_131 : decode cX9_findsTerms 131 = .ok (.aload_n 0, 1) := by decide +kernel
theorem dX9_findsTerms_132 : decode cX9_findsTerms 132 = .ok (.aload_n 0, 1) := by decide +kernel
theorem dX9_findsTerms_133 : decode cX9_findsTerms 133 = .ok (.getfield 195, 3) := by decide +kernel
theorem dX9_findsTerms_136 : decode cX9_findsTerms 136 = .ok (.iload 5, 2) := by decide +kernel
theorem dX9_findsTerms_138 : decode cX9_findsTerms 138 = .ok (.iload 5, 2) := by decide +kernel
theorem dX9_findsTerms_140 : decode cX9_findsTerms 140 = .ok (.imul, 1) := by decide +kernel
theorem dX9_findsTerms_141 : decode cX9_findsTerms 141 = .ok (.i2l, 1) := by decide +kernel
theorem dX9_findsTerms_142 : decode cX9_findsTerms 142 = .ok (.aload_n 0, 1) := by decide +kernel
theorem dX9_findsTerms_143 : decode cX9_findsTerms 143 = .ok (.getfield 35, 3) := by decide +kernel
theorem dX9_findsTerms_146 : decode cX9_findsTerms 146 = .ok (.iload 5, 2) := by decide +kernel
theorem dX9_findsTerms_148 : decode cX9_findsTerms 148 = .ok (.laload, 1) := by decide +kernel
theorem dX9_findsTerms_149 : decode cX9_findsTerms 149 = .ok (.invokestatic 156, 3) := by decide +kernel
theorem dX9_findsTerms_152 : decode cX9_findsTerms 152 = .ok (.invokestatic 159, 3) := by decide +kernel
theorem dX9_findsTerms_155 : decode cX9_findsTerms 155 = .ok (.putfield 195, 3) := by decide +kernel
theorem dX9_findsTerms_158 : decode cX9_findsTerms 158 = .ok (.iinc 5 1, 3) := by decide +kernel
theorem dX9_findsTerms_161 : decode cX9_findsTerms 161 = .ok (.goto (-128), 3) := by decide +kernel
theorem dX9_findsTerms_164 : decode cX9_findsTerms 164 = .ok (.return_, 1) := by decide +kernel
set_option maxRecDepth 20000 in
theorem ggX9_sum_X9_isOut : GoodIn wsX9_sum wsX9_isOut := goodIn_r _ [6, 7, 8, 9, 5, 10] (by decide +kernel) (by decide +kernel)
set_option maxRecDepth 20000 in
theorem gX9_sum_X9_isOut : GoodIn wsX9_sum (va_wsS RX9 138 yX9_isOut wsX9_isOut) := goodIn_app (goodIn_of _ (by decide +kernel)) ggX9_sum_X9_isOut
set_option maxRecDepth 20000 in
theorem ggX9_sum_X9_isRate : GoodIn wsX9_sum wsX9_isRate := goodIn_r _ [13, 14, 8, 9, 5, 10] (by decide +kernel) (by decide +kernel)
set_option maxRecDepth 20000 in
theorem gX9_sum_X9_isRate : GoodIn wsX9_sum (va_wsS RX9 201 yX9_isRate wsX9_isRate) := goodIn_app (goodIn_of _ (by decide +kernel)) ggX9_sum_X9_isRate
set_option maxRecDepth 20000 in
theorem ggX9_sum_X9_told : GoodIn wsX9_sum wsX9_told := goodIn_r _ [17, 18] (by decide +kernel) (by decide +kernel)
set_option maxRecDepth 20000 in
theorem gX9_sum_X9_told : GoodIn wsX9_sum (va_wsS RX9 174 yX9_told wsX9_told) := goodIn_app (goodIn_of _ (by decide +kernel)) ggX9_sum_X9_told
set_option maxRecDepth 20000 in
theorem ggX9_sum_X9_findsTerms : GoodIn wsX9_sum wsX9_findsTerms := goodIn_r _ [22, 2, 23, 24, 25, 1, 26, 27, 28, 29, 30, 5, 31, 32, 33, 34, 35, 36, 37, 38, 39, 40, 41, 42, 43, 44, 45, 46, 47, 48, 49, 50, 51, 52, 53, 54, 55, 56, 57, 58, 59, 60, 61, 62, 63, 64, 65, 66, 67, 68, 69, 70, 71, 72, 73, 74, 75, 76, 77, 78, 79, 80, 81, 82, 83, 84, 85, 86, 87, 88, 89, 90, 91, 92, 93, 94, 95, 96, 97, 98, 99, 100, 101, 102, 103, 104, 105, 106, 107, 108, 109, 110, 111, 112] (by decide +kernel) (by decide +kernel)
set_option maxRecDepth 20000 in
theorem gX9_sum_X9_findsTerms : GoodIn wsX9_sum (wsV RX9 204 RX9 yX9_findsTerms wsX9_findsTerms) := goodIn_app (goodIn_of _ (by decide +kernel)) ggX9_sum_X9_findsTerms
theorem dX9_sum_0 : decode cX9_sum 0 = .ok (.iload_n 1, 1) := by decide +kernel
theorem dX9_sum_1 : decode cX9_sum 1 = .ok (.invokestatic 138, 3) := by decide +kernel
theorem dX9_sum_4 : decode cX9_sum 4 = .ok (.ifCond .eq 10, 3) := by decide +kernel
theorem dX9_sum_7 : decode cX9_sum 7 = .ok (.iload_n 2, 1) := by decide +kernel
theorem dX9_sum_8 : decode cX9_sum 8 = .ok (.invokestatic 201, 3) := by decide +kernel
theorem dX9_sum_11 : decode cX9_sum 11 = .ok (.ifCond .ne 9, 3) := by decide +kernel
theorem dX9_sum_14 : decode cX9_sum 14 = .ok (.bipush (-2), 2) := by decide +kernel
theorem dX9_sum_16 : decode cX9_sum 16 = .ok (.invokestatic 174, 3) := by decide +kernel
theorem dX9_sum_19 : decode cX9_sum 19 = .ok (.lreturn, 1) := by decide +kernel
theorem dX9_sum_20 : decode cX9_sum 20 = .ok (.aload_n 0, 1) := by decide +kernel
theorem dX9_sum_21 : decode cX9_sum 21 = .ok (.iload_n 1, 1) := by decide +kernel
theorem dX9_sum_22 : decode cX9_sum 22 = .ok (.iload_n 2, 1) := by decide +kernel
theorem dX9_sum_23 : decode cX9_sum 23 = .ok (.invokevirtual 204, 3) := by decide +kernel
theorem dX9_sum_26 : decode cX9_sum 26 = .ok (.aload_n 0, 1) := by decide +kernel
theorem dX9_sum_27 : decode cX9_sum 27 = .ok (.getfield 198, 3) := by decide +kernel
theorem dX9_sum_30 : decode cX9_sum 30 = .ok (.ifCond .ne 12, 3) := by decide +kernel
theorem dX9_sum_33 : decode cX9_sum 33 = .ok (.aload_n 0, 1) := by decide +kernel
theorem dX9_sum_34 : decode cX9_sum 34 = .ok (.getfield 188, 3) := by decide +kernel
theorem dX9_sum_37 : decode cX9_sum 37 = .ok (.lconst 0, 1) := by decide +kernel
theorem dX9_sum_38 : decode cX9_sum 38 = .ok (.lcmp, 1) := by decide +kernel
theorem dX9_sum_39 : decode cX9_sum 39 = .ok (.ifCond .ge 11, 3) := by decide +kernel
theorem dX9_sum_42 : decode cX9_sum 42 = .ok (.bipush (-5), 2) := by decide +kernel
theorem dX9_sum_44 : decode cX9_sum 44 = .ok (.invokestatic 174, 3) := by decide +kernel
theorem dX9_sum_47 : decode cX9_sum 47 = .ok (.goto 7, 3) := by decide +kernel
theorem dX9_sum_50 : decode cX9_sum 50 = .ok (.aload_n 0, 1) := by decide +kernel
theorem dX9_sum_51 : decode cX9_sum 51 = .ok (.getfield 188, 3) := by decide +kernel
theorem dX9_sum_54 : decode cX9_sum 54 = .ok (.lreturn, 1) := by decide +kernel
set_option maxRecDepth 20000 in
theorem ggX9_likely_X9_isOut : GoodIn wsX9_likely wsX9_isOut := goodIn_r _ [6, 7, 8, 9, 5, 10] (by decide +kernel) (by decide +kernel)
set_option maxRecDepth 20000 in
theorem gX9_likely_X9_isOut : GoodIn wsX9_likely (va_wsS RX9 138 yX9_isOut wsX9_isOut) := goodIn_app (goodIn_of _ (by decide +kernel)) ggX9_likely_X9_isOut
set_option maxRecDepth 20000 in
theorem ggX9_likely_X9_isRate : GoodIn wsX9_likely wsX9_isRate := goodIn_r _ [13, 14, 8, 9, 5, 10] (by decide +kernel) (by decide +kernel)
set_option maxRecDepth 20000 in
theorem gX9_likely_X9_isRate : GoodIn wsX9_likely (va_wsS RX9 201 yX9_isRate wsX9_isRate) := goodIn_app (goodIn_of _ (by decide +kernel)) ggX9_likely_X9_isRate
set_option maxRecDepth 20000 in
theorem ggX9_likely_X9_findsTerms : GoodIn wsX9_likely wsX9_findsTerms := goodIn_r _ [18, 19, 20, 21, 22, 1, 2, 23, 24, 25, 26, 5, 27, 28, 29, 30, 31, 32, 33, 34, 35, 36, 37, 38, 39, 40, 41, 42, 43, 44, 45, 46, 47, 48, 49, 50, 51, 52, 53, 54, 55, 56, 57, 58, 59, 60, 61, 62, 63, 64, 65, 66, 67, 68, 69, 70, 71, 72, 73, 74, 75, 76, 77, 78, 79, 80, 81, 82, 83, 84, 85, 86, 87, 88, 89, 90, 91, 92, 93, 94, 95, 96, 97, 98, 99, 100, 101, 102, 103, 104, 105, 106, 107, 108] (by decide +kernel) (by decide +kernel)
set_option maxRecDepth 20000 in
theorem gX9_likely_X9_findsTerms : GoodIn wsX9_likely (wsV RX9 204 RX9 yX9_findsTerms wsX9_findsTerms) := goodIn_app (goodIn_of _ (by decide +kernel)) ggX9_likely_X9_findsTerms
theorem dX9_likely_0 : decode cX9_likely 0 = .ok (.iload_n 1, 1) := by decide +kernel
theorem dX9_likely_1 : decode cX9_likely 1 = .ok (.invokestatic 138, 3) := by decide +kernel
theorem dX9_likely_4 : decode cX9_likely 4 = .ok (.ifCond .eq 10, 3) := by decide +kernel
theorem dX9_likely_7 : decode cX9_likely 7 = .ok (.iload_n 2, 1) := by decide +kernel
theorem dX9_likely_8 : decode cX9_likely 8 = .ok (.invokestatic 201, 3) := by decide +kernel
theorem dX9_likely_11 : decode cX9_likely 11 = .ok (.ifCond .ne 6, 3) := by decide +kernel
theorem dX9_likely_14 : decode cX9_likely 14 = .ok (.bipush (-2), 2) := by decide +kernel
theorem dX9_likely_16 : decode cX9_likely 16 = .ok (.ireturn, 1) := by decide +kernel
theorem dX9_likely_17 : decode cX9_likely 17 = .ok (.aload_n 0, 1) := by decide +kernel
theorem dX9_likely_18 : decode cX9_likely 18 = .ok (.iload_n 1, 1) := by decide +kernel
theorem dX9_likely_19 : decode cX9_likely 19 = .ok (.iload_n 2, 1) := by decide +kernel
theorem dX9_likely_20 : decode cX9_likely 20 = .ok (.invokevirtual 204, 3) := by decide +kernel
theorem dX9_likely_23 : decode cX9_likely 23 = .ok (.aload_n 0, 1) := by decide +kernel
theorem dX9_likely_24 : decode cX9_likely 24 = .ok (.getfield 198, 3) := by decide +kernel
theorem dX9_likely_27 : decode cX9_likely 27 = .ok (.ifCond .eq 6, 3) := by decide +kernel
theorem dX9_likely_30 : decode cX9_likely 30 = .ok (.bipush (-5), 2) := by decide +kernel
theorem dX9_likely_32 : decode cX9_likely 32 = .ok (.ireturn, 1) := by decide +kernel
theorem dX9_likely_33 : decode cX9_likely 33 = .ok (.iconst 0, 1) := by decide +kernel
theorem dX9_likely_34 : decode cX9_likely 34 = .ok (.istore_n 3, 1) := by decide +kernel
theorem dX9_likely_35 : decode cX9_likely 35 = .ok (.iconst 1, 1) := by decide +kernel
theorem dX9_likely_36 : decode cX9_likely 36 = .ok (.istore 4, 2) := by decide +kernel
theorem dX9_likely_38 : decode cX9_likely 38 = .ok (.iload 4, 2) := by decide +kernel
theorem dX9_likely_40 : decode cX9_likely 40 = .ok (.bipush 7, 2) := by decide +kernel
theorem dX9_likely_42 : decode cX9_likely 42 = .ok (.if_icmp .ge 33, 3) := by decide +kernel
theorem dX9_likely_45 : decode cX9_likely 45 = .ok (.aload_n 0, 1) := by decide +kernel
theorem dX9_likely_46 : decode cX9_likely 46 = .ok (.getfield 35, 3) := by decide +kernel
theorem dX9_likely_49 : decode cX9_likely 49 = .ok (.iload 4, 2) := by decide +kernel
theorem dX9_likely_51 : decode cX9_likely 51 = .ok (.laload, 1) := by decide +kernel
theorem dX9_likely_52 : decode cX9_likely 52 = .ok (.aload_n 0, 1) := by decide +kernel
theorem dX9_likely_53 : decode cX9_likely 53 = .ok (.getfield 35, 3) := by decide +kernel
theorem dX9_likely_56 : decode cX9_likely 56 = .ok (.iload_n 3, 1) := by decide +kernel
theorem dX9_likely_57 : decode cX9_likely 57 = .ok (.laload, 1) := by decide +kernel
theorem dX9_likely_58 : decode cX9_likely 58 = .ok (.lcmp, 1) := by decide +kernel
theorem dX9_likely_59 : decode cX9_likely 59 = .ok (.ifCond .le 8, 3) := by decide +kernel
theorem dX9_likely_62 : decode cX9_likely 62 = .ok (.iload 4, 2) := by decide +kernel
theorem dX9_likely_64 : decode cX9_likely 64 = .ok (.goto 4, 3) := by decide +kernel
theorem dX9_likely_67 : decode cX9_likely 67 = .ok (.iload_n 3, 1) := by decide +kernel
theorem dX9_likely_68 : decode cX9_likely 68 = .ok (.istore_n 3, 1) := by decide +kernel
theorem dX9_likely_69 : decode cX9_likely 69 = .ok (.iinc 4 1, 3) := by decide +kernel
theorem dX9_likely_72 : decode cX9_likely 72 = .ok (.goto (-34), 3) := by decide +kernel
theorem dX9_likely_75 : decode cX9_likely 75 = .ok (.iload_n 3, 1) := by decide +kernel
theorem dX9_likely_76 : decode cX9_likely 76 = .ok (.ireturn, 1) := by decide +kernel
theorem dX9_isMeanMuch_0 : decode cX9_isMeanMuch 0 = .ok (.aload_n 0, 1) := by decide +kernel
theorem dX9_isMeanMuch_1 : decode cX9_isMeanMuch 1 = .ok (.getfield 198, 3) := by decide +kernel
theorem dX9_isMeanMuch_4 : decode cX9_isMeanMuch 4 = .ok (.ifCond .ne 21, 3) := by decide +kernel
theorem dX9_isMeanMuch_7 : decode cX9_isMeanMuch 7 = .ok (.aload_n 0, 1) := by decide +kernel
theorem dX9_isMeanMuch_8 : decode cX9_isMeanMuch 8 = .ok (.getfield 188, 3) := by decide +kernel
theorem dX9_isMeanMuch_11 : decode cX9_isMeanMuch 11 = .ok (.lconst 0, 1) := by decide +kernel
theorem dX9_isMeanMuch_12 : decode cX9_isMeanMuch 12 = .ok (.lcmp, 1) := by decide +kernel
theorem dX9_isMeanMuch_13 : decode cX9_isMeanMuch 13 = .ok (.ifCond .lt 12, 3) := by decide +kernel
theorem dX9_isMeanMuch_16 : decode cX9_isMeanMuch 16 = .ok (.aload_n 0, 1) := by decide +kernel
theorem dX9_isMeanMuch_17 : decode cX9_isMeanMuch 17 = .ok (.getfield 192, 3) := by decide +kernel
theorem dX9_isMeanMuch_20 : decode cX9_isMeanMuch 20 = .ok (.lconst 0, 1) := by decide +kernel
theorem dX9_isMeanMuch_21 : decode cX9_isMeanMuch 21 = .ok (.lcmp, 1) := by decide +kernel
theorem dX9_isMeanMuch_22 : decode cX9_isMeanMuch 22 = .ok (.ifCond .ge 7, 3) := by decide +kernel
theorem dX9_isMeanMuch_25 : decode cX9_isMeanMuch 25 = .ok (.iconst 1, 1) := by decide +kernel
theorem dX9_isMeanMuch_26 : decode cX9_isMeanMuch 26 = .ok (.goto 4, 3) := by decide +kernel
theorem dX9_isMeanMuch_29 : decode cX9_isMeanMuch 29 = .ok (.iconst 0, 1) := by decide +kernel
theorem dX9_isMeanMuch_30 : decode cX9_isMeanMuch 30 = .ok (.ireturn, 1) := by decide +kernel
set_option maxRecDepth 20000 in
theorem ggX9_mean_X9_isOut : GoodIn wsX9_mean wsX9_isOut := goodIn_r _ [6, 7, 8, 9, 5, 10] (by decide +kernel) (by decide +kernel)
set_option maxRecDepth 20000 in
theorem gX9_mean_X9_isOut : GoodIn wsX9_mean (va_wsS RX9 138 yX9_isOut wsX9_isOut) := goodIn_app (goodIn_of _ (by decide +kernel)) ggX9_mean_X9_isOut
set_option maxRecDepth 20000 in
theorem ggX9_mean_X9_isRate : GoodIn wsX9_mean wsX9_isRate := goodIn_r _ [13, 14, 8, 9, 5, 10] (by decide +kernel) (by decide +kernel)
set_option maxRecDepth 20000 in
theorem gX9_mean_X9_isRate : GoodIn wsX9_mean (va_wsS RX9 201 yX9_isRate wsX9_isRate) := goodIn_app (goodIn_of _ (by decide +kernel)) ggX9_mean_X9_isRate
set_option maxRecDepth 20000 in
theorem ggX9_mean_X9_isPart : GoodIn wsX9_mean wsX9_isPart := goodIn_r _ [17] (by decide +kernel) (by decide +kernel)
set_option maxRecDepth 20000 in
theorem gX9_mean_X9_isPart : GoodIn wsX9_mean (va_wsS RX9 208 yX9_isPart wsX9_isPart) := goodIn_app (goodIn_of _ (by decide +kernel)) ggX9_mean_X9_isPart
set_option maxRecDepth 20000 in
theorem ggX9_mean_X9_told : GoodIn wsX9_mean wsX9_told := goodIn_r _ [20, 21] (by decide +kernel) (by decide +kernel)
set_option maxRecDepth 20000 in
theorem gX9_mean_X9_told : GoodIn wsX9_mean (va_wsS RX9 174 yX9_told wsX9_told) := goodIn_app (goodIn_of _ (by decide +kernel)) ggX9_mean_X9_told
set_option maxRecDepth 20000 in
theorem ggX9_mean_X9_findsTerms : GoodIn wsX9_mean wsX9_findsTerms := goodIn_r _ [25, 2, 1, 26, 27, 28, 29, 30, 31, 32, 33, 5, 34, 35, 36, 37, 38, 39, 40, 41, 42, 43, 44, 45, 46, 47, 48, 49, 50, 51, 52, 53, 54, 55, 56, 57, 58, 59, 60, 61, 62, 63, 64, 65, 66, 67, 68, 69, 70, 71, 72, 73, 74, 75, 76, 77, 78, 89, 90, 91, 92, 93, 94, 95, 96, 97, 98, 99, 100, 101, 102, 103, 104, 105, 106, 107, 108, 109, 110, 111, 112, 113, 114, 115, 116, 117, 118, 119, 120, 121, 122, 123, 124, 125] (by decide +kernel) (by decide +kernel)
set_option maxRecDepth 20000 in
theorem gX9_mean_X9_findsTerms : GoodIn wsX9_mean (wsV RX9 204 RX9 yX9_findsTerms wsX9_findsTerms) := goodIn_app (goodIn_of _ (by decide +kernel)) ggX9_mean_X9_findsTerms
set_option maxRecDepth 20000 in
theorem ggX9_mean_X9_isMeanMuch : GoodIn wsX9_mean wsX9_isMeanMuch := goodIn_r _ [82, 28, 2, 1, 89, 90, 91, 92, 93, 94, 95, 96, 97, 98, 99, 100, 101, 102, 103, 104, 105, 106, 107, 108, 109, 110, 111, 112, 113, 114, 115, 116, 117, 118, 119, 120, 121, 122, 123, 124, 125] (by decide +kernel) (by decide +kernel)
set_option maxRecDepth 20000 in
theorem gX9_mean_X9_isMeanMuch : GoodIn wsX9_mean (wsV RX9 211 RX9 yX9_isMeanMuch wsX9_isMeanMuch) := goodIn_app (goodIn_of _ (by decide +kernel)) ggX9_mean_X9_isMeanMuch
set_option maxRecDepth 20000 in
theorem ggX9_mean_X9_lowest : GoodIn wsX9_mean wsX9_lowest := goodIn_r _ [85, 86, 87, 5, 88] (by decide +kernel) (by decide +kernel)
set_option maxRecDepth 20000 in
theorem gX9_mean_X9_lowest : GoodIn wsX9_mean (va_wsS RX9 215 yX9_lowest wsX9_lowest) := goodIn_app (goodIn_of _ (by decide +kernel)) ggX9_mean_X9_lowest
theorem dX9_mean_0 : decode cX9_mean 0 = .ok (.iload_n 1, 1) := by decide +kernel
theorem dX9_mean_1 : decode cX9_mean 1 = .ok (.invokestatic 138, 3) := by decide +kernel
theorem dX9_mean_4 : decode cX9_mean 4 = .ok (.ifCond .eq 17, 3) := by decide +kernel
theorem dX9_mean_7 : decode cX9_mean 7 = .ok (.iload_n 2, 1) := by decide +kernel
theorem dX9_mean_8 : decode cX9_mean 8 = .ok (.invokestatic 201, 3) := by decide +kernel
theorem dX9_mean_11 : decode cX9_mean 11 = .ok (.ifCond .eq 10, 3) := by decide +kernel
theorem dX9_mean_14 : decode cX9_mean 14 = .ok (.iload_n 3, 1) := by decide +kernel
theorem dX9_mean_15 : decode cX9_mean 15 = .ok (.invokestatic 208, 3) := by decide +kernel
theorem dX9_mean_18 : decode cX9_mean 18 = .ok (.ifCond .ne 9, 3) := by decide +kernel
theorem dX9_mean_21 : decode cX9_mean 21 = .ok (.bipush (-2), 2) := by decide +kernel
theorem dX9_mean_23 : decode cX9_mean 23 = .ok (.invokestatic 174, 3) := by decide +kernel
theorem dX9_mean_26 : decode cX9_mean 26 = .ok (.lreturn, 1) := by decide +kernel
theorem dX9_mean_27 : decode cX9_mean 27 = .ok (.aload_n 0, 1) := by decide +kernel
theorem dX9_mean_28 : decode cX9_mean 28 = .ok (.iload_n 1, 1) := by decide +kernel
theorem dX9_mean_29 : decode cX9_mean 29 = .ok (.iload_n 2, 1) := by decide +kernel
theorem dX9_mean_30 : decode cX9_mean 30 = .ok (.invokevirtual 204, 3) := by decide +kernel
theorem dX9_mean_33 : decode cX9_mean 33 = .ok (.aload_n 0, 1) := by decide +kernel
theorem dX9_mean_34 : decode cX9_mean 34 = .ok (.invokevirtual 211, 3) := by decide +kernel
theorem dX9_mean_37 : decode cX9_mean 37 = .ok (.ifCond .eq 11, 3) := by decide +kernel
theorem dX9_mean_40 : decode cX9_mean 40 = .ok (.bipush (-5), 2) := by decide +kernel
theorem dX9_mean_42 : decode cX9_mean 42 = .ok (.invokestatic 174, 3) := by decide +kernel
theorem dX9_mean_45 : decode cX9_mean 45 = .ok (.goto 15, 3) := by decide +kernel
theorem dX9_mean_48 : decode cX9_mean 48 = .ok (.aload_n 0, 1) := by decide +kernel
theorem dX9_mean_49 : decode cX9_mean 49 = .ok (.getfield 192, 3) := by decide +kernel
theorem dX9_mean_52 : decode cX9_mean 52 = .ok (.aload_n 0, 1) := by decide +kernel
theorem dX9_mean_53 : decode cX9_mean 53 = .ok (.getfield 188, 3) := by decide +kernel
theorem dX9_mean_56 : decode cX9_mean 56 = .ok (.iload_n 3, 1) := by decide +kernel
theorem dX9_mean_57 : decode cX9_mean 57 = .ok (.invokestatic 215, 3) := by decide +kernel
theorem dX9_mean_60 : decode cX9_mean 60 = .ok (.lreturn, 1) := by decide +kernel
set_option maxRecDepth 20000 in
theorem ggX9_spread_X9_isOut : GoodIn wsX9_spread wsX9_isOut := goodIn_r _ [7, 8, 9, 10, 6, 11] (by decide +kernel) (by decide +kernel)
set_option maxRecDepth 20000 in
theorem gX9_spread_X9_isOut : GoodIn wsX9_spread (va_wsS RX9 138 yX9_isOut wsX9_isOut) := goodIn_app (goodIn_of _ (by decide +kernel)) ggX9_spread_X9_isOut
set_option maxRecDepth 20000 in
theorem ggX9_spread_X9_isRate : GoodIn wsX9_spread wsX9_isRate := goodIn_r _ [14, 15, 9, 10, 6, 11] (by decide +kernel) (by decide +kernel)
set_option maxRecDepth 20000 in
theorem gX9_spread_X9_isRate : GoodIn wsX9_spread (va_wsS RX9 201 yX9_isRate wsX9_isRate) := goodIn_app (goodIn_of _ (by decide +kernel)) ggX9_spread_X9_isRate
set_option maxRecDepth 20000 in
theorem ggX9_spread_X9_isPart : GoodIn wsX9_spread wsX9_isPart := goodIn_r _ [18] (by decide +kernel) (by decide +kernel)
set_option maxRecDepth 20000 in
theorem gX9_spread_X9_isPart : GoodIn wsX9_spread (va_wsS RX9 208 yX9_isPart wsX9_isPart) := goodIn_app (goodIn_of _ (by decide +kernel)) ggX9_spread_X9_isPart
set_option maxRecDepth 20000 in
theorem ggX9_spread_X9_told : GoodIn wsX9_spread wsX9_told := goodIn_r _ [21, 22] (by decide +kernel) (by decide +kernel)
set_option maxRecDepth 20000 in
theorem gX9_spread_X9_told : GoodIn wsX9_spread (va_wsS RX9 174 yX9_told wsX9_told) := goodIn_app (goodIn_of _ (by decide +kernel)) ggX9_spread_X9_told
set_option maxRecDepth 20000 in
theorem ggX9_spread_X9_findsTerms : GoodIn wsX9_spread wsX9_findsTerms := goodIn_r _ [26, 2, 3, 1, 27, 28, 29, 30, 31, 32, 33, 6, 34, 35, 36, 37, 38, 39, 40, 41, 42, 43, 44, 45, 46, 47, 48, 49, 50, 51, 52, 53, 54, 55, 56, 57, 58, 59, 60, 61, 62, 63, 64, 65, 66, 67, 68, 69, 70, 71, 72, 73, 74, 75, 76, 77, 78, 89, 90, 91, 92, 93, 94, 95, 96, 97, 98, 99, 100, 101, 102, 103, 104, 105, 106, 107, 108, 109, 110, 111, 112, 113, 114, 115, 116, 117, 118, 119, 120, 121, 122, 123, 124, 125] (by decide +kernel) (by decide +kernel)
set_option maxRecDepth 20000 in
theorem gX9_spread_X9_findsTerms : GoodIn wsX9_spread (wsV RX9 204 RX9 yX9_findsTerms wsX9_findsTerms) := goodIn_app (goodIn_of _ (by decide +kernel)) ggX9_spread_X9_findsTerms
set_option maxRecDepth 20000 in
theorem ggX9_spread_X9_times : GoodIn wsX9_spread wsX9_times := goodIn_r _ [73, 74, 75] (by decide +kernel) (by decide +kernel)
set_option maxRecDepth 20000 in
theorem gX9_spread_X9_times : GoodIn wsX9_spread (va_wsS RX9 156 yX9_times wsX9_times) := goodIn_app (goodIn_of _ (by decide +kernel)) ggX9_spread_X9_times
set_option maxRecDepth 20000 in
theorem ggX9_spread_X9_isMeanMuch : GoodIn wsX9_spread wsX9_isMeanMuch := goodIn_r _ [82, 28, 2, 3, 89, 90, 91, 92, 93, 94, 95, 96, 97, 98, 99, 100, 101, 102, 103, 104, 105, 106, 107, 108, 109, 110, 111, 112, 113, 114, 115, 116, 117, 118, 119, 120, 121, 122, 123, 124, 125] (by decide +kernel) (by decide +kernel)
set_option maxRecDepth 20000 in
theorem gX9_spread_X9_isMeanMuch : GoodIn wsX9_spread (wsV RX9 211 RX9 yX9_isMeanMuch wsX9_isMeanMuch) := goodIn_app (goodIn_of _ (by decide +kernel)) ggX9_spread_X9_isMeanMuch
set_option maxRecDepth 20000 in
theorem ggX9_spread_X9_lowest : GoodIn wsX9_spread wsX9_lowest := goodIn_r _ [85, 86, 87, 6, 88] (by decide +kernel) (by decide +kernel)
set_option maxRecDepth 20000 in
theorem gX9_spread_X9_lowest : GoodIn wsX9_spread (va_wsS RX9 215 yX9_lowest wsX9_lowest) := goodIn_app (goodIn_of _ (by decide +kernel)) ggX9_spread_X9_lowest
theorem dX9_spread_0 : decode cX9_spread 0 = .ok (.iload_n 1, 1) := by decide +kernel
theorem dX9_spread_1 : decode cX9_spread 1 = .ok (.invokestatic 138, 3) := by decide +kernel
theorem dX9_spread_4 : decode cX9_spread 4 = .ok (.ifCond .eq 17, 3) := by decide +kernel
theorem dX9_spread_7 : decode cX9_spread 7 = .ok (.iload_n 2, 1) := by decide +kernel
theorem dX9_spread_8 : decode cX9_spread 8 = .ok (.invokestatic 201, 3) := by decide +kernel
theorem dX9_spread_11 : decode cX9_spread 11 = .ok (.ifCond .eq 10, 3) := by decide +kernel
theorem dX9_spread_14 : decode cX9_spread 14 = .ok (.iload_n 3, 1) := by decide +kernel
theorem dX9_spread_15 : decode cX9_spread 15 = .ok (.invokestatic 208, 3) := by decide +kernel
theorem dX9_spread_18 : decode cX9_spread 18 = .ok (.ifCond .ne 9, 3) := by decide +kernel
theorem dX9_spread_21 : decode cX9_spread 21 = .ok (.bipush (-2), 2) := by decide +kernel
theorem dX9_spread_23 : decode cX9_spread 23 = .ok (.invokestatic 174, 3) := by decide +kernel
theorem dX9_spread_26 : decode cX9_spread 26 = .ok (.lreturn, 1) := by decide +kernel
theorem dX9_spread_27 : decode cX9_spread 27 = .ok (.aload_n 0, 1) := by decide +kernel
theorem dX9_spread_28 : decode cX9_spread 28 = .ok (.iload_n 1, 1) := by decide +kernel
theorem dX9_spread_29 : decode cX9_spread 29 = .ok (.iload_n 2, 1) := by decide +kernel
theorem dX9_spread_30 : decode cX9_spread 30 = .ok (.invokevirtual 204, 3) := by decide +kernel
theorem dX9_spread_33 : decode cX9_spread 33 = .ok (.aload_n 0, 1) := by decide +kernel
theorem dX9_spread_34 : decode cX9_spread 34 = .ok (.getfield 195, 3) := by decide +kernel
theorem dX9_spread_37 : decode cX9_spread 37 = .ok (.aload_n 0, 1) := by decide +kernel
theorem dX9_spread_38 : decode cX9_spread 38 = .ok (.getfield 188, 3) := by decide +kernel
theorem dX9_spread_41 : decode cX9_spread 41 = .ok (.invokestatic 156, 3) := by decide +kernel
theorem dX9_spread_44 : decode cX9_spread 44 = .ok (.lstore 4, 2) := by decide +kernel
theorem dX9_spread_46 : decode cX9_spread 46 = .ok (.aload_n 0, 1) := by decide +kernel
theorem dX9_spread_47 : decode cX9_spread 47 = .ok (.getfield 192, 3) := by decide +kernel
theorem dX9_spread_50 : decode cX9_spread 50 = .ok (.aload_n 0, 1) := by decide +kernel
theorem dX9_spread_51 : decode cX9_spread 51 = .ok (.getfield 192, 3) := by decide +kernel
theorem dX9_spread_54 : decode cX9_spread 54 = .ok (.invokestatic 156, 3) := by decide +kernel
theorem dX9_spread_57 : decode cX9_spread 57 = .ok (.lstore 6, 2) := by decide +kernel
theorem dX9_spread_59 : decode cX9_spread 59 = .ok (.aload_n 0, 1) := by decide +kernel
theorem dX9_spread_60 : decode cX9_spread 60 = .ok (.getfield 188, 3) := by decide +kernel
theorem dX9_spread_63 : decode cX9_spread 63 = .ok (.aload_n 0, 1) := by decide +kernel
theorem dX9_spread_64 : decode cX9_spread 64 = .ok (.getfield 188, 3) := by decide +kernel
theorem dX9_spread_67 : decode cX9_spread 67 = .ok (.invokestatic 156, 3) := by decide +kernel
theorem dX9_spread_70 : decode cX9_spread 70 = .ok (.lstore 8, 2) := by decide +kernel
theorem dX9_spread_72 : decode cX9_spread 72 = .ok (.aload_n 0, 1) := by decide +kernel
theorem dX9_spread_73 : decode cX9_spread 73 = .ok (.invokevirtual 211, 3) := by decide +kernel
theorem dX9_spread_76 : decode cX9_spread 76 = .ok (.ifCond .ne 33, 3) := by decide +kernel
theorem dX9_spread_79 : decode cX9_spread 79 = .ok (.aload_n 0, 1) := by decide +kernel
theorem dX9_spread_80 : decode cX9_spread 80 = .ok (.getfield 195, 3) := by decide +kernel
theorem dX9_spread_83 : decode cX9_spread 83 = .ok (.lconst 0, 1) := by decide +kernel
theorem dX9_spread_84 : decode cX9_spread 84 = .ok (.lcmp, 1) := by decide +kernel
theorem dX9_spread_85 : decode cX9_spread 85 = .ok (.ifCond .lt 24, 3) := by decide +kernel
theorem dX9_spread_88 : decode cX9_spread 88 = .ok (.lload 4, 2) := by decide +kernel
theorem dX9_spread_90 : decode cX9_spread 90 = .ok (.lconst 0, 1) := by decide +kernel
theorem dX9_spread_91 : decode cX9_spread 91 = .ok (.lcmp, 1) := by decide +kernel
theorem dX9_spread_92 : decode cX9_spread 92 = .ok (.ifCond .lt 17, 3) := by decide +kernel
theorem dX9_spread_95 : decode cX9_spread 95 = .ok (.lload 6, 2) := by decide +kernel
theorem dX9_spread_97 : decode cX9_spread 97 = .ok (.lconst 0, 1) := by decide +kernel
theorem dX9_spread_98 : decode cX9_spread 98 = .ok (.lcmp, 1) := by decide +kernel
theorem dX9_spread_99 : decode cX9_spread 99 = .ok (.ifCond .lt 10, 3) := by decide +kernel
theorem dX9_spread_102 : decode cX9_spread 102 = .ok (.lload 8, 2) := by decide +kernel
theorem dX9_spread_104 : decode cX9_spread 104 = .ok (.lconst 0, 1) := by decide +kernel
theorem dX9_spread_105 : decode cX9_spread 105 = .ok (.lcmp, 1) := by decide +kernel
theorem dX9_spread_106 : decode cX9_spread 106 = .ok (.ifCond .ge 9, 3) := by decide +kernel
theorem dX9_spread_109 : decode cX9_spread 109 = .ok (.bipush (-5), 2) := by decide +kernel
theorem dX9_spread_111 : decode cX9_spread 111 = .ok (.invokestatic 174, 3) := by decide +kernel
theorem dX9_spread_114 : decode cX9_spread 114 = .ok (.lreturn, 1) := by decide +kernel
theorem dX9_spread_115 : decode cX9_spread 115 = .ok (.lload 4, 2) := by decide +kernel
theorem dX9_spread_117 : decode cX9_spread 117 = .ok (.lload 6, 2) := by decide +kernel
theorem dX9_spread_119 : decode cX9_spread 119 = .ok (.lsub, 1) := by decide +kernel
theorem dX9_spread_120 : decode cX9_spread 120 = .ok (.lload 8, 2) := by decide +kernel
theorem dX9_spread_122 : decode cX9_spread 122 = .ok (.iload_n 3, 1) := by decide +kernel
theorem dX9_spread_123 : decode cX9_spread 123 = .ok (.invokestatic 215, 3) := by decide +kernel
theorem dX9_spread_126 : decode cX9_spread 126 = .ok (.lreturn, 1) := by decide +kernel
set_option maxRecDepth 20000 in
theorem ggX9_meanAs_X9_isOut : GoodIn wsX9_meanAs wsX9_isOut := goodIn_r _ [10, 11, 12, 13, 9, 14] (by decide +kernel) (by decide +kernel)
set_option maxRecDepth 20000 in
theorem gX9_meanAs_X9_isOut : GoodIn wsX9_meanAs (va_wsS RX9 138 yX9_isOut wsX9_isOut) := goodIn_app (goodIn_of _ (by decide +kernel)) ggX9_meanAs_X9_isOut
set_option maxRecDepth 20000 in
theorem ggX9_meanAs_X9_isRate : GoodIn wsX9_meanAs wsX9_isRate := goodIn_r _ [17, 18, 12, 13, 9, 14] (by decide +kernel) (by decide +kernel)
set_option maxRecDepth 20000 in
theorem gX9_meanAs_X9_isRate : GoodIn wsX9_meanAs (va_wsS RX9 201 yX9_isRate wsX9_isRate) := goodIn_app (goodIn_of _ (by decide +kernel)) ggX9_meanAs_X9_isRate
set_option maxRecDepth 20000 in
theorem ggX9_meanAs_X9_in : GoodIn wsX9_meanAs wsX9_in := goodIn_r _ [14] (by decide +kernel) (by decide +kernel)
set_option maxRecDepth 20000 in
theorem gX9_meanAs_X9_in : GoodIn wsX9_meanAs (va_wsS RX9 96 yX9_in wsX9_in) := goodIn_app (goodIn_of _ (by decide +kernel)) ggX9_meanAs_X9_in
set_option maxRecDepth 20000 in
theorem ggX9_meanAs_X9_told : GoodIn wsX9_meanAs wsX9_told := goodIn_r _ [21, 22] (by decide +kernel) (by decide +kernel)
set_option maxRecDepth 20000 in
theorem gX9_meanAs_X9_told : GoodIn wsX9_meanAs (va_wsS RX9 174 yX9_told wsX9_told) := goodIn_app (goodIn_of _ (by decide +kernel)) ggX9_meanAs_X9_told
set_option maxRecDepth 20000 in
theorem ggX9_meanAs_X9_findsTerms : GoodIn wsX9_meanAs wsX9_findsTerms := goodIn_r _ [26, 3, 2, 27, 28, 29, 30, 31, 32, 33, 34, 9, 35, 36, 37, 38, 39, 40, 41, 42, 43, 44, 45, 46, 47, 48, 49, 50, 51, 52, 53, 54, 55, 56, 57, 58, 59, 60, 61, 62, 63, 64, 65, 66, 67, 68, 69, 70, 71, 72, 73, 74, 75, 76, 77, 78, 79, 108, 109, 110, 111, 112, 113, 114, 115, 116, 117, 118, 119, 120, 121, 122, 123, 124, 125, 126, 127, 128, 129, 130, 131, 132, 133, 134, 135, 136, 137, 138, 139, 140, 141, 142, 143, 144] (by decide +kernel) (by decide +kernel)
set_option maxRecDepth 20000 in
theorem gX9_meanAs_X9_findsTerms : GoodIn wsX9_meanAs (wsV RX9 204 RX9 yX9_findsTerms wsX9_findsTerms) := goodIn_app (goodIn_of _ (by decide +kernel)) ggX9_meanAs_X9_findsTerms
set_option maxRecDepth 20000 in
theorem ggX9_meanAs_X9_isMeanMuch : GoodIn wsX9_meanAs wsX9_isMeanMuch := goodIn_r _ [83, 29, 3, 2, 108, 109, 110, 111, 112, 113, 114, 115, 116, 117, 118, 119, 120, 121, 122, 123, 124, 125, 126, 127, 128, 129, 130, 131, 132, 133, 134, 135, 136, 137, 138, 139, 140, 141, 142, 143, 144] (by decide +kernel) (by decide +kernel)
set_option maxRecDepth 20000 in
theorem gX9_meanAs_X9_isMeanMuch : GoodIn wsX9_meanAs (wsV RX9 211 RX9 yX9_isMeanMuch wsX9_isMeanMuch) := goodIn_app (goodIn_of _ (by decide +kernel)) ggX9_meanAs_X9_isMeanMuch
set_option maxRecDepth 20000 in
theorem ggX9_meanAs_Jxf58ca_floatToIntBits_5c35a : GoodIn wsX9_meanAs wsJxf58ca_floatToIntBits_5c35a := goodIn_r _ [87, 88, 89, 90, 91, 92, 93, 94, 86, 95] (by decide +kernel) (by decide +kernel)
set_option maxRecDepth 20000 in
theorem gX9_meanAs_Jxf58ca_floatToIntBits_5c35a : GoodIn wsX9_meanAs (va_wsS RX9 221 yJxf58ca_floatToIntBits_5c35a wsJxf58ca_floatToIntBits_5c35a) := goodIn_app (goodIn_of _ (by decide +kernel)) ggX9_meanAs_Jxf58ca_floatToIntBits_5c35a
set_option maxRecDepth 20000 in
theorem ggX9_meanAs_Jxe99ae_doubleToLongBits_ccdee : GoodIn wsX9_meanAs wsJxe99ae_doubleToLongBits_ccdee := goodIn_r _ [99, 100, 101, 102, 103, 104, 105, 106, 98, 107] (by decide +kernel) (by decide +kernel)
set_option maxRecDepth 20000 in
theorem gX9_meanAs_Jxe99ae_doubleToLongBits_ccdee : GoodIn wsX9_meanAs (va_wsS RX9 227 yJxe99ae_doubleToLongBits_ccdee wsJxe99ae_doubleToLongBits_ccdee) := goodIn_app (goodIn_of _ (by decide +kernel)) ggX9_meanAs_Jxe99ae_doubleToLongBits_ccdee
theorem dX9_meanAs_0 : decode cX9_meanAs 0 = .ok (.iload_n 1, 1) := by decide +kernel
theorem dX9_meanAs_1 : decode cX9_meanAs 1 = .ok (.invokestatic 138, 3) := by decide +kernel
theorem dX9_meanAs_4 : decode cX9_meanAs 4 = .ok (.ifCond .eq 22, 3) := by decide +kernel
theorem dX9_meanAs_7 : decode cX9_meanAs 7 = .ok (.iload_n 2, 1) := by decide +kernel
theorem dX9_meanAs_8 : decode cX9_meanAs 8 = .ok (.invokestatic 201, 3) := by decide +kernel
theorem dX9_meanAs_11 : decode cX9_meanAs 11 = .ok (.ifCond .eq 15, 3) := by decide +kernel
theorem dX9_meanAs_14 : decode cX9_meanAs 14 = .ok (.iload_n 3, 1) := by decide +kernel
theorem dX9_meanAs_15 : decode cX9_meanAs 15 = .ok (.i2l, 1) := by decide +kernel
theorem dX9_meanAs_16 : decode cX9_meanAs 16 = .ok (.lconst 0, 1) := by decide +kernel
theorem dX9_meanAs_17 : decode cX9_meanAs 17 = .ok (.ldc2_w 120, 3) := by decide +kernel
theorem dX9_meanAs_20 : decode cX9_meanAs 20 = .ok (.invokestatic 96, 3) := by decide +kernel
theorem dX9_meanAs_23 : decode cX9_meanAs 23 = .ok (.ifCond .ne 9, 3) := by decide +kernel
theorem dX9_meanAs_26 : decode cX9_meanAs 26 = .ok (.bipush (-2), 2) := by decide +kernel
theorem dX9_meanAs_28 : decode cX9_meanAs 28 = .ok (.invokestatic 174, 3) := by decide +kernel
theorem dX9_meanAs_31 : decode cX9_meanAs 31 = .ok (.lreturn, 1) := by decide +kernel
theorem dX9_meanAs_32 : decode cX9_meanAs 32 = .ok (.aload_n 0, 1) := by decide +kernel
theorem dX9_meanAs_33 : decode cX9_meanAs 33 = .ok (.iload_n 1, 1) := by decide +kernel
theorem dX9_meanAs_34 : decode cX9_meanAs 34 = .ok (.iload_n 2, 1) := by decide +kernel
theorem dX9_meanAs_35 : decode cX9_meanAs 35 = .ok (.invokevirtual 204, 3) := by decide +kernel
theorem dX9_meanAs_38 : decode cX9_meanAs 38 = .ok (.aload_n 0, 1) := by decide +kernel
theorem dX9_meanAs_39 : decode cX9_meanAs 39 = .ok (.invokevirtual 211, 3) := by decide +kernel
theorem dX9_meanAs_42 : decode cX9_meanAs 42 = .ok (.ifCond .eq 9, 3) := by decide +kernel
theorem dX9_meanAs_45 : decode cX9_meanAs 45 = .ok (.bipush (-5), 2) := by decide +kernel
theorem dX9_meanAs_47 : decode cX9_meanAs 47 = .ok (.invokestatic 174, 3) := by decide +kernel
theorem dX9_meanAs_50 : decode cX9_meanAs 50 = .ok (.lreturn, 1) := by decide +kernel
theorem dX9_meanAs_51 : decode cX9_meanAs 51 = .ok (.aload_n 0, 1) := by decide +kernel
theorem dX9_meanAs_52 : decode cX9_meanAs 52 = .ok (.getfield 192, 3) := by decide +kernel
theorem dX9_meanAs_55 : decode cX9_meanAs 55 = .ok (.l2d, 1) := by decide +kernel
theorem dX9_meanAs_56 : decode cX9_meanAs 56 = .ok (.aload_n 0, 1) := by decide +kernel
theorem dX9_meanAs_57 : decode cX9_meanAs 57 = .ok (.getfield 188, 3) := by decide +kernel
theorem dX9_meanAs_60 : decode cX9_meanAs 60 = .ok (.l2d, 1) := by decide +kernel
theorem dX9_meanAs_61 : decode cX9_meanAs 61 = .ok (.ddiv, 1) := by decide +kernel
theorem dX9_meanAs_62 : decode cX9_meanAs 62 = .ok (.dstore 4, 2) := by decide +kernel
theorem dX9_meanAs_64 : decode cX9_meanAs 64 = .ok (.iload_n 3, 1) := by decide +kernel
theorem dX9_meanAs_65 : decode cX9_meanAs 65 = .ok (.tableswitch 78 0 4 #[35, 43, 51, 57, 68], 35) := by decide +kernel
theorem dX9_meanAs_100 : decode cX9_meanAs 100 = .ok (.dload 4, 2) := by decide +kernel
theorem dX9_meanAs_102 : decode cX9_meanAs 102 = .ok (.ldc2_w 219, 3) := by decide +kernel
theorem dX9_meanAs_105 : decode cX9_meanAs 105 = .ok (.dmul, 1) := by decide +kernel
theorem dX9_meanAs_106 : decode cX9_meanAs 106 = .ok (.d2l, 1) := by decide +kernel
theorem dX9_meanAs_107 : decode cX9_meanAs 107 = .ok (.lreturn, 1) := by decide +kernel
theorem dX9_meanAs_108 : decode cX9_meanAs 108 = .ok (.dload 4, 2) := by decide +kernel
theorem dX9_meanAs_110 : decode cX9_meanAs 110 = .ok (.d2f, 1) := by decide +kernel
theorem dX9_meanAs_111 : decode cX9_meanAs 111 = .ok (.invokestatic 221, 3) := by decide +kernel
theorem dX9_meanAs_114 : decode cX9_meanAs 114 = .ok (.i2l, 1) := by decide +kernel
theorem dX9_meanAs_115 : decode cX9_meanAs 115 = .ok (.lreturn, 1) := by decide +kernel
theorem dX9_meanAs_116 : decode cX9_meanAs 116 = .ok (.dload 4, 2) := by decide +kernel
theorem dX9_meanAs_118 : decode cX9_meanAs 118 = .ok (.invokestatic 227, 3) := by decide +kernel
theorem dX9_meanAs_121 : decode cX9_meanAs 121 = .ok (.lreturn, 1) := by decide +kernel
theorem dX9_meanAs_122 : decode cX9_meanAs 122 = .ok (.dload 4, 2) := by decide +kernel
theorem dX9_meanAs_124 : decode cX9_meanAs 124 = .ok (.dconst 1, 1) := by decide +kernel
theorem dX9_meanAs_125 : decode cX9_meanAs 125 = .ok (.drem, 1) := by decide +kernel
theorem dX9_meanAs_126 : decode cX9_meanAs 126 = .ok (.ldc2_w 219, 3) := by decide +kernel
theorem dX9_meanAs_129 : decode cX9_meanAs 129 = .ok (.dmul, 1) := by decide +kernel
theorem dX9_meanAs_130 : decode cX9_meanAs 130 = .ok (.d2i, 1) := by decide +kernel
theorem dX9_meanAs_131 : decode cX9_meanAs 131 = .ok (.i2l, 1) := by decide +kernel
theorem dX9_meanAs_132 : decode cX9_meanAs 132 = .ok (.lreturn, 1) := by decide +kernel
theorem dX9_meanAs_133 : decode cX9_meanAs 133 = .ok (.dload 4, 2) := by decide +kernel
theorem dX9_meanAs_135 : decode cX9_meanAs 135 = .ok (.ldc2_w 233, 3) := by decide +kernel
theorem dX9_meanAs_138 : decode cX9_meanAs 138 = .ok (.drem, 1) := by decide +kernel
theorem dX9_meanAs_139 : decode cX9_meanAs 139 = .ok (.invokestatic 227, 3) := by decide +kernel
theorem dX9_meanAs_142 : decode cX9_meanAs 142 = .ok (.lreturn, 1) := by decide +kernel
theorem dX9_meanAs_143 : decode cX9_meanAs 143 = .ok (.dload 4, 2) := by decide +kernel
theorem dX9_meanAs_145 : decode cX9_meanAs 145 = .ok (.d2f, 1) := by decide +kernel
theorem dX9_meanAs_146 : decode cX9_meanAs 146 = .ok (.ldc 235, 2) := by decide +kernel
theorem dX9_meanAs_148 : decode cX9_meanAs 148 = .ok (.frem, 1) := by decide +kernel
theorem dX9_meanAs_149 : decode cX9_meanAs 149 = .ok (.invokestatic 221, 3) := by decide +kernel
theorem dX9_meanAs_152 : decode cX9_meanAs 152 = .ok (.i2l, 1) := by decide +kernel
theorem dX9_meanAs_153 : decode cX9_meanAs 153 = .ok (.lreturn, 1) := by decide +kernel
set_option maxRecDepth 20000 in
theorem ggX9_mostOf_X9_has : GoodIn wsX9_mostOf wsX9_has := goodIn_r _ [5] (by decide +kernel) (by decide +kernel)
set_option maxRecDepth 20000 in
theorem gX9_mostOf_X9_has : GoodIn wsX9_mostOf (va_wsS RX9 152 yX9_has wsX9_has) := goodIn_app (goodIn_of _ (by decide +kernel)) ggX9_mostOf_X9_has
set_option maxRecDepth 20000 in
theorem ggX9_mostOf_X9_mostOf : GoodIn wsX9_mostOf wsX9_mostOf := goodIn_r _ [0, 1, 2, 3, 4, 5, 6, 7, 8, 9, 10, 11, 12, 13, 14, 15, 16, 17, 18, 19, 20, 21, 22, 23, 24, 25, 26, 27, 28, 29, 30, 31, 32, 33, 34, 35, 36, 37, 38, 39, 40, 41, 42, 43, 44, 45, 46, 47, 48, 49, 50, 51, 52, 53, 54, 55] (by decide +kernel) (by decide +kernel)
set_option maxRecDepth 20000 in
theorem gX9_mostOf_X9_mostOf : GoodIn wsX9_mostOf (wsV RX9 236 RX9 yX9_mostOf wsX9_mostOf) := goodIn_app (goodIn_of _ (by decide +kernel)) ggX9_mostOf_X9_mostOf
set_option maxRecDepth 20000 in
theorem ggX9_mostOf_X9_nearOf : GoodIn wsX9_mostOf wsX9_nearOf := goodIn_r _ [12, 13, 14, 15, 19, 20, 21, 22, 23, 24, 25, 26, 27, 28, 29, 30, 31, 32, 33, 34, 35, 36, 37, 38, 39, 40, 41, 42, 43, 44, 45, 46, 47, 48, 49, 50, 51, 52, 53, 54, 55] (by decide +kernel) (by decide +kernel)
set_option maxRecDepth 20000 in
theorem gX9_mostOf_X9_nearOf : GoodIn wsX9_mostOf (wsV RX9 141 RX9 yX9_nearOf wsX9_nearOf) := goodIn_app (goodIn_of _ (by decide +kernel)) ggX9_mostOf_X9_nearOf
set_option maxRecDepth 20000 in
theorem ggX9_mostOf_X9_many : GoodIn wsX9_mostOf wsX9_many := goodIn_r _ [18] (by decide +kernel) (by decide +kernel)
set_option maxRecDepth 20000 in
theorem gX9_mostOf_X9_many : GoodIn wsX9_mostOf (va_wsS RX9 181 yX9_many wsX9_many) := goodIn_app (goodIn_of _ (by decide +kernel)) ggX9_mostOf_X9_many
theorem dX9_mostOf_0 : decode cX9_mostOf 0 = .ok (.iconst 0, 1) := by decide +kernel
theorem dX9_mostOf_1 : decode cX9_mostOf 1 = .ok (.istore_n 2, 1) := by decide +kernel
theorem dX9_mostOf_2 : decode cX9_mostOf 2 = .ok (.iload_n 2, 1) := by decide +kernel
theorem dX9_mostOf_3 : decode cX9_mostOf 3 = .ok (.aload_n 0, 1) := by decide +kernel
theorem dX9_mostOf_4 : decode cX9_mostOf 4 = .ok (.getfield 92, 3) := by decide +kernel
theorem dX9_mostOf_7 : decode cX9_mostOf 7 = .ok (.if_icmp .ge 18, 3) := by decide +kernel
theorem dX9_mostOf_10 : decode cX9_mostOf 10 = .ok (.iload_n 1, 1) := by decide +kernel
theorem dX9_mostOf_11 : decode cX9_mostOf 11 = .ok (.i2l, 1) := by decide +kernel
theorem dX9_mostOf_12 : decode cX9_mostOf 12 = .ok (.iload_n 2, 1) := by decide +kernel
theorem dX9_mostOf_13 : decode cX9_mostOf 13 = .ok (.invokestatic 152, 3) := by decide +kernel
theorem dX9_mostOf_16 : decode cX9_mostOf 16 = .ok (.ifCond .ne 9, 3) := by decide +kernel
theorem dX9_mostOf_19 : decode cX9_mostOf 19 = .ok (.iinc 2 1, 3) := by decide +kernel
theorem dX9_mostOf_22 : decode cX9_mostOf 22 = .ok (.goto (-20), 3) := by decide +kernel
theorem dX9_mostOf_25 : decode cX9_mostOf 25 = .ok (.iload_n 2, 1) := by decide +kernel
theorem dX9_mostOf_26 : decode cX9_mostOf 26 = .ok (.aload_n 0, 1) := by decide +kernel
theorem dX9_mostOf_27 : decode cX9_mostOf 27 = .ok (.getfield 92, 3) := by decide +kernel
theorem dX9_mostOf_30 : decode cX9_mostOf 30 = .ok (.if_icmp .ne 5, 3) := by decide +kernel
theorem dX9_mostOf_33 : decode cX9_mostOf 33 = .ok (.iconst 0, 1) := by decide +kernel
theorem dX9_mostOf_34 : decode cX9_mostOf 34 = .ok (.ireturn, 1) := by decide +kernel
theorem dX9_mostOf_35 : decode cX9_mostOf 35 = .ok (.iload_n 1, 1) := by decide +kernel
theorem dX9_mostOf_36 : decode cX9_mostOf 36 = .ok (.iconst 1, 1) := by decide +kernel
theorem dX9_mostOf_37 : decode cX9_mostOf 37 = .ok (.iload_n 2, 1) := by decide +kernel
theorem dX9_mostOf_38 : decode cX9_mostOf 38 = .ok (.ishl, 1) := by decide +kernel
theorem dX9_mostOf_39 : decode cX9_mostOf 39 = .ok (.iconst (-1), 1) := by decide +kernel
theorem dX9_mostOf_40 : decode cX9_mostOf 40 = .ok (.ixor, 1) := by decide +kernel
theorem dX9_mostOf_41 : decode cX9_mostOf 41 = .ok (.iand, 1) := by decide +kernel
theorem dX9_mostOf_42 : decode cX9_mostOf 42 = .ok (.istore_n 3, 1) := by decide +kernel
theorem dX9_mostOf_43 : decode cX9_mostOf 43 = .ok (.aload_n 0, 1) := by decide +kernel
theorem dX9_mostOf_44 : decode cX9_mostOf 44 = .ok (.iload_n 3, 1) := by decide +kernel
theorem dX9_mostOf_45 : decode cX9_mostOf 45 = .ok (.invokevirtual 236, 3) := by decide +kernel
theorem dX9_mostOf_48 : decode cX9_mostOf 48 = .ok (.istore 4, 2) := by decide +kernel
theorem dX9_mostOf_50 : decode cX9_mostOf 50 = .ok (.aload_n 0, 1) := by decide +kernel
theorem dX9_mostOf_51 : decode cX9_mostOf 51 = .ok (.iload_n 2, 1) := by decide +kernel
theorem dX9_mostOf_52 : decode cX9_mostOf 52 = .ok (.iconst 0, 1) := by decide +kernel
theorem dX9_mostOf_53 : decode cX9_mostOf 53 = .ok (.invokevirtual 141, 3) := by decide +kernel
theorem dX9_mostOf_56 : decode cX9_mostOf 56 = .ok (.iload_n 3, 1) := by decide +kernel
theorem dX9_mostOf_57 : decode cX9_mostOf 57 = .ok (.iand, 1) := by decide +kernel
theorem dX9_mostOf_58 : decode cX9_mostOf 58 = .ok (.istore 5, 2) := by decide +kernel
theorem dX9_mostOf_60 : decode cX9_mostOf 60 = .ok (.iload_n 3, 1) := by decide +kernel
theorem dX9_mostOf_61 : decode cX9_mostOf 61 = .ok (.invokestatic 181, 3) := by decide +kernel
theorem dX9_mostOf_64 : decode cX9_mostOf 64 = .ok (.iconst 2, 1) := by decide +kernel
theorem dX9_mostOf_65 : decode cX9_mostOf 65 = .ok (.idiv, 1) := by decide +kernel
theorem dX9_mostOf_66 : decode cX9_mostOf 66 = .ok (.iload_n 3, 1) := by decide +kernel
theorem dX9_mostOf_67 : decode cX9_mostOf 67 = .ok (.invokestatic 181, 3) := by decide +kernel
theorem dX9_mostOf_70 : decode cX9_mostOf 70 = .ok (.iconst 2, 1) := by decide +kernel
theorem dX9_mostOf_71 : decode cX9_mostOf 71 = .ok (.irem, 1) := by decide +kernel
theorem dX9_mostOf_72 : decode cX9_mostOf 72 = .ok (.iadd, 1) := by decide +kernel
theorem dX9_mostOf_73 : decode cX9_mostOf 73 = .ok (.istore 6, 2) := by decide +kernel
theorem dX9_mostOf_75 : decode cX9_mostOf 75 = .ok (.iload_n 2, 1) := by decide +kernel
theorem dX9_mostOf_76 : decode cX9_mostOf 76 = .ok (.iconst 1, 1) := by decide +kernel
theorem dX9_mostOf_77 : decode cX9_mostOf 77 = .ok (.iadd, 1) := by decide +kernel
theorem dX9_mostOf_78 : decode cX9_mostOf 78 = .ok (.istore 7, 2) := by decide +kernel
theorem dX9_mostOf_80 : decode cX9_mostOf 80 = .ok (.iload 7, 2) := by decide +kernel
theorem dX9_mostOf_82 : decode cX9_mostOf 82 = .ok (.aload_n 0, 1) := by decide +kernel
theorem dX9_mostOf_83 : decode cX9_mostOf 83 = .ok (.getfield 92, 3) := by decide +kernel
theorem dX9_mostOf_86 : decode cX9_mostOf 86 = .ok (.if_icmp .ge 59, 3) := by decide +kernel
theorem dX9_mostOf_89 : decode cX9_mostOf 89 = .ok (.iload 4, 2) := by decide +kernel
theorem dX9_mostOf_91 : decode cX9_mostOf 91 = .ok (.iload 6, 2) := by decide +kernel
theorem dX9_mostOf_93 : decode cX9_mostOf 93 = .ok (.if_icmp .ge 52, 3) := by decide +kernel
theorem dX9_mostOf_96 : decode cX9_mostOf 96 = .ok (.iload 5, 2) := by decide +kernel
theorem dX9_mostOf_98 : decode cX9_mostOf 98 = .ok (.i2l, 1) := by decide +kernel
theorem dX9_mostOf_99 : decode cX9_mostOf 99 = .ok (.iload 7, 2) := by decide +kernel
theorem dX9_mostOf_101 : decode cX9_mostOf 101 = .ok (.invokestatic 152, 3) := by decide +kernel
theorem dX9_mostOf_104 : decode cX9_mostOf 104 = .ok (.ifCond .eq 35, 3) := by decide +kernel
theorem dX9_mostOf_107 : decode cX9_mostOf 107 = .ok (.iconst 1, 1) := by decide +kernel
theorem dX9_mostOf_108 : decode cX9_mostOf 108 = .ok (.aload_n 0, 1) := by decide +kernel
theorem dX9_mostOf_109 : decode cX9_mostOf 109 = .ok (.iload_n 3, 1) := by decide +kernel
theorem dX9_mostOf_110 : decode cX9_mostOf 110 = .ok (.iconst 1, 1) := by decide +kernel
theorem dX9_mostOf_111 : decode cX9_mostOf 111 = .ok (.iload 7, 2) := by decide +kernel
theorem dX9_mostOf_113 : decode cX9_mostOf 113 = .ok (.ishl, 1) := by decide +kernel
theorem dX9_mostOf_114 : decode cX9_mostOf 114 = .ok (.iconst (-1), 1) := by decide +kernel
theorem dX9_mostOf_115 : decode cX9_mostOf 115 = .ok (.ixor, 1) := by decide +kernel
theorem dX9_mostOf_116 : decode cX9_mostOf 116 = .ok (.iand, 1) := by decide +kernel
theorem dX9_mostOf_117 : decode cX9_mostOf 117 = .ok (.invokevirtual 236, 3) := by decide +kernel
theorem dX9_mostOf_120 : decode cX9_mostOf 120 = .ok (.iadd, 1) := by decide +kernel
theorem dX9_mostOf_121 : decode cX9_mostOf 121 = .ok (.istore 8, 2) := by decide +kernel
theorem dX9_mostOf_123 : decode cX9_mostOf 123 = .ok (.iload 8, 2) := by decide +kernel
theorem dX9_mostOf_125 : decode cX9_mostOf 125 = .ok (.iload 4, 2) := by decide +kernel
theorem dX9_mostOf_127 : decode cX9_mostOf 127 = .ok (.if_icmp .le 8, 3) := by decide +kernel
theorem dX9_mostOf_130 : decode cX9_mostOf 130 = .ok (.iload 8, 2) := by decide +kernel
theorem dX9_mostOf_132 : decode cX9_mostOf 132 = .ok (.goto 5, 3) := by decide +kernel
theorem dX9_mostOf_135 : decode cX9_mostOf 135 = .ok (.iload 4, 2) := by decide +kernel
theorem dX9_mostOf_137 : decode cX9_mostOf 137 = .ok (.istore 4, 2) := by decide +kernel
theorem dX9_mostOf_139 : decode cX9_mostOf 139 = .ok (.iinc 7 1, 3) := by decide +kernel
theorem dX9_mostOf_142 : decode cX9_mostOf 142 = .ok (.goto (-62), 3) := by decide +kernel
theorem dX9_mostOf_145 : decode cX9_mostOf 145 = .ok (.iload 4, 2) := by decide +kernel
theorem dX9_mostOf_147 : decode cX9_mostOf 147 = .ok (.ireturn, 1) := by decide +kernel
set_option maxRecDepth 20000 in
theorem ggX9_most_X9_isOut : GoodIn wsX9_most wsX9_isOut := goodIn_r _ [4, 5, 6, 7, 3, 8] (by decide +kernel) (by decide +kernel)
set_option maxRecDepth 20000 in
theorem gX9_most_X9_isOut : GoodIn wsX9_most (va_wsS RX9 138 yX9_isOut wsX9_isOut) := goodIn_app (goodIn_of _ (by decide +kernel)) ggX9_most_X9_isOut
set_option maxRecDepth 20000 in
theorem ggX9_most_X9_free : GoodIn wsX9_most wsX9_free := goodIn_r _ [12, 13, 31, 32, 33, 34, 35, 36, 37, 38, 39, 40, 41, 42, 43, 44, 45, 46, 47, 48, 49, 50, 51, 52, 53, 54, 55, 56, 57, 58, 59, 60, 61, 62, 63, 64, 65, 66, 67] (by decide +kernel) (by decide +kernel)
set_option maxRecDepth 20000 in
theorem gX9_most_X9_free : GoodIn wsX9_most (wsV RX9 166 RX9 yX9_free wsX9_free) := goodIn_app (goodIn_of _ (by decide +kernel)) ggX9_most_X9_free
set_option maxRecDepth 20000 in
theorem ggX9_most_X9_mostOf : GoodIn wsX9_most wsX9_mostOf := goodIn_r _ [17, 13, 18, 19, 3, 20, 14, 15, 16, 21, 22, 23, 24, 25, 26, 27, 28, 29, 30, 31, 32, 33, 34, 35, 36, 37, 38, 39, 40, 41, 42, 43, 44, 45, 46, 47, 48, 49, 50, 51, 52, 53, 54, 55, 56, 57, 58, 59, 60, 61, 62, 63, 64, 65, 66, 67] (by decide +kernel) (by decide +kernel)
set_option maxRecDepth 20000 in
theorem gX9_most_X9_mostOf : GoodIn wsX9_most (wsV RX9 236 RX9 yX9_mostOf wsX9_mostOf) := goodIn_app (goodIn_of _ (by decide +kernel)) ggX9_most_X9_mostOf
theorem dX9_most_0 : decode cX9_most 0 = .ok (.iload_n 1, 1) := by decide +kernel
theorem dX9_most_1 : decode cX9_most 1 = .ok (.invokestatic 138, 3) := by decide +kernel
theorem dX9_most_4 : decode cX9_most 4 = .ok (.ifCond .eq 15, 3) := by decide +kernel
theorem dX9_most_7 : decode cX9_most 7 = .ok (.aload_n 0, 1) := by decide +kernel
theorem dX9_most_8 : decode cX9_most 8 = .ok (.aload_n 0, 1) := by decide +kernel
theorem dX9_most_9 : decode cX9_most 9 = .ok (.iload_n 1, 1) := by decide +kernel
theorem dX9_most_10 : decode cX9_most 10 = .ok (.invokevirtual 166, 3) := by decide +kernel
theorem dX9_most_13 : decode cX9_most 13 = .ok (.invokevirtual 236, 3) := by decide +kernel
theorem dX9_most_16 : decode cX9_most 16 = .ok (.goto 5, 3) := by decide +kernel
theorem dX9_most_19 : decode cX9_most 19 = .ok (.bipush (-2), 2) := by decide +kernel
theorem dX9_most_21 : decode cX9_most 21 = .ok (.ireturn, 1) := by decide +kernel
set_option maxRecDepth 20000 in
theorem ggX9_other_X9_in : GoodIn wsX9_other wsX9_in := goodIn_r _ [6] (by decide +kernel) (by decide +kernel)
set_option maxRecDepth 20000 in
theorem gX9_other_X9_in : GoodIn wsX9_other (va_wsS RX9 96 yX9_in wsX9_in) := goodIn_app (goodIn_of _ (by decide +kernel)) ggX9_other_X9_in
set_option maxRecDepth 20000 in
theorem ggX9_other_X9_told : GoodIn wsX9_other wsX9_told := goodIn_r _ [9, 10] (by decide +kernel) (by decide +kernel)
set_option maxRecDepth 20000 in
theorem gX9_other_X9_told : GoodIn wsX9_other (va_wsS RX9 174 yX9_told wsX9_told) := goodIn_app (goodIn_of _ (by decide +kernel)) ggX9_other_X9_told
set_option maxRecDepth 20000 in
theorem ggX9_other_X9_lays : GoodIn wsX9_other wsX9_lays := goodIn_r _ [14, 15, 16, 17, 18, 19, 20, 21, 5, 22, 23, 24, 25, 26, 27, 28, 29, 56, 57, 58, 59, 60, 61, 62, 63, 64, 65, 66, 67, 68, 69, 70, 71, 72, 73, 74, 75, 76, 77, 78, 79, 80, 81, 82, 83, 84, 85, 86, 87, 88, 89, 90, 91, 92] (by decide +kernel) (by decide +kernel)
set_option maxRecDepth 20000 in
theorem gX9_other_X9_lays : GoodIn wsX9_other (wsV RX9 162 RX9 yX9_lays wsX9_lays) := goodIn_app (goodIn_of _ (by decide +kernel)) ggX9_other_X9_lays
set_option maxRecDepth 20000 in
theorem ggX9_other_X9_free : GoodIn wsX9_other wsX9_free := goodIn_r _ [33, 34, 56, 57, 58, 59, 60, 61, 62, 63, 64, 65, 66, 67, 68, 69, 70, 71, 72, 73, 74, 75, 76, 77, 78, 79, 80, 81, 82, 83, 84, 85, 86, 87, 88, 89, 90, 91, 92] (by decide +kernel) (by decide +kernel)
set_option maxRecDepth 20000 in
theorem gX9_other_X9_free : GoodIn wsX9_other (wsV RX9 166 RX9 yX9_free wsX9_free) := goodIn_app (goodIn_of _ (by decide +kernel)) ggX9_other_X9_free
set_option maxRecDepth 20000 in
theorem ggX9_other_X9_countsBy : GoodIn wsX9_other wsX9_countsBy := goodIn_r _ [38, 39, 40, 2, 41, 42, 43, 5, 44, 34, 15, 45, 46, 47, 48, 49, 50, 51, 52, 53, 54, 55, 56, 57, 58, 59, 60, 61, 62, 63, 64, 65, 66, 67, 68, 69, 70, 71, 72, 73, 74, 75, 76, 77, 78, 79, 80, 81, 82, 83, 84, 85, 86, 87, 88, 89, 90, 91, 92] (by decide +kernel) (by decide +kernel)
set_option maxRecDepth 20000 in
theorem gX9_other_X9_countsBy : GoodIn wsX9_other (wsV RX9 169 RX9 yX9_countsBy wsX9_countsBy) := goodIn_app (goodIn_of _ (by decide +kernel)) ggX9_other_X9_countsBy
theorem dX9_other_0 : decode cX9_other 0 = .ok (.iload_n 1, 1) := by decide +kernel
theorem dX9_other_1 : decode cX9_other 1 = .ok (.i2l, 1) := by decide +kernel
theorem dX9_other_2 : decode cX9_other 2 = .ok (.lconst 0, 1) := by decide +kernel
theorem dX9_other_3 : decode cX9_other 3 = .ok (.ldc2_w 172, 3) := by decide +kernel
theorem dX9_other_6 : decode cX9_other 6 = .ok (.invokestatic 96, 3) := by decide +kernel
theorem dX9_other_9 : decode cX9_other 9 = .ok (.ifCond .ne 9, 3) := by decide +kernel
theorem dX9_other_12 : decode cX9_other 12 = .ok (.bipush (-2), 2) := by decide +kernel
theorem dX9_other_14 : decode cX9_other 14 = .ok (.invokestatic 174, 3) := by decide +kernel
theorem dX9_other_17 : decode cX9_other 17 = .ok (.lreturn, 1) := by decide +kernel
theorem dX9_other_18 : decode cX9_other 18 = .ok (.aload_n 0, 1) := by decide +kernel
theorem dX9_other_19 : decode cX9_other 19 = .ok (.iconst 1, 1) := by decide +kernel
theorem dX9_other_20 : decode cX9_other 20 = .ok (.invokevirtual 162, 3) := by decide +kernel
theorem dX9_other_23 : decode cX9_other 23 = .ok (.aload_n 0, 1) := by decide +kernel
theorem dX9_other_24 : decode cX9_other 24 = .ok (.aload_n 0, 1) := by decide +kernel
theorem dX9_other_25 : decode cX9_other 25 = .ok (.iconst 0, 1) := by decide +kernel
theorem dX9_other_26 : decode cX9_other 26 = .ok (.invokevirtual 166, 3) := by decide +kernel
theorem dX9_other_29 : decode cX9_other 29 = .ok (.invokevirtual 169, 3) := by decide +kernel
theorem dX9_other_32 : decode cX9_other 32 = .ok (.aload_n 0, 1) := by decide +kernel
theorem dX9_other_33 : decode cX9_other 33 = .ok (.getfield 29, 3) := by decide +kernel
theorem dX9_other_36 : decode cX9_other 36 = .ok (.iload_n 1, 1) := by decide +kernel
theorem dX9_other_37 : decode cX9_other 37 = .ok (.laload, 1) := by decide +kernel
theorem dX9_other_38 : decode cX9_other 38 = .ok (.lreturn, 1) := by decide +kernel
set_option maxRecDepth 20000 in
theorem ggX9_alone_X9_isPoint : GoodIn wsX9_alone wsX9_isPoint := goodIn_r _ [8, 9, 10, 11, 7, 12, 89, 90, 91, 92, 93, 94, 95, 96, 97, 98, 99, 100, 101, 102, 103, 104, 105, 106, 107, 108, 109, 110, 111, 112, 113, 114, 115, 116, 117, 118, 119, 120, 121, 122, 123, 124, 125] (by decide +kernel) (by decide +kernel)
set_option maxRecDepth 20000 in
theorem gX9_alone_X9_isPoint : GoodIn wsX9_alone (wsV RX9 103 RX9 yX9_isPoint wsX9_isPoint) := goodIn_app (goodIn_of _ (by decide +kernel)) ggX9_alone_X9_isPoint
set_option maxRecDepth 20000 in
theorem ggX9_alone_X9_isOut : GoodIn wsX9_alone wsX9_isOut := goodIn_r _ [15, 16, 10, 11, 7, 12] (by decide +kernel) (by decide +kernel)
set_option maxRecDepth 20000 in
theorem gX9_alone_X9_isOut : GoodIn wsX9_alone (va_wsS RX9 138 yX9_isOut wsX9_isOut) := goodIn_app (goodIn_of _ (by decide +kernel)) ggX9_alone_X9_isOut
set_option maxRecDepth 20000 in
theorem ggX9_alone_X9_has : GoodIn wsX9_alone wsX9_has := goodIn_r _ [19] (by decide +kernel) (by decide +kernel)
set_option maxRecDepth 20000 in
theorem gX9_alone_X9_has : GoodIn wsX9_alone (va_wsS RX9 152 yX9_has wsX9_has) := goodIn_app (goodIn_of _ (by decide +kernel)) ggX9_alone_X9_has
set_option maxRecDepth 20000 in
theorem ggX9_alone_X9_isRate : GoodIn wsX9_alone wsX9_isRate := goodIn_r _ [22, 23, 10, 11, 7, 12] (by decide +kernel) (by decide +kernel)
set_option maxRecDepth 20000 in
theorem gX9_alone_X9_isRate : GoodIn wsX9_alone (va_wsS RX9 201 yX9_isRate wsX9_isRate) := goodIn_app (goodIn_of _ (by decide +kernel)) ggX9_alone_X9_isRate
set_option maxRecDepth 20000 in
theorem ggX9_alone_X9_isPart : GoodIn wsX9_alone wsX9_isPart := goodIn_r _ [26] (by decide +kernel) (by decide +kernel)
set_option maxRecDepth 20000 in
theorem gX9_alone_X9_isPart : GoodIn wsX9_alone (va_wsS RX9 208 yX9_isPart wsX9_isPart) := goodIn_app (goodIn_of _ (by decide +kernel)) ggX9_alone_X9_isPart
set_option maxRecDepth 20000 in
theorem ggX9_alone_X9_told : GoodIn wsX9_alone wsX9_told := goodIn_r _ [29, 30] (by decide +kernel) (by decide +kernel)
set_option maxRecDepth 20000 in
theorem gX9_alone_X9_told : GoodIn wsX9_alone (va_wsS RX9 174 yX9_told wsX9_told) := goodIn_app (goodIn_of _ (by decide +kernel)) ggX9_alone_X9_told
set_option maxRecDepth 20000 in
theorem ggX9_alone_X9_findsTerms : GoodIn wsX9_alone wsX9_findsTerms := goodIn_r _ [34, 3, 35, 36, 37, 1, 38, 39, 40, 41, 42, 7, 43, 44, 45, 46, 47, 48, 49, 50, 51, 52, 53, 54, 55, 56, 57, 58, 59, 60, 61, 62, 63, 64, 65, 66, 9, 67, 68, 69, 70, 71, 72, 73, 74, 75, 17, 18, 19, 76, 77, 78, 79, 2, 80, 81, 82, 89, 90, 91, 92, 93, 94, 95, 96, 97, 98, 99, 100, 101, 102, 103, 104, 105, 106, 107, 108, 109, 110, 111, 112, 113, 114, 115, 116, 117, 118, 119, 120, 121, 122, 123, 124, 125] (by decide +kernel) (by decide +kernel)
set_option maxRecDepth 20000 in
theorem gX9_alone_X9_findsTerms : GoodIn wsX9_alone (wsV RX9 204 RX9 yX9_findsTerms wsX9_findsTerms) := goodIn_app (goodIn_of _ (by decide +kernel)) ggX9_alone_X9_findsTerms
set_option maxRecDepth 20000 in
theorem ggX9_alone_X9_lowest : GoodIn wsX9_alone wsX9_lowest := goodIn_r _ [85, 86, 87, 7, 88] (by decide +kernel) (by decide +kernel)
set_option maxRecDepth 20000 in
theorem gX9_alone_X9_lowest : GoodIn wsX9_alone (va_wsS RX9 215 yX9_lowest wsX9_lowest) := goodIn_app (goodIn_of _ (by decide +kernel)) ggX9_alone_X9_lowest
theorem dX9_alone_0 : decode cX9_alone 0 = .ok (.aload_n 0, 1) := by decide +kernel
theorem dX9_alone_1 : decode cX9_alone 1 = .ok (.iload_n 1, 1) := by decide +kernel
theorem dX9_alone_2 : decode cX9_alone 2 = .ok (.invokevirtual 103, 3) := by decide +kernel
theorem dX9_alone_5 : decode cX9_alone 5 = .ok (.ifCond .eq 34, 3) := by decide +kernel
theorem dX9_alone_8 : decode cX9_alone 8 = .ok (.iload_n 2, 1) := by decide +kernel
theorem dX9_alone_9 : decode cX9_alone 9 = .ok (.invokestatic 138, 3) := by decide +kernel
theorem dX9_alone_12 : decode cX9_alone 12 = .ok (.ifCond .eq 27, 3) := by decide +kernel
theorem dX9_alone_15 : decode cX9_alone 15 = .ok (.iload_n 2, 1) := by decide +kernel
theorem dX9_alone_16 : decode cX9_alone 16 = .ok (.i2l, 1) := by decide +kernel
theorem dX9_alone_17 : decode cX9_alone 17 = .ok (.iload_n 1, 1) := by decide +kernel
theorem dX9_alone_18 : decode cX9_alone 18 = .ok (.invokestatic 152, 3) := by decide +kernel
theorem dX9_alone_21 : decode cX9_alone 21 = .ok (.ifCond .ne 18, 3) := by decide +kernel
theorem dX9_alone_24 : decode cX9_alone 24 = .ok (.iload_n 3, 1) := by decide +kernel
theorem dX9_alone_25 : decode cX9_alone 25 = .ok (.invokestatic 201, 3) := by decide +kernel
theorem dX9_alone_28 : decode cX9_alone 28 = .ok (.ifCond .eq 11, 3) := by decide +kernel
theorem dX9_alone_31 : decode cX9_alone 31 = .ok (.iload 4, 2) := by decide +kernel
theorem dX9_alone_33 : decode cX9_alone 33 = .ok (.invokestatic 208, 3) := by decide +kernel
theorem dX9_alone_36 : decode cX9_alone 36 = .ok (.ifCond .ne 9, 3) := by decide +kernel
theorem dX9_alone_39 : decode cX9_alone 39 = .ok (.bipush (-2), 2) := by decide +kernel
theorem dX9_alone_41 : decode cX9_alone 41 = .ok (.invokestatic 174, 3) := by decide +kernel
theorem dX9_alone_44 : decode cX9_alone 44 = .ok (.lreturn, 1) := by decide +kernel
theorem dX9_alone_45 : decode cX9_alone 45 = .ok (.aload_n 0, 1) := by decide +kernel
theorem dX9_alone_46 : decode cX9_alone 46 = .ok (.iload_n 2, 1) := by decide +kernel
theorem dX9_alone_47 : decode cX9_alone 47 = .ok (.iconst 1, 1) := by decide +kernel
theorem dX9_alone_48 : decode cX9_alone 48 = .ok (.iload_n 1, 1) := by decide +kernel
theorem dX9_alone_49 : decode cX9_alone 49 = .ok (.ishl, 1) := by decide +kernel
theorem dX9_alone_50 : decode cX9_alone 50 = .ok (.ior, 1) := by decide +kernel
theorem dX9_alone_51 : decode cX9_alone 51 = .ok (.iload_n 3, 1) := by decide +kernel
theorem dX9_alone_52 : decode cX9_alone 52 = .ok (.invokevirtual 204, 3) := by decide +kernel
theorem dX9_alone_55 : decode cX9_alone 55 = .ok (.aload_n 0, 1) := by decide +kernel
theorem dX9_alone_56 : decode cX9_alone 56 = .ok (.getfield 198, 3) := by decide +kernel
theorem dX9_alone_59 : decode cX9_alone 59 = .ok (.ifCond .eq 9, 3) := by decide +kernel
theorem dX9_alone_62 : decode cX9_alone 62 = .ok (.ldc2_w 84, 3) := by decide +kernel
theorem dX9_alone_65 : decode cX9_alone 65 = .ok (.goto 7, 3) := by decide +kernel
theorem dX9_alone_68 : decode cX9_alone 68 = .ok (.aload_n 0, 1) := by decide +kernel
theorem dX9_alone_69 : decode cX9_alone 69 = .ok (.getfield 188, 3) := by decide +kernel
theorem dX9_alone_72 : decode cX9_alone 72 = .ok (.lstore 5, 2) := by decide +kernel
theorem dX9_alone_74 : decode cX9_alone 74 = .ok (.aload_n 0, 1) := by decide +kernel
theorem dX9_alone_75 : decode cX9_alone 75 = .ok (.iload_n 2, 1) := by decide +kernel
theorem dX9_alone_76 : decode cX9_alone 76 = .ok (.iload_n 3, 1) := by decide +kernel
theorem dX9_alone_77 : decode cX9_alone 77 = .ok (.invokevirtual 204, 3) := by decide +kernel
theorem dX9_alone_80 : decode cX9_alone 80 = .ok (.aload_n 0, 1) := by decide +kernel
theorem dX9_alone_81 : decode cX9_alone 81 = .ok (.getfield 198, 3) := by decide +kernel
theorem dX9_alone_84 : decode cX9_alone 84 = .ok (.ifCond .ne 19, 3) := by decide +kernel
theorem dX9_alone_87 : decode cX9_alone 87 = .ok (.aload_n 0, 1) := by decide +kernel
theorem dX9_alone_88 : decode cX9_alone 88 = .ok (.getfield 188, 3) := by decide +kernel
theorem dX9_alone_91 : decode cX9_alone 91 = .ok (.lconst 0, 1) := by decide +kernel
theorem dX9_alone_92 : decode cX9_alone 92 = .ok (.lcmp, 1) := by decide +kernel
theorem dX9_alone_93 : decode cX9_alone 93 = .ok (.ifCond .lt 10, 3) := by decide +kernel
theorem dX9_alone_96 : decode cX9_alone 96 = .ok (.lload 5, 2) := by decide +kernel
theorem dX9_alone_98 : decode cX9_alone 98 = .ok (.lconst 0, 1) := by decide +kernel
theorem dX9_alone_99 : decode cX9_alone 99 = .ok (.lcmp, 1) := by decide +kernel
theorem dX9_alone_100 : decode cX9_alone 100 = .ok (.ifCond .ge 11, 3) := by decide +kernel
theorem dX9_alone_103 : decode cX9_alone 103 = .ok (.bipush (-5), 2) := by decide +kernel
theorem dX9_alone_105 : decode cX9_alone 105 = .ok (.invokestatic 174, 3) := by decide +kernel
theorem dX9_alone_108 : decode cX9_alone 108 = .ok (.goto 14, 3) := by decide +kernel
theorem dX9_alone_111 : decode cX9_alone 111 = .ok (.lload 5, 2) := by decide +kernel
theorem dX9_alone_113 : decode cX9_alone 113 = .ok (.aload_n 0, 1) := by decide +kernel
theorem dX9_alone_114 : decode cX9_alone 114 = .ok (.getfield 188, 3) := by decide +kernel
theorem dX9_alone_117 : decode cX9_alone 117 = .ok (.iload 4, 2) := by decide +kernel
theorem dX9_alone_119 : decode cX9_alone 119 = .ok (.invokestatic 215, 3) := by decide +kernel
theorem dX9_alone_122 : decode cX9_alone 122 = .ok (.lreturn, 1) := by decide +kernel
set_option maxRecDepth 20000 in
theorem ggX9_grows_X9_nearOf : GoodIn wsX9_grows wsX9_nearOf := goodIn_r _ [9, 10, 11, 12, 19, 20, 21, 22, 23, 24, 25, 26, 27, 28, 29, 30, 31, 32, 33, 34, 35, 36, 37, 38, 39, 40, 41, 42, 43, 44, 45, 46, 47, 48, 49, 50, 51, 52, 53, 54, 55] (by decide +kernel) (by decide +kernel)
set_option maxRecDepth 20000 in
theorem gX9_grows_X9_nearOf : GoodIn wsX9_grows (wsV RX9 141 RX9 yX9_nearOf wsX9_nearOf) := goodIn_app (goodIn_of _ (by decide +kernel)) ggX9_grows_X9_nearOf
set_option maxRecDepth 20000 in
theorem ggX9_grows_X9_has : GoodIn wsX9_grows wsX9_has := goodIn_r _ [15] (by decide +kernel) (by decide +kernel)
set_option maxRecDepth 20000 in
theorem gX9_grows_X9_has : GoodIn wsX9_grows (va_wsS RX9 152 yX9_has wsX9_has) := goodIn_app (goodIn_of _ (by decide +kernel)) ggX9_grows_X9_has
set_option maxRecDepth 20000 in
theorem ggX9_grows_X9_grows : GoodIn wsX9_grows wsX9_grows := goodIn_r _ [0, 1, 2, 3, 4, 5, 6, 7, 8, 9, 10, 11, 12, 13, 14, 15, 16, 17, 18, 19, 20, 21, 22, 23, 24, 25, 26, 27, 28, 29, 30, 31, 32, 33, 34, 35, 36, 37, 38, 39, 40, 41, 42, 43, 44, 45, 46, 47, 48, 49, 50, 51, 52, 53, 54, 55] (by decide +kernel) (by decide +kernel)
set_option maxRecDepth 20000 in
theorem gX9_grows_X9_grows : GoodIn wsX9_grows (wsV RX9 242 RX9 yX9_grows wsX9_grows) := goodIn_app (goodIn_of _ (by decide +kernel)) ggX9_grows_X9_grows
theorem dX9_grows_0 : decode cX9_grows 0 = .ok (.aload_n 0, 1) := by decide +kernel
theorem dX9_grows_1 : decode cX9_grows 1 = .ok (.getfield 239, 3) := by decide +kernel
theorem dX9_grows_4 : decode cX9_grows 4 = .ok (.sipush 300, 3) := by decide +kernel
theorem dX9_grows_7 : decode cX9_grows 7 = .ok (.if_icmp .ne 5, 3) := by decide +kernel
theorem dX9_grows_10 : decode cX9_grows 10 = .ok (.iconst 0, 1) := by decide +kernel
theorem dX9_grows_11 : decode cX9_grows 11 = .ok (.ireturn, 1) := by decide +kernel
theorem dX9_grows_12 : decode cX9_grows 12 = .ok (.aload_n 0, 1) := by decide +kernel
theorem dX9_grows_13 : decode cX9_grows 13 = .ok (.getfield 239, 3) := by decide +kernel
theorem dX9_grows_16 : decode cX9_grows 16 = .ok (.istore 4, 2) := by decide +kernel
theorem dX9_grows_18 : decode cX9_grows 18 = .ok (.aload_n 0, 1) := by decide +kernel
theorem dX9_grows_19 : decode cX9_grows 19 = .ok (.getfield 44, 3) := by decide +kernel
theorem dX9_grows_22 : decode cX9_grows 22 = .ok (.iload 4, 2) := by decide +kernel
theorem dX9_grows_24 : decode cX9_grows 24 = .ok (.iload_n 1, 1) := by decide +kernel
theorem dX9_grows_25 : decode cX9_grows 25 = .ok (.iastore, 1) := by decide +kernel
theorem dX9_grows_26 : decode cX9_grows 26 = .ok (.aload_n 0, 1) := by decide +kernel
theorem dX9_grows_27 : decode cX9_grows 27 = .ok (.getfield 47, 3) := by decide +kernel
theorem dX9_grows_30 : decode cX9_grows 30 = .ok (.iload 4, 2) := by decide +kernel
theorem dX9_grows_32 : decode cX9_grows 32 = .ok (.iload_n 2, 1) := by decide +kernel
theorem dX9_grows_33 : decode cX9_grows 33 = .ok (.iastore, 1) := by decide +kernel
theorem dX9_grows_34 : decode cX9_grows 34 = .ok (.aload_n 0, 1) := by decide +kernel
theorem dX9_grows_35 : decode cX9_grows 35 = .ok (.dup, 1) := by decide +kernel
theorem dX9_grows_36 : decode cX9_grows 36 = .ok (.getfield 239, 3) := by decide +kernel
theorem dX9_grows_39 : decode cX9_grows 39 = .ok (.iconst 1, 1) := by decide +kernel
theorem dX9_grows_40 : decode cX9_grows 40 = .ok (.iadd, 1) := by decide +kernel
theorem dX9_grows_41 : decode cX9_grows 41 = .ok (.putfield 239, 3) := by decide +kernel
theorem dX9_grows_44 : decode cX9_grows 44 = .ok (.aload_n 0, 1) := by decide +kernel
theorem dX9_grows_45 : decode cX9_grows 45 = .ok (.iload_n 1, 1) := by decide +kernel
theorem dX9_grows_46 : decode cX9_grows 46 = .ok (.iload_n 3, 1) := by decide +kernel
theorem dX9_grows_47 : decode cX9_grows 47 = .ok (.iconst 1, 1) := by decide +kernel
theorem dX9_grows_48 : decode cX9_grows 48 = .ok (.iload_n 1, 1) := by decide +kernel
theorem dX9_grows_49 : decode cX9_grows 49 = .ok (.ishl, 1) := by decide +kernel
theorem dX9_grows_50 : decode cX9_grows 50 = .ok (.ior, 1) := by decide +kernel
theorem dX9_grows_51 : decode cX9_grows 51 = .ok (.invokevirtual 141, 3) := by decide +kernel
theorem dX9_grows_54 : decode cX9_grows 54 = .ok (.istore 5, 2) := by decide +kernel
theorem dX9_grows_56 : decode cX9_grows 56 = .ok (.iconst 0, 1) := by decide +kernel
theorem dX9_grows_57 : decode cX9_grows 57 = .ok (.istore 6, 2) := by decide +kernel
theorem dX9_grows_59 : decode cX9_grows 59 = .ok (.iload 6, 2) := by decide +kernel
theorem dX9_grows_61 : decode cX9_grows 61 = .ok (.aload_n 0, 1) := by decide +kernel
theorem dX9_grows_62 : decode cX9_grows 62 = .ok (.getfield 92, 3) := by decide +kernel
theorem dX9_grows_65 : decode cX9_grows 65 = .ok (.if_icmp .ge 38, 3) := by decide +kernel
theorem dX9_grows_68 : decode cX9_grows 68 = .ok (.iload 5, 2) := by decide +kernel
theorem dX9_grows_70 : decode cX9_grows 70 = .ok (.i2l, 1) := by decide +kernel
theorem dX9_grows_71 : decode cX9_grows 71 = .ok (.iload 6, 2) := by decide +kernel
theorem dX9_grows_73 : decode cX9_grows 73 = .ok (.invokestatic 152, 3) := by decide +kernel
theorem dX9_grows_76 : decode cX9_grows 76 = .ok (.ifCond .eq 21, 3) := by decide +kernel
theorem dX9_grows_79 : decode cX9_grows 79 = .ok (.aload_n 0, 1) := by decide +kernel
theorem dX9_grows_80 : decode cX9_grows 80 = .ok (.iload 6, 2) := by decide +kernel
theorem dX9_grows_82 : decode cX9_grows 82 = .ok (.iload 4, 2) := by decide +kernel
theorem dX9_grows_84 : decode cX9_grows 84 = .ok (.iload_n 3, 1) := by decide +kernel
theorem dX9_grows_85 : decode cX9_grows 85 = .ok (.iconst 1, 1) := by decide +kernel
theorem dX9_grows_86 : decode cX9_grows 86 = .ok (.iload_n 1, 1) := by decide +kernel
theorem dX9_grows_87 : decode cX9_grows 87 = .ok (.ishl, 1) := by decide +kernel
theorem dX9_grows_88 : decode cX9_grows 88 = .ok (.ior, 1) := by decide +kernel
theorem dX9_grows_89 : decode cX9_grows 89 = .ok (.invokevirtual 242, 3) := by decide +kernel
theorem dX9_grows_92 : decode cX9_grows 92 = .ok (.ifCond .ne 5, 3) := by decide +kernel
theorem dX9_grows_95 : decode cX9_grows 95 = .ok (.iconst 0, 1) := by decide +kernel
theorem dX9_grows_96 : decode cX9_grows 96 = .ok (.ireturn, 1) := by decide +kernel
theorem dX9_grows_97 : decode cX9_grows 97 = .ok (.iinc 6 1, 3) := by decide +kernel
theorem dX9_grows_100 : decode cX9_grows 100 = .ok (.goto (-41), 3) := by decide +kernel
theorem dX9_grows_103 : decode cX9_grows 103 = .ok (.iconst 1, 1) := by decide +kernel
theorem dX9_grows_104 : decode cX9_grows 104 = .ok (.ireturn, 1) := by decide +kernel
set_option maxRecDepth 20000 in
theorem ggX9_tree_X9_isPoint : GoodIn wsX9_tree wsX9_isPoint := goodIn_r _ [11, 12, 13, 14, 10, 15, 34, 35, 36, 37, 38, 39, 40, 41, 42, 43, 44, 45, 46, 47, 48, 49, 50, 51, 52, 53, 54, 55, 56, 57, 58, 59, 60, 61, 62, 63, 64, 65, 66, 67, 68, 69, 70] (by decide +kernel) (by decide +kernel)
set_option maxRecDepth 20000 in
theorem gX9_tree_X9_isPoint : GoodIn wsX9_tree (wsV RX9 103 RX9 yX9_isPoint wsX9_isPoint) := goodIn_app (goodIn_of _ (by decide +kernel)) ggX9_tree_X9_isPoint
set_option maxRecDepth 20000 in
theorem ggX9_tree_X9_isOut : GoodIn wsX9_tree wsX9_isOut := goodIn_r _ [18, 19, 13, 14, 10, 15] (by decide +kernel) (by decide +kernel)
set_option maxRecDepth 20000 in
theorem gX9_tree_X9_isOut : GoodIn wsX9_tree (va_wsS RX9 138 yX9_isOut wsX9_isOut) := goodIn_app (goodIn_of _ (by decide +kernel)) ggX9_tree_X9_isOut
set_option maxRecDepth 20000 in
theorem ggX9_tree_X9_has : GoodIn wsX9_tree wsX9_has := goodIn_r _ [22] (by decide +kernel) (by decide +kernel)
set_option maxRecDepth 20000 in
theorem gX9_tree_X9_has : GoodIn wsX9_tree (va_wsS RX9 152 yX9_has wsX9_has) := goodIn_app (goodIn_of _ (by decide +kernel)) ggX9_tree_X9_has
set_option maxRecDepth 20000 in
theorem ggX9_tree_X9_grows : GoodIn wsX9_tree wsX9_grows := goodIn_r _ [26, 1, 4, 6, 12, 27, 28, 29, 10, 30, 31, 32, 33, 20, 21, 22, 23, 24, 25, 34, 35, 36, 37, 38, 39, 40, 41, 42, 43, 44, 45, 46, 47, 48, 49, 50, 51, 52, 53, 54, 55, 56, 57, 58, 59, 60, 61, 62, 63, 64, 65, 66, 67, 68, 69, 70] (by decide +kernel) (by decide +kernel)
set_option maxRecDepth 20000 in
theorem gX9_tree_X9_grows : GoodIn wsX9_tree (wsV RX9 242 RX9 yX9_grows wsX9_grows) := goodIn_app (goodIn_of _ (by decide +kernel)) ggX9_tree_X9_grows
theorem dX9_tree_0 : decode cX9_tree 0 = .ok (.aload_n 0, 1) := by decide +kernel
theorem dX9_tree_1 : decode cX9_tree 1 = .ok (.iload_n 1, 1) := by decide +kernel
theorem dX9_tree_2 : decode cX9_tree 2 = .ok (.invokevirtual 103, 3) := by decide +kernel
theorem dX9_tree_5 : decode cX9_tree 5 = .ok (.ifCond .eq 19, 3) := by decide +kernel
theorem dX9_tree_8 : decode cX9_tree 8 = .ok (.iload_n 2, 1) := by decide +kernel
theorem dX9_tree_9 : decode cX9_tree 9 = .ok (.invokestatic 138, 3) := by decide +kernel
theorem dX9_tree_12 : decode cX9_tree 12 = .ok (.ifCond .eq 12, 3) := by decide +kernel
theorem dX9_tree_15 : decode cX9_tree 15 = .ok (.iload_n 2, 1) := by decide +kernel
theorem dX9_tree_16 : decode cX9_tree 16 = .ok (.i2l, 1) := by decide +kernel
theorem dX9_tree_17 : decode cX9_tree 17 = .ok (.iload_n 1, 1) := by decide +kernel
theorem dX9_tree_18 : decode cX9_tree 18 = .ok (.invokestatic 152, 3) := by decide +kernel
theorem dX9_tree_21 : decode cX9_tree 21 = .ok (.ifCond .eq 6, 3) := by decide +kernel
theorem dX9_tree_24 : decode cX9_tree 24 = .ok (.bipush (-2), 2) := by decide +kernel
theorem dX9_tree_26 : decode cX9_tree 26 = .ok (.ireturn, 1) := by decide +kernel
theorem dX9_tree_27 : decode cX9_tree 27 = .ok (.aload_n 0, 1) := by decide +kernel
theorem dX9_tree_28 : decode cX9_tree 28 = .ok (.iconst 0, 1) := by decide +kernel
theorem dX9_tree_29 : decode cX9_tree 29 = .ok (.putfield 239, 3) := by decide +kernel
theorem dX9_tree_32 : decode cX9_tree 32 = .ok (.aload_n 0, 1) := by decide +kernel
theorem dX9_tree_33 : decode cX9_tree 33 = .ok (.iload_n 1, 1) := by decide +kernel
theorem dX9_tree_34 : decode cX9_tree 34 = .ok (.iconst (-1), 1) := by decide +kernel
theorem dX9_tree_35 : decode cX9_tree 35 = .ok (.iload_n 2, 1) := by decide +kernel
theorem dX9_tree_36 : decode cX9_tree 36 = .ok (.invokevirtual 242, 3) := by decide +kernel
theorem dX9_tree_39 : decode cX9_tree 39 = .ok (.ifCond .ne 6, 3) := by decide +kernel
theorem dX9_tree_42 : decode cX9_tree 42 = .ok (.bipush (-5), 2) := by decide +kernel
theorem dX9_tree_44 : decode cX9_tree 44 = .ok (.ireturn, 1) := by decide +kernel
theorem dX9_tree_45 : decode cX9_tree 45 = .ok (.aload_n 0, 1) := by decide +kernel
theorem dX9_tree_46 : decode cX9_tree 46 = .ok (.aload_n 0, 1) := by decide +kernel
theorem dX9_tree_47 : decode cX9_tree 47 = .ok (.getfield 239, 3) := by decide +kernel
theorem dX9_tree_50 : decode cX9_tree 50 = .ok (.putfield 246, 3) := by decide +kernel
theorem dX9_tree_53 : decode cX9_tree 53 = .ok (.iconst 0, 1) := by decide +kernel
theorem dX9_tree_54 : decode cX9_tree 54 = .ok (.istore_n 3, 1) := by decide +kernel
theorem dX9_tree_55 : decode cX9_tree 55 = .ok (.iload_n 3, 1) := by decide +kernel
theorem dX9_tree_56 : decode cX9_tree 56 = .ok (.aload_n 0, 1) := by decide +kernel
theorem dX9_tree_57 : decode cX9_tree 57 = .ok (.getfield 246, 3) := by decide +kernel
theorem dX9_tree_60 : decode cX9_tree 60 = .ok (.if_icmp .ge 33, 3) := by decide +kernel
theorem dX9_tree_63 : decode cX9_tree 63 = .ok (.aload_n 0, 1) := by decide +kernel
theorem dX9_tree_64 : decode cX9_tree 64 = .ok (.getfield 38, 3) := by decide +kernel
theorem dX9_tree_67 : decode cX9_tree 67 = .ok (.iload_n 3, 1) := by decide +kernel
theorem dX9_tree_68 : decode cX9_tree 68 = .ok (.aload_n 0, 1) := by decide +kernel
theorem dX9_tree_69 : decode cX9_tree 69 = .ok (.getfield 44, 3) := by decide +kernel
theorem dX9_tree_72 : decode cX9_tree 72 = .ok (.iload_n 3, 1) := by decide +kernel
theorem dX9_tree_73 : decode cX9_tree 73 = .ok (.iaload, 1) := by decide +kernel
theorem dX9_tree_74 : decode cX9_tree 74 = .ok (.iastore, 1) := by decide +kernel
theorem dX9_tree_75 : decode cX9_tree 75 = .ok (.aload_n 0, 1) := by decide +kernel
theorem dX9_tree_76 : decode cX9_tree 76 = .ok (.getfield 41, 3) := by decide +kernel
theorem dX9_tree_79 : decode cX9_tree 79 = .ok (.iload_n 3, 1) := by decide +kernel
theorem dX9_tree_80 : decode cX9_tree 80 = .ok (.aload_n 0, 1) := by decide +kernel
theorem dX9_tree_81 : decode cX9_tree 81 = .ok (.getfield 47, 3) := by decide +kernel
theorem dX9_tree_84 : decode cX9_tree 84 = .ok (.iload_n 3, 1) := by decide +kernel
theorem dX9_tree_85 : decode cX9_tree 85 = .ok (.iaload, 1) := by decide +kernel
theorem dX9_tree_86 : decode cX9_tree 86 = .ok (.iastore, 1) := by decide +kernel
theorem dX9_tree_87 : decode cX9_tree 87 = .ok (.iinc 3 1, 3) := by decide +kernel
theorem dX9_tree_90 : decode cX9_tree 90 = .ok (.goto (-35), 3) := by decide +kernel
theorem dX9_tree_93 : decode cX9_tree 93 = .ok (.aload_n 0, 1) := by decide +kernel
theorem dX9_tree_94 : decode cX9_tree 94 = .ok (.getfield 246, 3) := by decide +kernel
theorem dX9_tree_97 : decode cX9_tree 97 = .ok (.ireturn, 1) := by decide +kernel
set_option maxRecDepth 20000 in
theorem ggX9_node_X9_in : GoodIn wsX9_node wsX9_in := goodIn_r _ [7] (by decide +kernel) (by decide +kernel)
set_option maxRecDepth 20000 in
theorem gX9_node_X9_in : GoodIn wsX9_node (va_wsS RX9 96 yX9_in wsX9_in) := goodIn_app (goodIn_of _ (by decide +kernel)) ggX9_node_X9_in
theorem dX9_node_0 : decode cX9_node 0 = .ok (.iload_n 1, 1) := by decide +kernel
theorem dX9_node_1 : decode cX9_node 1 = .ok (.i2l, 1) := by decide +kernel
theorem dX9_node_2 : decode cX9_node 2 = .ok (.lconst 0, 1) := by decide +kernel
theorem dX9_node_3 : decode cX9_node 3 = .ok (.aload_n 0, 1) := by decide +kernel
theorem dX9_node_4 : decode cX9_node 4 = .ok (.getfield 246, 3) := by decide +kernel
theorem dX9_node_7 : decode cX9_node 7 = .ok (.iconst 1, 1) := by decide +kernel
theorem dX9_node_8 : decode cX9_node 8 = .ok (.isub, 1) := by decide +kernel
theorem dX9_node_9 : decode cX9_node 9 = .ok (.i2l, 1) := by decide +kernel
theorem dX9_node_10 : decode cX9_node 10 = .ok (.invokestatic 96, 3) := by decide +kernel
theorem dX9_node_13 : decode cX9_node 13 = .ok (.ifCond .ne 6, 3) := by decide +kernel
theorem dX9_node_16 : decode cX9_node 16 = .ok (.bipush (-12), 2) := by decide +kernel
theorem dX9_node_18 : decode cX9_node 18 = .ok (.ireturn, 1) := by decide +kernel
theorem dX9_node_19 : decode cX9_node 19 = .ok (.iconst 0, 1) := by decide +kernel
theorem dX9_node_20 : decode cX9_node 20 = .ok (.istore_n 3, 1) := by decide +kernel
theorem dX9_node_21 : decode cX9_node 21 = .ok (.iload_n 2, 1) := by decide +kernel
theorem dX9_node_22 : decode cX9_node 22 = .ok (.tableswitch 116 0 3 #[30, 37, 44, 85], 30) := by decide +kernel
theorem dX9_node_52 : decode cX9_node 52 = .ok (.aload_n 0, 1) := by decide +kernel
theorem dX9_node_53 : decode cX9_node 53 = .ok (.getfield 38, 3) := by decide +kernel
theorem dX9_node_56 : decode cX9_node 56 = .ok (.iload_n 1, 1) := by decide +kernel
theorem dX9_node_57 : decode cX9_node 57 = .ok (.iaload, 1) := by decide +kernel
theorem dX9_node_58 : decode cX9_node 58 = .ok (.ireturn, 1) := by decide +kernel
theorem dX9_node_59 : decode cX9_node 59 = .ok (.aload_n 0, 1) := by decide +kernel
theorem dX9_node_60 : decode cX9_node 60 = .ok (.getfield 41, 3) := by decide +kernel
theorem dX9_node_63 : decode cX9_node 63 = .ok (.iload_n 1, 1) := by decide +kernel
theorem dX9_node_64 : decode cX9_node 64 = .ok (.iaload, 1) := by decide +kernel
theorem dX9_node_65 : decode cX9_node 65 = .ok (.ireturn, 1) := by decide +kernel
theorem dX9_node_66 : decode cX9_node 66 = .ok (.iload_n 1, 1) := by decide +kernel
theorem dX9_node_67 : decode cX9_node 67 = .ok (.iconst 1, 1) := by decide +kernel
theorem dX9_node_68 : decode cX9_node 68 = .ok (.iadd, 1) := by decide +kernel
theorem dX9_node_69 : decode cX9_node 69 = .ok (.istore 4, 2) := by decide +kernel
theorem dX9_node_71 : decode cX9_node 71 = .ok (.iload 4, 2) := by decide +kernel
theorem dX9_node_73 : decode cX9_node 73 = .ok (.aload_n 0, 1) := by decide +kernel
theorem dX9_node_74 : decode cX9_node 74 = .ok (.getfield 246, 3) := by decide +kernel
theorem dX9_node_77 : decode cX9_node 77 = .ok (.if_icmp .ge 28, 3) := by decide +kernel
theorem dX9_node_80 : decode cX9_node 80 = .ok (.iload_n 3, 1) := by decide +kernel
theorem dX9_node_81 : decode cX9_node 81 = .ok (.aload_n 0, 1) := by decide +kernel
theorem dX9_node_82 : decode cX9_node 82 = .ok (.getfield 41, 3) := by decide +kernel
theorem dX9_node_85 : decode cX9_node 85 = .ok (.iload 4, 2) := by decide +kernel
theorem dX9_node_87 : decode cX9_node 87 = .ok (.iaload, 1) := by decide +kernel
theorem dX9_node_88 : decode cX9_node 88 = .ok (.iload_n 1, 1) := by decide +kernel
theorem dX9_node_89 : decode cX9_node 89 = .ok (.if_icmp .ne 7, 3) := by decide +kernel
theorem dX9_node_92 : decode cX9_node 92 = .ok (.iconst 1, 1) := by decide +kernel
theorem dX9_node_93 : decode cX9_node 93 = .ok (.goto 4, 3) := by decide +kernel
theorem dX9_node_96 : decode cX9_node 96 = .ok (.iconst 0, 1) := by decide +kernel
theorem dX9_node_97 : decode cX9_node 97 = .ok (.iadd, 1) := by decide +kernel
theorem dX9_node_98 : decode cX9_node 98 = .ok (.istore_n 3, 1) := by decide +kernel
theorem dX9_node_99 : decode cX9_node 99 = .ok (.iinc 4 1, 3) := by decide +kernel
theorem dX9_node_102 : decode cX9_node 102 = .ok (.goto (-31), 3) := by decide +kernel
theorem dX9_node_105 : decode cX9_node 105 = .ok (.iload_n 3, 1) := by decide +kernel
theorem dX9_node_106 : decode cX9_node 106 = .ok (.ireturn, 1) := by decide +kernel
theorem dX9_node_107 : decode cX9_node 107 = .ok (.iload_n 1, 1) := by decide +kernel
theorem dX9_node_108 : decode cX9_node 108 = .ok (.istore 4, 2) := by decide +kernel
theorem dX9_node_110 : decode cX9_node 110 = .ok (.aload_n 0, 1) := by decide +kernel
theorem dX9_node_111 : decode cX9_node 111 = .ok (.getfield 41, 3) := by decide +kernel
theorem dX9_node_114 : decode cX9_node 114 = .ok (.iload 4, 2) := by decide +kernel
theorem dX9_node_116 : decode cX9_node 116 = .ok (.iaload, 1) := by decide +kernel
theorem dX9_node_117 : decode cX9_node 117 = .ok (.iconst (-1), 1) := by decide +kernel
theorem dX9_node_118 : decode cX9_node 118 = .ok (.if_icmp .eq 18, 3) := by decide +kernel
theorem dX9_node_121 : decode cX9_node 121 = .ok (.iinc 3 1, 3) := by decide +kernel
theorem dX9_node_124 : decode cX9_node 124 = .ok (.aload_n 0, 1) := by decide +kernel
theorem dX9_node_125 : decode cX9_node 125 = .ok (.getfield 41, 3) := by decide +kernel
theorem dX9_node_128 : decode cX9_node 128 = .ok (.iload 4, 2) := by decide +kernel
theorem dX9_node_130 : decode cX9_node 130 = .ok (.iaload, 1) := by decide +kernel
theorem dX9_node_131 : decode cX9_node 131 = .ok (.istore 4, 2) := by decide +kernel
theorem dX9_node_133 : decode cX9_node 133 = .ok (.goto (-23), 3) := by decide +kernel
theorem dX9_node_136 : decode cX9_node 136 = .ok (.iload_n 3, 1) := by decide +kernel
theorem dX9_node_137 : decode cX9_node 137 = .ok (.ireturn, 1) := by decide +kernel
theorem dX9_node_138 : decode cX9_node 138 = .ok (.bipush (-2), 2) := by decide +kernel
theorem dX9_node_140 : decode cX9_node 140 = .ok (.ireturn, 1) := by decide +kernel
set_option maxRecDepth 20000 in
theorem ggX9_findsShare_X9_findsShare : GoodIn wsX9_findsShare wsX9_findsShare := goodIn_r _ [0, 1, 2, 3, 4, 5, 6, 7, 8, 9, 10, 11, 12, 13, 14, 15, 16, 17, 18, 19, 20, 21, 22, 23, 24, 25, 26, 27, 28, 29, 30, 31, 32, 33, 34, 35, 36, 37, 38, 39, 40, 41, 42, 43, 44, 45, 46, 47, 48, 49, 50, 51, 52, 53, 54, 55, 56, 57, 58, 59, 60, 61, 62, 63, 64, 65, 66, 67, 68, 69, 70, 71, 72, 73, 74, 75, 76, 77, 78, 79] (by decide +kernel) (by decide +kernel)
set_option maxRecDepth 20000 in
theorem gX9_findsShare_X9_findsShare : GoodIn wsX9_findsShare (wsV RX9 249 RX9 yX9_findsShare wsX9_findsShare) := goodIn_app (goodIn_of _ (by decide +kernel)) ggX9_findsShare_X9_findsShare
set_option maxRecDepth 20000 in
theorem ggX9_findsShare_X9_lineOf : GoodIn wsX9_findsShare wsX9_lineOf := goodIn_r _ [13, 14, 15, 16, 43, 44, 45, 46, 47, 48, 49, 50, 51, 52, 53, 54, 55, 56, 57, 58, 59, 60, 61, 62, 63, 64, 65, 66, 67, 68, 69, 70, 71, 72, 73, 74, 75, 76, 77, 78, 79] (by decide +kernel) (by decide +kernel)
set_option maxRecDepth 20000 in
theorem gX9_findsShare_X9_lineOf : GoodIn wsX9_findsShare (wsV RX9 128 RX9 yX9_lineOf wsX9_lineOf) := goodIn_app (goodIn_of _ (by decide +kernel)) ggX9_findsShare_X9_lineOf
set_option maxRecDepth 20000 in
theorem ggX9_findsShare_X9_weight : GoodIn wsX9_findsShare wsX9_weight := goodIn_r _ [20, 21, 22, 23, 24, 25, 9, 26, 27, 43, 44, 45, 46, 47, 48, 49, 50, 51, 52, 53, 54, 55, 56, 57, 58, 59, 60, 61, 62, 63, 64, 65, 66, 67, 68, 69, 70, 71, 72, 73, 74, 75, 76, 77, 78, 79] (by decide +kernel) (by decide +kernel)
set_option maxRecDepth 20000 in
theorem gX9_findsShare_X9_weight : GoodIn wsX9_findsShare (wsV RX9 134 RX9 yX9_weight wsX9_weight) := goodIn_app (goodIn_of _ (by decide +kernel)) ggX9_findsShare_X9_weight
set_option maxRecDepth 20000 in
theorem ggX9_findsShare_X9_adds : GoodIn wsX9_findsShare wsX9_adds := goodIn_r _ [31, 1, 2, 32, 33, 34, 9, 35, 36, 37, 38, 39, 40, 41, 42, 43, 44, 45, 46, 47, 48, 49, 50, 51, 52, 53, 54, 55, 56, 57, 58, 59, 60, 61, 62, 63, 64, 65, 66, 67, 68, 69, 70, 71, 72, 73, 74, 75, 76, 77, 78, 79] (by decide +kernel) (by decide +kernel)
set_option maxRecDepth 20000 in
theorem gX9_findsShare_X9_adds : GoodIn wsX9_findsShare (wsV RX9 252 RX9 yX9_adds wsX9_adds) := goodIn_app (goodIn_of _ (by decide +kernel)) ggX9_findsShare_X9_adds
theorem dX9_findsShare_0 : decode cX9_findsShare 0 = .ok (.aload_n 0, 1) := by decide +kernel
theorem dX9_findsShare_1 : decode cX9_findsShare 1 = .ok (.getfield 50, 3) := by decide +kernel
theorem dX9_findsShare_4 : decode cX9_findsShare 4 = .ok (.iload_n 1, 1) := by decide +kernel
theorem dX9_findsShare_5 : decode cX9_findsShare 5 = .ok (.lconst 1, 1) := by decide +kernel
theorem dX9_findsShare_6 : decode cX9_findsShare 6 = .ok (.lastore, 1) := by decide +kernel
theorem dX9_findsShare_7 : decode cX9_findsShare 7 = .ok (.aload_n 0, 1) := by decide +kernel
theorem dX9_findsShare_8 : decode cX9_findsShare 8 = .ok (.getfield 53, 3) := by decide +kernel
theorem dX9_findsShare_11 : decode cX9_findsShare 11 = .ok (.iload_n 1, 1) := by decide +kernel
theorem dX9_findsShare_12 : decode cX9_findsShare 12 = .ok (.lconst 1, 1) := by decide +kernel
theorem dX9_findsShare_13 : decode cX9_findsShare 13 = .ok (.lastore, 1) := by decide +kernel
theorem dX9_findsShare_14 : decode cX9_findsShare 14 = .ok (.iload_n 1, 1) := by decide +kernel
theorem dX9_findsShare_15 : decode cX9_findsShare 15 = .ok (.iconst 1, 1) := by decide +kernel
theorem dX9_findsShare_16 : decode cX9_findsShare 16 = .ok (.iadd, 1) := by decide +kernel
theorem dX9_findsShare_17 : decode cX9_findsShare 17 = .ok (.istore_n 3, 1) := by decide +kernel
theorem dX9_findsShare_18 : decode cX9_findsShare 18 = .ok (.iload_n 3, 1) := by decide +kernel
theorem dX9_findsShare_19 : decode cX9_findsShare 19 = .ok (.aload_n 0, 1) := by decide +kernel
theorem dX9_findsShare_20 : decode cX9_findsShare 20 = .ok (.getfield 246, 3) := by decide +kernel
theorem dX9_findsShare_23 : decode cX9_findsShare 23 = .ok (.if_icmp .ge 55, 3) := by decide +kernel
theorem dX9_findsShare_26 : decode cX9_findsShare 26 = .ok (.aload_n 0, 1) := by decide +kernel
theorem dX9_findsShare_27 : decode cX9_findsShare 27 = .ok (.getfield 41, 3) := by decide +kernel
theorem dX9_findsShare_30 : decode cX9_findsShare 30 = .ok (.iload_n 3, 1) := by decide +kernel
theorem dX9_findsShare_31 : decode cX9_findsShare 31 = .ok (.iaload, 1) := by decide +kernel
theorem dX9_findsShare_32 : decode cX9_findsShare 32 = .ok (.iload_n 1, 1) := by decide +kernel
theorem dX9_findsShare_33 : decode cX9_findsShare 33 = .ok (.if_icmp .ne 39, 3) := by decide +kernel
theorem dX9_findsShare_36 : decode cX9_findsShare 36 = .ok (.aload_n 0, 1) := by decide +kernel
theorem dX9_findsShare_37 : decode cX9_findsShare 37 = .ok (.iload_n 3, 1) := by decide +kernel
theorem dX9_findsShare_38 : decode cX9_findsShare 38 = .ok (.iload_n 2, 1) := by decide +kernel
theorem dX9_findsShare_39 : decode cX9_findsShare 39 = .ok (.invokevirtual 249, 3) := by decide +kernel
theorem dX9_findsShare_42 : decode cX9_findsShare 42 = .ok (.aload_n 0, 1) := by decide +kernel
theorem dX9_findsShare_43 : decode cX9_findsShare 43 = .ok (.iload_n 1, 1) := by decide +kernel
theorem dX9_findsShare_44 : decode cX9_findsShare 44 = .ok (.iload_n 3, 1) := by decide +kernel
theorem dX9_findsShare_45 : decode cX9_findsShare 45 = .ok (.iload_n 2, 1) := by decide +kernel
theorem dX9_findsShare_46 : decode cX9_findsShare 46 = .ok (.i2l, 1) := by decide +kernel
theorem dX9_findsShare_47 : decode cX9_findsShare 47 = .ok (.aload_n 0, 1) := by decide +kernel
theorem dX9_findsShare_48 : decode cX9_findsShare 48 = .ok (.aload_n 0, 1) := by decide +kernel
theorem dX9_findsShare_49 : decode cX9_findsShare 49 = .ok (.aload_n 0, 1) := by decide +kernel
theorem dX9_findsShare_50 : decode cX9_findsShare 50 = .ok (.getfield 38, 3) := by decide +kernel
theorem dX9_findsShare_53 : decode cX9_findsShare 53 = .ok (.iload_n 1, 1) := by decide +kernel
theorem dX9_findsShare_54 : decode cX9_findsShare 54 = .ok (.iaload, 1) := by decide +kernel
theorem dX9_findsShare_55 : decode cX9_findsShare 55 = .ok (.aload_n 0, 1) := by decide +kernel
theorem dX9_findsShare_56 : decode cX9_findsShare 56 = .ok (.getfield 38, 3) := by decide +kernel
theorem dX9_findsShare_59 : decode cX9_findsShare 59 = .ok (.iload_n 3, 1) := by decide +kernel
theorem dX9_findsShare_60 : decode cX9_findsShare 60 = .ok (.iaload, 1) := by decide +kernel
theorem dX9_findsShare_61 : decode cX9_findsShare 61 = .ok (.invokevirtual 128, 3) := by decide +kernel
theorem dX9_findsShare_64 : decode cX9_findsShare 64 = .ok (.invokevirtual 134, 3) := by decide +kernel
theorem dX9_findsShare_67 : decode cX9_findsShare 67 = .ok (.i2l, 1) := by decide +kernel
theorem dX9_findsShare_68 : decode cX9_findsShare 68 = .ok (.lmul, 1) := by decide +kernel
theorem dX9_findsShare_69 : decode cX9_findsShare 69 = .ok (.invokevirtual 252, 3) := by decide +kernel
theorem dX9_findsShare_72 : decode cX9_findsShare 72 = .ok (.iinc 3 1, 3) := by decide +kernel
theorem dX9_findsShare_75 : decode cX9_findsShare 75 = .ok (.goto (-57), 3) := by decide +kernel
theorem dX9_findsShare_78 : decode cX9_findsShare 78 = .ok (.return_, 1) := by decide +kernel
set_option maxRecDepth 20000 in
theorem ggX9_adds_X9_times : GoodIn wsX9_adds wsX9_times := goodIn_r _ [7, 8, 3] (by decide +kernel) (by decide +kernel)
set_option maxRecDepth 20000 in
theorem gX9_adds_X9_times : GoodIn wsX9_adds (va_wsS RX9 156 yX9_times wsX9_times) := goodIn_app (goodIn_of _ (by decide +kernel)) ggX9_adds_X9_times
set_option maxRecDepth 20000 in
theorem ggX9_adds_X9_plus : GoodIn wsX9_adds wsX9_plus := goodIn_r _ [11, 3] (by decide +kernel) (by decide +kernel)
set_option maxRecDepth 20000 in
theorem gX9_adds_X9_plus : GoodIn wsX9_adds (va_wsS RX9 159 yX9_plus wsX9_plus) := goodIn_app (goodIn_of _ (by decide +kernel)) ggX9_adds_X9_plus
set_option maxRecDepth 20000 in
theorem ggX9_adds_X9_divisor : GoodIn wsX9_adds wsX9_divisor := goodIn_r _ [14] (by decide +kernel) (by decide +kernel)
set_option maxRecDepth 20000 in
theorem gX9_adds_X9_divisor : GoodIn wsX9_adds (va_wsS RX9 88 yX9_divisor wsX9_divisor) := goodIn_app (goodIn_of _ (by decide +kernel)) ggX9_adds_X9_divisor
theorem dX9_adds_0 : decode cX9_adds 0 = .ok (.aload_n 0, 1) := by decide +kernel
theorem dX9_adds_1 : decode cX9_adds 1 = .ok (.getfield 50, 3) := by decide +kernel
theorem dX9_adds_4 : decode cX9_adds 4 = .ok (.iload_n 1, 1) := by decide +kernel
theorem dX9_adds_5 : decode cX9_adds 5 = .ok (.laload, 1) := by decide +kernel
theorem dX9_adds_6 : decode cX9_adds 6 = .ok (.aload_n 0, 1) := by decide +kernel
theorem dX9_adds_7 : decode cX9_adds 7 = .ok (.getfield 50, 3) := by decide +kernel
theorem dX9_adds_10 : decode cX9_adds 10 = .ok (.iload_n 2, 1) := by decide +kernel
theorem dX9_adds_11 : decode cX9_adds 11 = .ok (.laload, 1) := by decide +kernel
theorem dX9_adds_12 : decode cX9_adds 12 = .ok (.invokestatic 156, 3) := by decide +kernel
theorem dX9_adds_15 : decode cX9_adds 15 = .ok (.lstore 5, 2) := by decide +kernel
theorem dX9_adds_17 : decode cX9_adds 17 = .ok (.lload_n 3, 1) := by decide +kernel
theorem dX9_adds_18 : decode cX9_adds 18 = .ok (.aload_n 0, 1) := by decide +kernel
theorem dX9_adds_19 : decode cX9_adds 19 = .ok (.getfield 53, 3) := by decide +kernel
theorem dX9_adds_22 : decode cX9_adds 22 = .ok (.iload_n 2, 1) := by decide +kernel
theorem dX9_adds_23 : decode cX9_adds 23 = .ok (.laload, 1) := by decide +kernel
theorem dX9_adds_24 : decode cX9_adds 24 = .ok (.invokestatic 156, 3) := by decide +kernel
theorem dX9_adds_27 : decode cX9_adds 27 = .ok (.aload_n 0, 1) := by decide +kernel
theorem dX9_adds_28 : decode cX9_adds 28 = .ok (.getfield 53, 3) := by decide +kernel
theorem dX9_adds_31 : decode cX9_adds 31 = .ok (.iload_n 1, 1) := by decide +kernel
theorem dX9_adds_32 : decode cX9_adds 32 = .ok (.laload, 1) := by decide +kernel
theorem dX9_adds_33 : decode cX9_adds 33 = .ok (.invokestatic 156, 3) := by decide +kernel
theorem dX9_adds_36 : decode cX9_adds 36 = .ok (.lstore 7, 2) := by decide +kernel
theorem dX9_adds_38 : decode cX9_adds 38 = .ok (.aload_n 0, 1) := by decide +kernel
theorem dX9_adds_39 : decode cX9_adds 39 = .ok (.getfield 53, 3) := by decide +kernel
theorem dX9_adds_42 : decode cX9_adds 42 = .ok (.iload_n 1, 1) := by decide +kernel
theorem dX9_adds_43 : decode cX9_adds 43 = .ok (.laload, 1) := by decide +kernel
theorem dX9_adds_44 : decode cX9_adds 44 = .ok (.aload_n 0, 1) := by decide +kernel
theorem dX9_adds_45 : decode cX9_adds 45 = .ok (.getfield 50, 3) := by decide +kernel
theorem dX9_adds_48 : decode cX9_adds 48 = .ok (.iload_n 2, 1) := by decide +kernel
theorem dX9_adds_49 : decode cX9_adds 49 = .ok (.laload, 1) := by decide +kernel
theorem dX9_adds_50 : decode cX9_adds 50 = .ok (.invokestatic 156, 3) := by decide +kernel
theorem dX9_adds_53 : decode cX9_adds 53 = .ok (.lstore 9, 2) := by decide +kernel
theorem dX9_adds_55 : decode cX9_adds 55 = .ok (.lload 5, 2) := by decide +kernel
theorem dX9_adds_57 : decode cX9_adds 57 = .ok (.lload 7, 2) := by decide +kernel
theorem dX9_adds_59 : decode cX9_adds 59 = .ok (.invokestatic 159, 3) := by decide +kernel
theorem dX9_adds_62 : decode cX9_adds 62 = .ok (.lstore 11, 2) := by decide +kernel
theorem dX9_adds_64 : decode cX9_adds 64 = .ok (.aload_n 0, 1) := by decide +kernel
theorem dX9_adds_65 : decode cX9_adds 65 = .ok (.getfield 50, 3) := by decide +kernel
theorem dX9_adds_68 : decode cX9_adds 68 = .ok (.iload_n 1, 1) := by decide +kernel
theorem dX9_adds_69 : decode cX9_adds 69 = .ok (.laload, 1) := by decide +kernel
theorem dX9_adds_70 : decode cX9_adds 70 = .ok (.lconst 0, 1) := by decide +kernel
theorem dX9_adds_71 : decode cX9_adds 71 = .ok (.lcmp, 1) := by decide +kernel
theorem dX9_adds_72 : decode cX9_adds 72 = .ok (.ifCond .lt 42, 3) := by decide +kernel
theorem dX9_adds_75 : decode cX9_adds 75 = .ok (.aload_n 0, 1) := by decide +kernel
theorem dX9_adds_76 : decode cX9_adds 76 = .ok (.getfield 50, 3) := by decide +kernel
theorem dX9_adds_79 : decode cX9_adds 79 = .ok (.iload_n 2, 1) := by decide +kernel
theorem dX9_adds_80 : decode cX9_adds 80 = .ok (.laload, 1) := by decide +kernel
theorem dX9_adds_81 : decode cX9_adds 81 = .ok (.lconst 0, 1) := by decide +kernel
theorem dX9_adds_82 : decode cX9_adds 82 = .ok (.lcmp, 1) := by decide +kernel
theorem dX9_adds_83 : decode cX9_adds 83 = .ok (.ifCond .lt 31, 3) := by decide +kernel
theorem dX9_adds_86 : decode cX9_adds 86 = .ok (.lload 5, 2) := by decide +kernel
theorem dX9_adds_88 : decode cX9_adds 88 = .ok (.lconst 0, 1) := by decide +kernel
theorem dX9_adds_89 : decode cX9_adds 89 = .ok (.lcmp, 1) := by decide +kernel
theorem dX9_adds_90 : decode cX9_adds 90 = .ok (.ifCond .lt 24, 3) := by decide +kernel
theorem dX9_adds_93 : decode cX9_adds 93 = .ok (.lload 7, 2) := by decide +kernel
theorem dX9_adds_95 : decode cX9_adds 95 = .ok (.lconst 0, 1) := by decide +kernel
theorem dX9_adds_96 : decode cX9_adds 96 = .ok (.lcmp, 1) := by decide +kernel
theorem dX9_adds_97 : decode cX9_adds 97 = .ok (.ifCond .lt 17, 3) := by decide +kernel
theorem dX9_adds_100 : decode cX9_adds 100 = .ok (.lload 9, 2) := by decide +kernel
theorem dX9_adds_102 : decode cX9_adds 102 = .ok (.lconst 0, 1) := by decide +kernel
theorem dX9_adds_103 : decode cX9_adds 103 = .ok (.lcmp, 1) := by decide +kernel
theorem dX9_adds_104 : decode cX9_adds 104 = .ok (.ifCond .lt 10, 3) := by decide +kernel
theorem dX9_adds_107 : decode cX9_adds 107 = .ok (.lload 11, 2) := by decide +kernel
theorem dX9_adds_109 : decode cX9_adds 109 = .ok (.lconst 0, 1) := by decide +kernel
theorem dX9_adds_110 : decode cX9_adds 110 = .ok (.lcmp, 1) := by decide +kernel
theorem dX9_adds_111 : decode cX9_adds 111 = .ok (.ifCond .ge 13, 3) := by decide +kernel
theorem dX9_adds_114 : decode cX9_adds 114 = .ok (.aload_n 0, 1) := by decide +kernel
theorem dX9_adds_115 : decode cX9_adds 115 = .ok (.getfield 50, 3) := by decide +kernel
theorem dX9_adds_118 : decode cX9_adds 118 = .ok (.iload_n 1, 1) := by decide +kernel
theorem dX9_adds_119 : decode cX9_adds 119 = .ok (.ldc2_w 84, 3) := by decide +kernel
theorem dX9_adds_122 : decode cX9_adds 122 = .ok (.lastore, 1) := by decide +kernel
theorem dX9_adds_123 : decode cX9_adds 123 = .ok (.return_, 1) := by decide +kernel
theorem dX9_adds_124 : decode cX9_adds 124 = .ok (.lload 11, 2) := by decide +kernel
theorem dX9_adds_126 : decode cX9_adds 126 = .ok (.lload 9, 2) := by decide +kernel
theorem dX9_adds_128 : decode cX9_adds 128 = .ok (.invokestatic 88, 3) := by decide +kernel
theorem dX9_adds_131 : decode cX9_adds 131 = .ok (.lstore 13, 2) := by decide +kernel
theorem dX9_adds_133 : decode cX9_adds 133 = .ok (.aload_n 0, 1) := by decide +kernel
theorem dX9_adds_134 : decode cX9_adds 134 = .ok (.getfield 50, 3) := by decide +kernel
theorem dX9_adds_137 : decode cX9_adds 137 = .ok (.iload_n 1, 1) := by decide +kernel
theorem dX9_adds_138 : decode cX9_adds 138 = .ok (.lload 11, 2) := by decide +kernel
theorem dX9_adds_140 : decode cX9_adds 140 = .ok (.lload 13, 2) := by decide +kernel
theorem dX9_adds_142 : decode cX9_adds 142 = .ok (.ldiv, 1) := by decide +kernel
theorem dX9_adds_143 : decode cX9_adds 143 = .ok (.lastore, 1) := by decide +kernel
theorem dX9_adds_144 : decode cX9_adds 144 = .ok (.aload_n 0, 1) := by decide +kernel
theorem dX9_adds_145 : decode cX9_adds 145 = .ok (.getfield 53, 3) := by decide +kernel
theorem dX9_adds_148 : decode cX9_adds 148 = .ok (.iload_n 1, 1) := by decide +kernel
theorem dX9_adds_149 : decode cX9_adds 149 = .ok (.lload 9, 2) := by decide +kernel
theorem dX9_adds_151 : decode cX9_adds 151 = .ok (.lload 13, 2) := by decide +kernel
theorem dX9_adds_153 : decode cX9_adds 153 = .ok (.ldiv, 1) := by decide +kernel
theorem dX9_adds_154 : decode cX9_adds 154 = .ok (.lastore, 1) := by decide +kernel
theorem dX9_adds_155 : decode cX9_adds 155 = .ok (.return_, 1) := by decide +kernel
set_option maxRecDepth 20000 in
theorem ggX9_isWhole_X9_lineOf : GoodIn wsX9_isWhole wsX9_lineOf := goodIn_r _ [8, 9, 10, 11, 12, 13, 14, 15, 16, 17, 18, 19, 20, 21, 22, 23, 24, 25, 26, 27, 28, 29, 30, 31, 32, 33, 34, 35, 36, 37, 38, 39, 40, 41, 42, 43, 44, 45, 46, 47, 48] (by decide +kernel) (by decide +kernel)
set_option maxRecDepth 20000 in
theorem gX9_isWhole_X9_lineOf : GoodIn wsX9_isWhole (wsV RX9 128 RX9 yX9_lineOf wsX9_lineOf) := goodIn_app (goodIn_of _ (by decide +kernel)) ggX9_isWhole_X9_lineOf
theorem dX9_isWhole_0 : decode cX9_isWhole 0 = .ok (.iconst 1, 1) := by decide +kernel
theorem dX9_isWhole_1 : decode cX9_isWhole 1 = .ok (.istore_n 1, 1) := by decide +kernel
theorem dX9_isWhole_2 : decode cX9_isWhole 2 = .ok (.iload_n 1, 1) := by decide +kernel
theorem dX9_isWhole_3 : decode cX9_isWhole 3 = .ok (.aload_n 0, 1) := by decide +kernel
theorem dX9_isWhole_4 : decode cX9_isWhole 4 = .ok (.getfield 246, 3) := by decide +kernel
theorem dX9_isWhole_7 : decode cX9_isWhole 7 = .ok (.if_icmp .ge 36, 3) := by decide +kernel
theorem dX9_isWhole_10 : decode cX9_isWhole 10 = .ok (.aload_n 0, 1) := by decide +kernel
theorem dX9_isWhole_11 : decode cX9_isWhole 11 = .ok (.aload_n 0, 1) := by decide +kernel
theorem dX9_isWhole_12 : decode cX9_isWhole 12 = .ok (.getfield 38, 3) := by decide +kernel
theorem dX9_isWhole_15 : decode cX9_isWhole 15 = .ok (.iload_n 1, 1) := by decide +kernel
theorem dX9_isWhole_16 : decode cX9_isWhole 16 = .ok (.iaload, 1) := by decide +kernel
theorem dX9_isWhole_17 : decode cX9_isWhole 17 = .ok (.aload_n 0, 1) := by decide +kernel
theorem dX9_isWhole_18 : decode cX9_isWhole 18 = .ok (.getfield 38, 3) := by decide +kernel
theorem dX9_isWhole_21 : decode cX9_isWhole 21 = .ok (.aload_n 0, 1) := by decide +kernel
theorem dX9_isWhole_22 : decode cX9_isWhole 22 = .ok (.getfield 41, 3) := by decide +kernel
theorem dX9_isWhole_25 : decode cX9_isWhole 25 = .ok (.iload_n 1, 1) := by decide +kernel
theorem dX9_isWhole_26 : decode cX9_isWhole 26 = .ok (.iaload, 1) := by decide +kernel
theorem dX9_isWhole_27 : decode cX9_isWhole 27 = .ok (.iaload, 1) := by decide +kernel
theorem dX9_isWhole_28 : decode cX9_isWhole 28 = .ok (.invokevirtual 128, 3) := by decide +kernel
theorem dX9_isWhole_31 : decode cX9_isWhole 31 = .ok (.iconst (-1), 1) := by decide +kernel
theorem dX9_isWhole_32 : decode cX9_isWhole 32 = .ok (.if_icmp .ne 5, 3) := by decide +kernel
theorem dX9_isWhole_35 : decode cX9_isWhole 35 = .ok (.iconst 0, 1) := by decide +kernel
theorem dX9_isWhole_36 : decode cX9_isWhole 36 = .ok (.ireturn, 1) := by decide +kernel
theorem dX9_isWhole_37 : decode cX9_isWhole 37 = .ok (.iinc 1 1, 3) := by decide +kernel
theorem dX9_isWhole_40 : decode cX9_isWhole 40 = .ok (.goto (-38), 3) := by decide +kernel
theorem dX9_isWhole_43 : decode cX9_isWhole 43 = .ok (.iconst 1, 1) := by decide +kernel
theorem dX9_isWhole_44 : decode cX9_isWhole 44 = .ok (.ireturn, 1) := by decide +kernel
set_option maxRecDepth 20000 in
theorem ggX9_share_X9_in : GoodIn wsX9_share wsX9_in := goodIn_r _ [7] (by decide +kernel) (by decide +kernel)
set_option maxRecDepth 20000 in
theorem gX9_share_X9_in : GoodIn wsX9_share (va_wsS RX9 96 yX9_in wsX9_in) := goodIn_app (goodIn_of _ (by decide +kernel)) ggX9_share_X9_in
set_option maxRecDepth 20000 in
theorem ggX9_share_X9_told : GoodIn wsX9_share wsX9_told := goodIn_r _ [10, 11] (by decide +kernel) (by decide +kernel)
set_option maxRecDepth 20000 in
theorem gX9_share_X9_told : GoodIn wsX9_share (va_wsS RX9 174 yX9_told wsX9_told) := goodIn_app (goodIn_of _ (by decide +kernel)) ggX9_share_X9_told
set_option maxRecDepth 20000 in
theorem ggX9_share_X9_isRate : GoodIn wsX9_share wsX9_isRate := goodIn_r _ [14, 15, 4, 5, 6, 7] (by decide +kernel) (by decide +kernel)
set_option maxRecDepth 20000 in
theorem gX9_share_X9_isRate : GoodIn wsX9_share (va_wsS RX9 201 yX9_isRate wsX9_isRate) := goodIn_app (goodIn_of _ (by decide +kernel)) ggX9_share_X9_isRate
set_option maxRecDepth 20000 in
theorem ggX9_share_X9_isPart : GoodIn wsX9_share wsX9_isPart := goodIn_r _ [18] (by decide +kernel) (by decide +kernel)
set_option maxRecDepth 20000 in
theorem gX9_share_X9_isPart : GoodIn wsX9_share (va_wsS RX9 208 yX9_isPart wsX9_isPart) := goodIn_app (goodIn_of _ (by decide +kernel)) ggX9_share_X9_isPart
set_option maxRecDepth 20000 in
theorem ggX9_share_X9_isWhole : GoodIn wsX9_share wsX9_isWhole := goodIn_r _ [22, 1, 23, 24, 25, 26, 27, 6, 28, 29, 30, 31, 62, 63, 64, 65, 66, 67, 68, 69, 70, 71, 72, 73, 74, 75, 76, 77, 78, 79, 80, 81, 82, 83, 84, 85, 86, 87, 88, 89, 90, 91, 92, 93, 94, 95, 96, 97, 98] (by decide +kernel) (by decide +kernel)
set_option maxRecDepth 20000 in
theorem gX9_share_X9_isWhole : GoodIn wsX9_share (wsV RX9 256 RX9 yX9_isWhole wsX9_isWhole) := goodIn_app (goodIn_of _ (by decide +kernel)) ggX9_share_X9_isWhole
set_option maxRecDepth 20000 in
theorem ggX9_share_X9_findsShare : GoodIn wsX9_share wsX9_findsShare := goodIn_r _ [35, 2, 3, 1, 24, 23, 32, 33, 34, 6, 25, 26, 27, 28, 29, 30, 31, 36, 37, 38, 39, 40, 41, 42, 43, 44, 45, 46, 47, 48, 49, 50, 51, 52, 53, 54, 55, 56, 57, 58, 59, 60, 61, 62, 63, 64, 65, 66, 67, 68, 69, 70, 71, 72, 73, 74, 75, 76, 77, 78, 79, 80, 81, 82, 83, 84, 85, 86, 87, 88, 89, 90, 91, 92, 93, 94, 95, 96, 97, 98] (by decide +kernel) (by decide +kernel)
set_option maxRecDepth 20000 in
theorem gX9_share_X9_findsShare : GoodIn wsX9_share (wsV RX9 249 RX9 yX9_findsShare wsX9_findsShare) := goodIn_app (goodIn_of _ (by decide +kernel)) ggX9_share_X9_findsShare
theorem dX9_share_0 : decode cX9_share 0 = .ok (.iload_n 1, 1) := by decide +kernel
theorem dX9_share_1 : decode cX9_share 1 = .ok (.i2l, 1) := by decide +kernel
theorem dX9_share_2 : decode cX9_share 2 = .ok (.lconst 0, 1) := by decide +kernel
theorem dX9_share_3 : decode cX9_share 3 = .ok (.aload_n 0, 1) := by decide +kernel
theorem dX9_share_4 : decode cX9_share 4 = .ok (.getfield 246, 3) := by decide +kernel
theorem dX9_share_7 : decode cX9_share 7 = .ok (.iconst 1, 1) := by decide +kernel
theorem dX9_share_8 : decode cX9_share 8 = .ok (.isub, 1) := by decide +kernel
theorem dX9_share_9 : decode cX9_share 9 = .ok (.i2l, 1) := by decide +kernel
theorem dX9_share_10 : decode cX9_share 10 = .ok (.invokestatic 96, 3) := by decide +kernel
theorem dX9_share_13 : decode cX9_share 13 = .ok (.ifCond .ne 9, 3) := by decide +kernel
theorem dX9_share_16 : decode cX9_share 16 = .ok (.bipush (-12), 2) := by decide +kernel
theorem dX9_share_18 : decode cX9_share 18 = .ok (.invokestatic 174, 3) := by decide +kernel
theorem dX9_share_21 : decode cX9_share 21 = .ok (.lreturn, 1) := by decide +kernel
theorem dX9_share_22 : decode cX9_share 22 = .ok (.iload_n 2, 1) := by decide +kernel
theorem dX9_share_23 : decode cX9_share 23 = .ok (.invokestatic 201, 3) := by decide +kernel
theorem dX9_share_26 : decode cX9_share 26 = .ok (.ifCond .eq 10, 3) := by decide +kernel
theorem dX9_share_29 : decode cX9_share 29 = .ok (.iload_n 3, 1) := by decide +kernel
theorem dX9_share_30 : decode cX9_share 30 = .ok (.invokestatic 208, 3) := by decide +kernel
theorem dX9_share_33 : decode cX9_share 33 = .ok (.ifCond .ne 9, 3) := by decide +kernel
theorem dX9_share_36 : decode cX9_share 36 = .ok (.bipush (-2), 2) := by decide +kernel
theorem dX9_share_38 : decode cX9_share 38 = .ok (.invokestatic 174, 3) := by decide +kernel
theorem dX9_share_41 : decode cX9_share 41 = .ok (.lreturn, 1) := by decide +kernel
theorem dX9_share_42 : decode cX9_share 42 = .ok (.aload_n 0, 1) := by decide +kernel
theorem dX9_share_43 : decode cX9_share 43 = .ok (.invokevirtual 256, 3) := by decide +kernel
theorem dX9_share_46 : decode cX9_share 46 = .ok (.ifCond .ne 9, 3) := by decide +kernel
theorem dX9_share_49 : decode cX9_share 49 = .ok (.bipush (-3), 2) := by decide +kernel
theorem dX9_share_51 : decode cX9_share 51 = .ok (.invokestatic 174, 3) := by decide +kernel
theorem dX9_share_54 : decode cX9_share 54 = .ok (.lreturn, 1) := by decide +kernel
theorem dX9_share_55 : decode cX9_share 55 = .ok (.aload_n 0, 1) := by decide +kernel
theorem dX9_share_56 : decode cX9_share 56 = .ok (.iload_n 1, 1) := by decide +kernel
theorem dX9_share_57 : decode cX9_share 57 = .ok (.iload_n 2, 1) := by decide +kernel
theorem dX9_share_58 : decode cX9_share 58 = .ok (.invokevirtual 249, 3) := by decide +kernel
theorem dX9_share_61 : decode cX9_share 61 = .ok (.aload_n 0, 1) := by decide +kernel
theorem dX9_share_62 : decode cX9_share 62 = .ok (.getfield 50, 3) := by decide +kernel
theorem dX9_share_65 : decode cX9_share 65 = .ok (.iload_n 1, 1) := by decide +kernel
theorem dX9_share_66 : decode cX9_share 66 = .ok (.laload, 1) := by decide +kernel
theorem dX9_share_67 : decode cX9_share 67 = .ok (.lconst 0, 1) := by decide +kernel
theorem dX9_share_68 : decode cX9_share 68 = .ok (.lcmp, 1) := by decide +kernel
theorem dX9_share_69 : decode cX9_share 69 = .ok (.ifCond .ge 11, 3) := by decide +kernel
theorem dX9_share_72 : decode cX9_share 72 = .ok (.bipush (-5), 2) := by decide +kernel
theorem dX9_share_74 : decode cX9_share 74 = .ok (.invokestatic 174, 3) := by decide +kernel
theorem dX9_share_77 : decode cX9_share 77 = .ok (.goto 22, 3) := by decide +kernel
theorem dX9_share_80 : decode cX9_share 80 = .ok (.iload_n 3, 1) := by decide +kernel
theorem dX9_share_81 : decode cX9_share 81 = .ok (.ifCond .ne 12, 3) := by decide +kernel
theorem dX9_share_84 : decode cX9_share 84 = .ok (.aload_n 0, 1) := by decide +kernel
theorem dX9_share_85 : decode cX9_share 85 = .ok (.getfield 53, 3) := by decide +kernel
theorem dX9_share_88 : decode cX9_share 88 = .ok (.iload_n 1, 1) := by decide +kernel
theorem dX9_share_89 : decode cX9_share 89 = .ok (.laload, 1) := by decide +kernel
theorem dX9_share_90 : decode cX9_share 90 = .ok (.goto 9, 3) := by decide +kernel
theorem dX9_share_93 : decode cX9_share 93 = .ok (.aload_n 0, 1) := by decide +kernel
theorem dX9_share_94 : decode cX9_share 94 = .ok (.getfield 50, 3) := by decide +kernel
theorem dX9_share_97 : decode cX9_share 97 = .ok (.iload_n 1, 1) := by decide +kernel
theorem dX9_share_98 : decode cX9_share 98 = .ok (.laload, 1) := by decide +kernel
theorem dX9_share_99 : decode cX9_share 99 = .ok (.lreturn, 1) := by decide +kernel
set_option maxRecDepth 20000 in
theorem ggX9_cutOf_X9_nearOf : GoodIn wsX9_cutOf wsX9_nearOf := goodIn_r _ [6, 7, 8, 9, 31, 32, 33, 34, 35, 36, 37, 38, 39, 40, 41, 42, 43, 44, 45, 46, 47, 48, 49, 50, 51, 52, 53, 54, 55, 56, 57, 58, 59, 60, 61, 62, 63, 64, 65, 66, 67] (by decide +kernel) (by decide +kernel)
set_option maxRecDepth 20000 in
theorem gX9_cutOf_X9_nearOf : GoodIn wsX9_cutOf (wsV RX9 141 RX9 yX9_nearOf wsX9_nearOf) := goodIn_app (goodIn_of _ (by decide +kernel)) ggX9_cutOf_X9_nearOf
set_option maxRecDepth 20000 in
theorem ggX9_cutOf_X9_has : GoodIn wsX9_cutOf wsX9_has := goodIn_r _ [12] (by decide +kernel) (by decide +kernel)
set_option maxRecDepth 20000 in
theorem gX9_cutOf_X9_has : GoodIn wsX9_cutOf (va_wsS RX9 152 yX9_has wsX9_has) := goodIn_app (goodIn_of _ (by decide +kernel)) ggX9_cutOf_X9_has
set_option maxRecDepth 20000 in
theorem ggX9_cutOf_X9_lineOf : GoodIn wsX9_cutOf wsX9_lineOf := goodIn_r _ [16, 7, 8, 9, 31, 32, 33, 34, 35, 36, 37, 38, 39, 40, 41, 42, 43, 44, 45, 46, 47, 48, 49, 50, 51, 52, 53, 54, 55, 56, 57, 58, 59, 60, 61, 62, 63, 64, 65, 66, 67] (by decide +kernel) (by decide +kernel)
set_option maxRecDepth 20000 in
theorem gX9_cutOf_X9_lineOf : GoodIn wsX9_cutOf (wsV RX9 128 RX9 yX9_lineOf wsX9_lineOf) := goodIn_app (goodIn_of _ (by decide +kernel)) ggX9_cutOf_X9_lineOf
set_option maxRecDepth 20000 in
theorem ggX9_cutOf_X9_weight : GoodIn wsX9_cutOf wsX9_weight := goodIn_r _ [20, 21, 22, 23, 24, 25, 5, 26, 27, 31, 32, 33, 34, 35, 36, 37, 38, 39, 40, 41, 42, 43, 44, 45, 46, 47, 48, 49, 50, 51, 52, 53, 54, 55, 56, 57, 58, 59, 60, 61, 62, 63, 64, 65, 66, 67] (by decide +kernel) (by decide +kernel)
set_option maxRecDepth 20000 in
theorem gX9_cutOf_X9_weight : GoodIn wsX9_cutOf (wsV RX9 134 RX9 yX9_weight wsX9_weight) := goodIn_app (goodIn_of _ (by decide +kernel)) ggX9_cutOf_X9_weight
set_option maxRecDepth 20000 in
theorem ggX9_cutOf_X9_cutOf : GoodIn wsX9_cutOf wsX9_cutOf := goodIn_r _ [0, 1, 2, 3, 4, 5, 6, 7, 8, 9, 10, 11, 12, 13, 14, 15, 16, 17, 18, 19, 20, 21, 22, 23, 24, 25, 26, 27, 28, 29, 30, 31, 32, 33, 34, 35, 36, 37, 38, 39, 40, 41, 42, 43, 44, 45, 46, 47, 48, 49, 50, 51, 52, 53, 54, 55, 56, 57, 58, 59, 60, 61, 62, 63, 64, 65, 66, 67] (by decide +kernel) (by decide +kernel)
set_option maxRecDepth 20000 in
theorem gX9_cutOf_X9_cutOf : GoodIn wsX9_cutOf (wsV RX9 259 RX9 yX9_cutOf wsX9_cutOf) := goodIn_app (goodIn_of _ (by decide +kernel)) ggX9_cutOf_X9_cutOf
theorem dX9_cutOf_0 : decode cX9_cutOf 0 = .ok (.fconst 1, 1) := by decide +kernel
theorem dX9_cutOf_1 : decode cX9_cutOf 1 = .ok (.fstore 5, 2) := by decide +kernel
theorem dX9_cutOf_3 : decode cX9_cutOf 3 = .ok (.iload 4, 2) := by decide +kernel
theorem dX9_cutOf_5 : decode cX9_cutOf 5 = .ok (.ifCond .ne 7, 3) := by decide +kernel
theorem dX9_cutOf_8 : decode cX9_cutOf 8 = .ok (.iconst 0, 1) := by decide +kernel
theorem dX9_cutOf_9 : decode cX9_cutOf 9 = .ok (.goto 9, 3) := by decide +kernel
theorem dX9_cutOf_12 : decode cX9_cutOf 12 = .ok (.aload_n 0, 1) := by decide +kernel
theorem dX9_cutOf_13 : decode cX9_cutOf 13 = .ok (.iload_n 1, 1) := by decide +kernel
theorem dX9_cutOf_14 : decode cX9_cutOf 14 = .ok (.iload_n 2, 1) := by decide +kernel
theorem dX9_cutOf_15 : decode cX9_cutOf 15 = .ok (.invokevirtual 141, 3) := by decide +kernel
theorem dX9_cutOf_18 : decode cX9_cutOf 18 = .ok (.istore 6, 2) := by decide +kernel
theorem dX9_cutOf_20 : decode cX9_cutOf 20 = .ok (.iconst 0, 1) := by decide +kernel
theorem dX9_cutOf_21 : decode cX9_cutOf 21 = .ok (.istore 7, 2) := by decide +kernel
theorem dX9_cutOf_23 : decode cX9_cutOf 23 = .ok (.iload 7, 2) := by decide +kernel
theorem dX9_cutOf_25 : decode cX9_cutOf 25 = .ok (.aload_n 0, 1) := by decide +kernel
theorem dX9_cutOf_26 : decode cX9_cutOf 26 = .ok (.getfield 92, 3) := by decide +kernel
theorem dX9_cutOf_29 : decode cX9_cutOf 29 = .ok (.if_icmp .ge 56, 3) := by decide +kernel
theorem dX9_cutOf_32 : decode cX9_cutOf 32 = .ok (.iload 6, 2) := by decide +kernel
theorem dX9_cutOf_34 : decode cX9_cutOf 34 = .ok (.i2l, 1) := by decide +kernel
theorem dX9_cutOf_35 : decode cX9_cutOf 35 = .ok (.iload 7, 2) := by decide +kernel
theorem dX9_cutOf_37 : decode cX9_cutOf 37 = .ok (.invokestatic 152, 3) := by decide +kernel
theorem dX9_cutOf_40 : decode cX9_cutOf 40 = .ok (.ifCond .eq 39, 3) := by decide +kernel
theorem dX9_cutOf_43 : decode cX9_cutOf 43 = .ok (.fload 5, 2) := by decide +kernel
theorem dX9_cutOf_45 : decode cX9_cutOf 45 = .ok (.iload_n 3, 1) := by decide +kernel
theorem dX9_cutOf_46 : decode cX9_cutOf 46 = .ok (.aload_n 0, 1) := by decide +kernel
theorem dX9_cutOf_47 : decode cX9_cutOf 47 = .ok (.aload_n 0, 1) := by decide +kernel
theorem dX9_cutOf_48 : decode cX9_cutOf 48 = .ok (.iload_n 1, 1) := by decide +kernel
theorem dX9_cutOf_49 : decode cX9_cutOf 49 = .ok (.iload 7, 2) := by decide +kernel
theorem dX9_cutOf_51 : decode cX9_cutOf 51 = .ok (.invokevirtual 128, 3) := by decide +kernel
theorem dX9_cutOf_54 : decode cX9_cutOf 54 = .ok (.invokevirtual 134, 3) := by decide +kernel
theorem dX9_cutOf_57 : decode cX9_cutOf 57 = .ok (.imul, 1) := by decide +kernel
theorem dX9_cutOf_58 : decode cX9_cutOf 58 = .ok (.i2f, 1) := by decide +kernel
theorem dX9_cutOf_59 : decode cX9_cutOf 59 = .ok (.aload_n 0, 1) := by decide +kernel
theorem dX9_cutOf_60 : decode cX9_cutOf 60 = .ok (.iload 7, 2) := by decide +kernel
theorem dX9_cutOf_62 : decode cX9_cutOf 62 = .ok (.iload_n 2, 1) := by decide +kernel
theorem dX9_cutOf_63 : decode cX9_cutOf 63 = .ok (.iconst 1, 1) := by decide +kernel
theorem dX9_cutOf_64 : decode cX9_cutOf 64 = .ok (.iload_n 1, 1) := by decide +kernel
theorem dX9_cutOf_65 : decode cX9_cutOf 65 = .ok (.ishl, 1) := by decide +kernel
theorem dX9_cutOf_66 : decode cX9_cutOf 66 = .ok (.ior, 1) := by decide +kernel
theorem dX9_cutOf_67 : decode cX9_cutOf 67 = .ok (.iload_n 3, 1) := by decide +kernel
theorem dX9_cutOf_68 : decode cX9_cutOf 68 = .ok (.iload 4, 2) := by decide +kernel
theorem dX9_cutOf_70 : decode cX9_cutOf 70 = .ok (.iconst 1, 1) := by decide +kernel
theorem dX9_cutOf_71 : decode cX9_cutOf 71 = .ok (.isub, 1) := by decide +kernel
theorem dX9_cutOf_72 : decode cX9_cutOf 72 = .ok (.invokevirtual 259, 3) := by decide +kernel
theorem dX9_cutOf_75 : decode cX9_cutOf 75 = .ok (.fmul, 1) := by decide +kernel
theorem dX9_cutOf_76 : decode cX9_cutOf 76 = .ok (.fadd, 1) := by decide +kernel
theorem dX9_cutOf_77 : decode cX9_cutOf 77 = .ok (.fstore 5, 2) := by decide +kernel
theorem dX9_cutOf_79 : decode cX9_cutOf 79 = .ok (.iinc 7 1, 3) := by decide +kernel
theorem dX9_cutOf_82 : decode cX9_cutOf 82 = .ok (.goto (-59), 3) := by decide +kernel
theorem dX9_cutOf_85 : decode cX9_cutOf 85 = .ok (.iload 4, 2) := by decide +kernel
theorem dX9_cutOf_87 : decode cX9_cutOf 87 = .ok (.ifCond .ne 7, 3) := by decide +kernel
theorem dX9_cutOf_90 : decode cX9_cutOf 90 = .ok (.fconst 1, 1) := by decide +kernel
theorem dX9_cutOf_91 : decode cX9_cutOf 91 = .ok (.goto 7, 3) := by decide +kernel
theorem dX9_cutOf_94 : decode cX9_cutOf 94 = .ok (.fconst 1, 1) := by decide +kernel
theorem dX9_cutOf_95 : decode cX9_cutOf 95 = .ok (.fload 5, 2) := by decide +kernel
theorem dX9_cutOf_97 : decode cX9_cutOf 97 = .ok (.fdiv, 1) := by decide +kernel
theorem dX9_cutOf_98 : decode cX9_cutOf 98 = .ok (.freturn, 1) := by decide +kernel
set_option maxRecDepth 20000 in
theorem ggX9_cutOff_X9_isPoint : GoodIn wsX9_cutOff wsX9_isPoint := goodIn_r _ [6, 7, 8, 9, 5, 10, 60, 61, 62, 63, 64, 65, 66, 67, 68, 69, 70, 71, 72, 73, 74, 75, 76, 77, 78, 79, 80, 81, 82, 83, 84, 85, 86, 87, 88, 89, 90, 91, 92, 93, 94, 95, 96] (by decide +kernel) (by decide +kernel)
set_option maxRecDepth 20000 in
theorem gX9_cutOff_X9_isPoint : GoodIn wsX9_cutOff (wsV RX9 103 RX9 yX9_isPoint wsX9_isPoint) := goodIn_app (goodIn_of _ (by decide +kernel)) ggX9_cutOff_X9_isPoint
set_option maxRecDepth 20000 in
theorem ggX9_cutOff_X9_isOut : GoodIn wsX9_cutOff wsX9_isOut := goodIn_r _ [13, 14, 8, 9, 5, 10] (by decide +kernel) (by decide +kernel)
set_option maxRecDepth 20000 in
theorem gX9_cutOff_X9_isOut : GoodIn wsX9_cutOff (va_wsS RX9 138 yX9_isOut wsX9_isOut) := goodIn_app (goodIn_of _ (by decide +kernel)) ggX9_cutOff_X9_isOut
set_option maxRecDepth 20000 in
theorem ggX9_cutOff_X9_has : GoodIn wsX9_cutOff wsX9_has := goodIn_r _ [17] (by decide +kernel) (by decide +kernel)
set_option maxRecDepth 20000 in
theorem gX9_cutOff_X9_has : GoodIn wsX9_cutOff (va_wsS RX9 152 yX9_has wsX9_has) := goodIn_app (goodIn_of _ (by decide +kernel)) ggX9_cutOff_X9_has
set_option maxRecDepth 20000 in
theorem ggX9_cutOff_X9_isRate : GoodIn wsX9_cutOff wsX9_isRate := goodIn_r _ [20, 21, 8, 9, 5, 10] (by decide +kernel) (by decide +kernel)
set_option maxRecDepth 20000 in
theorem gX9_cutOff_X9_isRate : GoodIn wsX9_cutOff (va_wsS RX9 201 yX9_isRate wsX9_isRate) := goodIn_app (goodIn_of _ (by decide +kernel)) ggX9_cutOff_X9_isRate
set_option maxRecDepth 20000 in
theorem ggX9_cutOff_X9_in : GoodIn wsX9_cutOff wsX9_in := goodIn_r _ [10] (by decide +kernel) (by decide +kernel)
set_option maxRecDepth 20000 in
theorem gX9_cutOff_X9_in : GoodIn wsX9_cutOff (va_wsS RX9 96 yX9_in wsX9_in) := goodIn_app (goodIn_of _ (by decide +kernel)) ggX9_cutOff_X9_in
set_option maxRecDepth 20000 in
theorem ggX9_cutOff_X9_cutOf : GoodIn wsX9_cutOff wsX9_cutOf := goodIn_r _ [25, 7, 26, 27, 28, 5, 29, 30, 31, 32, 15, 16, 17, 33, 34, 35, 36, 37, 38, 39, 40, 41, 42, 43, 44, 45, 46, 47, 22, 23, 24, 60, 61, 62, 63, 64, 65, 66, 67, 68, 69, 70, 71, 72, 73, 74, 75, 76, 77, 78, 79, 80, 81, 82, 83, 84, 85, 86, 87, 88, 89, 90, 91, 92, 93, 94, 95, 96] (by decide +kernel) (by decide +kernel)
set_option maxRecDepth 20000 in
theorem gX9_cutOff_X9_cutOf : GoodIn wsX9_cutOff (wsV RX9 259 RX9 yX9_cutOf wsX9_cutOf) := goodIn_app (goodIn_of _ (by decide +kernel)) ggX9_cutOff_X9_cutOf
set_option maxRecDepth 20000 in
theorem ggX9_cutOff_Jxf58ca_floatToIntBits_5c35a : GoodIn wsX9_cutOff wsJxf58ca_floatToIntBits_5c35a := goodIn_r _ [51, 52, 53, 54, 55, 56, 57, 58, 50, 59] (by decide +kernel) (by decide +kernel)
set_option maxRecDepth 20000 in
theorem gX9_cutOff_Jxf58ca_floatToIntBits_5c35a : GoodIn wsX9_cutOff (va_wsS RX9 221 yJxf58ca_floatToIntBits_5c35a wsJxf58ca_floatToIntBits_5c35a) := goodIn_app (goodIn_of _ (by decide +kernel)) ggX9_cutOff_Jxf58ca_floatToIntBits_5c35a
theorem dX9_cutOff_0 : decode cX9_cutOff 0 = .ok (.aload_n 0, 1) := by decide +kernel
theorem dX9_cutOff_1 : decode cX9_cutOff 1 = .ok (.iload_n 1, 1) := by decide +kernel
theorem dX9_cutOff_2 : decode cX9_cutOff 2 = .ok (.invokevirtual 103, 3) := by decide +kernel
theorem dX9_cutOff_5 : decode cX9_cutOff 5 = .ok (.ifCond .eq 39, 3) := by decide +kernel
theorem dX9_cutOff_8 : decode cX9_cutOff 8 = .ok (.iload_n 2, 1) := by decide +kernel
theorem dX9_cutOff_9 : decode cX9_cutOff 9 = .ok (.invokestatic 138, 3) := by decide +kernel
theorem dX9_cutOff_12 : decode cX9_cutOff 12 = .ok (.ifCond .eq 32, 3) := by decide +kernel
theorem dX9_cutOff_15 : decode cX9_cutOff 15 = .ok (.iload_n 2, 1) := by decide +kernel
theorem dX9_cutOff_16 : decode cX9_cutOff 16 = .ok (.i2l, 1) := by decide +kernel
theorem dX9_cutOff_17 : decode cX9_cutOff 17 = .ok (.iload_n 1, 1) := by decide +kernel
theorem dX9_cutOff_18 : decode cX9_cutOff 18 = .ok (.invokestatic 152, 3) := by decide +kernel
theorem dX9_cutOff_21 : decode cX9_cutOff 21 = .ok (.ifCond .ne 23, 3) := by decide +kernel
theorem dX9_cutOff_24 : decode cX9_cutOff 24 = .ok (.iload_n 3, 1) := by decide +kernel
theorem dX9_cutOff_25 : decode cX9_cutOff 25 = .ok (.invokestatic 201, 3) := by decide +kernel
theorem dX9_cutOff_28 : decode cX9_cutOff 28 = .ok (.ifCond .eq 16, 3) := by decide +kernel
theorem dX9_cutOff_31 : decode cX9_cutOff 31 = .ok (.iload 4, 2) := by decide +kernel
theorem dX9_cutOff_33 : decode cX9_cutOff 33 = .ok (.i2l, 1) := by decide +kernel
theorem dX9_cutOff_34 : decode cX9_cutOff 34 = .ok (.lconst 0, 1) := by decide +kernel
theorem dX9_cutOff_35 : decode cX9_cutOff 35 = .ok (.ldc2_w 120, 3) := by decide +kernel
theorem dX9_cutOff_38 : decode cX9_cutOff 38 = .ok (.invokestatic 96, 3) := by decide +kernel
theorem dX9_cutOff_41 : decode cX9_cutOff 41 = .ok (.ifCond .ne 6, 3) := by decide +kernel
theorem dX9_cutOff_44 : decode cX9_cutOff 44 = .ok (.bipush (-2), 2) := by decide +kernel
theorem dX9_cutOff_46 : decode cX9_cutOff 46 = .ok (.ireturn, 1) := by decide +kernel
theorem dX9_cutOff_47 : decode cX9_cutOff 47 = .ok (.aload_n 0, 1) := by decide +kernel
theorem dX9_cutOff_48 : decode cX9_cutOff 48 = .ok (.iload_n 1, 1) := by decide +kernel
theorem dX9_cutOff_49 : decode cX9_cutOff 49 = .ok (.iload_n 2, 1) := by decide +kernel
theorem dX9_cutOff_50 : decode cX9_cutOff 50 = .ok (.iload_n 3, 1) := by decide +kernel
theorem dX9_cutOff_51 : decode cX9_cutOff 51 = .ok (.iload 4, 2) := by decide +kernel
theorem dX9_cutOff_53 : decode cX9_cutOff 53 = .ok (.invokevirtual 259, 3) := by decide +kernel
theorem dX9_cutOff_56 : decode cX9_cutOff 56 = .ok (.invokestatic 221, 3) := by decide +kernel
theorem dX9_cutOff_59 : decode cX9_cutOff 59 = .ok (.ireturn, 1) := by decide +kernel
theorem dX9_product_0 : decode cX9_product 0 = .ok (.lload_n 1, 1) := by decide +kernel
theorem dX9_product_1 : decode cX9_product 1 = .ok (.lload_n 3, 1) := by decide +kernel
theorem dX9_product_2 : decode cX9_product 2 = .ok (.lmul, 1) := by decide +kernel
theorem dX9_product_3 : decode cX9_product 3 = .ok (.lstore 5, 2) := by decide +kernel
theorem dX9_product_5 : decode cX9_product 5 = .ok (.aload_n 0, 1) := by decide +kernel
theorem dX9_product_6 : decode cX9_product 6 = .ok (.dup, 1) := by decide +kernel
theorem dX9_product_7 : decode cX9_product 7 = .ok (.getfield 263, 3) := by decide +kernel
theorem dX9_product_10 : decode cX9_product 10 = .ok (.lload_n 1, 1) := by decide +kernel
theorem dX9_product_11 : decode cX9_product 11 = .ok (.lconst 0, 1) := by decide +kernel
theorem dX9_product_12 : decode cX9_product 12 = .ok (.lcmp, 1) := by decide +kernel
theorem dX9_product_13 : decode cX9_product 13 = .ok (.ifCond .eq 32, 3) := by decide +kernel
theorem dX9_product_16 : decode cX9_product 16 = .ok (.lload 5, 2) := by decide +kernel
theorem dX9_product_18 : decode cX9_product 18 = .ok (.lload_n 1, 1) := by decide +kernel
theorem dX9_product_19 : decode cX9_product 19 = .ok (.ldiv, 1) := by decide +kernel
theorem dX9_product_20 : decode cX9_product 20 = .ok (.lload_n 3, 1) := by decide +kernel
theorem dX9_product_21 : decode cX9_product 21 = .ok (.lcmp, 1) := by decide +kernel
theorem dX9_product_22 : decode cX9_product 22 = .ok (.ifCond .ne 19, 3) := by decide +kernel
theorem dX9_product_25 : decode cX9_product 25 = .ok (.lload_n 1, 1) := by decide +kernel
theorem dX9_product_26 : decode cX9_product 26 = .ok (.ldc2_w 84, 3) := by decide +kernel
theorem dX9_product_29 : decode cX9_product 29 = .ok (.lcmp, 1) := by decide +kernel
theorem dX9_product_30 : decode cX9_product 30 = .ok (.ifCond .ne 15, 3) := by decide +kernel
theorem dX9_product_33 : decode cX9_product 33 = .ok (.lload_n 3, 1) := by decide +kernel
theorem dX9_product_34 : decode cX9_product 34 = .ok (.ldc2_w 266, 3) := by decide +kernel
theorem dX9_product_37 : decode cX9_product 37 = .ok (.lcmp, 1) := by decide +kernel
theorem dX9_product_38 : decode cX9_product 38 = .ok (.ifCond .ne 7, 3) := by decide +kernel
theorem dX9_product_41 : decode cX9_product 41 = .ok (.iconst 1, 1) := by decide +kernel
theorem dX9_product_42 : decode cX9_product 42 = .ok (.goto 4, 3) := by decide +kernel
theorem dX9_product_45 : decode cX9_product 45 = .ok (.iconst 0, 1) := by decide +kernel
theorem dX9_product_46 : decode cX9_product 46 = .ok (.ior, 1) := by decide +kernel
theorem dX9_product_47 : decode cX9_product 47 = .ok (.putfield 263, 3) := by decide +kernel
theorem dX9_product_50 : decode cX9_product 50 = .ok (.lload 5, 2) := by decide +kernel
theorem dX9_product_52 : decode cX9_product 52 = .ok (.lreturn, 1) := by decide +kernel
theorem dX9_total_0 : decode cX9_total 0 = .ok (.lload_n 1, 1) := by decide +kernel
theorem dX9_total_1 : decode cX9_total 1 = .ok (.lload_n 3, 1) := by decide +kernel
theorem dX9_total_2 : decode cX9_total 2 = .ok (.ladd, 1) := by decide +kernel
theorem dX9_total_3 : decode cX9_total 3 = .ok (.lstore 5, 2) := by decide +kernel
theorem dX9_total_5 : decode cX9_total 5 = .ok (.aload_n 0, 1) := by decide +kernel
theorem dX9_total_6 : decode cX9_total 6 = .ok (.dup, 1) := by decide +kernel
theorem dX9_total_7 : decode cX9_total 7 = .ok (.getfield 263, 3) := by decide +kernel
theorem dX9_total_10 : decode cX9_total 10 = .ok (.lload_n 1, 1) := by decide +kernel
theorem dX9_total_11 : decode cX9_total 11 = .ok (.lload 5, 2) := by decide +kernel
theorem dX9_total_13 : decode cX9_total 13 = .ok (.lxor, 1) := by decide +kernel
theorem dX9_total_14 : decode cX9_total 14 = .ok (.lconst 0, 1) := by decide +kernel
theorem dX9_total_15 : decode cX9_total 15 = .ok (.lcmp, 1) := by decide +kernel
theorem dX9_total_16 : decode cX9_total 16 = .ok (.ifCond .ge 16, 3) := by decide +kernel
theorem dX9_total_19 : decode cX9_total 19 = .ok (.lload_n 3, 1) := by decide +kernel
theorem dX9_total_20 : decode cX9_total 20 = .ok (.lload 5, 2) := by decide +kernel
theorem dX9_total_22 : decode cX9_total 22 = .ok (.lxor, 1) := by decide +kernel
theorem dX9_total_23 : decode cX9_total 23 = .ok (.lconst 0, 1) := by decide +kernel
theorem dX9_total_24 : decode cX9_total 24 = .ok (.lcmp, 1) := by decide +kernel
theorem dX9_total_25 : decode cX9_total 25 = .ok (.ifCond .ge 7, 3) := by decide +kernel
theorem dX9_total_28 : decode cX9_total 28 = .ok (.iconst 1, 1) := by decide +kernel
theorem dX9_total_29 : decode cX9_total 29 = .ok (.goto 4, 3) := by decide +kernel
theorem dX9_total_32 : decode cX9_total 32 = .ok (.iconst 0, 1) := by decide +kernel
theorem dX9_total_33 : decode cX9_total 33 = .ok (.ior, 1) := by decide +kernel
theorem dX9_total_34 : decode cX9_total 34 = .ok (.putfield 263, 3) := by decide +kernel
theorem dX9_total_37 : decode cX9_total 37 = .ok (.lload 5, 2) := by decide +kernel
theorem dX9_total_39 : decode cX9_total 39 = .ok (.lreturn, 1) := by decide +kernel
set_option maxRecDepth 20000 in
theorem ggX9_signAt_X9_at : GoodIn wsX9_signAt wsX9_at := goodIn_r _ [6, 7, 18, 19, 20, 21, 22, 23, 24, 25, 26, 27, 28, 29, 30, 31, 32, 33, 34, 35, 36, 37, 38, 39, 40, 41, 42, 43, 44, 45, 46, 47, 48, 49, 50, 51, 52, 53, 54] (by decide +kernel) (by decide +kernel)
set_option maxRecDepth 20000 in
theorem gX9_signAt_X9_at : GoodIn wsX9_signAt (wsV RX9 184 RX9 yX9_at wsX9_at) := goodIn_app (goodIn_of _ (by decide +kernel)) ggX9_signAt_X9_at
set_option maxRecDepth 20000 in
theorem ggX9_signAt_X9_product : GoodIn wsX9_signAt wsX9_product := goodIn_r _ [11, 1, 12, 13, 18, 19, 20, 21, 22, 23, 24, 25, 26, 27, 28, 29, 30, 31, 32, 33, 34, 35, 36, 37, 38, 39, 40, 41, 42, 43, 44, 45, 46, 47, 48, 49, 50, 51, 52, 53, 54] (by decide +kernel) (by decide +kernel)
set_option maxRecDepth 20000 in
theorem gX9_signAt_X9_product : GoodIn wsX9_signAt (wsV RX9 268 RX9 yX9_product wsX9_product) := goodIn_app (goodIn_of _ (by decide +kernel)) ggX9_signAt_X9_product
set_option maxRecDepth 20000 in
theorem ggX9_signAt_X9_total : GoodIn wsX9_signAt wsX9_total := goodIn_r _ [17, 1, 18, 19, 20, 21, 22, 23, 24, 25, 26, 27, 28, 29, 30, 31, 32, 33, 34, 35, 36, 37, 38, 39, 40, 41, 42, 43, 44, 45, 46, 47, 48, 49, 50, 51, 52, 53, 54] (by decide +kernel) (by decide +kernel)
set_option maxRecDepth 20000 in
theorem gX9_signAt_X9_total : GoodIn wsX9_signAt (wsV RX9 271 RX9 yX9_total wsX9_total) := goodIn_app (goodIn_of _ (by decide +kernel)) ggX9_signAt_X9_total
theorem dX9_signAt_0 : decode cX9_signAt 0 = .ok (.aload_n 0, 1) := by decide +kernel
theorem dX9_signAt_1 : decode cX9_signAt 1 = .ok (.iconst 0, 1) := by decide +kernel
theorem dX9_signAt_2 : decode cX9_signAt 2 = .ok (.putfield 263, 3) := by decide +kernel
theorem dX9_signAt_5 : decode cX9_signAt 5 = .ok (.aload_n 0, 1) := by decide +kernel
theorem dX9_signAt_6 : decode cX9_signAt 6 = .ok (.iload_n 1, 1) := by decide +kernel
theorem dX9_signAt_7 : decode cX9_signAt 7 = .ok (.iload_n 1, 1) := by decide +kernel
theorem dX9_signAt_8 : decode cX9_signAt 8 = .ok (.invokevirtual 184, 3) := by decide +kernel
theorem dX9_signAt_11 : decode cX9_signAt 11 = .ok (.lstore 4, 2) := by decide +kernel
theorem dX9_signAt_13 : decode cX9_signAt 13 = .ok (.lconst 1, 1) := by decide +kernel
theorem dX9_signAt_14 : decode cX9_signAt 14 = .ok (.lstore 6, 2) := by decide +kernel
theorem dX9_signAt_16 : decode cX9_signAt 16 = .ok (.iconst 1, 1) := by decide +kernel
theorem dX9_signAt_17 : decode cX9_signAt 17 = .ok (.istore 8, 2) := by decide +kernel
theorem dX9_signAt_19 : decode cX9_signAt 19 = .ok (.iload 8, 2) := by decide +kernel
theorem dX9_signAt_21 : decode cX9_signAt 21 = .ok (.iload_n 1, 1) := by decide +kernel
theorem dX9_signAt_22 : decode cX9_signAt 22 = .ok (.if_icmp .gt 48, 3) := by decide +kernel
theorem dX9_signAt_25 : decode cX9_signAt 25 = .ok (.aload_n 0, 1) := by decide +kernel
theorem dX9_signAt_26 : decode cX9_signAt 26 = .ok (.lload 6, 2) := by decide +kernel
theorem dX9_signAt_28 : decode cX9_signAt 28 = .ok (.iload_n 3, 1) := by decide +kernel
theorem dX9_signAt_29 : decode cX9_signAt 29 = .ok (.i2l, 1) := by decide +kernel
theorem dX9_signAt_30 : decode cX9_signAt 30 = .ok (.invokevirtual 268, 3) := by decide +kernel
theorem dX9_signAt_33 : decode cX9_signAt 33 = .ok (.lstore 6, 2) := by decide +kernel
theorem dX9_signAt_35 : decode cX9_signAt 35 = .ok (.aload_n 0, 1) := by decide +kernel
theorem dX9_signAt_36 : decode cX9_signAt 36 = .ok (.aload_n 0, 1) := by decide +kernel
theorem dX9_signAt_37 : decode cX9_signAt 37 = .ok (.lload 4, 2) := by decide +kernel
theorem dX9_signAt_39 : decode cX9_signAt 39 = .ok (.iload_n 2, 1) := by decide +kernel
theorem dX9_signAt_40 : decode cX9_signAt 40 = .ok (.i2l, 1) := by decide +kernel
theorem dX9_signAt_41 : decode cX9_signAt 41 = .ok (.invokevirtual 268, 3) := by decide +kernel
theorem dX9_signAt_44 : decode cX9_signAt 44 = .ok (.aload_n 0, 1) := by decide +kernel
theorem dX9_signAt_45 : decode cX9_signAt 45 = .ok (.aload_n 0, 1) := by decide +kernel
theorem dX9_signAt_46 : decode cX9_signAt 46 = .ok (.iload_n 1, 1) := by decide +kernel
theorem dX9_signAt_47 : decode cX9_signAt 47 = .ok (.iload_n 1, 1) := by decide +kernel
theorem dX9_signAt_48 : decode cX9_signAt 48 = .ok (.iload 8, 2) := by decide +kernel
theorem dX9_signAt_50 : decode cX9_signAt 50 = .ok (.isub, 1) := by decide +kernel
theorem dX9_signAt_51 : decode cX9_signAt 51 = .ok (.invokevirtual 184, 3) := by decide +kernel
theorem dX9_signAt_54 : decode cX9_signAt 54 = .ok (.lload 6, 2) := by decide +kernel
theorem dX9_signAt_56 : decode cX9_signAt 56 = .ok (.invokevirtual 268, 3) := by decide +kernel
theorem dX9_signAt_59 : decode cX9_signAt 59 = .ok (.invokevirtual 271, 3) := by decide +kernel
theorem dX9_signAt_62 : decode cX9_signAt 62 = .ok (.lstore 4, 2) := by decide +kernel
theorem dX9_signAt_64 : decode cX9_signAt 64 = .ok (.iinc 8 1, 3) := by decide +kernel
theorem dX9_signAt_67 : decode cX9_signAt 67 = .ok (.goto (-48), 3) := by decide +kernel
theorem dX9_signAt_70 : decode cX9_signAt 70 = .ok (.aload_n 0, 1) := by decide +kernel
theorem dX9_signAt_71 : decode cX9_signAt 71 = .ok (.getfield 263, 3) := by decide +kernel
theorem dX9_signAt_74 : decode cX9_signAt 74 = .ok (.ifCond .eq 8, 3) := by decide +kernel
theorem dX9_signAt_77 : decode cX9_signAt 77 = .ok (.bipush (-5), 2) := by decide +kernel
theorem dX9_signAt_79 : decode cX9_signAt 79 = .ok (.goto 26, 3) := by decide +kernel
theorem dX9_signAt_82 : decode cX9_signAt 82 = .ok (.lload 4, 2) := by decide +kernel
theorem dX9_signAt_84 : decode cX9_signAt 84 = .ok (.lconst 0, 1) := by decide +kernel
theorem dX9_signAt_85 : decode cX9_signAt 85 = .ok (.lcmp, 1) := by decide +kernel
theorem dX9_signAt_86 : decode cX9_signAt 86 = .ok (.ifCond .ge 7, 3) := by decide +kernel
theorem dX9_signAt_89 : decode cX9_signAt 89 = .ok (.iconst (-1), 1) := by decide +kernel
theorem dX9_signAt_90 : decode cX9_signAt 90 = .ok (.goto 15, 3) := by decide +kernel
theorem dX9_signAt_93 : decode cX9_signAt 93 = .ok (.lload 4, 2) := by decide +kernel
theorem dX9_signAt_95 : decode cX9_signAt 95 = .ok (.lconst 0, 1) := by decide +kernel
theorem dX9_signAt_96 : decode cX9_signAt 96 = .ok (.lcmp, 1) := by decide +kernel
theorem dX9_signAt_97 : decode cX9_signAt 97 = .ok (.ifCond .le 7, 3) := by decide +kernel
theorem dX9_signAt_100 : decode cX9_signAt 100 = .ok (.iconst 1, 1) := by decide +kernel
theorem dX9_signAt_101 : decode cX9_signAt 101 = .ok (.goto 4, 3) := by decide +kernel
theorem dX9_signAt_104 : decode cX9_signAt 104 = .ok (.iconst 0, 1) := by decide +kernel
theorem dX9_signAt_105 : decode cX9_signAt 105 = .ok (.ireturn, 1) := by decide +kernel
set_option maxRecDepth 20000 in
theorem ggX9_sign_X9_isOut : GoodIn wsX9_sign wsX9_isOut := goodIn_r _ [8, 9, 10, 11, 7, 12] (by decide +kernel) (by decide +kernel)
set_option maxRecDepth 20000 in
theorem gX9_sign_X9_isOut : GoodIn wsX9_sign (va_wsS RX9 138 yX9_isOut wsX9_isOut) := goodIn_app (goodIn_of _ (by decide +kernel)) ggX9_sign_X9_isOut
set_option maxRecDepth 20000 in
theorem ggX9_sign_X9_in : GoodIn wsX9_sign wsX9_in := goodIn_r _ [12] (by decide +kernel) (by decide +kernel)
set_option maxRecDepth 20000 in
theorem gX9_sign_X9_in : GoodIn wsX9_sign (va_wsS RX9 96 yX9_in wsX9_in) := goodIn_app (goodIn_of _ (by decide +kernel)) ggX9_sign_X9_in
set_option maxRecDepth 20000 in
theorem ggX9_sign_X9_findsCounts : GoodIn wsX9_sign wsX9_findsCounts := goodIn_r _ [16, 17, 18, 19, 7, 20, 21, 22, 23, 24, 25, 26, 27, 28, 29, 30, 31, 32, 33, 34, 35, 36, 37, 38, 39, 40, 41, 42, 43, 44, 45, 4, 46, 47, 48, 49, 50, 51, 52, 53, 54, 55, 56, 57, 58, 59, 60, 61, 83, 84, 85, 86, 87, 88, 89, 90, 91, 92, 93, 94, 95, 96, 97, 98, 99, 100, 101, 102, 103, 104, 105, 106, 107, 108, 109, 110, 111, 112, 113, 114, 115, 116, 117, 118, 119] (by decide +kernel) (by decide +kernel)
set_option maxRecDepth 20000 in
theorem gX9_sign_X9_findsCounts : GoodIn wsX9_sign (wsV RX9 178 RX9 yX9_findsCounts wsX9_findsCounts) := goodIn_app (goodIn_of _ (by decide +kernel)) ggX9_sign_X9_findsCounts
set_option maxRecDepth 20000 in
theorem ggX9_sign_X9_free : GoodIn wsX9_sign wsX9_free := goodIn_r _ [39, 40, 83, 84, 85, 86, 87, 88, 89, 90, 91, 92, 93, 94, 95, 96, 97, 98, 99, 100, 101, 102, 103, 104, 105, 106, 107, 108, 109, 110, 111, 112, 113, 114, 115, 116, 117, 118, 119] (by decide +kernel) (by decide +kernel)
set_option maxRecDepth 20000 in
theorem gX9_sign_X9_free : GoodIn wsX9_sign (wsV RX9 166 RX9 yX9_free wsX9_free) := goodIn_app (goodIn_of _ (by decide +kernel)) ggX9_sign_X9_free
set_option maxRecDepth 20000 in
theorem ggX9_sign_X9_many : GoodIn wsX9_sign wsX9_many := goodIn_r _ [64] (by decide +kernel) (by decide +kernel)
set_option maxRecDepth 20000 in
theorem gX9_sign_X9_many : GoodIn wsX9_sign (va_wsS RX9 181 yX9_many wsX9_many) := goodIn_app (goodIn_of _ (by decide +kernel)) ggX9_sign_X9_many
set_option maxRecDepth 20000 in
theorem ggX9_sign_X9_signAt : GoodIn wsX9_sign wsX9_signAt := goodIn_r _ [68, 69, 70, 71, 72, 7, 73, 46, 74, 75, 76, 77, 58, 78, 79, 80, 81, 82, 83, 84, 85, 86, 87, 88, 89, 90, 91, 92, 93, 94, 95, 96, 97, 98, 99, 100, 101, 102, 103, 104, 105, 106, 107, 108, 109, 110, 111, 112, 113, 114, 115, 116, 117, 118, 119] (by decide +kernel) (by decide +kernel)
set_option maxRecDepth 20000 in
theorem gX9_sign_X9_signAt : GoodIn wsX9_sign (wsV RX9 278 RX9 yX9_signAt wsX9_signAt) := goodIn_app (goodIn_of _ (by decide +kernel)) ggX9_sign_X9_signAt
theorem dX9_sign_0 : decode cX9_sign 0 = .ok (.iload_n 1, 1) := by decide +kernel
theorem dX9_sign_1 : decode cX9_sign 1 = .ok (.invokestatic 138, 3) := by decide +kernel
theorem dX9_sign_4 : decode cX9_sign 4 = .ok (.ifCond .eq 29, 3) := by decide +kernel
theorem dX9_sign_7 : decode cX9_sign 7 = .ok (.iload_n 2, 1) := by decide +kernel
theorem dX9_sign_8 : decode cX9_sign 8 = .ok (.i2l, 1) := by decide +kernel
theorem dX9_sign_9 : decode cX9_sign 9 = .ok (.ldc2_w 274, 3) := by decide +kernel
theorem dX9_sign_12 : decode cX9_sign 12 = .ok (.ldc2_w 276, 3) := by decide +kernel
theorem dX9_sign_15 : decode cX9_sign 15 = .ok (.invokestatic 96, 3) := by decide +kernel
theorem dX9_sign_18 : decode cX9_sign 18 = .ok (.ifCond .eq 15, 3) := by decide +kernel
theorem dX9_sign_21 : decode cX9_sign 21 = .ok (.iload_n 3, 1) := by decide +kernel
theorem dX9_sign_22 : decode cX9_sign 22 = .ok (.i2l, 1) := by decide +kernel
theorem dX9_sign_23 : decode cX9_sign 23 = .ok (.lconst 1, 1) := by decide +kernel
theorem dX9_sign_24 : decode cX9_sign 24 = .ok (.ldc2_w 172, 3) := by decide +kernel
theorem dX9_sign_27 : decode cX9_sign 27 = .ok (.invokestatic 96, 3) := by decide +kernel
theorem dX9_sign_30 : decode cX9_sign 30 = .ok (.ifCond .ne 6, 3) := by decide +kernel
theorem dX9_sign_33 : decode cX9_sign 33 = .ok (.bipush (-2), 2) := by decide +kernel
theorem dX9_sign_35 : decode cX9_sign 35 = .ok (.ireturn, 1) := by decide +kernel
theorem dX9_sign_36 : decode cX9_sign 36 = .ok (.aload_n 0, 1) := by decide +kernel
theorem dX9_sign_37 : decode cX9_sign 37 = .ok (.iload_n 1, 1) := by decide +kernel
theorem dX9_sign_38 : decode cX9_sign 38 = .ok (.invokevirtual 178, 3) := by decide +kernel
theorem dX9_sign_41 : decode cX9_sign 41 = .ok (.aload_n 0, 1) := by decide +kernel
theorem dX9_sign_42 : decode cX9_sign 42 = .ok (.getfield 148, 3) := by decide +kernel
theorem dX9_sign_45 : decode cX9_sign 45 = .ok (.ifCond .eq 8, 3) := by decide +kernel
theorem dX9_sign_48 : decode cX9_sign 48 = .ok (.bipush (-5), 2) := by decide +kernel
theorem dX9_sign_50 : decode cX9_sign 50 = .ok (.goto 17, 3) := by decide +kernel
theorem dX9_sign_53 : decode cX9_sign 53 = .ok (.aload_n 0, 1) := by decide +kernel
theorem dX9_sign_54 : decode cX9_sign 54 = .ok (.aload_n 0, 1) := by decide +kernel
theorem dX9_sign_55 : decode cX9_sign 55 = .ok (.iload_n 1, 1) := by decide +kernel
theorem dX9_sign_56 : decode cX9_sign 56 = .ok (.invokevirtual 166, 3) := by decide +kernel
theorem dX9_sign_59 : decode cX9_sign 59 = .ok (.invokestatic 181, 3) := by decide +kernel
theorem dX9_sign_62 : decode cX9_sign 62 = .ok (.iload_n 2, 1) := by decide +kernel
theorem dX9_sign_63 : decode cX9_sign 63 = .ok (.iload_n 3, 1) := by decide +kernel
theorem dX9_sign_64 : decode cX9_sign 64 = .ok (.invokevirtual 278, 3) := by decide +kernel
theorem dX9_sign_67 : decode cX9_sign 67 = .ok (.ireturn, 1) := by decide +kernel
set_option maxRecDepth 20000 in
theorem ggX9_changes_X9_isOut : GoodIn wsX9_changes wsX9_isOut := goodIn_r _ [8, 9, 10, 11, 7, 12] (by decide +kernel) (by decide +kernel)
set_option maxRecDepth 20000 in
theorem gX9_changes_X9_isOut : GoodIn wsX9_changes (va_wsS RX9 138 yX9_isOut wsX9_isOut) := goodIn_app (goodIn_of _ (by decide +kernel)) ggX9_changes_X9_isOut
set_option maxRecDepth 20000 in
theorem ggX9_changes_X9_in : GoodIn wsX9_changes wsX9_in := goodIn_r _ [12] (by decide +kernel) (by decide +kernel)
set_option maxRecDepth 20000 in
theorem gX9_changes_X9_in : GoodIn wsX9_changes (va_wsS RX9 96 yX9_in wsX9_in) := goodIn_app (goodIn_of _ (by decide +kernel)) ggX9_changes_X9_in
