theorem dX6_weigh_114 : decode cX6_weigh 114 = .ok (.lload 16, 2) := by decide +kernel
theorem dX6_weigh_116 : decode cX6_weigh 116 = .ok (.lconst 0, 1) := by decide +kernel
theorem dX6_weigh_117 : decode cX6_weigh 117 = .ok (.lcmp, 1) := by decide +kernel
theorem dX6_weigh_118 : decode cX6_weigh 118 = .ok (.ifCond .le 10, 3) := by decide +kernel
theorem dX6_weigh_121 : decode cX6_weigh 121 = .ok (.lload 18, 2) := by decide +kernel
theorem dX6_weigh_123 : decode cX6_weigh 123 = .ok (.lconst 0, 1) := by decide +kernel
theorem dX6_weigh_124 : decode cX6_weigh 124 = .ok (.lcmp, 1) := by decide +kernel
theorem dX6_weigh_125 : decode cX6_weigh 125 = .ok (.ifCond .gt 7, 3) := by decide +kernel
theorem dX6_weigh_128 : decode cX6_weigh 128 = .ok (.iconst 1, 1) := by decide +kernel
theorem dX6_weigh_129 : decode cX6_weigh 129 = .ok (.goto 4, 3) := by decide +kernel
theorem dX6_weigh_132 : decode cX6_weigh 132 = .ok (.iconst 0, 1) := by decide +kernel
theorem dX6_weigh_133 : decode cX6_weigh 133 = .ok (.istore 20, 2) := by decide +kernel
theorem dX6_weigh_135 : decode cX6_weigh 135 = .ok (.iload 20, 2) := by decide +kernel
theorem dX6_weigh_137 : decode cX6_weigh 137 = .ok (.ifCond .eq 7, 3) := by decide +kernel
theorem dX6_weigh_140 : decode cX6_weigh 140 = .ok (.lconst 1, 1) := by decide +kernel
theorem dX6_weigh_141 : decode cX6_weigh 141 = .ok (.goto 10, 3) := by decide +kernel
theorem dX6_weigh_144 : decode cX6_weigh 144 = .ok (.lload 16, 2) := by decide +kernel
theorem dX6_weigh_146 : decode cX6_weigh 146 = .ok (.lload 18, 2) := by decide +kernel
theorem dX6_weigh_148 : decode cX6_weigh 148 = .ok (.invokestatic 67, 3) := by decide +kernel
theorem dX6_weigh_151 : decode cX6_weigh 151 = .ok (.lstore 21, 2) := by decide +kernel
theorem dX6_weigh_153 : decode cX6_weigh 153 = .ok (.iload 20, 2) := by decide +kernel
theorem dX6_weigh_155 : decode cX6_weigh 155 = .ok (.ifCond .eq 9, 3) := by decide +kernel
theorem dX6_weigh_158 : decode cX6_weigh 158 = .ok (.ldc2_w 70, 3) := by decide +kernel
theorem dX6_weigh_161 : decode cX6_weigh 161 = .ok (.goto 8, 3) := by decide +kernel
theorem dX6_weigh_164 : decode cX6_weigh 164 = .ok (.lload 16, 2) := by decide +kernel
theorem dX6_weigh_166 : decode cX6_weigh 166 = .ok (.lload 21, 2) := by decide +kernel
theorem dX6_weigh_168 : decode cX6_weigh 168 = .ok (.ldiv, 1) := by decide +kernel
theorem dX6_weigh_169 : decode cX6_weigh 169 = .ok (.lstore 4, 2) := by decide +kernel
theorem dX6_weigh_171 : decode cX6_weigh 171 = .ok (.iload 20, 2) := by decide +kernel
theorem dX6_weigh_173 : decode cX6_weigh 173 = .ok (.ifCond .eq 9, 3) := by decide +kernel
theorem dX6_weigh_176 : decode cX6_weigh 176 = .ok (.ldc2_w 70, 3) := by decide +kernel
theorem dX6_weigh_179 : decode cX6_weigh 179 = .ok (.goto 8, 3) := by decide +kernel
theorem dX6_weigh_182 : decode cX6_weigh 182 = .ok (.lload 18, 2) := by decide +kernel
theorem dX6_weigh_184 : decode cX6_weigh 184 = .ok (.lload 21, 2) := by decide +kernel
theorem dX6_weigh_186 : decode cX6_weigh 186 = .ok (.ldiv, 1) := by decide +kernel
theorem dX6_weigh_187 : decode cX6_weigh 187 = .ok (.lstore 6, 2) := by decide +kernel
theorem dX6_weigh_189 : decode cX6_weigh 189 = .ok (.aload_n 0, 1) := by decide +kernel
theorem dX6_weigh_190 : decode cX6_weigh 190 = .ok (.getfield 24, 3) := by decide +kernel
theorem dX6_weigh_193 : decode cX6_weigh 193 = .ok (.iload 8, 2) := by decide +kernel
theorem dX6_weigh_195 : decode cX6_weigh 195 = .ok (.iaload, 1) := by decide +kernel
theorem dX6_weigh_196 : decode cX6_weigh 196 = .ok (.istore 8, 2) := by decide +kernel
theorem dX6_weigh_198 : decode cX6_weigh 198 = .ok (.iinc 9 1, 3) := by decide +kernel
theorem dX6_weigh_201 : decode cX6_weigh 201 = .ok (.goto (-187), 3) := by decide +kernel
theorem dX6_weigh_204 : decode cX6_weigh 204 = .ok (.aload_n 0, 1) := by decide +kernel
theorem dX6_weigh_205 : decode cX6_weigh 205 = .ok (.getfield 27, 3) := by decide +kernel
theorem dX6_weigh_208 : decode cX6_weigh 208 = .ok (.iload_n 1, 1) := by decide +kernel
theorem dX6_weigh_209 : decode cX6_weigh 209 = .ok (.lload 4, 2) := by decide +kernel
theorem dX6_weigh_211 : decode cX6_weigh 211 = .ok (.lastore, 1) := by decide +kernel
theorem dX6_weigh_212 : decode cX6_weigh 212 = .ok (.aload_n 0, 1) := by decide +kernel
theorem dX6_weigh_213 : decode cX6_weigh 213 = .ok (.getfield 31, 3) := by decide +kernel
theorem dX6_weigh_216 : decode cX6_weigh 216 = .ok (.iload_n 1, 1) := by decide +kernel
theorem dX6_weigh_217 : decode cX6_weigh 217 = .ok (.lload 6, 2) := by decide +kernel
theorem dX6_weigh_219 : decode cX6_weigh 219 = .ok (.lastore, 1) := by decide +kernel
theorem dX6_weigh_220 : decode cX6_weigh 220 = .ok (.return_, 1) := by decide +kernel
theorem dX7_plus_0 : decode cX7_plus 0 = .ok (.lload_n 0, 1) := by decide +kernel
theorem dX7_plus_1 : decode cX7_plus 1 = .ok (.lconst 0, 1) := by decide +kernel
theorem dX7_plus_2 : decode cX7_plus 2 = .ok (.lcmp, 1) := by decide +kernel
theorem dX7_plus_3 : decode cX7_plus 3 = .ok (.ifCond .lt 19, 3) := by decide +kernel
theorem dX7_plus_6 : decode cX7_plus 6 = .ok (.lload_n 2, 1) := by decide +kernel
theorem dX7_plus_7 : decode cX7_plus 7 = .ok (.lconst 0, 1) := by decide +kernel
theorem dX7_plus_8 : decode cX7_plus 8 = .ok (.lcmp, 1) := by decide +kernel
theorem dX7_plus_9 : decode cX7_plus 9 = .ok (.ifCond .lt 13, 3) := by decide +kernel
theorem dX7_plus_12 : decode cX7_plus 12 = .ok (.lload_n 0, 1) := by decide +kernel
theorem dX7_plus_13 : decode cX7_plus 13 = .ok (.ldc2_w 9, 3) := by decide +kernel
theorem dX7_plus_16 : decode cX7_plus 16 = .ok (.lload_n 2, 1) := by decide +kernel
theorem dX7_plus_17 : decode cX7_plus 17 = .ok (.lsub, 1) := by decide +kernel
theorem dX7_plus_18 : decode cX7_plus 18 = .ok (.lcmp, 1) := by decide +kernel
theorem dX7_plus_19 : decode cX7_plus 19 = .ok (.ifCond .le 9, 3) := by decide +kernel
theorem dX7_plus_22 : decode cX7_plus 22 = .ok (.ldc2_w 11, 3) := by decide +kernel
theorem dX7_plus_25 : decode cX7_plus 25 = .ok (.goto 6, 3) := by decide +kernel
theorem dX7_plus_28 : decode cX7_plus 28 = .ok (.lload_n 0, 1) := by decide +kernel
theorem dX7_plus_29 : decode cX7_plus 29 = .ok (.lload_n 2, 1) := by decide +kernel
theorem dX7_plus_30 : decode cX7_plus 30 = .ok (.ladd, 1) := by decide +kernel
theorem dX7_plus_31 : decode cX7_plus 31 = .ok (.lreturn, 1) := by decide +kernel
theorem dX7_times_0 : decode cX7_times 0 = .ok (.lload_n 0, 1) := by decide +kernel
theorem dX7_times_1 : decode cX7_times 1 = .ok (.lconst 0, 1) := by decide +kernel
theorem dX7_times_2 : decode cX7_times 2 = .ok (.lcmp, 1) := by decide +kernel
theorem dX7_times_3 : decode cX7_times 3 = .ok (.ifCond .lt 9, 3) := by decide +kernel
theorem dX7_times_6 : decode cX7_times 6 = .ok (.lload_n 2, 1) := by decide +kernel
theorem dX7_times_7 : decode cX7_times 7 = .ok (.lconst 0, 1) := by decide +kernel
theorem dX7_times_8 : decode cX7_times 8 = .ok (.lcmp, 1) := by decide +kernel
theorem dX7_times_9 : decode cX7_times 9 = .ok (.ifCond .ge 7, 3) := by decide +kernel
theorem dX7_times_12 : decode cX7_times 12 = .ok (.ldc2_w 11, 3) := by decide +kernel
theorem dX7_times_15 : decode cX7_times 15 = .ok (.lreturn, 1) := by decide +kernel
theorem dX7_times_16 : decode cX7_times 16 = .ok (.lload_n 2, 1) := by decide +kernel
theorem dX7_times_17 : decode cX7_times 17 = .ok (.lconst 0, 1) := by decide +kernel
theorem dX7_times_18 : decode cX7_times 18 = .ok (.lcmp, 1) := by decide +kernel
theorem dX7_times_19 : decode cX7_times 19 = .ok (.ifCond .eq 19, 3) := by decide +kernel
theorem dX7_times_22 : decode cX7_times 22 = .ok (.lload_n 0, 1) := by decide +kernel
theorem dX7_times_23 : decode cX7_times 23 = .ok (.ldc2_w 9, 3) := by decide +kernel
theorem dX7_times_26 : decode cX7_times 26 = .ok (.lload_n 2, 1) := by decide +kernel
theorem dX7_times_27 : decode cX7_times 27 = .ok (.ldiv, 1) := by decide +kernel
theorem dX7_times_28 : decode cX7_times 28 = .ok (.lcmp, 1) := by decide +kernel
theorem dX7_times_29 : decode cX7_times 29 = .ok (.ifCond .le 9, 3) := by decide +kernel
theorem dX7_times_32 : decode cX7_times 32 = .ok (.ldc2_w 11, 3) := by decide +kernel
theorem dX7_times_35 : decode cX7_times 35 = .ok (.goto 6, 3) := by decide +kernel
theorem dX7_times_38 : decode cX7_times 38 = .ok (.lload_n 0, 1) := by decide +kernel
theorem dX7_times_39 : decode cX7_times 39 = .ok (.lload_n 2, 1) := by decide +kernel
theorem dX7_times_40 : decode cX7_times 40 = .ok (.lmul, 1) := by decide +kernel
theorem dX7_times_41 : decode cX7_times 41 = .ok (.lreturn, 1) := by decide +kernel
theorem dX7_canMultiply_0 : decode cX7_canMultiply 0 = .ok (.lload_n 2, 1) := by decide +kernel
theorem dX7_canMultiply_1 : decode cX7_canMultiply 1 = .ok (.lconst 0, 1) := by decide +kernel
theorem dX7_canMultiply_2 : decode cX7_canMultiply 2 = .ok (.lcmp, 1) := by decide +kernel
theorem dX7_canMultiply_3 : decode cX7_canMultiply 3 = .ok (.ifCond .ne 5, 3) := by decide +kernel
theorem dX7_canMultiply_6 : decode cX7_canMultiply 6 = .ok (.iconst 1, 1) := by decide +kernel
theorem dX7_canMultiply_7 : decode cX7_canMultiply 7 = .ok (.ireturn, 1) := by decide +kernel
theorem dX7_canMultiply_8 : decode cX7_canMultiply 8 = .ok (.lload_n 2, 1) := by decide +kernel
theorem dX7_canMultiply_9 : decode cX7_canMultiply 9 = .ok (.ldc2_w 11, 3) := by decide +kernel
theorem dX7_canMultiply_12 : decode cX7_canMultiply 12 = .ok (.lcmp, 1) := by decide +kernel
theorem dX7_canMultiply_13 : decode cX7_canMultiply 13 = .ok (.ifCond .ne 17, 3) := by decide +kernel
theorem dX7_canMultiply_16 : decode cX7_canMultiply 16 = .ok (.lload_n 0, 1) := by decide +kernel
theorem dX7_canMultiply_17 : decode cX7_canMultiply 17 = .ok (.ldc2_w 13, 3) := by decide +kernel
theorem dX7_canMultiply_20 : decode cX7_canMultiply 20 = .ok (.lcmp, 1) := by decide +kernel
theorem dX7_canMultiply_21 : decode cX7_canMultiply 21 = .ok (.ifCond .eq 7, 3) := by decide +kernel
theorem dX7_canMultiply_24 : decode cX7_canMultiply 24 = .ok (.iconst 1, 1) := by decide +kernel
theorem dX7_canMultiply_25 : decode cX7_canMultiply 25 = .ok (.goto 4, 3) := by decide +kernel
theorem dX7_canMultiply_28 : decode cX7_canMultiply 28 = .ok (.iconst 0, 1) := by decide +kernel
theorem dX7_canMultiply_29 : decode cX7_canMultiply 29 = .ok (.ireturn, 1) := by decide +kernel
theorem dX7_canMultiply_30 : decode cX7_canMultiply 30 = .ok (.lload_n 0, 1) := by decide +kernel
theorem dX7_canMultiply_31 : decode cX7_canMultiply 31 = .ok (.lload_n 2, 1) := by decide +kernel
theorem dX7_canMultiply_32 : decode cX7_canMultiply 32 = .ok (.lmul, 1) := by decide +kernel
theorem dX7_canMultiply_33 : decode cX7_canMultiply 33 = .ok (.lload_n 2, 1) := by decide +kernel
theorem dX7_canMultiply_34 : decode cX7_canMultiply 34 = .ok (.ldiv, 1) := by decide +kernel
theorem dX7_canMultiply_35 : decode cX7_canMultiply 35 = .ok (.lload_n 0, 1) := by decide +kernel
theorem dX7_canMultiply_36 : decode cX7_canMultiply 36 = .ok (.lcmp, 1) := by decide +kernel
theorem dX7_canMultiply_37 : decode cX7_canMultiply 37 = .ok (.ifCond .ne 7, 3) := by decide +kernel
theorem dX7_canMultiply_40 : decode cX7_canMultiply 40 = .ok (.iconst 1, 1) := by decide +kernel
theorem dX7_canMultiply_41 : decode cX7_canMultiply 41 = .ok (.goto 4, 3) := by decide +kernel
theorem dX7_canMultiply_44 : decode cX7_canMultiply 44 = .ok (.iconst 0, 1) := by decide +kernel
theorem dX7_canMultiply_45 : decode cX7_canMultiply 45 = .ok (.ireturn, 1) := by decide +kernel
theorem dX7_canAdd_0 : decode cX7_canAdd 0 = .ok (.lload_n 0, 1) := by decide +kernel
theorem dX7_canAdd_1 : decode cX7_canAdd 1 = .ok (.lload_n 2, 1) := by decide +kernel
theorem dX7_canAdd_2 : decode cX7_canAdd 2 = .ok (.ladd, 1) := by decide +kernel
theorem dX7_canAdd_3 : decode cX7_canAdd 3 = .ok (.lstore 4, 2) := by decide +kernel
theorem dX7_canAdd_5 : decode cX7_canAdd 5 = .ok (.lload_n 0, 1) := by decide +kernel
theorem dX7_canAdd_6 : decode cX7_canAdd 6 = .ok (.lload 4, 2) := by decide +kernel
theorem dX7_canAdd_8 : decode cX7_canAdd 8 = .ok (.lxor, 1) := by decide +kernel
theorem dX7_canAdd_9 : decode cX7_canAdd 9 = .ok (.lload_n 2, 1) := by decide +kernel
theorem dX7_canAdd_10 : decode cX7_canAdd 10 = .ok (.lload 4, 2) := by decide +kernel
theorem dX7_canAdd_12 : decode cX7_canAdd 12 = .ok (.lxor, 1) := by decide +kernel
theorem dX7_canAdd_13 : decode cX7_canAdd 13 = .ok (.land, 1) := by decide +kernel
theorem dX7_canAdd_14 : decode cX7_canAdd 14 = .ok (.lconst 0, 1) := by decide +kernel
theorem dX7_canAdd_15 : decode cX7_canAdd 15 = .ok (.lcmp, 1) := by decide +kernel
theorem dX7_canAdd_16 : decode cX7_canAdd 16 = .ok (.ifCond .lt 7, 3) := by decide +kernel
theorem dX7_canAdd_19 : decode cX7_canAdd 19 = .ok (.iconst 1, 1) := by decide +kernel
theorem dX7_canAdd_20 : decode cX7_canAdd 20 = .ok (.goto 4, 3) := by decide +kernel
theorem dX7_canAdd_23 : decode cX7_canAdd 23 = .ok (.iconst 0, 1) := by decide +kernel
theorem dX7_canAdd_24 : decode cX7_canAdd 24 = .ok (.ireturn, 1) := by decide +kernel
theorem dX7_commonOf_0 : decode cX7_commonOf 0 = .ok (.lload_n 0, 1) := by decide +kernel
theorem dX7_commonOf_1 : decode cX7_commonOf 1 = .ok (.lstore 4, 2) := by decide +kernel
theorem dX7_commonOf_3 : decode cX7_commonOf 3 = .ok (.lload_n 2, 1) := by decide +kernel
theorem dX7_commonOf_4 : decode cX7_commonOf 4 = .ok (.lstore 6, 2) := by decide +kernel
theorem dX7_commonOf_6 : decode cX7_commonOf 6 = .ok (.iconst 0, 1) := by decide +kernel
theorem dX7_commonOf_7 : decode cX7_commonOf 7 = .ok (.istore 8, 2) := by decide +kernel
theorem dX7_commonOf_9 : decode cX7_commonOf 9 = .ok (.iload 8, 2) := by decide +kernel
theorem dX7_commonOf_11 : decode cX7_commonOf 11 = .ok (.sipush 200, 3) := by decide +kernel
theorem dX7_commonOf_14 : decode cX7_commonOf 14 = .ok (.if_icmp .ge 31, 3) := by decide +kernel
theorem dX7_commonOf_17 : decode cX7_commonOf 17 = .ok (.lload 6, 2) := by decide +kernel
theorem dX7_commonOf_19 : decode cX7_commonOf 19 = .ok (.lconst 0, 1) := by decide +kernel
theorem dX7_commonOf_20 : decode cX7_commonOf 20 = .ok (.lcmp, 1) := by decide +kernel
theorem dX7_commonOf_21 : decode cX7_commonOf 21 = .ok (.ifCond .eq 24, 3) := by decide +kernel
theorem dX7_commonOf_24 : decode cX7_commonOf 24 = .ok (.lload 4, 2) := by decide +kernel
theorem dX7_commonOf_26 : decode cX7_commonOf 26 = .ok (.lload 6, 2) := by decide +kernel
theorem dX7_commonOf_28 : decode cX7_commonOf 28 = .ok (.lrem, 1) := by decide +kernel
theorem dX7_commonOf_29 : decode cX7_commonOf 29 = .ok (.lstore 9, 2) := by decide +kernel
theorem dX7_commonOf_31 : decode cX7_commonOf 31 = .ok (.lload 6, 2) := by decide +kernel
theorem dX7_commonOf_33 : decode cX7_commonOf 33 = .ok (.lstore 4, 2) := by decide +kernel
theorem dX7_commonOf_35 : decode cX7_commonOf 35 = .ok (.lload 9, 2) := by decide +kernel
theorem dX7_commonOf_37 : decode cX7_commonOf 37 = .ok (.lstore 6, 2) := by decide +kernel
theorem dX7_commonOf_39 : decode cX7_commonOf 39 = .ok (.iinc 8 1, 3) := by decide +kernel
theorem dX7_commonOf_42 : decode cX7_commonOf 42 = .ok (.goto (-33), 3) := by decide +kernel
theorem dX7_commonOf_45 : decode cX7_commonOf 45 = .ok (.lload 4, 2) := by decide +kernel
theorem dX7_commonOf_47 : decode cX7_commonOf 47 = .ok (.lconst 0, 1) := by decide +kernel
theorem dX7_commonOf_48 : decode cX7_commonOf 48 = .ok (.lcmp, 1) := by decide +kernel
theorem dX7_commonOf_49 : decode cX7_commonOf 49 = .ok (.ifCond .le 8, 3) := by decide +kernel
theorem dX7_commonOf_52 : decode cX7_commonOf 52 = .ok (.lload 4, 2) := by decide +kernel
theorem dX7_commonOf_54 : decode cX7_commonOf 54 = .ok (.goto 4, 3) := by decide +kernel
theorem dX7_commonOf_57 : decode cX7_commonOf 57 = .ok (.lconst 1, 1) := by decide +kernel
theorem dX7_commonOf_58 : decode cX7_commonOf 58 = .ok (.lreturn, 1) := by decide +kernel
set_option maxRecDepth 20000 in
theorem ggX8_init_X1_init : GoodIn wsX8_init wsX1_init := goodIn_r _ [32, 33, 2, 3, 34, 35, 36, 37, 38, 39, 40, 41, 42, 43, 44, 45, 46, 96, 97, 98, 99, 100, 101, 102, 103, 104, 105, 106] (by decide +kernel) (by decide +kernel)
set_option maxRecDepth 20000 in
theorem gX8_init_X1_init_n11 : GoodIn wsX8_init (wsX1_init) := ggX8_init_X1_init
set_option maxRecDepth 20000 in
theorem ggX8_init_X4_init : GoodIn wsX8_init wsX4_init := goodIn_r _ [48, 49, 2, 3, 41, 50, 34, 51, 52, 53, 54, 55, 56, 57, 58, 116, 117, 118, 119, 120, 121, 122, 123, 124] (by decide +kernel) (by decide +kernel)
set_option maxRecDepth 20000 in
theorem gX8_init_X4_init_n25 : GoodIn wsX8_init (wsX4_init) := ggX8_init_X4_init
set_option maxRecDepth 20000 in
theorem ggX8_init_X5_init : GoodIn wsX8_init wsX5_init := goodIn_r _ [60, 61, 2, 3, 41, 62, 63, 64, 65, 125, 126, 127, 128] (by decide +kernel) (by decide +kernel)
set_option maxRecDepth 20000 in
theorem gX8_init_X5_init_n32 : GoodIn wsX8_init (wsX5_init) := ggX8_init_X5_init
set_option maxRecDepth 20000 in
theorem ggX8_init_X6_init : GoodIn wsX8_init wsX6_init := goodIn_r _ [67, 68, 2, 3, 34, 69, 70, 71, 72, 73, 41, 74, 75, 76, 129, 130, 131, 132, 133, 134, 135, 136] (by decide +kernel) (by decide +kernel)
set_option maxRecDepth 20000 in
theorem gX8_init_X6_init_n39 : GoodIn wsX8_init (wsX6_init) := ggX8_init_X6_init
set_option maxRecDepth 20000 in
theorem ggX8_init_X2_init : GoodIn wsX8_init wsX2_init := goodIn_r _ [78, 79, 2, 3, 34, 80, 81, 82, 83, 137, 138, 139, 140] (by decide +kernel) (by decide +kernel)
set_option maxRecDepth 20000 in
theorem gX8_init_X2_init_n59 : GoodIn wsX8_init (wsX2_init) := ggX8_init_X2_init
set_option maxRecDepth 20000 in
theorem ggX8_init_X3_init : GoodIn wsX8_init wsX3_init := goodIn_r _ [85, 86, 2, 3, 34, 87, 41, 88, 89, 90, 91, 92, 93, 94, 95, 141, 142, 143, 144, 145, 146, 147] (by decide +kernel) (by decide +kernel)
set_option maxRecDepth 20000 in
theorem gX8_init_X3_init_n60 : GoodIn wsX8_init (wsX3_init) := ggX8_init_X3_init
theorem dX8_init_0 : decode cX8_init 0 = .ok (.aload_n 0, 1) := by decide +kernel
theorem dX8_init_1 : decode cX8_init 1 = .ok (.invokespecial 3, 3) := by decide +kernel
theorem dX8_init_4 : decode cX8_init 4 = .ok (.aload_n 0, 1) := by decide +kernel
theorem dX8_init_5 : decode cX8_init 5 = .ok (.new 9, 3) := by decide +kernel
theorem dX8_init_8 : decode cX8_init 8 = .ok (.dup, 1) := by decide +kernel
theorem dX8_init_9 : decode cX8_init 9 = .ok (.invokespecial 11, 3) := by decide +kernel
theorem dX8_init_12 : decode cX8_init 12 = .ok (.putfield 12, 3) := by decide +kernel
theorem dX8_init_15 : decode cX8_init 15 = .ok (.aload_n 0, 1) := by decide +kernel
theorem dX8_init_16 : decode cX8_init 16 = .ok (.new 9, 3) := by decide +kernel
theorem dX8_init_19 : decode cX8_init 19 = .ok (.dup, 1) := by decide +kernel
theorem dX8_init_20 : decode cX8_init 20 = .ok (.invokespecial 11, 3) := by decide +kernel
theorem dX8_init_23 : decode cX8_init 23 = .ok (.putfield 16, 3) := by decide +kernel
theorem dX8_init_26 : decode cX8_init 26 = .ok (.aload_n 0, 1) := by decide +kernel
theorem dX8_init_27 : decode cX8_init 27 = .ok (.iconst 0, 1) := by decide +kernel
theorem dX8_init_28 : decode cX8_init 28 = .ok (.putfield 19, 3) := by decide +kernel
theorem dX8_init_31 : decode cX8_init 31 = .ok (.aload_n 0, 1) := by decide +kernel
theorem dX8_init_32 : decode cX8_init 32 = .ok (.new 23, 3) := by decide +kernel
theorem dX8_init_35 : decode cX8_init 35 = .ok (.dup, 1) := by decide +kernel
theorem dX8_init_36 : decode cX8_init 36 = .ok (.invokespecial 25, 3) := by decide +kernel
theorem dX8_init_39 : decode cX8_init 39 = .ok (.putfield 26, 3) := by decide +kernel
theorem dX8_init_42 : decode cX8_init 42 = .ok (.aload_n 0, 1) := by decide +kernel
theorem dX8_init_43 : decode cX8_init 43 = .ok (.new 30, 3) := by decide +kernel
theorem dX8_init_46 : decode cX8_init 46 = .ok (.dup, 1) := by decide +kernel
theorem dX8_init_47 : decode cX8_init 47 = .ok (.invokespecial 32, 3) := by decide +kernel
theorem dX8_init_50 : decode cX8_init 50 = .ok (.putfield 33, 3) := by decide +kernel
theorem dX8_init_53 : decode cX8_init 53 = .ok (.aload_n 0, 1) := by decide +kernel
theorem dX8_init_54 : decode cX8_init 54 = .ok (.new 37, 3) := by decide +kernel
theorem dX8_init_57 : decode cX8_init 57 = .ok (.dup, 1) := by decide +kernel
theorem dX8_init_58 : decode cX8_init 58 = .ok (.invokespecial 39, 3) := by decide +kernel
theorem dX8_init_61 : decode cX8_init 61 = .ok (.putfield 40, 3) := by decide +kernel
theorem dX8_init_64 : decode cX8_init 64 = .ok (.aload_n 0, 1) := by decide +kernel
theorem dX8_init_65 : decode cX8_init 65 = .ok (.new 37, 3) := by decide +kernel
theorem dX8_init_68 : decode cX8_init 68 = .ok (.dup, 1) := by decide +kernel
theorem dX8_init_69 : decode cX8_init 69 = .ok (.invokespecial 39, 3) := by decide +kernel
theorem dX8_init_72 : decode cX8_init 72 = .ok (.putfield 44, 3) := by decide +kernel
theorem dX8_init_75 : decode cX8_init 75 = .ok (.aload_n 0, 1) := by decide +kernel
theorem dX8_init_76 : decode cX8_init 76 = .ok (.iconst 3, 1) := by decide +kernel
theorem dX8_init_77 : decode cX8_init 77 = .ok (.anewarray 47, 3) := by decide +kernel
theorem dX8_init_80 : decode cX8_init 80 = .ok (.putfield 49, 3) := by decide +kernel
theorem dX8_init_83 : decode cX8_init 83 = .ok (.aload_n 0, 1) := by decide +kernel
theorem dX8_init_84 : decode cX8_init 84 = .ok (.iconst 4, 1) := by decide +kernel
theorem dX8_init_85 : decode cX8_init 85 = .ok (.anewarray 53, 3) := by decide +kernel
theorem dX8_init_88 : decode cX8_init 88 = .ok (.putfield 55, 3) := by decide +kernel
theorem dX8_init_91 : decode cX8_init 91 = .ok (.iconst 0, 1) := by decide +kernel
theorem dX8_init_92 : decode cX8_init 92 = .ok (.istore_n 1, 1) := by decide +kernel
theorem dX8_init_93 : decode cX8_init 93 = .ok (.iload_n 1, 1) := by decide +kernel
theorem dX8_init_94 : decode cX8_init 94 = .ok (.iconst 3, 1) := by decide +kernel
theorem dX8_init_95 : decode cX8_init 95 = .ok (.if_icmp .ge 22, 3) := by decide +kernel
theorem dX8_init_98 : decode cX8_init 98 = .ok (.aload_n 0, 1) := by decide +kernel
theorem dX8_init_99 : decode cX8_init 99 = .ok (.getfield 49, 3) := by decide +kernel
theorem dX8_init_102 : decode cX8_init 102 = .ok (.iload_n 1, 1) := by decide +kernel
theorem dX8_init_103 : decode cX8_init 103 = .ok (.new 47, 3) := by decide +kernel
theorem dX8_init_106 : decode cX8_init 106 = .ok (.dup, 1) := by decide +kernel
theorem dX8_init_107 : decode cX8_init 107 = .ok (.invokespecial 59, 3) := by decide +kernel
theorem dX8_init_110 : decode cX8_init 110 = .ok (.aastore, 1) := by decide +kernel
theorem dX8_init_111 : decode cX8_init 111 = .ok (.iinc 1 1, 3) := by decide +kernel
theorem dX8_init_114 : decode cX8_init 114 = .ok (.goto (-21), 3) := by decide +kernel
theorem dX8_init_117 : decode cX8_init 117 = .ok (.iconst 0, 1) := by decide +kernel
theorem dX8_init_118 : decode cX8_init 118 = .ok (.istore_n 1, 1) := by decide +kernel
theorem dX8_init_119 : decode cX8_init 119 = .ok (.iload_n 1, 1) := by decide +kernel
theorem dX8_init_120 : decode cX8_init 120 = .ok (.iconst 4, 1) := by decide +kernel
theorem dX8_init_121 : decode cX8_init 121 = .ok (.if_icmp .ge 22, 3) := by decide +kernel
theorem dX8_init_124 : decode cX8_init 124 = .ok (.aload_n 0, 1) := by decide +kernel
theorem dX8_init_125 : decode cX8_init 125 = .ok (.getfield 55, 3) := by decide +kernel
theorem dX8_init_128 : decode cX8_init 128 = .ok (.iload_n 1, 1) := by decide +kernel
theorem dX8_init_129 : decode cX8_init 129 = .ok (.new 53, 3) := by decide +kernel
theorem dX8_init_132 : decode cX8_init 132 = .ok (.dup, 1) := by decide +kernel
theorem dX8_init_133 : decode cX8_init 133 = .ok (.invokespecial 60, 3) := by decide +kernel
theorem dX8_init_136 : decode cX8_init 136 = .ok (.aastore, 1) := by decide +kernel
theorem dX8_init_137 : decode cX8_init 137 = .ok (.iinc 1 1, 3) := by decide +kernel
theorem dX8_init_140 : decode cX8_init 140 = .ok (.goto (-21), 3) := by decide +kernel
theorem dX8_init_143 : decode cX8_init 143 = .ok (.return_, 1) := by decide +kernel
set_option maxRecDepth 20000 in
theorem ggX8_points_X8_isBeyond : GoodIn wsX8_points wsX8_isBeyond := goodIn_r _ [6] (by decide +kernel) (by decide +kernel)
set_option maxRecDepth 20000 in
theorem gX8_points_X8_isBeyond : GoodIn wsX8_points (va_wsS RX8 61 yX8_isBeyond wsX8_isBeyond) := goodIn_app (goodIn_of _ (by decide +kernel)) ggX8_points_X8_isBeyond
set_option maxRecDepth 20000 in
theorem ggX8_points_X1_begin : GoodIn wsX8_points wsX1_begin := goodIn_r _ [11, 12, 13, 14, 15, 16, 10, 17, 18, 19, 20, 21, 22, 23, 24, 25, 26, 27, 28, 29, 30, 31, 32, 33, 34, 44, 45, 46, 47, 48, 49, 50, 51, 52, 53, 54] (by decide +kernel) (by decide +kernel)
set_option maxRecDepth 20000 in
theorem gX8_points_X1_begin : GoodIn wsX8_points (wsV RX8 69 RX1 yX1_begin wsX1_begin) := goodIn_app (goodIn_of _ (by decide +kernel)) ggX8_points_X1_begin
theorem dX8_points_0 : decode cX8_points 0 = .ok (.iload_n 1, 1) := by decide +kernel
theorem dX8_points_1 : decode cX8_points 1 = .ok (.iconst 0, 1) := by decide +kernel
theorem dX8_points_2 : decode cX8_points 2 = .ok (.bipush 12, 2) := by decide +kernel
theorem dX8_points_4 : decode cX8_points 4 = .ok (.invokestatic 61, 3) := by decide +kernel
theorem dX8_points_7 : decode cX8_points 7 = .ok (.ifCond .eq 6, 3) := by decide +kernel
theorem dX8_points_10 : decode cX8_points 10 = .ok (.bipush (-2), 2) := by decide +kernel
theorem dX8_points_12 : decode cX8_points 12 = .ok (.ireturn, 1) := by decide +kernel
theorem dX8_points_13 : decode cX8_points 13 = .ok (.aload_n 0, 1) := by decide +kernel
theorem dX8_points_14 : decode cX8_points 14 = .ok (.getfield 12, 3) := by decide +kernel
theorem dX8_points_17 : decode cX8_points 17 = .ok (.getfield 65, 3) := by decide +kernel
theorem dX8_points_20 : decode cX8_points 20 = .ok (.istore_n 2, 1) := by decide +kernel
theorem dX8_points_21 : decode cX8_points 21 = .ok (.aload_n 0, 1) := by decide +kernel
theorem dX8_points_22 : decode cX8_points 22 = .ok (.getfield 12, 3) := by decide +kernel
theorem dX8_points_25 : decode cX8_points 25 = .ok (.iload_n 1, 1) := by decide +kernel
theorem dX8_points_26 : decode cX8_points 26 = .ok (.invokevirtual 69, 3) := by decide +kernel
theorem dX8_points_29 : decode cX8_points 29 = .ok (.iload_n 2, 1) := by decide +kernel
theorem dX8_points_30 : decode cX8_points 30 = .ok (.ireturn, 1) := by decide +kernel
set_option maxRecDepth 20000 in
theorem ggX8_line_X1_add : GoodIn wsX8_line wsX1_add := goodIn_r _ [6, 7, 8, 9, 10, 11, 12, 13, 14, 15, 16, 17, 18, 19, 20, 21, 22, 23, 24, 25, 5, 26, 27, 28, 29, 30, 31, 32, 33, 34, 35, 36, 37, 38, 48, 49, 50, 51, 52, 53, 54, 55, 56, 57, 58] (by decide +kernel) (by decide +kernel)
set_option maxRecDepth 20000 in
theorem gX8_line_X1_add : GoodIn wsX8_line (wsV RX8 73 RX1 yX1_add wsX1_add) := goodIn_app (goodIn_of _ (by decide +kernel)) ggX8_line_X1_add
theorem dX8_line_0 : decode cX8_line 0 = .ok (.aload_n 0, 1) := by decide +kernel
theorem dX8_line_1 : decode cX8_line 1 = .ok (.getfield 12, 3) := by decide +kernel
theorem dX8_line_4 : decode cX8_line 4 = .ok (.iload_n 1, 1) := by decide +kernel
theorem dX8_line_5 : decode cX8_line 5 = .ok (.iload_n 2, 1) := by decide +kernel
theorem dX8_line_6 : decode cX8_line 6 = .ok (.iload_n 3, 1) := by decide +kernel
theorem dX8_line_7 : decode cX8_line 7 = .ok (.iload 4, 2) := by decide +kernel
theorem dX8_line_9 : decode cX8_line 9 = .ok (.invokevirtual 73, 3) := by decide +kernel
theorem dX8_line_12 : decode cX8_line 12 = .ok (.ireturn, 1) := by decide +kernel
set_option maxRecDepth 20000 in
theorem ggX8_told_X1_hasLine : GoodIn wsX8_told wsX1_hasLine := goodIn_r _ [10, 11, 35, 36, 37, 38, 39, 40, 41, 42, 43, 44, 45] (by decide +kernel) (by decide +kernel)
set_option maxRecDepth 20000 in
theorem gX8_told_X1_hasLine : GoodIn wsX8_told (wsV RX8 77 RX1 yX1_hasLine wsX1_hasLine) := goodIn_app (goodIn_of _ (by decide +kernel)) ggX8_told_X1_hasLine
set_option maxRecDepth 20000 in
theorem ggX8_told_X1_weightOf : GoodIn wsX8_told wsX1_weightOf := goodIn_r _ [15, 16, 17, 18, 19, 20, 21, 22, 23, 24, 25, 35, 36, 37, 38, 39, 40, 41, 42, 43, 44, 45] (by decide +kernel) (by decide +kernel)
set_option maxRecDepth 20000 in
theorem gX8_told_X1_weightOf : GoodIn wsX8_told (wsV RX8 88 RX1 yX1_weightOf wsX1_weightOf) := goodIn_app (goodIn_of _ (by decide +kernel)) ggX8_told_X1_weightOf
theorem dX8_told_0 : decode cX8_told 0 = .ok (.aload_n 0, 1) := by decide +kernel
theorem dX8_told_1 : decode cX8_told 1 = .ok (.getfield 12, 3) := by decide +kernel
theorem dX8_told_4 : decode cX8_told 4 = .ok (.iload_n 1, 1) := by decide +kernel
theorem dX8_told_5 : decode cX8_told 5 = .ok (.invokevirtual 77, 3) := by decide +kernel
theorem dX8_told_8 : decode cX8_told 8 = .ok (.ifCond .ne 6, 3) := by decide +kernel
theorem dX8_told_11 : decode cX8_told 11 = .ok (.bipush (-2), 2) := by decide +kernel
theorem dX8_told_13 : decode cX8_told 13 = .ok (.ireturn, 1) := by decide +kernel
theorem dX8_told_14 : decode cX8_told 14 = .ok (.iload_n 2, 1) := by decide +kernel
theorem dX8_told_15 : decode cX8_told 15 = .ok (.tableswitch 82 0 4 #[33, 43, 53, 62, 72], 33) := by decide +kernel
theorem dX8_told_48 : decode cX8_told 48 = .ok (.aload_n 0, 1) := by decide +kernel
theorem dX8_told_49 : decode cX8_told 49 = .ok (.getfield 12, 3) := by decide +kernel
theorem dX8_told_52 : decode cX8_told 52 = .ok (.getfield 81, 3) := by decide +kernel
theorem dX8_told_55 : decode cX8_told 55 = .ok (.iload_n 1, 1) := by decide +kernel
theorem dX8_told_56 : decode cX8_told 56 = .ok (.iaload, 1) := by decide +kernel
theorem dX8_told_57 : decode cX8_told 57 = .ok (.ireturn, 1) := by decide +kernel
theorem dX8_told_58 : decode cX8_told 58 = .ok (.aload_n 0, 1) := by decide +kernel
theorem dX8_told_59 : decode cX8_told 59 = .ok (.getfield 12, 3) := by decide +kernel
theorem dX8_told_62 : decode cX8_told 62 = .ok (.getfield 85, 3) := by decide +kernel
theorem dX8_told_65 : decode cX8_told 65 = .ok (.iload_n 1, 1) := by decide +kernel
theorem dX8_told_66 : decode cX8_told 66 = .ok (.iaload, 1) := by decide +kernel
theorem dX8_told_67 : decode cX8_told 67 = .ok (.ireturn, 1) := by decide +kernel
theorem dX8_told_68 : decode cX8_told 68 = .ok (.aload_n 0, 1) := by decide +kernel
theorem dX8_told_69 : decode cX8_told 69 = .ok (.getfield 12, 3) := by decide +kernel
theorem dX8_told_72 : decode cX8_told 72 = .ok (.iload_n 1, 1) := by decide +kernel
theorem dX8_told_73 : decode cX8_told 73 = .ok (.invokevirtual 88, 3) := by decide +kernel
theorem dX8_told_76 : decode cX8_told 76 = .ok (.ireturn, 1) := by decide +kernel
theorem dX8_told_77 : decode cX8_told 77 = .ok (.aload_n 0, 1) := by decide +kernel
theorem dX8_told_78 : decode cX8_told 78 = .ok (.getfield 12, 3) := by decide +kernel
theorem dX8_told_81 : decode cX8_told 81 = .ok (.getfield 92, 3) := by decide +kernel
theorem dX8_told_84 : decode cX8_told 84 = .ok (.iload_n 1, 1) := by decide +kernel
theorem dX8_told_85 : decode cX8_told 85 = .ok (.iaload, 1) := by decide +kernel
theorem dX8_told_86 : decode cX8_told 86 = .ok (.ireturn, 1) := by decide +kernel
theorem dX8_told_87 : decode cX8_told 87 = .ok (.aload_n 0, 1) := by decide +kernel
theorem dX8_told_88 : decode cX8_told 88 = .ok (.getfield 12, 3) := by decide +kernel
theorem dX8_told_91 : decode cX8_told 91 = .ok (.getfield 95, 3) := by decide +kernel
theorem dX8_told_94 : decode cX8_told 94 = .ok (.iload_n 1, 1) := by decide +kernel
theorem dX8_told_95 : decode cX8_told 95 = .ok (.iaload, 1) := by decide +kernel
theorem dX8_told_96 : decode cX8_told 96 = .ok (.ireturn, 1) := by decide +kernel
theorem dX8_told_97 : decode cX8_told 97 = .ok (.bipush (-2), 2) := by decide +kernel
theorem dX8_told_99 : decode cX8_told 99 = .ok (.ireturn, 1) := by decide +kernel
set_option maxRecDepth 20000 in
theorem ggX8_set_X1_hasLine : GoodIn wsX8_set wsX1_hasLine := goodIn_r _ [8, 9, 23, 24, 25, 26, 27, 28, 29, 30, 31, 32, 33] (by decide +kernel) (by decide +kernel)
set_option maxRecDepth 20000 in
theorem gX8_set_X1_hasLine : GoodIn wsX8_set (wsV RX8 77 RX1 yX1_hasLine wsX1_hasLine) := goodIn_app (goodIn_of _ (by decide +kernel)) ggX8_set_X1_hasLine
set_option maxRecDepth 20000 in
theorem ggX8_set_X8_isBeyond : GoodIn wsX8_set wsX8_isBeyond := goodIn_r _ [13] (by decide +kernel) (by decide +kernel)
set_option maxRecDepth 20000 in
theorem gX8_set_X8_isBeyond : GoodIn wsX8_set (va_wsS RX8 61 yX8_isBeyond wsX8_isBeyond) := goodIn_app (goodIn_of _ (by decide +kernel)) ggX8_set_X8_isBeyond
theorem dX8_set_0 : decode cX8_set 0 = .ok (.aload_n 0, 1) := by decide +kernel
theorem dX8_set_1 : decode cX8_set 1 = .ok (.getfield 12, 3) := by decide +kernel
theorem dX8_set_4 : decode cX8_set 4 = .ok (.iload_n 1, 1) := by decide +kernel
theorem dX8_set_5 : decode cX8_set 5 = .ok (.invokevirtual 77, 3) := by decide +kernel
theorem dX8_set_8 : decode cX8_set 8 = .ok (.ifCond .eq 14, 3) := by decide +kernel
theorem dX8_set_11 : decode cX8_set 11 = .ok (.iload_n 2, 1) := by decide +kernel
theorem dX8_set_12 : decode cX8_set 12 = .ok (.iconst 0, 1) := by decide +kernel
theorem dX8_set_13 : decode cX8_set 13 = .ok (.sipush 9999, 3) := by decide +kernel
theorem dX8_set_16 : decode cX8_set 16 = .ok (.invokestatic 61, 3) := by decide +kernel
theorem dX8_set_19 : decode cX8_set 19 = .ok (.ifCond .eq 6, 3) := by decide +kernel
theorem dX8_set_22 : decode cX8_set 22 = .ok (.bipush (-2), 2) := by decide +kernel
theorem dX8_set_24 : decode cX8_set 24 = .ok (.ireturn, 1) := by decide +kernel
theorem dX8_set_25 : decode cX8_set 25 = .ok (.aload_n 0, 1) := by decide +kernel
theorem dX8_set_26 : decode cX8_set 26 = .ok (.getfield 12, 3) := by decide +kernel
theorem dX8_set_29 : decode cX8_set 29 = .ok (.getfield 85, 3) := by decide +kernel
theorem dX8_set_32 : decode cX8_set 32 = .ok (.iload_n 1, 1) := by decide +kernel
theorem dX8_set_33 : decode cX8_set 33 = .ok (.iaload, 1) := by decide +kernel
theorem dX8_set_34 : decode cX8_set 34 = .ok (.istore_n 3, 1) := by decide +kernel
theorem dX8_set_35 : decode cX8_set 35 = .ok (.aload_n 0, 1) := by decide +kernel
theorem dX8_set_36 : decode cX8_set 36 = .ok (.getfield 12, 3) := by decide +kernel
theorem dX8_set_39 : decode cX8_set 39 = .ok (.getfield 85, 3) := by decide +kernel
theorem dX8_set_42 : decode cX8_set 42 = .ok (.iload_n 1, 1) := by decide +kernel
theorem dX8_set_43 : decode cX8_set 43 = .ok (.iload_n 2, 1) := by decide +kernel
theorem dX8_set_44 : decode cX8_set 44 = .ok (.iastore, 1) := by decide +kernel
theorem dX8_set_45 : decode cX8_set 45 = .ok (.aload_n 0, 1) := by decide +kernel
theorem dX8_set_46 : decode cX8_set 46 = .ok (.getfield 12, 3) := by decide +kernel
theorem dX8_set_49 : decode cX8_set 49 = .ok (.dup, 1) := by decide +kernel
theorem dX8_set_50 : decode cX8_set 50 = .ok (.getfield 98, 3) := by decide +kernel
theorem dX8_set_53 : decode cX8_set 53 = .ok (.iconst 1, 1) := by decide +kernel
theorem dX8_set_54 : decode cX8_set 54 = .ok (.iadd, 1) := by decide +kernel
theorem dX8_set_55 : decode cX8_set 55 = .ok (.putfield 98, 3) := by decide +kernel
theorem dX8_set_58 : decode cX8_set 58 = .ok (.iload_n 3, 1) := by decide +kernel
theorem dX8_set_59 : decode cX8_set 59 = .ok (.ireturn, 1) := by decide +kernel
set_option maxRecDepth 20000 in
theorem ggX8_turns_X1_hasLine : GoodIn wsX8_turns wsX1_hasLine := goodIn_r _ [8, 9, 23, 24, 25, 26, 27, 28, 29, 30, 31, 32, 33] (by decide +kernel) (by decide +kernel)
set_option maxRecDepth 20000 in
theorem gX8_turns_X1_hasLine : GoodIn wsX8_turns (wsV RX8 77 RX1 yX1_hasLine wsX1_hasLine) := goodIn_app (goodIn_of _ (by decide +kernel)) ggX8_turns_X1_hasLine
set_option maxRecDepth 20000 in
theorem ggX8_turns_X8_isBeyond : GoodIn wsX8_turns wsX8_isBeyond := goodIn_r _ [13] (by decide +kernel) (by decide +kernel)
set_option maxRecDepth 20000 in
theorem gX8_turns_X8_isBeyond : GoodIn wsX8_turns (va_wsS RX8 61 yX8_isBeyond wsX8_isBeyond) := goodIn_app (goodIn_of _ (by decide +kernel)) ggX8_turns_X8_isBeyond
theorem dX8_turns_0 : decode cX8_turns 0 = .ok (.aload_n 0, 1) := by decide +kernel
theorem dX8_turns_1 : decode cX8_turns 1 = .ok (.getfield 12, 3) := by decide +kernel
theorem dX8_turns_4 : decode cX8_turns 4 = .ok (.iload_n 1, 1) := by decide +kernel
theorem dX8_turns_5 : decode cX8_turns 5 = .ok (.invokevirtual 77, 3) := by decide +kernel
theorem dX8_turns_8 : decode cX8_turns 8 = .ok (.ifCond .eq 12, 3) := by decide +kernel
theorem dX8_turns_11 : decode cX8_turns 11 = .ok (.iload_n 2, 1) := by decide +kernel
theorem dX8_turns_12 : decode cX8_turns 12 = .ok (.iconst 0, 1) := by decide +kernel
theorem dX8_turns_13 : decode cX8_turns 13 = .ok (.iconst 5, 1) := by decide +kernel
theorem dX8_turns_14 : decode cX8_turns 14 = .ok (.invokestatic 61, 3) := by decide +kernel
theorem dX8_turns_17 : decode cX8_turns 17 = .ok (.ifCond .eq 6, 3) := by decide +kernel
theorem dX8_turns_20 : decode cX8_turns 20 = .ok (.bipush (-2), 2) := by decide +kernel
theorem dX8_turns_22 : decode cX8_turns 22 = .ok (.ireturn, 1) := by decide +kernel
theorem dX8_turns_23 : decode cX8_turns 23 = .ok (.aload_n 0, 1) := by decide +kernel
theorem dX8_turns_24 : decode cX8_turns 24 = .ok (.getfield 12, 3) := by decide +kernel
theorem dX8_turns_27 : decode cX8_turns 27 = .ok (.getfield 81, 3) := by decide +kernel
theorem dX8_turns_30 : decode cX8_turns 30 = .ok (.iload_n 1, 1) := by decide +kernel
theorem dX8_turns_31 : decode cX8_turns 31 = .ok (.iaload, 1) := by decide +kernel
theorem dX8_turns_32 : decode cX8_turns 32 = .ok (.istore_n 3, 1) := by decide +kernel
theorem dX8_turns_33 : decode cX8_turns 33 = .ok (.aload_n 0, 1) := by decide +kernel
theorem dX8_turns_34 : decode cX8_turns 34 = .ok (.getfield 12, 3) := by decide +kernel
theorem dX8_turns_37 : decode cX8_turns 37 = .ok (.getfield 81, 3) := by decide +kernel
theorem dX8_turns_40 : decode cX8_turns 40 = .ok (.iload_n 1, 1) := by decide +kernel
theorem dX8_turns_41 : decode cX8_turns 41 = .ok (.iload_n 2, 1) := by decide +kernel
theorem dX8_turns_42 : decode cX8_turns 42 = .ok (.iastore, 1) := by decide +kernel
theorem dX8_turns_43 : decode cX8_turns 43 = .ok (.aload_n 0, 1) := by decide +kernel
theorem dX8_turns_44 : decode cX8_turns 44 = .ok (.getfield 12, 3) := by decide +kernel
theorem dX8_turns_47 : decode cX8_turns 47 = .ok (.dup, 1) := by decide +kernel
theorem dX8_turns_48 : decode cX8_turns 48 = .ok (.getfield 98, 3) := by decide +kernel
theorem dX8_turns_51 : decode cX8_turns 51 = .ok (.iconst 1, 1) := by decide +kernel
theorem dX8_turns_52 : decode cX8_turns 52 = .ok (.iadd, 1) := by decide +kernel
theorem dX8_turns_53 : decode cX8_turns 53 = .ok (.putfield 98, 3) := by decide +kernel
theorem dX8_turns_56 : decode cX8_turns 56 = .ok (.iload_n 3, 1) := by decide +kernel
theorem dX8_turns_57 : decode cX8_turns 57 = .ok (.ireturn, 1) := by decide +kernel
set_option maxRecDepth 20000 in
theorem ggX8_drop_X1_hasLine : GoodIn wsX8_drop wsX1_hasLine := goodIn_r _ [7, 8, 45, 46, 47, 48, 49, 50, 51, 52, 53, 54, 55] (by decide +kernel) (by decide +kernel)
set_option maxRecDepth 20000 in
theorem gX8_drop_X1_hasLine : GoodIn wsX8_drop (wsV RX8 77 RX1 yX1_hasLine wsX1_hasLine) := goodIn_app (goodIn_of _ (by decide +kernel)) ggX8_drop_X1_hasLine
set_option maxRecDepth 20000 in
theorem ggX8_drop_X1_remove : GoodIn wsX8_drop wsX1_remove := goodIn_r _ [12, 8, 13, 14, 15, 16, 17, 18, 19, 6, 20, 21, 22, 23, 24, 25, 26, 27, 28, 29, 30, 31, 32, 33, 34, 35, 45, 46, 47, 48, 49, 50, 51, 52, 53, 54, 55] (by decide +kernel) (by decide +kernel)
set_option maxRecDepth 20000 in
theorem gX8_drop_X1_remove : GoodIn wsX8_drop (wsV RX8 101 RX1 yX1_remove wsX1_remove) := goodIn_app (goodIn_of _ (by decide +kernel)) ggX8_drop_X1_remove
theorem dX8_drop_0 : decode cX8_drop 0 = .ok (.aload_n 0, 1) := by decide +kernel
theorem dX8_drop_1 : decode cX8_drop 1 = .ok (.getfield 12, 3) := by decide +kernel
theorem dX8_drop_4 : decode cX8_drop 4 = .ok (.iload_n 1, 1) := by decide +kernel
theorem dX8_drop_5 : decode cX8_drop 5 = .ok (.invokevirtual 77, 3) := by decide +kernel
theorem dX8_drop_8 : decode cX8_drop 8 = .ok (.ifCond .ne 6, 3) := by decide +kernel
theorem dX8_drop_11 : decode cX8_drop 11 = .ok (.bipush (-2), 2) := by decide +kernel
theorem dX8_drop_13 : decode cX8_drop 13 = .ok (.ireturn, 1) := by decide +kernel
theorem dX8_drop_14 : decode cX8_drop 14 = .ok (.aload_n 0, 1) := by decide +kernel
theorem dX8_drop_15 : decode cX8_drop 15 = .ok (.getfield 12, 3) := by decide +kernel
theorem dX8_drop_18 : decode cX8_drop 18 = .ok (.iload_n 1, 1) := by decide +kernel
theorem dX8_drop_19 : decode cX8_drop 19 = .ok (.invokevirtual 101, 3) := by decide +kernel
theorem dX8_drop_22 : decode cX8_drop 22 = .ok (.aload_n 0, 1) := by decide +kernel
theorem dX8_drop_23 : decode cX8_drop 23 = .ok (.getfield 12, 3) := by decide +kernel
theorem dX8_drop_26 : decode cX8_drop 26 = .ok (.getfield 104, 3) := by decide +kernel
theorem dX8_drop_29 : decode cX8_drop 29 = .ok (.ireturn, 1) := by decide +kernel
set_option maxRecDepth 20000 in
theorem ggX8_tide_X8_isBeyond : GoodIn wsX8_tide wsX8_isBeyond := goodIn_r _ [7] (by decide +kernel) (by decide +kernel)
set_option maxRecDepth 20000 in
theorem gX8_tide_X8_isBeyond : GoodIn wsX8_tide (va_wsS RX8 61 yX8_isBeyond wsX8_isBeyond) := goodIn_app (goodIn_of _ (by decide +kernel)) ggX8_tide_X8_isBeyond
theorem dX8_tide_0 : decode cX8_tide 0 = .ok (.iload_n 1, 1) := by decide +kernel
theorem dX8_tide_1 : decode cX8_tide 1 = .ok (.iconst 0, 1) := by decide +kernel
theorem dX8_tide_2 : decode cX8_tide 2 = .ok (.bipush 9, 2) := by decide +kernel
theorem dX8_tide_4 : decode cX8_tide 4 = .ok (.invokestatic 61, 3) := by decide +kernel
theorem dX8_tide_7 : decode cX8_tide 7 = .ok (.ifCond .eq 6, 3) := by decide +kernel
theorem dX8_tide_10 : decode cX8_tide 10 = .ok (.bipush (-2), 2) := by decide +kernel
theorem dX8_tide_12 : decode cX8_tide 12 = .ok (.ireturn, 1) := by decide +kernel
theorem dX8_tide_13 : decode cX8_tide 13 = .ok (.aload_n 0, 1) := by decide +kernel
theorem dX8_tide_14 : decode cX8_tide 14 = .ok (.getfield 12, 3) := by decide +kernel
theorem dX8_tide_17 : decode cX8_tide 17 = .ok (.getfield 107, 3) := by decide +kernel
theorem dX8_tide_20 : decode cX8_tide 20 = .ok (.istore_n 2, 1) := by decide +kernel
theorem dX8_tide_21 : decode cX8_tide 21 = .ok (.aload_n 0, 1) := by decide +kernel
theorem dX8_tide_22 : decode cX8_tide 22 = .ok (.getfield 12, 3) := by decide +kernel
theorem dX8_tide_25 : decode cX8_tide 25 = .ok (.iload_n 1, 1) := by decide +kernel
theorem dX8_tide_26 : decode cX8_tide 26 = .ok (.putfield 107, 3) := by decide +kernel
theorem dX8_tide_29 : decode cX8_tide 29 = .ok (.aload_n 0, 1) := by decide +kernel
theorem dX8_tide_30 : decode cX8_tide 30 = .ok (.getfield 12, 3) := by decide +kernel
theorem dX8_tide_33 : decode cX8_tide 33 = .ok (.dup, 1) := by decide +kernel
theorem dX8_tide_34 : decode cX8_tide 34 = .ok (.getfield 98, 3) := by decide +kernel
theorem dX8_tide_37 : decode cX8_tide 37 = .ok (.iconst 1, 1) := by decide +kernel
theorem dX8_tide_38 : decode cX8_tide 38 = .ok (.iadd, 1) := by decide +kernel
theorem dX8_tide_39 : decode cX8_tide 39 = .ok (.putfield 98, 3) := by decide +kernel
theorem dX8_tide_42 : decode cX8_tide 42 = .ok (.iload_n 2, 1) := by decide +kernel
theorem dX8_tide_43 : decode cX8_tide 43 = .ok (.ireturn, 1) := by decide +kernel
set_option maxRecDepth 20000 in
theorem ggX8_between_X1_hasPoint : GoodIn wsX8_between wsX1_hasPoint := goodIn_r _ [6, 7, 22, 23, 24, 25, 26, 27, 28, 29, 30, 31, 32] (by decide +kernel) (by decide +kernel)
set_option maxRecDepth 20000 in
theorem gX8_between_X1_hasPoint : GoodIn wsX8_between (wsV RX8 110 RX1 yX1_hasPoint wsX1_hasPoint) := goodIn_app (goodIn_of _ (by decide +kernel)) ggX8_between_X1_hasPoint
set_option maxRecDepth 20000 in
theorem ggX8_between_X1_joining : GoodIn wsX8_between wsX1_joining := goodIn_r _ [11, 12, 22, 23, 24, 25, 26, 27, 28, 29, 30, 31, 32] (by decide +kernel) (by decide +kernel)
set_option maxRecDepth 20000 in
theorem gX8_between_X1_joining : GoodIn wsX8_between (wsV RX8 113 RX1 yX1_joining wsX1_joining) := goodIn_app (goodIn_of _ (by decide +kernel)) ggX8_between_X1_joining
theorem dX8_between_0 : decode cX8_between 0 = .ok (.aload_n 0, 1) := by decide +kernel
theorem dX8_between_1 : decode cX8_between 1 = .ok (.getfield 12, 3) := by decide +kernel
theorem dX8_between_4 : decode cX8_between 4 = .ok (.iload_n 1, 1) := by decide +kernel
theorem dX8_between_5 : decode cX8_between 5 = .ok (.invokevirtual 110, 3) := by decide +kernel
theorem dX8_between_8 : decode cX8_between 8 = .ok (.ifCond .eq 19, 3) := by decide +kernel
theorem dX8_between_11 : decode cX8_between 11 = .ok (.aload_n 0, 1) := by decide +kernel
theorem dX8_between_12 : decode cX8_between 12 = .ok (.getfield 12, 3) := by decide +kernel
theorem dX8_between_15 : decode cX8_between 15 = .ok (.iload_n 2, 1) := by decide +kernel
theorem dX8_between_16 : decode cX8_between 16 = .ok (.invokevirtual 110, 3) := by decide +kernel
theorem dX8_between_19 : decode cX8_between 19 = .ok (.ifCond .eq 8, 3) := by decide +kernel
theorem dX8_between_22 : decode cX8_between 22 = .ok (.iload_n 1, 1) := by decide +kernel
theorem dX8_between_23 : decode cX8_between 23 = .ok (.iload_n 2, 1) := by decide +kernel
theorem dX8_between_24 : decode cX8_between 24 = .ok (.if_icmp .ne 6, 3) := by decide +kernel
theorem dX8_between_27 : decode cX8_between 27 = .ok (.bipush (-2), 2) := by decide +kernel
theorem dX8_between_29 : decode cX8_between 29 = .ok (.ireturn, 1) := by decide +kernel
theorem dX8_between_30 : decode cX8_between 30 = .ok (.aload_n 0, 1) := by decide +kernel
theorem dX8_between_31 : decode cX8_between 31 = .ok (.getfield 12, 3) := by decide +kernel
theorem dX8_between_34 : decode cX8_between 34 = .ok (.iload_n 1, 1) := by decide +kernel
theorem dX8_between_35 : decode cX8_between 35 = .ok (.iload_n 2, 1) := by decide +kernel
theorem dX8_between_36 : decode cX8_between 36 = .ok (.invokevirtual 113, 3) := by decide +kernel
theorem dX8_between_39 : decode cX8_between 39 = .ok (.ireturn, 1) := by decide +kernel
set_option maxRecDepth 20000 in
theorem ggX8_near_X1_hasPoint : GoodIn wsX8_near wsX1_hasPoint := goodIn_r _ [7, 8, 25, 26, 27, 28, 29, 30, 31, 32, 33, 34, 35] (by decide +kernel) (by decide +kernel)
set_option maxRecDepth 20000 in
theorem gX8_near_X1_hasPoint : GoodIn wsX8_near (wsV RX8 110 RX1 yX1_hasPoint wsX1_hasPoint) := goodIn_app (goodIn_of _ (by decide +kernel)) ggX8_near_X1_hasPoint
set_option maxRecDepth 20000 in
theorem ggX8_near_X8_isNoSet : GoodIn wsX8_near wsX8_isNoSet := goodIn_r _ [12, 13, 14, 11, 15] (by decide +kernel) (by decide +kernel)
set_option maxRecDepth 20000 in
theorem gX8_near_X8_isNoSet : GoodIn wsX8_near (va_wsS RX8 117 yX8_isNoSet wsX8_isNoSet) := goodIn_app (goodIn_of _ (by decide +kernel)) ggX8_near_X8_isNoSet
theorem dX8_near_0 : decode cX8_near 0 = .ok (.aload_n 0, 1) := by decide +kernel
theorem dX8_near_1 : decode cX8_near 1 = .ok (.getfield 12, 3) := by decide +kernel
theorem dX8_near_4 : decode cX8_near 4 = .ok (.iload_n 1, 1) := by decide +kernel
theorem dX8_near_5 : decode cX8_near 5 = .ok (.invokevirtual 110, 3) := by decide +kernel
theorem dX8_near_8 : decode cX8_near 8 = .ok (.ifCond .eq 10, 3) := by decide +kernel
theorem dX8_near_11 : decode cX8_near 11 = .ok (.iload_n 2, 1) := by decide +kernel
theorem dX8_near_12 : decode cX8_near 12 = .ok (.invokestatic 117, 3) := by decide +kernel
theorem dX8_near_15 : decode cX8_near 15 = .ok (.ifCond .eq 6, 3) := by decide +kernel
theorem dX8_near_18 : decode cX8_near 18 = .ok (.bipush (-2), 2) := by decide +kernel
theorem dX8_near_20 : decode cX8_near 20 = .ok (.ireturn, 1) := by decide +kernel
theorem dX8_near_21 : decode cX8_near 21 = .ok (.aload_n 0, 1) := by decide +kernel
theorem dX8_near_22 : decode cX8_near 22 = .ok (.getfield 12, 3) := by decide +kernel
theorem dX8_near_25 : decode cX8_near 25 = .ok (.getfield 120, 3) := by decide +kernel
theorem dX8_near_28 : decode cX8_near 28 = .ok (.iload_n 1, 1) := by decide +kernel
theorem dX8_near_29 : decode cX8_near 29 = .ok (.iaload, 1) := by decide +kernel
theorem dX8_near_30 : decode cX8_near 30 = .ok (.iload_n 2, 1) := by decide +kernel
theorem dX8_near_31 : decode cX8_near 31 = .ok (.iconst (-1), 1) := by decide +kernel
theorem dX8_near_32 : decode cX8_near 32 = .ok (.ixor, 1) := by decide +kernel
theorem dX8_near_33 : decode cX8_near 33 = .ok (.iand, 1) := by decide +kernel
theorem dX8_near_34 : decode cX8_near 34 = .ok (.ireturn, 1) := by decide +kernel
set_option maxRecDepth 20000 in
theorem ggX8_counts_X8_isNoSet : GoodIn wsX8_counts wsX8_isNoSet := goodIn_r _ [8, 9, 10, 7, 11] (by decide +kernel) (by decide +kernel)
set_option maxRecDepth 20000 in
theorem gX8_counts_X8_isNoSet : GoodIn wsX8_counts (va_wsS RX8 117 yX8_isNoSet wsX8_isNoSet) := goodIn_app (goodIn_of _ (by decide +kernel)) ggX8_counts_X8_isNoSet
set_option maxRecDepth 20000 in
theorem ggX8_counts_X8_isBeyond : GoodIn wsX8_counts wsX8_isBeyond := goodIn_r _ [11] (by decide +kernel) (by decide +kernel)
set_option maxRecDepth 20000 in
theorem gX8_counts_X8_isBeyond : GoodIn wsX8_counts (va_wsS RX8 61 yX8_isBeyond wsX8_isBeyond) := goodIn_app (goodIn_of _ (by decide +kernel)) ggX8_counts_X8_isBeyond
set_option maxRecDepth 20000 in
theorem ggX8_counts_X8_rowOf : GoodIn wsX8_counts wsX8_rowOf := goodIn_r _ [15, 2, 16, 17, 18, 19, 20, 21, 22, 23, 24, 25, 26, 27, 28, 29, 30, 31, 32, 33, 34, 35, 36, 37, 38, 39, 40, 41, 42, 43, 44, 45, 46, 47, 48, 49, 50, 51, 7, 52, 53, 54, 55, 56, 57, 58, 59, 60, 61, 62, 63, 64, 65, 66, 67, 68, 69, 70, 71, 72, 73, 74, 75, 76, 77, 78, 79, 80, 81, 82, 83, 84, 85, 86, 87, 88, 89, 90, 91, 92, 93, 94, 95, 96, 97, 98, 99, 100, 101, 102, 103, 108, 109, 110, 111, 112, 113, 114, 115, 116, 117, 118, 119, 120, 121, 122, 123, 124, 125, 126, 127, 128, 129, 130, 131, 132, 133, 134, 135, 136] (by decide +kernel) (by decide +kernel)
set_option maxRecDepth 20000 in
theorem gX8_counts_X8_rowOf : GoodIn wsX8_counts (wsV RX8 125 RX8 yX8_rowOf wsX8_rowOf) := goodIn_app (goodIn_of _ (by decide +kernel)) ggX8_counts_X8_rowOf
set_option maxRecDepth 20000 in
theorem ggX8_counts_X4_isMuch : GoodIn wsX8_counts wsX4_isMuch := goodIn_r _ [107, 68, 117, 118, 119, 120, 121, 122, 123, 124, 125] (by decide +kernel) (by decide +kernel)
set_option maxRecDepth 20000 in
theorem gX8_counts_X4_isMuch : GoodIn wsX8_counts (wsV RX8 128 RX4 yX4_isMuch wsX4_isMuch) := goodIn_app (goodIn_of _ (by decide +kernel)) ggX8_counts_X4_isMuch
theorem dX8_counts_0 : decode cX8_counts 0 = .ok (.iload_n 1, 1) := by decide +kernel
theorem dX8_counts_1 : decode cX8_counts 1 = .ok (.invokestatic 117, 3) := by decide +kernel
theorem dX8_counts_4 : decode cX8_counts 4 = .ok (.ifCond .ne 13, 3) := by decide +kernel
theorem dX8_counts_7 : decode cX8_counts 7 = .ok (.iload_n 2, 1) := by decide +kernel
theorem dX8_counts_8 : decode cX8_counts 8 = .ok (.iconst 0, 1) := by decide +kernel
theorem dX8_counts_9 : decode cX8_counts 9 = .ok (.bipush 6, 2) := by decide +kernel
theorem dX8_counts_11 : decode cX8_counts 11 = .ok (.invokestatic 61, 3) := by decide +kernel
theorem dX8_counts_14 : decode cX8_counts 14 = .ok (.ifCond .eq 7, 3) := by decide +kernel
theorem dX8_counts_17 : decode cX8_counts 17 = .ok (.ldc2_w 123, 3) := by decide +kernel
theorem dX8_counts_20 : decode cX8_counts 20 = .ok (.lreturn, 1) := by decide +kernel
theorem dX8_counts_21 : decode cX8_counts 21 = .ok (.aload_n 0, 1) := by decide +kernel
theorem dX8_counts_22 : decode cX8_counts 22 = .ok (.iload_n 1, 1) := by decide +kernel
theorem dX8_counts_23 : decode cX8_counts 23 = .ok (.invokevirtual 125, 3) := by decide +kernel
theorem dX8_counts_26 : decode cX8_counts 26 = .ok (.istore_n 3, 1) := by decide +kernel
theorem dX8_counts_27 : decode cX8_counts 27 = .ok (.aload_n 0, 1) := by decide +kernel
theorem dX8_counts_28 : decode cX8_counts 28 = .ok (.getfield 26, 3) := by decide +kernel
theorem dX8_counts_31 : decode cX8_counts 31 = .ok (.iload_n 3, 1) := by decide +kernel
theorem dX8_counts_32 : decode cX8_counts 32 = .ok (.invokevirtual 128, 3) := by decide +kernel
theorem dX8_counts_35 : decode cX8_counts 35 = .ok (.ifCond .eq 9, 3) := by decide +kernel
theorem dX8_counts_38 : decode cX8_counts 38 = .ok (.ldc2_w 131, 3) := by decide +kernel
theorem dX8_counts_41 : decode cX8_counts 41 = .ok (.goto 14, 3) := by decide +kernel
theorem dX8_counts_44 : decode cX8_counts 44 = .ok (.aload_n 0, 1) := by decide +kernel
theorem dX8_counts_45 : decode cX8_counts 45 = .ok (.getfield 26, 3) := by decide +kernel
theorem dX8_counts_48 : decode cX8_counts 48 = .ok (.getfield 133, 3) := by decide +kernel
theorem dX8_counts_51 : decode cX8_counts 51 = .ok (.iload_n 3, 1) := by decide +kernel
theorem dX8_counts_52 : decode cX8_counts 52 = .ok (.iload_n 2, 1) := by decide +kernel
theorem dX8_counts_53 : decode cX8_counts 53 = .ok (.iadd, 1) := by decide +kernel
theorem dX8_counts_54 : decode cX8_counts 54 = .ok (.laload, 1) := by decide +kernel
theorem dX8_counts_55 : decode cX8_counts 55 = .ok (.lreturn, 1) := by decide +kernel
set_option maxRecDepth 20000 in
theorem ggX8_coef_X8_isNoSet : GoodIn wsX8_coef wsX8_isNoSet := goodIn_r _ [7, 8, 9, 6, 10] (by decide +kernel) (by decide +kernel)
set_option maxRecDepth 20000 in
theorem gX8_coef_X8_isNoSet : GoodIn wsX8_coef (va_wsS RX8 117 yX8_isNoSet wsX8_isNoSet) := goodIn_app (goodIn_of _ (by decide +kernel)) ggX8_coef_X8_isNoSet
set_option maxRecDepth 20000 in
theorem ggX8_coef_X8_isBeyond : GoodIn wsX8_coef wsX8_isBeyond := goodIn_r _ [10] (by decide +kernel) (by decide +kernel)
set_option maxRecDepth 20000 in
theorem gX8_coef_X8_isBeyond : GoodIn wsX8_coef (va_wsS RX8 61 yX8_isBeyond wsX8_isBeyond) := goodIn_app (goodIn_of _ (by decide +kernel)) ggX8_coef_X8_isBeyond
set_option maxRecDepth 20000 in
theorem ggX8_coef_X8_rowOf : GoodIn wsX8_coef wsX8_rowOf := goodIn_r _ [14, 2, 15, 16, 17, 18, 19, 20, 21, 22, 23, 24, 25, 26, 27, 28, 29, 30, 31, 32, 33, 34, 35, 36, 37, 38, 39, 40, 41, 42, 43, 44, 45, 46, 47, 48, 49, 50, 6, 51, 52, 53, 54, 55, 56, 57, 58, 59, 60, 61, 62, 63, 64, 65, 66, 67, 68, 69, 70, 71, 72, 73, 74, 75, 76, 77, 78, 79, 80, 81, 82, 83, 84, 85, 86, 87, 88, 89, 90, 91, 92, 93, 94, 95, 96, 97, 98, 99, 100, 101, 102, 116, 117, 118, 119, 120, 121, 122, 123, 124, 125, 126, 127, 128, 129, 130, 131, 132, 133, 134, 135, 136, 137, 138, 139, 140, 141, 142, 143, 144] (by decide +kernel) (by decide +kernel)
set_option maxRecDepth 20000 in
theorem gX8_coef_X8_rowOf : GoodIn wsX8_coef (wsV RX8 125 RX8 yX8_rowOf wsX8_rowOf) := goodIn_app (goodIn_of _ (by decide +kernel)) ggX8_coef_X8_rowOf
set_option maxRecDepth 20000 in
theorem ggX8_coef_X4_isMuch : GoodIn wsX8_coef wsX4_isMuch := goodIn_r _ [106, 67, 125, 126, 127, 128, 129, 130, 131, 132, 133] (by decide +kernel) (by decide +kernel)
set_option maxRecDepth 20000 in
theorem gX8_coef_X4_isMuch : GoodIn wsX8_coef (wsV RX8 128 RX4 yX4_isMuch wsX4_isMuch) := goodIn_app (goodIn_of _ (by decide +kernel)) ggX8_coef_X4_isMuch
set_option maxRecDepth 20000 in
theorem ggX8_coef_X8_degreeOf : GoodIn wsX8_coef wsX8_degreeOf := goodIn_r _ [110, 15, 56, 29, 30, 31, 32, 33, 111, 80, 81, 82, 83, 84, 85, 116, 117, 118, 119, 120, 121, 122, 123, 124, 134, 135, 136, 137, 138, 139, 140, 141, 142, 143, 144] (by decide +kernel) (by decide +kernel)
set_option maxRecDepth 20000 in
theorem gX8_coef_X8_degreeOf : GoodIn wsX8_coef (wsV RX8 137 RX8 yX8_degreeOf wsX8_degreeOf) := goodIn_app (goodIn_of _ (by decide +kernel)) ggX8_coef_X8_degreeOf
set_option maxRecDepth 20000 in
theorem ggX8_coef_X4_numberAt : GoodIn wsX8_coef wsX4_numberAt := goodIn_r _ [115, 67, 125, 126, 127, 128, 129, 130, 131, 132, 133] (by decide +kernel) (by decide +kernel)
set_option maxRecDepth 20000 in
theorem gX8_coef_X4_numberAt : GoodIn wsX8_coef (wsV RX8 140 RX4 yX4_numberAt wsX4_numberAt) := goodIn_app (goodIn_of _ (by decide +kernel)) ggX8_coef_X4_numberAt
theorem dX8_coef_0 : decode cX8_coef 0 = .ok (.iload_n 1, 1) := by decide +kernel
theorem dX8_coef_1 : decode cX8_coef 1 = .ok (.invokestatic 117, 3) := by decide +kernel
theorem dX8_coef_4 : decode cX8_coef 4 = .ok (.ifCond .ne 13, 3) := by decide +kernel
theorem dX8_coef_7 : decode cX8_coef 7 = .ok (.iload_n 2, 1) := by decide +kernel
theorem dX8_coef_8 : decode cX8_coef 8 = .ok (.iconst 0, 1) := by decide +kernel
theorem dX8_coef_9 : decode cX8_coef 9 = .ok (.bipush 12, 2) := by decide +kernel
theorem dX8_coef_11 : decode cX8_coef 11 = .ok (.invokestatic 61, 3) := by decide +kernel
theorem dX8_coef_14 : decode cX8_coef 14 = .ok (.ifCond .eq 7, 3) := by decide +kernel
theorem dX8_coef_17 : decode cX8_coef 17 = .ok (.ldc2_w 123, 3) := by decide +kernel
theorem dX8_coef_20 : decode cX8_coef 20 = .ok (.lreturn, 1) := by decide +kernel
theorem dX8_coef_21 : decode cX8_coef 21 = .ok (.aload_n 0, 1) := by decide +kernel
theorem dX8_coef_22 : decode cX8_coef 22 = .ok (.iload_n 1, 1) := by decide +kernel
theorem dX8_coef_23 : decode cX8_coef 23 = .ok (.invokevirtual 125, 3) := by decide +kernel
theorem dX8_coef_26 : decode cX8_coef 26 = .ok (.istore_n 3, 1) := by decide +kernel
theorem dX8_coef_27 : decode cX8_coef 27 = .ok (.aload_n 0, 1) := by decide +kernel
theorem dX8_coef_28 : decode cX8_coef 28 = .ok (.getfield 26, 3) := by decide +kernel
theorem dX8_coef_31 : decode cX8_coef 31 = .ok (.iload_n 3, 1) := by decide +kernel
theorem dX8_coef_32 : decode cX8_coef 32 = .ok (.invokevirtual 128, 3) := by decide +kernel
theorem dX8_coef_35 : decode cX8_coef 35 = .ok (.ifCond .eq 9, 3) := by decide +kernel
theorem dX8_coef_38 : decode cX8_coef 38 = .ok (.ldc2_w 131, 3) := by decide +kernel
theorem dX8_coef_41 : decode cX8_coef 41 = .ok (.goto 17, 3) := by decide +kernel
theorem dX8_coef_44 : decode cX8_coef 44 = .ok (.aload_n 0, 1) := by decide +kernel
theorem dX8_coef_45 : decode cX8_coef 45 = .ok (.getfield 26, 3) := by decide +kernel
theorem dX8_coef_48 : decode cX8_coef 48 = .ok (.iload_n 3, 1) := by decide +kernel
theorem dX8_coef_49 : decode cX8_coef 49 = .ok (.aload_n 0, 1) := by decide +kernel
theorem dX8_coef_50 : decode cX8_coef 50 = .ok (.iload_n 1, 1) := by decide +kernel
theorem dX8_coef_51 : decode cX8_coef 51 = .ok (.invokevirtual 137, 3) := by decide +kernel
theorem dX8_coef_54 : decode cX8_coef 54 = .ok (.iload_n 2, 1) := by decide +kernel
theorem dX8_coef_55 : decode cX8_coef 55 = .ok (.invokevirtual 140, 3) := by decide +kernel
theorem dX8_coef_58 : decode cX8_coef 58 = .ok (.lreturn, 1) := by decide +kernel
set_option maxRecDepth 20000 in
theorem ggX8_sum_X8_isNoSet : GoodIn wsX8_sum wsX8_isNoSet := goodIn_r _ [9, 10, 11, 8, 12] (by decide +kernel) (by decide +kernel)
set_option maxRecDepth 20000 in
theorem gX8_sum_X8_isNoSet : GoodIn wsX8_sum (va_wsS RX8 117 yX8_isNoSet wsX8_isNoSet) := goodIn_app (goodIn_of _ (by decide +kernel)) ggX8_sum_X8_isNoSet
set_option maxRecDepth 20000 in
theorem ggX8_sum_X8_isNoRate : GoodIn wsX8_sum wsX8_isNoRate := goodIn_r _ [15, 10, 11, 8, 12] (by decide +kernel) (by decide +kernel)
set_option maxRecDepth 20000 in
theorem gX8_sum_X8_isNoRate : GoodIn wsX8_sum (va_wsS RX8 144 yX8_isNoRate wsX8_isNoRate) := goodIn_app (goodIn_of _ (by decide +kernel)) ggX8_sum_X8_isNoRate
set_option maxRecDepth 20000 in
theorem ggX8_sum_X8_rowOf : GoodIn wsX8_sum wsX8_rowOf := goodIn_r _ [19, 3, 20, 21, 22, 23, 24, 25, 26, 27, 28, 29, 30, 31, 32, 33, 34, 35, 36, 37, 38, 39, 40, 41, 42, 43, 44, 45, 46, 47, 48, 49, 50, 51, 52, 53, 54, 55, 8, 56, 57, 58, 59, 60, 61, 62, 63, 64, 65, 66, 67, 68, 69, 70, 71, 72, 73, 74, 75, 76, 77, 78, 79, 80, 81, 82, 83, 84, 85, 86, 87, 88, 89, 90, 91, 92, 93, 94, 95, 96, 97, 98, 99, 100, 101, 102, 103, 104, 105, 106, 107, 125, 126, 127, 128, 129, 130, 131, 132, 133, 138, 139, 140, 141, 142, 143, 144, 145, 146, 147, 148, 149, 150, 151, 152, 153, 154, 155, 156, 157] (by decide +kernel) (by decide +kernel)
set_option maxRecDepth 20000 in
theorem gX8_sum_X8_rowOf : GoodIn wsX8_sum (wsV RX8 125 RX8 yX8_rowOf wsX8_rowOf) := goodIn_app (goodIn_of _ (by decide +kernel)) ggX8_sum_X8_rowOf
set_option maxRecDepth 20000 in
theorem ggX8_sum_X5_load : GoodIn wsX8_sum wsX5_load := goodIn_r _ [112, 113, 114, 115, 116, 117, 118, 119, 120, 121, 24, 122, 72, 123, 100, 101, 102, 103, 104, 124, 106, 107, 134, 135, 136, 137, 138, 139, 140, 141, 142, 143, 144, 145, 146] (by decide +kernel) (by decide +kernel)
set_option maxRecDepth 20000 in
theorem gX8_sum_X5_load : GoodIn wsX8_sum (wsV RX8 147 RX5 yX5_load wsX5_load) := goodIn_app (goodIn_of _ (by decide +kernel)) ggX8_sum_X5_load
theorem dX8_sum_0 : decode cX8_sum 0 = .ok (.iload_n 1, 1) := by decide +kernel
theorem dX8_sum_1 : decode cX8_sum 1 = .ok (.invokestatic 117, 3) := by decide +kernel
theorem dX8_sum_4 : decode cX8_sum 4 = .ok (.ifCond .ne 10, 3) := by decide +kernel
theorem dX8_sum_7 : decode cX8_sum 7 = .ok (.iload_n 2, 1) := by decide +kernel
theorem dX8_sum_8 : decode cX8_sum 8 = .ok (.invokestatic 144, 3) := by decide +kernel
theorem dX8_sum_11 : decode cX8_sum 11 = .ok (.ifCond .eq 7, 3) := by decide +kernel
theorem dX8_sum_14 : decode cX8_sum 14 = .ok (.ldc2_w 123, 3) := by decide +kernel
theorem dX8_sum_17 : decode cX8_sum 17 = .ok (.lreturn, 1) := by decide +kernel
theorem dX8_sum_18 : decode cX8_sum 18 = .ok (.aload_n 0, 1) := by decide +kernel
theorem dX8_sum_19 : decode cX8_sum 19 = .ok (.getfield 33, 3) := by decide +kernel
theorem dX8_sum_22 : decode cX8_sum 22 = .ok (.aload_n 0, 1) := by decide +kernel
theorem dX8_sum_23 : decode cX8_sum 23 = .ok (.getfield 26, 3) := by decide +kernel
theorem dX8_sum_26 : decode cX8_sum 26 = .ok (.aload_n 0, 1) := by decide +kernel
theorem dX8_sum_27 : decode cX8_sum 27 = .ok (.iload_n 1, 1) := by decide +kernel
theorem dX8_sum_28 : decode cX8_sum 28 = .ok (.invokevirtual 125, 3) := by decide +kernel
theorem dX8_sum_31 : decode cX8_sum 31 = .ok (.iload_n 2, 1) := by decide +kernel
theorem dX8_sum_32 : decode cX8_sum 32 = .ok (.invokevirtual 147, 3) := by decide +kernel
theorem dX8_sum_35 : decode cX8_sum 35 = .ok (.aload_n 0, 1) := by decide +kernel
theorem dX8_sum_36 : decode cX8_sum 36 = .ok (.getfield 33, 3) := by decide +kernel
theorem dX8_sum_39 : decode cX8_sum 39 = .ok (.getfield 151, 3) := by decide +kernel
theorem dX8_sum_42 : decode cX8_sum 42 = .ok (.lconst 0, 1) := by decide +kernel
theorem dX8_sum_43 : decode cX8_sum 43 = .ok (.lcmp, 1) := by decide +kernel
theorem dX8_sum_44 : decode cX8_sum 44 = .ok (.ifCond .ge 9, 3) := by decide +kernel
theorem dX8_sum_47 : decode cX8_sum 47 = .ok (.ldc2_w 131, 3) := by decide +kernel
theorem dX8_sum_50 : decode cX8_sum 50 = .ok (.goto 10, 3) := by decide +kernel
theorem dX8_sum_53 : decode cX8_sum 53 = .ok (.aload_n 0, 1) := by decide +kernel
theorem dX8_sum_54 : decode cX8_sum 54 = .ok (.getfield 33, 3) := by decide +kernel
theorem dX8_sum_57 : decode cX8_sum 57 = .ok (.getfield 151, 3) := by decide +kernel
theorem dX8_sum_60 : decode cX8_sum 60 = .ok (.lreturn, 1) := by decide +kernel
set_option maxRecDepth 20000 in
theorem ggX8_likely_X8_isNoSet : GoodIn wsX8_likely wsX8_isNoSet := goodIn_r _ [6, 7, 8, 5, 9] (by decide +kernel) (by decide +kernel)
set_option maxRecDepth 20000 in
theorem gX8_likely_X8_isNoSet : GoodIn wsX8_likely (va_wsS RX8 117 yX8_isNoSet wsX8_isNoSet) := goodIn_app (goodIn_of _ (by decide +kernel)) ggX8_likely_X8_isNoSet
set_option maxRecDepth 20000 in
theorem ggX8_likely_X8_isNoRate : GoodIn wsX8_likely wsX8_isNoRate := goodIn_r _ [12, 7, 8, 5, 9] (by decide +kernel) (by decide +kernel)
set_option maxRecDepth 20000 in
theorem gX8_likely_X8_isNoRate : GoodIn wsX8_likely (va_wsS RX8 144 yX8_isNoRate wsX8_isNoRate) := goodIn_app (goodIn_of _ (by decide +kernel)) ggX8_likely_X8_isNoRate
set_option maxRecDepth 20000 in
theorem ggX8_likely_X8_rowOf : GoodIn wsX8_likely wsX8_rowOf := goodIn_r _ [16, 2, 17, 18, 19, 20, 21, 22, 23, 24, 25, 26, 27, 28, 29, 30, 31, 32, 33, 34, 35, 36, 37, 38, 39, 40, 41, 42, 43, 44, 45, 46, 47, 48, 49, 50, 51, 52, 5, 53, 54, 55, 56, 57, 58, 59, 60, 61, 62, 63, 64, 65, 66, 67, 68, 69, 70, 71, 72, 73, 74, 75, 76, 77, 78, 79, 80, 81, 82, 83, 84, 85, 86, 87, 88, 89, 90, 91, 92, 93, 94, 95, 96, 97, 98, 99, 100, 101, 102, 103, 104, 126, 127, 128, 129, 130, 131, 132, 133, 134, 135, 136, 137, 138, 139, 140, 141, 142, 143, 144, 145, 146, 147, 148, 149, 150, 151, 152, 153, 154] (by decide +kernel) (by decide +kernel)
set_option maxRecDepth 20000 in
theorem gX8_likely_X8_rowOf : GoodIn wsX8_likely (wsV RX8 125 RX8 yX8_rowOf wsX8_rowOf) := goodIn_app (goodIn_of _ (by decide +kernel)) ggX8_likely_X8_rowOf
set_option maxRecDepth 20000 in
theorem ggX8_likely_X5_load : GoodIn wsX8_likely wsX5_load := goodIn_r _ [109, 110, 111, 112, 113, 114, 115, 116, 117, 118, 21, 119, 69, 120, 97, 98, 99, 100, 101, 121, 103, 104, 155, 156, 157, 158, 135, 136, 137, 138, 139, 140, 141, 142, 143] (by decide +kernel) (by decide +kernel)
set_option maxRecDepth 20000 in
theorem gX8_likely_X5_load : GoodIn wsX8_likely (wsV RX8 147 RX5 yX5_load wsX5_load) := goodIn_app (goodIn_of _ (by decide +kernel)) ggX8_likely_X5_load
set_option maxRecDepth 20000 in
theorem ggX8_likely_X5_greatest : GoodIn wsX8_likely wsX5_greatest := goodIn_r _ [125, 114, 155, 156, 157, 158] (by decide +kernel) (by decide +kernel)
set_option maxRecDepth 20000 in
theorem gX8_likely_X5_greatest : GoodIn wsX8_likely (wsV RX8 155 RX5 yX5_greatest wsX5_greatest) := goodIn_app (goodIn_of _ (by decide +kernel)) ggX8_likely_X5_greatest
theorem dX8_likely_0 : decode cX8_likely 0 = .ok (.iload_n 1, 1) := by decide +kernel
theorem dX8_likely_1 : decode cX8_likely 1 = .ok (.invokestatic 117, 3) := by decide +kernel
theorem dX8_likely_4 : decode cX8_likely 4 = .ok (.ifCond .ne 10, 3) := by decide +kernel
theorem dX8_likely_7 : decode cX8_likely 7 = .ok (.iload_n 2, 1) := by decide +kernel
theorem dX8_likely_8 : decode cX8_likely 8 = .ok (.invokestatic 144, 3) := by decide +kernel
theorem dX8_likely_11 : decode cX8_likely 11 = .ok (.ifCond .eq 6, 3) := by decide +kernel
theorem dX8_likely_14 : decode cX8_likely 14 = .ok (.bipush (-2), 2) := by decide +kernel
theorem dX8_likely_16 : decode cX8_likely 16 = .ok (.ireturn, 1) := by decide +kernel
theorem dX8_likely_17 : decode cX8_likely 17 = .ok (.aload_n 0, 1) := by decide +kernel
theorem dX8_likely_18 : decode cX8_likely 18 = .ok (.getfield 33, 3) := by decide +kernel
theorem dX8_likely_21 : decode cX8_likely 21 = .ok (.aload_n 0, 1) := by decide +kernel
theorem dX8_likely_22 : decode cX8_likely 22 = .ok (.getfield 26, 3) := by decide +kernel
theorem dX8_likely_25 : decode cX8_likely 25 = .ok (.aload_n 0, 1) := by decide +kernel
theorem dX8_likely_26 : decode cX8_likely 26 = .ok (.iload_n 1, 1) := by decide +kernel
theorem dX8_likely_27 : decode cX8_likely 27 = .ok (.invokevirtual 125, 3) := by decide +kernel
theorem dX8_likely_30 : decode cX8_likely 30 = .ok (.iload_n 2, 1) := by decide +kernel
theorem dX8_likely_31 : decode cX8_likely 31 = .ok (.invokevirtual 147, 3) := by decide +kernel
theorem dX8_likely_34 : decode cX8_likely 34 = .ok (.aload_n 0, 1) := by decide +kernel
theorem dX8_likely_35 : decode cX8_likely 35 = .ok (.getfield 33, 3) := by decide +kernel
theorem dX8_likely_38 : decode cX8_likely 38 = .ok (.invokevirtual 155, 3) := by decide +kernel
theorem dX8_likely_41 : decode cX8_likely 41 = .ok (.ireturn, 1) := by decide +kernel
set_option maxRecDepth 20000 in
theorem ggX8_mean_X8_isNoSet : GoodIn wsX8_mean wsX8_isNoSet := goodIn_r _ [9, 10, 11, 8, 12] (by decide +kernel) (by decide +kernel)
set_option maxRecDepth 20000 in
theorem gX8_mean_X8_isNoSet : GoodIn wsX8_mean (va_wsS RX8 117 yX8_isNoSet wsX8_isNoSet) := goodIn_app (goodIn_of _ (by decide +kernel)) ggX8_mean_X8_isNoSet
set_option maxRecDepth 20000 in
theorem ggX8_mean_X8_isNoRate : GoodIn wsX8_mean wsX8_isNoRate := goodIn_r _ [15, 10, 11, 8, 12] (by decide +kernel) (by decide +kernel)
set_option maxRecDepth 20000 in
theorem gX8_mean_X8_isNoRate : GoodIn wsX8_mean (va_wsS RX8 144 yX8_isNoRate wsX8_isNoRate) := goodIn_app (goodIn_of _ (by decide +kernel)) ggX8_mean_X8_isNoRate
set_option maxRecDepth 20000 in
theorem ggX8_mean_X8_isNoPart : GoodIn wsX8_mean wsX8_isNoPart := goodIn_r _ [18, 10, 11, 8, 12] (by decide +kernel) (by decide +kernel)
set_option maxRecDepth 20000 in
theorem gX8_mean_X8_isNoPart : GoodIn wsX8_mean (va_wsS RX8 159 yX8_isNoPart wsX8_isNoPart) := goodIn_app (goodIn_of _ (by decide +kernel)) ggX8_mean_X8_isNoPart
set_option maxRecDepth 20000 in
theorem ggX8_mean_X8_rowOf : GoodIn wsX8_mean wsX8_rowOf := goodIn_r _ [22, 3, 23, 24, 25, 26, 27, 28, 29, 30, 31, 32, 33, 34, 35, 36, 37, 38, 39, 40, 41, 42, 43, 44, 45, 46, 47, 48, 49, 50, 51, 52, 53, 54, 55, 56, 57, 58, 8, 59, 60, 61, 62, 63, 64, 65, 66, 67, 68, 69, 70, 71, 72, 73, 74, 75, 76, 77, 78, 79, 80, 81, 82, 83, 84, 85, 86, 87, 88, 89, 90, 91, 92, 93, 94, 95, 96, 97, 98, 99, 100, 101, 102, 103, 104, 105, 106, 107, 108, 109, 110, 135, 136, 137, 138, 139, 140, 141, 142, 143, 148, 149, 150, 151, 152, 153, 154, 155, 156, 157, 158, 159, 160, 161, 162, 163, 164, 165, 166, 167] (by decide +kernel) (by decide +kernel)
set_option maxRecDepth 20000 in
theorem gX8_mean_X8_rowOf : GoodIn wsX8_mean (wsV RX8 125 RX8 yX8_rowOf wsX8_rowOf) := goodIn_app (goodIn_of _ (by decide +kernel)) ggX8_mean_X8_rowOf
set_option maxRecDepth 20000 in
theorem ggX8_mean_X5_load : GoodIn wsX8_mean wsX5_load := goodIn_r _ [115, 116, 117, 118, 119, 120, 121, 122, 123, 124, 27, 125, 75, 126, 103, 104, 105, 106, 107, 127, 109, 110, 144, 145, 146, 147, 148, 149, 150, 151, 152, 153, 154, 155, 156] (by decide +kernel) (by decide +kernel)
set_option maxRecDepth 20000 in
theorem gX8_mean_X5_load : GoodIn wsX8_mean (wsV RX8 147 RX5 yX5_load wsX5_load) := goodIn_app (goodIn_of _ (by decide +kernel)) ggX8_mean_X5_load
set_option maxRecDepth 20000 in
theorem ggX8_mean_X8_partOf : GoodIn wsX8_mean wsX8_partOf := goodIn_r _ [130, 131, 132, 133, 104, 134] (by decide +kernel) (by decide +kernel)
set_option maxRecDepth 20000 in
theorem gX8_mean_X8_partOf : GoodIn wsX8_mean (va_wsS RX8 165 yX8_partOf wsX8_partOf) := goodIn_app (goodIn_of _ (by decide +kernel)) ggX8_mean_X8_partOf
theorem dX8_mean_0 : decode cX8_mean 0 = .ok (.iload_n 1, 1) := by decide +kernel
theorem dX8_mean_1 : decode cX8_mean 1 = .ok (.invokestatic 117, 3) := by decide +kernel
theorem dX8_mean_4 : decode cX8_mean 4 = .ok (.ifCond .ne 17, 3) := by decide +kernel
theorem dX8_mean_7 : decode cX8_mean 7 = .ok (.iload_n 2, 1) := by decide +kernel
theorem dX8_mean_8 : decode cX8_mean 8 = .ok (.invokestatic 144, 3) := by decide +kernel
theorem dX8_mean_11 : decode cX8_mean 11 = .ok (.ifCond .ne 10, 3) := by decide +kernel
theorem dX8_mean_14 : decode cX8_mean 14 = .ok (.iload_n 3, 1) := by decide +kernel
theorem dX8_mean_15 : decode cX8_mean 15 = .ok (.invokestatic 159, 3) := by decide +kernel
theorem dX8_mean_18 : decode cX8_mean 18 = .ok (.ifCond .eq 7, 3) := by decide +kernel
theorem dX8_mean_21 : decode cX8_mean 21 = .ok (.ldc2_w 123, 3) := by decide +kernel
theorem dX8_mean_24 : decode cX8_mean 24 = .ok (.lreturn, 1) := by decide +kernel
theorem dX8_mean_25 : decode cX8_mean 25 = .ok (.aload_n 0, 1) := by decide +kernel
theorem dX8_mean_26 : decode cX8_mean 26 = .ok (.getfield 33, 3) := by decide +kernel
theorem dX8_mean_29 : decode cX8_mean 29 = .ok (.aload_n 0, 1) := by decide +kernel
theorem dX8_mean_30 : decode cX8_mean 30 = .ok (.getfield 26, 3) := by decide +kernel
theorem dX8_mean_33 : decode cX8_mean 33 = .ok (.aload_n 0, 1) := by decide +kernel
theorem dX8_mean_34 : decode cX8_mean 34 = .ok (.iload_n 1, 1) := by decide +kernel
theorem dX8_mean_35 : decode cX8_mean 35 = .ok (.invokevirtual 125, 3) := by decide +kernel
theorem dX8_mean_38 : decode cX8_mean 38 = .ok (.iload_n 2, 1) := by decide +kernel
theorem dX8_mean_39 : decode cX8_mean 39 = .ok (.invokevirtual 147, 3) := by decide +kernel
theorem dX8_mean_42 : decode cX8_mean 42 = .ok (.aload_n 0, 1) := by decide +kernel
theorem dX8_mean_43 : decode cX8_mean 43 = .ok (.getfield 33, 3) := by decide +kernel
theorem dX8_mean_46 : decode cX8_mean 46 = .ok (.getfield 162, 3) := by decide +kernel
theorem dX8_mean_49 : decode cX8_mean 49 = .ok (.aload_n 0, 1) := by decide +kernel
theorem dX8_mean_50 : decode cX8_mean 50 = .ok (.getfield 33, 3) := by decide +kernel
theorem dX8_mean_53 : decode cX8_mean 53 = .ok (.getfield 151, 3) := by decide +kernel
theorem dX8_mean_56 : decode cX8_mean 56 = .ok (.iload_n 3, 1) := by decide +kernel
theorem dX8_mean_57 : decode cX8_mean 57 = .ok (.invokestatic 165, 3) := by decide +kernel
theorem dX8_mean_60 : decode cX8_mean 60 = .ok (.lreturn, 1) := by decide +kernel
set_option maxRecDepth 20000 in
theorem ggX8_spread_X8_isNoSet : GoodIn wsX8_spread wsX8_isNoSet := goodIn_r _ [11, 12, 13, 10, 14] (by decide +kernel) (by decide +kernel)
set_option maxRecDepth 20000 in
theorem gX8_spread_X8_isNoSet : GoodIn wsX8_spread (va_wsS RX8 117 yX8_isNoSet wsX8_isNoSet) := goodIn_app (goodIn_of _ (by decide +kernel)) ggX8_spread_X8_isNoSet
set_option maxRecDepth 20000 in
theorem ggX8_spread_X8_isNoRate : GoodIn wsX8_spread wsX8_isNoRate := goodIn_r _ [17, 12, 13, 10, 14] (by decide +kernel) (by decide +kernel)
set_option maxRecDepth 20000 in
theorem gX8_spread_X8_isNoRate : GoodIn wsX8_spread (va_wsS RX8 144 yX8_isNoRate wsX8_isNoRate) := goodIn_app (goodIn_of _ (by decide +kernel)) ggX8_spread_X8_isNoRate
set_option maxRecDepth 20000 in
theorem ggX8_spread_X8_isNoPart : GoodIn wsX8_spread wsX8_isNoPart := goodIn_r _ [20, 12, 13, 10, 14] (by decide +kernel) (by decide +kernel)
set_option maxRecDepth 20000 in
theorem gX8_spread_X8_isNoPart : GoodIn wsX8_spread (va_wsS RX8 159 yX8_isNoPart wsX8_isNoPart) := goodIn_app (goodIn_of _ (by decide +kernel)) ggX8_spread_X8_isNoPart
set_option maxRecDepth 20000 in
theorem ggX8_spread_X8_rowOf : GoodIn wsX8_spread wsX8_rowOf := goodIn_r _ [24, 3, 25, 26, 27, 28, 29, 30, 31, 32, 33, 34, 35, 36, 37, 38, 39, 40, 41, 42, 43, 44, 45, 46, 47, 48, 49, 50, 51, 52, 53, 54, 55, 56, 57, 58, 59, 60, 10, 61, 62, 63, 64, 65, 66, 67, 68, 69, 70, 71, 72, 73, 74, 75, 76, 77, 78, 79, 80, 81, 82, 83, 84, 85, 86, 87, 88, 89, 90, 91, 92, 93, 94, 95, 96, 97, 98, 99, 100, 101, 102, 103, 104, 105, 106, 107, 108, 109, 110, 111, 112, 137, 138, 139, 140, 141, 142, 143, 144, 145, 150, 151, 152, 153, 154, 155, 156, 157, 158, 159, 160, 161, 162, 163, 164, 165, 166, 167, 168, 169] (by decide +kernel) (by decide +kernel)
set_option maxRecDepth 20000 in
theorem gX8_spread_X8_rowOf : GoodIn wsX8_spread (wsV RX8 125 RX8 yX8_rowOf wsX8_rowOf) := goodIn_app (goodIn_of _ (by decide +kernel)) ggX8_spread_X8_rowOf
set_option maxRecDepth 20000 in
theorem ggX8_spread_X5_load : GoodIn wsX8_spread wsX5_load := goodIn_r _ [117, 118, 119, 120, 121, 122, 123, 124, 125, 126, 29, 127, 77, 128, 105, 106, 107, 108, 109, 129, 111, 112, 146, 147, 148, 149, 150, 151, 152, 153, 154, 155, 156, 157, 158] (by decide +kernel) (by decide +kernel)
set_option maxRecDepth 20000 in
theorem gX8_spread_X5_load : GoodIn wsX8_spread (wsV RX8 147 RX5 yX5_load wsX5_load) := goodIn_app (goodIn_of _ (by decide +kernel)) ggX8_spread_X5_load
set_option maxRecDepth 20000 in
theorem ggX8_spread_X7_times : GoodIn wsX8_spread wsX7_times := goodIn_r _ [107, 108, 109] (by decide +kernel) (by decide +kernel)
set_option maxRecDepth 20000 in
theorem gX8_spread_X7_times : GoodIn wsX8_spread (va_wsS RX8 172 yX7_times wsX7_times) := goodIn_app (goodIn_of _ (by decide +kernel)) ggX8_spread_X7_times
set_option maxRecDepth 20000 in
theorem ggX8_spread_X8_partOf : GoodIn wsX8_spread wsX8_partOf := goodIn_r _ [133, 7, 134, 135, 106, 136] (by decide +kernel) (by decide +kernel)
set_option maxRecDepth 20000 in
theorem gX8_spread_X8_partOf : GoodIn wsX8_spread (va_wsS RX8 165 yX8_partOf wsX8_partOf) := goodIn_app (goodIn_of _ (by decide +kernel)) ggX8_spread_X8_partOf
theorem dX8_spread_0 : decode cX8_spread 0 = .ok (.iload_n 1, 1) := by decide +kernel
theorem dX8_spread_1 : decode cX8_spread 1 = .ok (.invokestatic 117, 3) := by decide +kernel
theorem dX8_spread_4 : decode cX8_spread 4 = .ok (.ifCond .ne 17, 3) := by decide +kernel
theorem dX8_spread_7 : decode cX8_spread 7 = .ok (.iload_n 2, 1) := by decide +kernel
theorem dX8_spread_8 : decode cX8_spread 8 = .ok (.invokestatic 144, 3) := by decide +kernel
theorem dX8_spread_11 : decode cX8_spread 11 = .ok (.ifCond .ne 10, 3) := by decide +kernel
theorem dX8_spread_14 : decode cX8_spread 14 = .ok (.iload_n 3, 1) := by decide +kernel
theorem dX8_spread_15 : decode cX8_spread 15 = .ok (.invokestatic 159, 3) := by decide +kernel
theorem dX8_spread_18 : decode cX8_spread 18 = .ok (.ifCond .eq 7, 3) := by decide +kernel
theorem dX8_spread_21 : decode cX8_spread 21 = .ok (.ldc2_w 123, 3) := by decide +kernel
theorem dX8_spread_24 : decode cX8_spread 24 = .ok (.lreturn, 1) := by decide +kernel
theorem dX8_spread_25 : decode cX8_spread 25 = .ok (.aload_n 0, 1) := by decide +kernel
theorem dX8_spread_26 : decode cX8_spread 26 = .ok (.getfield 33, 3) := by decide +kernel
theorem dX8_spread_29 : decode cX8_spread 29 = .ok (.aload_n 0, 1) := by decide +kernel
theorem dX8_spread_30 : decode cX8_spread 30 = .ok (.getfield 26, 3) := by decide +kernel
theorem dX8_spread_33 : decode cX8_spread 33 = .ok (.aload_n 0, 1) := by decide +kernel
theorem dX8_spread_34 : decode cX8_spread 34 = .ok (.iload_n 1, 1) := by decide +kernel
theorem dX8_spread_35 : decode cX8_spread 35 = .ok (.invokevirtual 125, 3) := by decide +kernel
theorem dX8_spread_38 : decode cX8_spread 38 = .ok (.iload_n 2, 1) := by decide +kernel
theorem dX8_spread_39 : decode cX8_spread 39 = .ok (.invokevirtual 147, 3) := by decide +kernel
theorem dX8_spread_42 : decode cX8_spread 42 = .ok (.aload_n 0, 1) := by decide +kernel
theorem dX8_spread_43 : decode cX8_spread 43 = .ok (.getfield 33, 3) := by decide +kernel
theorem dX8_spread_46 : decode cX8_spread 46 = .ok (.getfield 169, 3) := by decide +kernel
theorem dX8_spread_49 : decode cX8_spread 49 = .ok (.aload_n 0, 1) := by decide +kernel
theorem dX8_spread_50 : decode cX8_spread 50 = .ok (.getfield 33, 3) := by decide +kernel
theorem dX8_spread_53 : decode cX8_spread 53 = .ok (.getfield 151, 3) := by decide +kernel
theorem dX8_spread_56 : decode cX8_spread 56 = .ok (.invokestatic 172, 3) := by decide +kernel
theorem dX8_spread_59 : decode cX8_spread 59 = .ok (.lstore 4, 2) := by decide +kernel
theorem dX8_spread_61 : decode cX8_spread 61 = .ok (.aload_n 0, 1) := by decide +kernel
theorem dX8_spread_62 : decode cX8_spread 62 = .ok (.getfield 33, 3) := by decide +kernel
theorem dX8_spread_65 : decode cX8_spread 65 = .ok (.getfield 162, 3) := by decide +kernel
theorem dX8_spread_68 : decode cX8_spread 68 = .ok (.aload_n 0, 1) := by decide +kernel
theorem dX8_spread_69 : decode cX8_spread 69 = .ok (.getfield 33, 3) := by decide +kernel
theorem dX8_spread_72 : decode cX8_spread 72 = .ok (.getfield 162, 3) := by decide +kernel
theorem dX8_spread_75 : decode cX8_spread 75 = .ok (.invokestatic 172, 3) := by decide +kernel
theorem dX8_spread_78 : decode cX8_spread 78 = .ok (.lstore 6, 2) := by decide +kernel
theorem dX8_spread_80 : decode cX8_spread 80 = .ok (.aload_n 0, 1) := by decide +kernel
theorem dX8_spread_81 : decode cX8_spread 81 = .ok (.getfield 33, 3) := by decide +kernel
theorem dX8_spread_84 : decode cX8_spread 84 = .ok (.getfield 151, 3) := by decide +kernel
theorem dX8_spread_87 : decode cX8_spread 87 = .ok (.aload_n 0, 1) := by decide +kernel
theorem dX8_spread_88 : decode cX8_spread 88 = .ok (.getfield 33, 3) := by decide +kernel
theorem dX8_spread_91 : decode cX8_spread 91 = .ok (.getfield 151, 3) := by decide +kernel
theorem dX8_spread_94 : decode cX8_spread 94 = .ok (.invokestatic 172, 3) := by decide +kernel
theorem dX8_spread_97 : decode cX8_spread 97 = .ok (.lstore 8, 2) := by decide +kernel
theorem dX8_spread_99 : decode cX8_spread 99 = .ok (.lload 4, 2) := by decide +kernel
theorem dX8_spread_101 : decode cX8_spread 101 = .ok (.lconst 0, 1) := by decide +kernel
theorem dX8_spread_102 : decode cX8_spread 102 = .ok (.lcmp, 1) := by decide +kernel
theorem dX8_spread_103 : decode cX8_spread 103 = .ok (.ifCond .lt 10, 3) := by decide +kernel
theorem dX8_spread_106 : decode cX8_spread 106 = .ok (.lload 6, 2) := by decide +kernel
theorem dX8_spread_108 : decode cX8_spread 108 = .ok (.lconst 0, 1) := by decide +kernel
theorem dX8_spread_109 : decode cX8_spread 109 = .ok (.lcmp, 1) := by decide +kernel
theorem dX8_spread_110 : decode cX8_spread 110 = .ok (.ifCond .ge 7, 3) := by decide +kernel
theorem dX8_spread_113 : decode cX8_spread 113 = .ok (.ldc2_w 131, 3) := by decide +kernel
theorem dX8_spread_116 : decode cX8_spread 116 = .ok (.lreturn, 1) := by decide +kernel
theorem dX8_spread_117 : decode cX8_spread 117 = .ok (.lload 4, 2) := by decide +kernel
theorem dX8_spread_119 : decode cX8_spread 119 = .ok (.lload 6, 2) := by decide +kernel
theorem dX8_spread_121 : decode cX8_spread 121 = .ok (.lsub, 1) := by decide +kernel
theorem dX8_spread_122 : decode cX8_spread 122 = .ok (.lload 8, 2) := by decide +kernel
theorem dX8_spread_124 : decode cX8_spread 124 = .ok (.iload_n 3, 1) := by decide +kernel
theorem dX8_spread_125 : decode cX8_spread 125 = .ok (.invokestatic 165, 3) := by decide +kernel
theorem dX8_spread_128 : decode cX8_spread 128 = .ok (.lreturn, 1) := by decide +kernel
set_option maxRecDepth 20000 in
theorem ggX8_meanAs_X8_isNoSet : GoodIn wsX8_meanAs wsX8_isNoSet := goodIn_r _ [10, 11, 12, 9, 13] (by decide +kernel) (by decide +kernel)
set_option maxRecDepth 20000 in
theorem gX8_meanAs_X8_isNoSet : GoodIn wsX8_meanAs (va_wsS RX8 117 yX8_isNoSet wsX8_isNoSet) := goodIn_app (goodIn_of _ (by decide +kernel)) ggX8_meanAs_X8_isNoSet
set_option maxRecDepth 20000 in
theorem ggX8_meanAs_X8_isNoRate : GoodIn wsX8_meanAs wsX8_isNoRate := goodIn_r _ [16, 11, 12, 9, 13] (by decide +kernel) (by decide +kernel)
set_option maxRecDepth 20000 in
theorem gX8_meanAs_X8_isNoRate : GoodIn wsX8_meanAs (va_wsS RX8 144 yX8_isNoRate wsX8_isNoRate) := goodIn_app (goodIn_of _ (by decide +kernel)) ggX8_meanAs_X8_isNoRate
set_option maxRecDepth 20000 in
theorem ggX8_meanAs_X8_isBeyond : GoodIn wsX8_meanAs wsX8_isBeyond := goodIn_r _ [13] (by decide +kernel) (by decide +kernel)
set_option maxRecDepth 20000 in
theorem gX8_meanAs_X8_isBeyond : GoodIn wsX8_meanAs (va_wsS RX8 61 yX8_isBeyond wsX8_isBeyond) := goodIn_app (goodIn_of _ (by decide +kernel)) ggX8_meanAs_X8_isBeyond
set_option maxRecDepth 20000 in
theorem ggX8_meanAs_X8_rowOf : GoodIn wsX8_meanAs wsX8_rowOf := goodIn_r _ [20, 3, 21, 22, 23, 24, 25, 26, 27, 28, 29, 30, 31, 32, 33, 34, 35, 36, 37, 38, 39, 40, 41, 42, 43, 44, 45, 46, 47, 48, 49, 50, 51, 52, 53, 54, 55, 56, 9, 57, 58, 59, 60, 61, 62, 63, 64, 65, 66, 67, 68, 69, 70, 71, 72, 73, 74, 75, 76, 77, 78, 79, 80, 81, 82, 83, 84, 85, 86, 87, 88, 89, 90, 91, 92, 93, 94, 95, 96, 97, 98, 99, 100, 101, 102, 103, 104, 105, 106, 107, 108, 151, 152, 153, 154, 155, 156, 157, 158, 159, 164, 165, 166, 167, 168, 169, 170, 171, 172, 173, 174, 175, 176, 177, 178, 179, 180, 181, 182, 183] (by decide +kernel) (by decide +kernel)
set_option maxRecDepth 20000 in
theorem gX8_meanAs_X8_rowOf : GoodIn wsX8_meanAs (wsV RX8 125 RX8 yX8_rowOf wsX8_rowOf) := goodIn_app (goodIn_of _ (by decide +kernel)) ggX8_meanAs_X8_rowOf
set_option maxRecDepth 20000 in
theorem ggX8_meanAs_X5_load : GoodIn wsX8_meanAs wsX5_load := goodIn_r _ [113, 114, 115, 116, 117, 118, 119, 120, 121, 122, 25, 123, 73, 124, 101, 102, 103, 104, 105, 125, 107, 108, 160, 161, 162, 163, 164, 165, 166, 167, 168, 169, 170, 171, 172] (by decide +kernel) (by decide +kernel)
set_option maxRecDepth 20000 in
theorem gX8_meanAs_X5_load : GoodIn wsX8_meanAs (wsV RX8 147 RX5 yX5_load wsX5_load) := goodIn_app (goodIn_of _ (by decide +kernel)) ggX8_meanAs_X5_load
set_option maxRecDepth 20000 in
theorem ggX8_meanAs_X8_meanTold : GoodIn wsX8_meanAs wsX8_meanTold := goodIn_r _ [128, 129, 130, 131, 132, 133, 134, 135, 136, 137, 138, 139, 140, 141, 142, 143, 144, 145, 146, 147, 148, 149, 150] (by decide +kernel) (by decide +kernel)
set_option maxRecDepth 20000 in
theorem gX8_meanAs_X8_meanTold : GoodIn wsX8_meanAs (va_wsS RX8 178 yX8_meanTold wsX8_meanTold) := goodIn_app (goodIn_of _ (by decide +kernel)) ggX8_meanAs_X8_meanTold
theorem dX8_meanAs_0 : decode cX8_meanAs 0 = .ok (.iload_n 1, 1) := by decide +kernel
theorem dX8_meanAs_1 : decode cX8_meanAs 1 = .ok (.invokestatic 117, 3) := by decide +kernel
theorem dX8_meanAs_4 : decode cX8_meanAs 4 = .ok (.ifCond .ne 19, 3) := by decide +kernel
theorem dX8_meanAs_7 : decode cX8_meanAs 7 = .ok (.iload_n 2, 1) := by decide +kernel
theorem dX8_meanAs_8 : decode cX8_meanAs 8 = .ok (.invokestatic 144, 3) := by decide +kernel
theorem dX8_meanAs_11 : decode cX8_meanAs 11 = .ok (.ifCond .ne 12, 3) := by decide +kernel
theorem dX8_meanAs_14 : decode cX8_meanAs 14 = .ok (.iload_n 3, 1) := by decide +kernel
theorem dX8_meanAs_15 : decode cX8_meanAs 15 = .ok (.iconst 0, 1) := by decide +kernel
theorem dX8_meanAs_16 : decode cX8_meanAs 16 = .ok (.iconst 5, 1) := by decide +kernel
theorem dX8_meanAs_17 : decode cX8_meanAs 17 = .ok (.invokestatic 61, 3) := by decide +kernel
theorem dX8_meanAs_20 : decode cX8_meanAs 20 = .ok (.ifCond .eq 7, 3) := by decide +kernel
theorem dX8_meanAs_23 : decode cX8_meanAs 23 = .ok (.ldc2_w 123, 3) := by decide +kernel
theorem dX8_meanAs_26 : decode cX8_meanAs 26 = .ok (.lreturn, 1) := by decide +kernel
theorem dX8_meanAs_27 : decode cX8_meanAs 27 = .ok (.aload_n 0, 1) := by decide +kernel
theorem dX8_meanAs_28 : decode cX8_meanAs 28 = .ok (.getfield 33, 3) := by decide +kernel
theorem dX8_meanAs_31 : decode cX8_meanAs 31 = .ok (.aload_n 0, 1) := by decide +kernel
theorem dX8_meanAs_32 : decode cX8_meanAs 32 = .ok (.getfield 26, 3) := by decide +kernel
theorem dX8_meanAs_35 : decode cX8_meanAs 35 = .ok (.aload_n 0, 1) := by decide +kernel
theorem dX8_meanAs_36 : decode cX8_meanAs 36 = .ok (.iload_n 1, 1) := by decide +kernel
theorem dX8_meanAs_37 : decode cX8_meanAs 37 = .ok (.invokevirtual 125, 3) := by decide +kernel
theorem dX8_meanAs_40 : decode cX8_meanAs 40 = .ok (.iload_n 2, 1) := by decide +kernel
theorem dX8_meanAs_41 : decode cX8_meanAs 41 = .ok (.invokevirtual 147, 3) := by decide +kernel
theorem dX8_meanAs_44 : decode cX8_meanAs 44 = .ok (.aload_n 0, 1) := by decide +kernel
theorem dX8_meanAs_45 : decode cX8_meanAs 45 = .ok (.getfield 33, 3) := by decide +kernel
theorem dX8_meanAs_48 : decode cX8_meanAs 48 = .ok (.getfield 162, 3) := by decide +kernel
theorem dX8_meanAs_51 : decode cX8_meanAs 51 = .ok (.lconst 0, 1) := by decide +kernel
theorem dX8_meanAs_52 : decode cX8_meanAs 52 = .ok (.lcmp, 1) := by decide +kernel
theorem dX8_meanAs_53 : decode cX8_meanAs 53 = .ok (.ifCond .lt 15, 3) := by decide +kernel
theorem dX8_meanAs_56 : decode cX8_meanAs 56 = .ok (.aload_n 0, 1) := by decide +kernel
theorem dX8_meanAs_57 : decode cX8_meanAs 57 = .ok (.getfield 33, 3) := by decide +kernel
theorem dX8_meanAs_60 : decode cX8_meanAs 60 = .ok (.getfield 151, 3) := by decide +kernel
theorem dX8_meanAs_63 : decode cX8_meanAs 63 = .ok (.lconst 0, 1) := by decide +kernel
theorem dX8_meanAs_64 : decode cX8_meanAs 64 = .ok (.lcmp, 1) := by decide +kernel
theorem dX8_meanAs_65 : decode cX8_meanAs 65 = .ok (.ifCond .gt 7, 3) := by decide +kernel
theorem dX8_meanAs_68 : decode cX8_meanAs 68 = .ok (.ldc2_w 131, 3) := by decide +kernel
theorem dX8_meanAs_71 : decode cX8_meanAs 71 = .ok (.lreturn, 1) := by decide +kernel
theorem dX8_meanAs_72 : decode cX8_meanAs 72 = .ok (.aload_n 0, 1) := by decide +kernel
theorem dX8_meanAs_73 : decode cX8_meanAs 73 = .ok (.getfield 33, 3) := by decide +kernel
theorem dX8_meanAs_76 : decode cX8_meanAs 76 = .ok (.getfield 162, 3) := by decide +kernel
theorem dX8_meanAs_79 : decode cX8_meanAs 79 = .ok (.l2d, 1) := by decide +kernel
theorem dX8_meanAs_80 : decode cX8_meanAs 80 = .ok (.aload_n 0, 1) := by decide +kernel
theorem dX8_meanAs_81 : decode cX8_meanAs 81 = .ok (.getfield 33, 3) := by decide +kernel
theorem dX8_meanAs_84 : decode cX8_meanAs 84 = .ok (.getfield 151, 3) := by decide +kernel
theorem dX8_meanAs_87 : decode cX8_meanAs 87 = .ok (.l2d, 1) := by decide +kernel
theorem dX8_meanAs_88 : decode cX8_meanAs 88 = .ok (.ddiv, 1) := by decide +kernel
theorem dX8_meanAs_89 : decode cX8_meanAs 89 = .ok (.iload_n 3, 1) := by decide +kernel
theorem dX8_meanAs_90 : decode cX8_meanAs 90 = .ok (.invokestatic 178, 3) := by decide +kernel
theorem dX8_meanAs_93 : decode cX8_meanAs 93 = .ok (.lreturn, 1) := by decide +kernel
set_option maxRecDepth 20000 in
theorem ggX8_most_X8_isNoSet : GoodIn wsX8_most wsX8_isNoSet := goodIn_r _ [6, 7, 8, 5, 9] (by decide +kernel) (by decide +kernel)
set_option maxRecDepth 20000 in
theorem gX8_most_X8_isNoSet : GoodIn wsX8_most (va_wsS RX8 117 yX8_isNoSet wsX8_isNoSet) := goodIn_app (goodIn_of _ (by decide +kernel)) ggX8_most_X8_isNoSet
set_option maxRecDepth 20000 in
theorem ggX8_most_X8_rowOf : GoodIn wsX8_most wsX8_rowOf := goodIn_r _ [13, 1, 14, 15, 16, 17, 18, 19, 20, 21, 22, 23, 24, 25, 26, 27, 28, 29, 30, 31, 32, 33, 34, 35, 36, 37, 38, 39, 40, 41, 42, 43, 44, 45, 46, 47, 48, 49, 5, 50, 51, 52, 53, 54, 55, 56, 57, 58, 59, 60, 61, 62, 63, 64, 65, 66, 67, 68, 69, 70, 71, 72, 73, 74, 75, 76, 77, 78, 79, 80, 81, 82, 83, 84, 85, 86, 87, 88, 89, 90, 91, 92, 93, 94, 95, 96, 97, 98, 99, 100, 101, 102, 103, 104, 105, 106, 107, 108, 109, 110, 111, 112, 113, 114, 115, 116, 117, 118, 119, 120, 121, 122, 123, 124, 125, 126, 127, 128, 129, 130] (by decide +kernel) (by decide +kernel)
set_option maxRecDepth 20000 in
theorem gX8_most_X8_rowOf : GoodIn wsX8_most (wsV RX8 125 RX8 yX8_rowOf wsX8_rowOf) := goodIn_app (goodIn_of _ (by decide +kernel)) ggX8_most_X8_rowOf
theorem dX8_most_0 : decode cX8_most 0 = .ok (.iload_n 1, 1) := by decide +kernel
theorem dX8_most_1 : decode cX8_most 1 = .ok (.invokestatic 117, 3) := by decide +kernel
theorem dX8_most_4 : decode cX8_most 4 = .ok (.ifCond .eq 6, 3) := by decide +kernel
theorem dX8_most_7 : decode cX8_most 7 = .ok (.bipush (-2), 2) := by decide +kernel
theorem dX8_most_9 : decode cX8_most 9 = .ok (.ireturn, 1) := by decide +kernel
theorem dX8_most_10 : decode cX8_most 10 = .ok (.aload_n 0, 1) := by decide +kernel
theorem dX8_most_11 : decode cX8_most 11 = .ok (.getfield 26, 3) := by decide +kernel
theorem dX8_most_14 : decode cX8_most 14 = .ok (.getfield 182, 3) := by decide +kernel
theorem dX8_most_17 : decode cX8_most 17 = .ok (.aload_n 0, 1) := by decide +kernel
theorem dX8_most_18 : decode cX8_most 18 = .ok (.iload_n 1, 1) := by decide +kernel
theorem dX8_most_19 : decode cX8_most 19 = .ok (.invokevirtual 125, 3) := by decide +kernel
theorem dX8_most_22 : decode cX8_most 22 = .ok (.bipush 7, 2) := by decide +kernel
theorem dX8_most_24 : decode cX8_most 24 = .ok (.idiv, 1) := by decide +kernel
theorem dX8_most_25 : decode cX8_most 25 = .ok (.iaload, 1) := by decide +kernel
theorem dX8_most_26 : decode cX8_most 26 = .ok (.ireturn, 1) := by decide +kernel
set_option maxRecDepth 20000 in
theorem ggX8_other_X8_isBeyond : GoodIn wsX8_other wsX8_isBeyond := goodIn_r _ [8] (by decide +kernel) (by decide +kernel)
set_option maxRecDepth 20000 in
theorem gX8_other_X8_isBeyond : GoodIn wsX8_other (va_wsS RX8 61 yX8_isBeyond wsX8_isBeyond) := goodIn_app (goodIn_of _ (by decide +kernel)) ggX8_other_X8_isBeyond
set_option maxRecDepth 20000 in
theorem ggX8_other_X4_prepare : GoodIn wsX8_other wsX4_prepare := goodIn_r _ [13, 14, 15, 16, 17, 18, 19, 20, 21, 22, 23, 24, 25, 26, 27, 28, 29, 30, 31, 32, 33, 34, 35, 36, 37, 38, 39, 40, 41, 42, 43, 7, 44, 45, 46, 47, 48, 105, 106, 107, 108, 109, 110, 111, 112, 113, 114, 115, 116, 117, 118, 119, 120, 121, 122, 123, 124] (by decide +kernel) (by decide +kernel)
set_option maxRecDepth 20000 in
theorem gX8_other_X4_prepare : GoodIn wsX8_other (wsV RX8 185 RX4 yX4_prepare wsX4_prepare) := goodIn_app (goodIn_of _ (by decide +kernel)) ggX8_other_X4_prepare
set_option maxRecDepth 20000 in
theorem ggX8_other_X1_allPoints : GoodIn wsX8_other wsX1_allPoints := goodIn_r _ [25, 26, 114, 115, 116, 117, 118, 119, 120, 121, 122, 123, 124] (by decide +kernel) (by decide +kernel)
set_option maxRecDepth 20000 in
theorem gX8_other_X1_allPoints : GoodIn wsX8_other (wsV RX8 189 RX1 yX1_allPoints wsX1_allPoints) := goodIn_app (goodIn_of _ (by decide +kernel)) ggX8_other_X1_allPoints
set_option maxRecDepth 20000 in
theorem ggX8_other_X4_rowFor : GoodIn wsX8_other wsX4_rowFor := goodIn_r _ [53, 54, 55, 56, 12, 57, 58, 14, 59, 60, 61, 62, 63, 64, 65, 18, 20, 66, 67, 68, 69, 70, 71, 72, 73, 74, 75, 76, 77, 78, 79, 80, 81, 82, 83, 46, 47, 48, 84, 85, 86, 87, 88, 89, 90, 91, 92, 93, 94, 95, 105, 106, 107, 108, 109, 110, 111, 112, 113] (by decide +kernel) (by decide +kernel)
set_option maxRecDepth 20000 in
theorem gX8_other_X4_rowFor : GoodIn wsX8_other (wsV RX8 192 RX4 yX4_rowFor wsX4_rowFor) := goodIn_app (goodIn_of _ (by decide +kernel)) ggX8_other_X4_rowFor
theorem dX8_other_0 : decode cX8_other 0 = .ok (.iload_n 1, 1) := by decide +kernel
theorem dX8_other_1 : decode cX8_other 1 = .ok (.iconst 0, 1) := by decide +kernel
theorem dX8_other_2 : decode cX8_other 2 = .ok (.bipush 6, 2) := by decide +kernel
theorem dX8_other_4 : decode cX8_other 4 = .ok (.invokestatic 61, 3) := by decide +kernel
theorem dX8_other_7 : decode cX8_other 7 = .ok (.ifCond .eq 7, 3) := by decide +kernel
theorem dX8_other_10 : decode cX8_other 10 = .ok (.ldc2_w 123, 3) := by decide +kernel
theorem dX8_other_13 : decode cX8_other 13 = .ok (.lreturn, 1) := by decide +kernel
theorem dX8_other_14 : decode cX8_other 14 = .ok (.aload_n 0, 1) := by decide +kernel
theorem dX8_other_15 : decode cX8_other 15 = .ok (.getfield 26, 3) := by decide +kernel
theorem dX8_other_18 : decode cX8_other 18 = .ok (.aload_n 0, 1) := by decide +kernel
theorem dX8_other_19 : decode cX8_other 19 = .ok (.getfield 12, 3) := by decide +kernel
theorem dX8_other_22 : decode cX8_other 22 = .ok (.iconst 1, 1) := by decide +kernel
theorem dX8_other_23 : decode cX8_other 23 = .ok (.invokevirtual 185, 3) := by decide +kernel
theorem dX8_other_26 : decode cX8_other 26 = .ok (.aload_n 0, 1) := by decide +kernel
theorem dX8_other_27 : decode cX8_other 27 = .ok (.getfield 26, 3) := by decide +kernel
theorem dX8_other_30 : decode cX8_other 30 = .ok (.getfield 133, 3) := by decide +kernel
theorem dX8_other_33 : decode cX8_other 33 = .ok (.aload_n 0, 1) := by decide +kernel
theorem dX8_other_34 : decode cX8_other 34 = .ok (.getfield 26, 3) := by decide +kernel
theorem dX8_other_37 : decode cX8_other 37 = .ok (.aload_n 0, 1) := by decide +kernel
theorem dX8_other_38 : decode cX8_other 38 = .ok (.getfield 12, 3) := by decide +kernel
theorem dX8_other_41 : decode cX8_other 41 = .ok (.invokevirtual 189, 3) := by decide +kernel
theorem dX8_other_44 : decode cX8_other 44 = .ok (.invokevirtual 192, 3) := by decide +kernel
theorem dX8_other_47 : decode cX8_other 47 = .ok (.iload_n 1, 1) := by decide +kernel
theorem dX8_other_48 : decode cX8_other 48 = .ok (.iadd, 1) := by decide +kernel
theorem dX8_other_49 : decode cX8_other 49 = .ok (.laload, 1) := by decide +kernel
theorem dX8_other_50 : decode cX8_other 50 = .ok (.lreturn, 1) := by decide +kernel
set_option maxRecDepth 20000 in
theorem ggX8_alone_X8_isNoPointIn : GoodIn wsX8_alone wsX8_isNoPointIn := goodIn_r _ [9, 10, 11, 12, 13, 14, 15, 16, 17, 18, 8, 19, 20, 21, 22, 142, 143, 144, 145, 146, 147, 148, 149, 150, 155, 156, 157, 158, 159, 160, 161, 162, 163, 164, 165] (by decide +kernel) (by decide +kernel)
set_option maxRecDepth 20000 in
theorem gX8_alone_X8_isNoPointIn : GoodIn wsX8_alone (wsV RX8 195 RX8 yX8_isNoPointIn wsX8_isNoPointIn) := goodIn_app (goodIn_of _ (by decide +kernel)) ggX8_alone_X8_isNoPointIn
set_option maxRecDepth 20000 in
theorem ggX8_alone_X8_isNoRate : GoodIn wsX8_alone wsX8_isNoRate := goodIn_r _ [25, 20, 21, 8, 22] (by decide +kernel) (by decide +kernel)
set_option maxRecDepth 20000 in
theorem gX8_alone_X8_isNoRate : GoodIn wsX8_alone (va_wsS RX8 144 yX8_isNoRate wsX8_isNoRate) := goodIn_app (goodIn_of _ (by decide +kernel)) ggX8_alone_X8_isNoRate
set_option maxRecDepth 20000 in
theorem ggX8_alone_X8_isNoPart : GoodIn wsX8_alone wsX8_isNoPart := goodIn_r _ [28, 20, 21, 8, 22] (by decide +kernel) (by decide +kernel)
set_option maxRecDepth 20000 in
theorem gX8_alone_X8_isNoPart : GoodIn wsX8_alone (va_wsS RX8 159 yX8_isNoPart wsX8_isNoPart) := goodIn_app (goodIn_of _ (by decide +kernel)) ggX8_alone_X8_isNoPart
set_option maxRecDepth 20000 in
theorem ggX8_alone_X8_rowOf : GoodIn wsX8_alone wsX8_rowOf := goodIn_r _ [32, 3, 10, 33, 34, 35, 36, 37, 38, 39, 40, 41, 42, 43, 44, 45, 46, 47, 14, 48, 16, 49, 50, 51, 52, 53, 54, 55, 56, 57, 58, 59, 60, 61, 62, 63, 64, 65, 8, 66, 67, 68, 69, 70, 71, 72, 73, 74, 75, 76, 77, 78, 79, 80, 81, 82, 83, 84, 85, 86, 87, 88, 89, 90, 91, 92, 93, 94, 95, 96, 97, 98, 99, 100, 101, 102, 103, 104, 105, 106, 107, 108, 109, 110, 111, 112, 113, 114, 115, 116, 117, 142, 143, 144, 145, 146, 147, 148, 149, 150, 166, 167, 168, 169, 170, 171, 172, 173, 174, 155, 156, 157, 158, 159, 160, 161, 162, 163, 164, 165] (by decide +kernel) (by decide +kernel)
set_option maxRecDepth 20000 in
theorem gX8_alone_X8_rowOf : GoodIn wsX8_alone (wsV RX8 125 RX8 yX8_rowOf wsX8_rowOf) := goodIn_app (goodIn_of _ (by decide +kernel)) ggX8_alone_X8_rowOf
set_option maxRecDepth 20000 in
theorem ggX8_alone_X5_load : GoodIn wsX8_alone wsX5_load := goodIn_r _ [122, 123, 124, 125, 126, 127, 128, 129, 130, 131, 36, 132, 82, 133, 110, 111, 112, 113, 114, 134, 116, 117, 151, 152, 153, 154, 166, 167, 168, 169, 170, 171, 172, 173, 174] (by decide +kernel) (by decide +kernel)
set_option maxRecDepth 20000 in
theorem gX8_alone_X5_load : GoodIn wsX8_alone (wsV RX8 147 RX5 yX5_load wsX5_load) := goodIn_app (goodIn_of _ (by decide +kernel)) ggX8_alone_X5_load
set_option maxRecDepth 20000 in
theorem ggX8_alone_X8_partOf : GoodIn wsX8_alone wsX8_partOf := goodIn_r _ [137, 138, 139, 140, 111, 141] (by decide +kernel) (by decide +kernel)
set_option maxRecDepth 20000 in
theorem gX8_alone_X8_partOf : GoodIn wsX8_alone (va_wsS RX8 165 yX8_partOf wsX8_partOf) := goodIn_app (goodIn_of _ (by decide +kernel)) ggX8_alone_X8_partOf
theorem dX8_alone_0 : decode cX8_alone 0 = .ok (.aload_n 0, 1) := by decide +kernel
theorem dX8_alone_1 : decode cX8_alone 1 = .ok (.iload_n 1, 1) := by decide +kernel
theorem dX8_alone_2 : decode cX8_alone 2 = .ok (.iload_n 2, 1) := by decide +kernel
theorem dX8_alone_3 : decode cX8_alone 3 = .ok (.invokevirtual 195, 3) := by decide +kernel
theorem dX8_alone_6 : decode cX8_alone 6 = .ok (.ifCond .ne 18, 3) := by decide +kernel
theorem dX8_alone_9 : decode cX8_alone 9 = .ok (.iload_n 3, 1) := by decide +kernel
theorem dX8_alone_10 : decode cX8_alone 10 = .ok (.invokestatic 144, 3) := by decide +kernel
theorem dX8_alone_13 : decode cX8_alone 13 = .ok (.ifCond .ne 11, 3) := by decide +kernel
theorem dX8_alone_16 : decode cX8_alone 16 = .ok (.iload 4, 2) := by decide +kernel
theorem dX8_alone_18 : decode cX8_alone 18 = .ok (.invokestatic 159, 3) := by decide +kernel
theorem dX8_alone_21 : decode cX8_alone 21 = .ok (.ifCond .eq 7, 3) := by decide +kernel
theorem dX8_alone_24 : decode cX8_alone 24 = .ok (.ldc2_w 123, 3) := by decide +kernel
theorem dX8_alone_27 : decode cX8_alone 27 = .ok (.lreturn, 1) := by decide +kernel
theorem dX8_alone_28 : decode cX8_alone 28 = .ok (.aload_n 0, 1) := by decide +kernel
theorem dX8_alone_29 : decode cX8_alone 29 = .ok (.getfield 33, 3) := by decide +kernel
theorem dX8_alone_32 : decode cX8_alone 32 = .ok (.aload_n 0, 1) := by decide +kernel
theorem dX8_alone_33 : decode cX8_alone 33 = .ok (.getfield 26, 3) := by decide +kernel
theorem dX8_alone_36 : decode cX8_alone 36 = .ok (.aload_n 0, 1) := by decide +kernel
theorem dX8_alone_37 : decode cX8_alone 37 = .ok (.iload_n 2, 1) := by decide +kernel
theorem dX8_alone_38 : decode cX8_alone 38 = .ok (.invokevirtual 125, 3) := by decide +kernel
theorem dX8_alone_41 : decode cX8_alone 41 = .ok (.iload_n 3, 1) := by decide +kernel
theorem dX8_alone_42 : decode cX8_alone 42 = .ok (.invokevirtual 147, 3) := by decide +kernel
theorem dX8_alone_45 : decode cX8_alone 45 = .ok (.aload_n 0, 1) := by decide +kernel
theorem dX8_alone_46 : decode cX8_alone 46 = .ok (.getfield 33, 3) := by decide +kernel
theorem dX8_alone_49 : decode cX8_alone 49 = .ok (.getfield 151, 3) := by decide +kernel
theorem dX8_alone_52 : decode cX8_alone 52 = .ok (.lstore 5, 2) := by decide +kernel
theorem dX8_alone_54 : decode cX8_alone 54 = .ok (.aload_n 0, 1) := by decide +kernel
theorem dX8_alone_55 : decode cX8_alone 55 = .ok (.getfield 33, 3) := by decide +kernel
theorem dX8_alone_58 : decode cX8_alone 58 = .ok (.aload_n 0, 1) := by decide +kernel
theorem dX8_alone_59 : decode cX8_alone 59 = .ok (.getfield 26, 3) := by decide +kernel
theorem dX8_alone_62 : decode cX8_alone 62 = .ok (.aload_n 0, 1) := by decide +kernel
theorem dX8_alone_63 : decode cX8_alone 63 = .ok (.iload_n 2, 1) := by decide +kernel
theorem dX8_alone_64 : decode cX8_alone 64 = .ok (.iconst 1, 1) := by decide +kernel
theorem dX8_alone_65 : decode cX8_alone 65 = .ok (.iload_n 1, 1) := by decide +kernel
theorem dX8_alone_66 : decode cX8_alone 66 = .ok (.ishl, 1) := by decide +kernel
theorem dX8_alone_67 : decode cX8_alone 67 = .ok (.ior, 1) := by decide +kernel
theorem dX8_alone_68 : decode cX8_alone 68 = .ok (.invokevirtual 125, 3) := by decide +kernel
theorem dX8_alone_71 : decode cX8_alone 71 = .ok (.iload_n 3, 1) := by decide +kernel
theorem dX8_alone_72 : decode cX8_alone 72 = .ok (.invokevirtual 147, 3) := by decide +kernel
theorem dX8_alone_75 : decode cX8_alone 75 = .ok (.aload_n 0, 1) := by decide +kernel
theorem dX8_alone_76 : decode cX8_alone 76 = .ok (.getfield 33, 3) := by decide +kernel
theorem dX8_alone_79 : decode cX8_alone 79 = .ok (.getfield 151, 3) := by decide +kernel
theorem dX8_alone_82 : decode cX8_alone 82 = .ok (.lload 5, 2) := by decide +kernel
theorem dX8_alone_84 : decode cX8_alone 84 = .ok (.iload 4, 2) := by decide +kernel
theorem dX8_alone_86 : decode cX8_alone 86 = .ok (.invokestatic 165, 3) := by decide +kernel
theorem dX8_alone_89 : decode cX8_alone 89 = .ok (.lreturn, 1) := by decide +kernel
set_option maxRecDepth 20000 in
theorem ggX8_tree_X8_isNoPointIn : GoodIn wsX8_tree wsX8_isNoPointIn := goodIn_r _ [9, 2, 10, 11, 12, 13, 14, 15, 16, 17, 8, 18, 19, 20, 21, 38, 39, 40, 41, 42, 43, 44, 45, 46, 55, 56, 57, 58, 59, 60, 61, 62, 63, 64, 65] (by decide +kernel) (by decide +kernel)
set_option maxRecDepth 20000 in
theorem gX8_tree_X8_isNoPointIn : GoodIn wsX8_tree (wsV RX8 195 RX8 yX8_isNoPointIn wsX8_isNoPointIn) := goodIn_app (goodIn_of _ (by decide +kernel)) ggX8_tree_X8_isNoPointIn
set_option maxRecDepth 20000 in
theorem ggX8_tree_X6_grow : GoodIn wsX8_tree wsX6_grow := goodIn_r _ [26, 27, 28, 29, 30, 25, 31, 32, 33, 34, 35, 36, 37, 47, 48, 49, 50, 51, 52, 53, 54, 55, 56, 57, 58, 59, 60, 61, 62, 63, 64, 65] (by decide +kernel) (by decide +kernel)
set_option maxRecDepth 20000 in
theorem gX8_tree_X6_grow : GoodIn wsX8_tree (wsV RX8 199 RX6 yX6_grow wsX6_grow) := goodIn_app (goodIn_of _ (by decide +kernel)) ggX8_tree_X6_grow
theorem dX8_tree_0 : decode cX8_tree 0 = .ok (.aload_n 0, 1) := by decide +kernel
theorem dX8_tree_1 : decode cX8_tree 1 = .ok (.iload_n 1, 1) := by decide +kernel
theorem dX8_tree_2 : decode cX8_tree 2 = .ok (.iload_n 2, 1) := by decide +kernel
theorem dX8_tree_3 : decode cX8_tree 3 = .ok (.invokevirtual 195, 3) := by decide +kernel
theorem dX8_tree_6 : decode cX8_tree 6 = .ok (.ifCond .eq 6, 3) := by decide +kernel
theorem dX8_tree_9 : decode cX8_tree 9 = .ok (.bipush (-2), 2) := by decide +kernel
theorem dX8_tree_11 : decode cX8_tree 11 = .ok (.ireturn, 1) := by decide +kernel
theorem dX8_tree_12 : decode cX8_tree 12 = .ok (.aload_n 0, 1) := by decide +kernel
theorem dX8_tree_13 : decode cX8_tree 13 = .ok (.getfield 44, 3) := by decide +kernel
theorem dX8_tree_16 : decode cX8_tree 16 = .ok (.aload_n 0, 1) := by decide +kernel
theorem dX8_tree_17 : decode cX8_tree 17 = .ok (.getfield 12, 3) := by decide +kernel
theorem dX8_tree_20 : decode cX8_tree 20 = .ok (.iload_n 1, 1) := by decide +kernel
theorem dX8_tree_21 : decode cX8_tree 21 = .ok (.iload_n 2, 1) := by decide +kernel
theorem dX8_tree_22 : decode cX8_tree 22 = .ok (.invokevirtual 199, 3) := by decide +kernel
theorem dX8_tree_25 : decode cX8_tree 25 = .ok (.ifCond .ne 6, 3) := by decide +kernel
theorem dX8_tree_28 : decode cX8_tree 28 = .ok (.bipush (-5), 2) := by decide +kernel
theorem dX8_tree_30 : decode cX8_tree 30 = .ok (.ireturn, 1) := by decide +kernel
theorem dX8_tree_31 : decode cX8_tree 31 = .ok (.aload_n 0, 1) := by decide +kernel
theorem dX8_tree_32 : decode cX8_tree 32 = .ok (.getfield 40, 3) := by decide +kernel
theorem dX8_tree_35 : decode cX8_tree 35 = .ok (.astore_n 3, 1) := by decide +kernel
theorem dX8_tree_36 : decode cX8_tree 36 = .ok (.aload_n 0, 1) := by decide +kernel
theorem dX8_tree_37 : decode cX8_tree 37 = .ok (.aload_n 0, 1) := by decide +kernel
theorem dX8_tree_38 : decode cX8_tree 38 = .ok (.getfield 44, 3) := by decide +kernel
theorem dX8_tree_41 : decode cX8_tree 41 = .ok (.putfield 40, 3) := by decide +kernel
theorem dX8_tree_44 : decode cX8_tree 44 = .ok (.aload_n 0, 1) := by decide +kernel
theorem dX8_tree_45 : decode cX8_tree 45 = .ok (.aload_n 3, 1) := by decide +kernel
theorem dX8_tree_46 : decode cX8_tree 46 = .ok (.putfield 44, 3) := by decide +kernel
theorem dX8_tree_49 : decode cX8_tree 49 = .ok (.aload_n 0, 1) := by decide +kernel
theorem dX8_tree_50 : decode cX8_tree 50 = .ok (.getfield 40, 3) := by decide +kernel
theorem dX8_tree_53 : decode cX8_tree 53 = .ok (.getfield 203, 3) := by decide +kernel
theorem dX8_tree_56 : decode cX8_tree 56 = .ok (.ireturn, 1) := by decide +kernel
set_option maxRecDepth 20000 in
theorem ggX8_node_X6_hasNode : GoodIn wsX8_node wsX6_hasNode := goodIn_r _ [10, 11, 21, 22, 23, 24, 25, 26, 27, 28] (by decide +kernel) (by decide +kernel)
set_option maxRecDepth 20000 in
theorem gX8_node_X6_hasNode : GoodIn wsX8_node (wsV RX8 206 RX6 yX6_hasNode wsX6_hasNode) := goodIn_app (goodIn_of _ (by decide +kernel)) ggX8_node_X6_hasNode
theorem dX8_node_0 : decode cX8_node 0 = .ok (.aload_n 0, 1) := by decide +kernel
theorem dX8_node_1 : decode cX8_node 1 = .ok (.getfield 40, 3) := by decide +kernel
theorem dX8_node_4 : decode cX8_node 4 = .ok (.iload_n 1, 1) := by decide +kernel
theorem dX8_node_5 : decode cX8_node 5 = .ok (.invokevirtual 206, 3) := by decide +kernel
theorem dX8_node_8 : decode cX8_node 8 = .ok (.ifCond .ne 6, 3) := by decide +kernel
theorem dX8_node_11 : decode cX8_node 11 = .ok (.bipush (-12), 2) := by decide +kernel
theorem dX8_node_13 : decode cX8_node 13 = .ok (.ireturn, 1) := by decide +kernel
theorem dX8_node_14 : decode cX8_node 14 = .ok (.iload_n 2, 1) := by decide +kernel
theorem dX8_node_15 : decode cX8_node 15 = .ok (.tableswitch 69 0 3 #[29, 39, 49, 59], 29) := by decide +kernel
theorem dX8_node_44 : decode cX8_node 44 = .ok (.aload_n 0, 1) := by decide +kernel
theorem dX8_node_45 : decode cX8_node 45 = .ok (.getfield 40, 3) := by decide +kernel
theorem dX8_node_48 : decode cX8_node 48 = .ok (.getfield 209, 3) := by decide +kernel
theorem dX8_node_51 : decode cX8_node 51 = .ok (.iload_n 1, 1) := by decide +kernel
theorem dX8_node_52 : decode cX8_node 52 = .ok (.iaload, 1) := by decide +kernel
theorem dX8_node_53 : decode cX8_node 53 = .ok (.ireturn, 1) := by decide +kernel
theorem dX8_node_54 : decode cX8_node 54 = .ok (.aload_n 0, 1) := by decide +kernel
theorem dX8_node_55 : decode cX8_node 55 = .ok (.getfield 40, 3) := by decide +kernel
theorem dX8_node_58 : decode cX8_node 58 = .ok (.getfield 212, 3) := by decide +kernel
theorem dX8_node_61 : decode cX8_node 61 = .ok (.iload_n 1, 1) := by decide +kernel
theorem dX8_node_62 : decode cX8_node 62 = .ok (.iaload, 1) := by decide +kernel
theorem dX8_node_63 : decode cX8_node 63 = .ok (.ireturn, 1) := by decide +kernel
theorem dX8_node_64 : decode cX8_node 64 = .ok (.aload_n 0, 1) := by decide +kernel
theorem dX8_node_65 : decode cX8_node 65 = .ok (.getfield 40, 3) := by decide +kernel
theorem dX8_node_68 : decode cX8_node 68 = .ok (.getfield 215, 3) := by decide +kernel
theorem dX8_node_71 : decode cX8_node 71 = .ok (.iload_n 1, 1) := by decide +kernel
theorem dX8_node_72 : decode cX8_node 72 = .ok (.iaload, 1) := by decide +kernel
theorem dX8_node_73 : decode cX8_node 73 = .ok (.ireturn, 1) := by decide +kernel
theorem dX8_node_74 : decode cX8_node 74 = .ok (.aload_n 0, 1) := by decide +kernel
theorem dX8_node_75 : decode cX8_node 75 = .ok (.getfield 40, 3) := by decide +kernel
theorem dX8_node_78 : decode cX8_node 78 = .ok (.getfield 218, 3) := by decide +kernel
theorem dX8_node_81 : decode cX8_node 81 = .ok (.iload_n 1, 1) := by decide +kernel
theorem dX8_node_82 : decode cX8_node 82 = .ok (.iaload, 1) := by decide +kernel
theorem dX8_node_83 : decode cX8_node 83 = .ok (.ireturn, 1) := by decide +kernel
theorem dX8_node_84 : decode cX8_node 84 = .ok (.bipush (-2), 2) := by decide +kernel
theorem dX8_node_86 : decode cX8_node 86 = .ok (.ireturn, 1) := by decide +kernel
set_option maxRecDepth 20000 in
theorem ggX8_share_X6_hasNode : GoodIn wsX8_share wsX6_hasNode := goodIn_r _ [13, 14, 89, 90, 91, 92, 93, 94, 95, 96] (by decide +kernel) (by decide +kernel)
set_option maxRecDepth 20000 in
theorem gX8_share_X6_hasNode : GoodIn wsX8_share (wsV RX8 206 RX6 yX6_hasNode wsX6_hasNode) := goodIn_app (goodIn_of _ (by decide +kernel)) ggX8_share_X6_hasNode
set_option maxRecDepth 20000 in
theorem ggX8_share_X8_isNoRate : GoodIn wsX8_share wsX8_isNoRate := goodIn_r _ [18, 19, 20, 17, 21] (by decide +kernel) (by decide +kernel)
set_option maxRecDepth 20000 in
theorem gX8_share_X8_isNoRate : GoodIn wsX8_share (va_wsS RX8 144 yX8_isNoRate wsX8_isNoRate) := goodIn_app (goodIn_of _ (by decide +kernel)) ggX8_share_X8_isNoRate
set_option maxRecDepth 20000 in
theorem ggX8_share_X8_isNoPart : GoodIn wsX8_share wsX8_isNoPart := goodIn_r _ [24, 19, 20, 17, 21] (by decide +kernel) (by decide +kernel)
set_option maxRecDepth 20000 in
theorem gX8_share_X8_isNoPart : GoodIn wsX8_share (va_wsS RX8 159 yX8_isNoPart wsX8_isNoPart) := goodIn_app (goodIn_of _ (by decide +kernel)) ggX8_share_X8_isNoPart
set_option maxRecDepth 20000 in
theorem ggX8_share_X6_standsIn : GoodIn wsX8_share wsX6_standsIn := goodIn_r _ [28, 14, 29, 30, 31, 32, 33, 34, 35, 36, 89, 90, 91, 92, 93, 94, 95, 96, 97, 98, 99, 100, 101, 102, 103, 104, 105, 106, 107] (by decide +kernel) (by decide +kernel)
set_option maxRecDepth 20000 in
theorem gX8_share_X6_standsIn : GoodIn wsX8_share (wsV RX8 223 RX6 yX6_standsIn wsX6_standsIn) := goodIn_app (goodIn_of _ (by decide +kernel)) ggX8_share_X6_standsIn
set_option maxRecDepth 20000 in
theorem ggX8_share_X6_weighFrom : GoodIn wsX8_share wsX6_weighFrom := goodIn_r _ [40, 41, 42, 43, 44, 12, 45, 46, 14, 29, 47, 48, 49, 50, 51, 52, 34, 53, 54, 32, 33, 35, 36, 55, 56, 57, 58, 59, 60, 61, 62, 17, 63, 64, 65, 66, 67, 68, 69, 70, 71, 72, 73, 74, 75, 76, 77, 78, 79, 89, 90, 91, 92, 93, 94, 95, 96, 97, 98, 99, 100, 101, 102, 103, 104, 105, 106, 107] (by decide +kernel) (by decide +kernel)
set_option maxRecDepth 20000 in
theorem gX8_share_X6_weighFrom : GoodIn wsX8_share (wsV RX8 229 RX6 yX6_weighFrom wsX6_weighFrom) := goodIn_app (goodIn_of _ (by decide +kernel)) ggX8_share_X6_weighFrom
theorem dX8_share_0 : decode cX8_share 0 = .ok (.aload_n 0, 1) := by decide +kernel
theorem dX8_share_1 : decode cX8_share 1 = .ok (.getfield 40, 3) := by decide +kernel
theorem dX8_share_4 : decode cX8_share 4 = .ok (.iload_n 1, 1) := by decide +kernel
theorem dX8_share_5 : decode cX8_share 5 = .ok (.invokevirtual 206, 3) := by decide +kernel
theorem dX8_share_8 : decode cX8_share 8 = .ok (.ifCond .ne 7, 3) := by decide +kernel
theorem dX8_share_11 : decode cX8_share 11 = .ok (.ldc2_w 221, 3) := by decide +kernel
theorem dX8_share_14 : decode cX8_share 14 = .ok (.lreturn, 1) := by decide +kernel
theorem dX8_share_15 : decode cX8_share 15 = .ok (.iload_n 2, 1) := by decide +kernel
theorem dX8_share_16 : decode cX8_share 16 = .ok (.invokestatic 144, 3) := by decide +kernel
theorem dX8_share_19 : decode cX8_share 19 = .ok (.ifCond .ne 10, 3) := by decide +kernel
theorem dX8_share_22 : decode cX8_share 22 = .ok (.iload_n 3, 1) := by decide +kernel
theorem dX8_share_23 : decode cX8_share 23 = .ok (.invokestatic 159, 3) := by decide +kernel
theorem dX8_share_26 : decode cX8_share 26 = .ok (.ifCond .eq 7, 3) := by decide +kernel
theorem dX8_share_29 : decode cX8_share 29 = .ok (.ldc2_w 123, 3) := by decide +kernel
theorem dX8_share_32 : decode cX8_share 32 = .ok (.lreturn, 1) := by decide +kernel
theorem dX8_share_33 : decode cX8_share 33 = .ok (.aload_n 0, 1) := by decide +kernel
theorem dX8_share_34 : decode cX8_share 34 = .ok (.getfield 40, 3) := by decide +kernel
theorem dX8_share_37 : decode cX8_share 37 = .ok (.aload_n 0, 1) := by decide +kernel
theorem dX8_share_38 : decode cX8_share 38 = .ok (.getfield 12, 3) := by decide +kernel
theorem dX8_share_41 : decode cX8_share 41 = .ok (.invokevirtual 223, 3) := by decide +kernel
theorem dX8_share_44 : decode cX8_share 44 = .ok (.ifCond .ne 7, 3) := by decide +kernel
theorem dX8_share_47 : decode cX8_share 47 = .ok (.ldc2_w 227, 3) := by decide +kernel
theorem dX8_share_50 : decode cX8_share 50 = .ok (.lreturn, 1) := by decide +kernel
theorem dX8_share_51 : decode cX8_share 51 = .ok (.aload_n 0, 1) := by decide +kernel
theorem dX8_share_52 : decode cX8_share 52 = .ok (.getfield 40, 3) := by decide +kernel
theorem dX8_share_55 : decode cX8_share 55 = .ok (.iload_n 1, 1) := by decide +kernel
theorem dX8_share_56 : decode cX8_share 56 = .ok (.aload_n 0, 1) := by decide +kernel
theorem dX8_share_57 : decode cX8_share 57 = .ok (.getfield 12, 3) := by decide +kernel
theorem dX8_share_60 : decode cX8_share 60 = .ok (.iload_n 2, 1) := by decide +kernel
theorem dX8_share_61 : decode cX8_share 61 = .ok (.invokevirtual 229, 3) := by decide +kernel
theorem dX8_share_64 : decode cX8_share 64 = .ok (.aload_n 0, 1) := by decide +kernel
theorem dX8_share_65 : decode cX8_share 65 = .ok (.getfield 40, 3) := by decide +kernel
theorem dX8_share_68 : decode cX8_share 68 = .ok (.getfield 233, 3) := by decide +kernel
theorem dX8_share_71 : decode cX8_share 71 = .ok (.iload_n 1, 1) := by decide +kernel
theorem dX8_share_72 : decode cX8_share 72 = .ok (.laload, 1) := by decide +kernel
theorem dX8_share_73 : decode cX8_share 73 = .ok (.lconst 0, 1) := by decide +kernel
theorem dX8_share_74 : decode cX8_share 74 = .ok (.lcmp, 1) := by decide +kernel
theorem dX8_share_75 : decode cX8_share 75 = .ok (.ifCond .ge 7, 3) := by decide +kernel
theorem dX8_share_78 : decode cX8_share 78 = .ok (.ldc2_w 131, 3) := by decide +kernel
theorem dX8_share_81 : decode cX8_share 81 = .ok (.lreturn, 1) := by decide +kernel
theorem dX8_share_82 : decode cX8_share 82 = .ok (.iload_n 3, 1) := by decide +kernel
theorem dX8_share_83 : decode cX8_share 83 = .ok (.ifCond .ne 15, 3) := by decide +kernel
theorem dX8_share_86 : decode cX8_share 86 = .ok (.aload_n 0, 1) := by decide +kernel
theorem dX8_share_87 : decode cX8_share 87 = .ok (.getfield 40, 3) := by decide +kernel
theorem dX8_share_90 : decode cX8_share 90 = .ok (.getfield 236, 3) := by decide +kernel
theorem dX8_share_93 : decode cX8_share 93 = .ok (.iload_n 1, 1) := by decide +kernel
theorem dX8_share_94 : decode cX8_share 94 = .ok (.laload, 1) := by decide +kernel
theorem dX8_share_95 : decode cX8_share 95 = .ok (.goto 12, 3) := by decide +kernel
theorem dX8_share_98 : decode cX8_share 98 = .ok (.aload_n 0, 1) := by decide +kernel
theorem dX8_share_99 : decode cX8_share 99 = .ok (.getfield 40, 3) := by decide +kernel
theorem dX8_share_102 : decode cX8_share 102 = .ok (.getfield 233, 3) := by decide +kernel
theorem dX8_share_105 : decode cX8_share 105 = .ok (.iload_n 1, 1) := by decide +kernel
theorem dX8_share_106 : decode cX8_share 106 = .ok (.laload, 1) := by decide +kernel
theorem dX8_share_107 : decode cX8_share 107 = .ok (.lreturn, 1) := by decide +kernel
set_option maxRecDepth 20000 in
theorem ggX8_cutOff_X8_isNoPointIn : GoodIn wsX8_cutOff wsX8_isNoPointIn := goodIn_r _ [6, 1, 7, 8, 9, 10, 11, 12, 13, 14, 5, 15, 16, 17, 18, 64, 65, 66, 67, 68, 69, 70, 71, 72, 73, 74, 75, 76, 77, 78, 79, 80, 81, 82, 83] (by decide +kernel) (by decide +kernel)
set_option maxRecDepth 20000 in
theorem gX8_cutOff_X8_isNoPointIn : GoodIn wsX8_cutOff (wsV RX8 195 RX8 yX8_isNoPointIn wsX8_isNoPointIn) := goodIn_app (goodIn_of _ (by decide +kernel)) ggX8_cutOff_X8_isNoPointIn
set_option maxRecDepth 20000 in
theorem ggX8_cutOff_X8_isNoRate : GoodIn wsX8_cutOff wsX8_isNoRate := goodIn_r _ [21, 16, 17, 5, 18] (by decide +kernel) (by decide +kernel)
set_option maxRecDepth 20000 in
theorem gX8_cutOff_X8_isNoRate : GoodIn wsX8_cutOff (va_wsS RX8 144 yX8_isNoRate wsX8_isNoRate) := goodIn_app (goodIn_of _ (by decide +kernel)) ggX8_cutOff_X8_isNoRate
set_option maxRecDepth 20000 in
theorem ggX8_cutOff_X8_isBeyond : GoodIn wsX8_cutOff wsX8_isBeyond := goodIn_r _ [18] (by decide +kernel) (by decide +kernel)
set_option maxRecDepth 20000 in
theorem gX8_cutOff_X8_isBeyond : GoodIn wsX8_cutOff (va_wsS RX8 61 yX8_isBeyond wsX8_isBeyond) := goodIn_app (goodIn_of _ (by decide +kernel)) ggX8_cutOff_X8_isBeyond
set_option maxRecDepth 20000 in
theorem ggX8_cutOff_X1_cutAsBits : GoodIn wsX8_cutOff wsX1_cutAsBits := goodIn_r _ [25, 26, 27, 28, 10, 29, 30, 12, 31, 32, 33, 34, 35, 36, 37, 38, 39, 40, 41, 42, 43, 44, 45, 46, 47, 5, 48, 49, 50, 51, 52, 53, 54, 55, 56, 57, 58, 59, 60, 61, 62, 63, 73, 74, 75, 76, 77, 78, 79, 80, 81, 82, 83] (by decide +kernel) (by decide +kernel)
set_option maxRecDepth 20000 in
theorem gX8_cutOff_X1_cutAsBits : GoodIn wsX8_cutOff (wsV RX8 239 RX1 yX1_cutAsBits wsX1_cutAsBits) := goodIn_app (goodIn_of _ (by decide +kernel)) ggX8_cutOff_X1_cutAsBits
theorem dX8_cutOff_0 : decode cX8_cutOff 0 = .ok (.aload_n 0, 1) := by decide +kernel
theorem dX8_cutOff_1 : decode cX8_cutOff 1 = .ok (.iload_n 1, 1) := by decide +kernel
theorem dX8_cutOff_2 : decode cX8_cutOff 2 = .ok (.iload_n 2, 1) := by decide +kernel
theorem dX8_cutOff_3 : decode cX8_cutOff 3 = .ok (.invokevirtual 195, 3) := by decide +kernel
theorem dX8_cutOff_6 : decode cX8_cutOff 6 = .ok (.ifCond .ne 20, 3) := by decide +kernel
theorem dX8_cutOff_9 : decode cX8_cutOff 9 = .ok (.iload_n 3, 1) := by decide +kernel
theorem dX8_cutOff_10 : decode cX8_cutOff 10 = .ok (.invokestatic 144, 3) := by decide +kernel
theorem dX8_cutOff_13 : decode cX8_cutOff 13 = .ok (.ifCond .ne 13, 3) := by decide +kernel
theorem dX8_cutOff_16 : decode cX8_cutOff 16 = .ok (.iload 4, 2) := by decide +kernel
theorem dX8_cutOff_18 : decode cX8_cutOff 18 = .ok (.iconst 0, 1) := by decide +kernel
theorem dX8_cutOff_19 : decode cX8_cutOff 19 = .ok (.iconst 5, 1) := by decide +kernel
theorem dX8_cutOff_20 : decode cX8_cutOff 20 = .ok (.invokestatic 61, 3) := by decide +kernel
theorem dX8_cutOff_23 : decode cX8_cutOff 23 = .ok (.ifCond .eq 6, 3) := by decide +kernel
theorem dX8_cutOff_26 : decode cX8_cutOff 26 = .ok (.bipush (-2), 2) := by decide +kernel
theorem dX8_cutOff_28 : decode cX8_cutOff 28 = .ok (.ireturn, 1) := by decide +kernel
theorem dX8_cutOff_29 : decode cX8_cutOff 29 = .ok (.aload_n 0, 1) := by decide +kernel
theorem dX8_cutOff_30 : decode cX8_cutOff 30 = .ok (.getfield 12, 3) := by decide +kernel
theorem dX8_cutOff_33 : decode cX8_cutOff 33 = .ok (.iload_n 1, 1) := by decide +kernel
theorem dX8_cutOff_34 : decode cX8_cutOff 34 = .ok (.iload_n 2, 1) := by decide +kernel
theorem dX8_cutOff_35 : decode cX8_cutOff 35 = .ok (.iload_n 3, 1) := by decide +kernel
theorem dX8_cutOff_36 : decode cX8_cutOff 36 = .ok (.iload 4, 2) := by decide +kernel
theorem dX8_cutOff_38 : decode cX8_cutOff 38 = .ok (.invokevirtual 239, 3) := by decide +kernel
theorem dX8_cutOff_41 : decode cX8_cutOff 41 = .ok (.ireturn, 1) := by decide +kernel
set_option maxRecDepth 20000 in
theorem ggX8_sign_X8_isNoSet : GoodIn wsX8_sign wsX8_isNoSet := goodIn_r _ [5, 6, 7, 4, 8] (by decide +kernel) (by decide +kernel)
set_option maxRecDepth 20000 in
theorem gX8_sign_X8_isNoSet : GoodIn wsX8_sign (va_wsS RX8 117 yX8_isNoSet wsX8_isNoSet) := goodIn_app (goodIn_of _ (by decide +kernel)) ggX8_sign_X8_isNoSet
set_option maxRecDepth 20000 in
theorem ggX8_sign_X8_isNoPlaceOnLine : GoodIn wsX8_sign wsX8_isNoPlaceOnLine := goodIn_r _ [11, 6, 7, 4, 8] (by decide +kernel) (by decide +kernel)
set_option maxRecDepth 20000 in
theorem gX8_sign_X8_isNoPlaceOnLine : GoodIn wsX8_sign (va_wsS RX8 242 yX8_isNoPlaceOnLine wsX8_isNoPlaceOnLine) := goodIn_app (goodIn_of _ (by decide +kernel)) ggX8_sign_X8_isNoPlaceOnLine
set_option maxRecDepth 20000 in
theorem ggX8_sign_X8_isBeyond : GoodIn wsX8_sign wsX8_isBeyond := goodIn_r _ [8] (by decide +kernel) (by decide +kernel)
set_option maxRecDepth 20000 in
theorem gX8_sign_X8_isBeyond : GoodIn wsX8_sign (va_wsS RX8 61 yX8_isBeyond wsX8_isBeyond) := goodIn_app (goodIn_of _ (by decide +kernel)) ggX8_sign_X8_isBeyond
set_option maxRecDepth 20000 in
theorem ggX8_sign_X8_rowOf : GoodIn wsX8_sign wsX8_rowOf := goodIn_r _ [15, 1, 16, 17, 18, 19, 20, 21, 22, 23, 24, 25, 26, 27, 28, 29, 30, 31, 32, 33, 34, 35, 36, 37, 38, 39, 40, 41, 42, 43, 44, 45, 46, 47, 48, 49, 50, 51, 4, 52, 53, 54, 55, 56, 57, 58, 59, 60, 61, 62, 63, 64, 65, 66, 67, 68, 69, 70, 71, 72, 73, 74, 75, 76, 77, 78, 79, 80, 81, 82, 83, 84, 85, 86, 87, 88, 89, 90, 91, 92, 93, 94, 95, 96, 97, 98, 99, 100, 101, 102, 103, 132, 133, 134, 135, 136, 137, 138, 139, 140, 141, 142, 143, 144, 145, 146, 147, 148, 149, 150, 151, 152, 153, 154, 155, 156, 157, 158, 159, 160] (by decide +kernel) (by decide +kernel)
set_option maxRecDepth 20000 in
theorem gX8_sign_X8_rowOf : GoodIn wsX8_sign (wsV RX8 125 RX8 yX8_rowOf wsX8_rowOf) := goodIn_app (goodIn_of _ (by decide +kernel)) ggX8_sign_X8_rowOf
set_option maxRecDepth 20000 in
theorem ggX8_sign_X8_degreeOf : GoodIn wsX8_sign wsX8_degreeOf := goodIn_r _ [107, 16, 57, 30, 31, 32, 33, 34, 108, 81, 82, 83, 84, 85, 86, 132, 133, 134, 135, 136, 137, 138, 139, 140, 150, 151, 152, 153, 154, 155, 156, 157, 158, 159, 160] (by decide +kernel) (by decide +kernel)
set_option maxRecDepth 20000 in
theorem gX8_sign_X8_degreeOf : GoodIn wsX8_sign (wsV RX8 137 RX8 yX8_degreeOf wsX8_degreeOf) := goodIn_app (goodIn_of _ (by decide +kernel)) ggX8_sign_X8_degreeOf
set_option maxRecDepth 20000 in
theorem ggX8_sign_X4_signAt : GoodIn wsX8_sign wsX4_signAt := goodIn_r _ [112, 113, 114, 115, 20, 116, 68, 117, 118, 119, 120, 121, 122, 97, 123, 99, 124, 125, 126, 127, 128, 129, 130, 131, 141, 142, 143, 144, 145, 146, 147, 148, 149] (by decide +kernel) (by decide +kernel)
set_option maxRecDepth 20000 in
theorem gX8_sign_X4_signAt : GoodIn wsX8_sign (wsV RX8 245 RX4 yX4_signAt wsX4_signAt) := goodIn_app (goodIn_of _ (by decide +kernel)) ggX8_sign_X4_signAt
theorem dX8_sign_0 : decode cX8_sign 0 = .ok (.iload_n 1, 1) := by decide +kernel
theorem dX8_sign_1 : decode cX8_sign 1 = .ok (.invokestatic 117, 3) := by decide +kernel
theorem dX8_sign_4 : decode cX8_sign 4 = .ok (.ifCond .ne 20, 3) := by decide +kernel
theorem dX8_sign_7 : decode cX8_sign 7 = .ok (.iload_n 2, 1) := by decide +kernel
theorem dX8_sign_8 : decode cX8_sign 8 = .ok (.invokestatic 242, 3) := by decide +kernel
theorem dX8_sign_11 : decode cX8_sign 11 = .ok (.ifCond .ne 13, 3) := by decide +kernel
theorem dX8_sign_14 : decode cX8_sign 14 = .ok (.iload_n 3, 1) := by decide +kernel
theorem dX8_sign_15 : decode cX8_sign 15 = .ok (.iconst 1, 1) := by decide +kernel
theorem dX8_sign_16 : decode cX8_sign 16 = .ok (.bipush 6, 2) := by decide +kernel
theorem dX8_sign_18 : decode cX8_sign 18 = .ok (.invokestatic 61, 3) := by decide +kernel
theorem dX8_sign_21 : decode cX8_sign 21 = .ok (.ifCond .eq 6, 3) := by decide +kernel
theorem dX8_sign_24 : decode cX8_sign 24 = .ok (.bipush (-2), 2) := by decide +kernel
theorem dX8_sign_26 : decode cX8_sign 26 = .ok (.ireturn, 1) := by decide +kernel
theorem dX8_sign_27 : decode cX8_sign 27 = .ok (.aload_n 0, 1) := by decide +kernel
theorem dX8_sign_28 : decode cX8_sign 28 = .ok (.getfield 26, 3) := by decide +kernel
theorem dX8_sign_31 : decode cX8_sign 31 = .ok (.aload_n 0, 1) := by decide +kernel
theorem dX8_sign_32 : decode cX8_sign 32 = .ok (.iload_n 1, 1) := by decide +kernel
theorem dX8_sign_33 : decode cX8_sign 33 = .ok (.invokevirtual 125, 3) := by decide +kernel
theorem dX8_sign_36 : decode cX8_sign 36 = .ok (.aload_n 0, 1) := by decide +kernel
theorem dX8_sign_37 : decode cX8_sign 37 = .ok (.iload_n 1, 1) := by decide +kernel
theorem dX8_sign_38 : decode cX8_sign 38 = .ok (.invokevirtual 137, 3) := by decide +kernel
theorem dX8_sign_41 : decode cX8_sign 41 = .ok (.iload_n 2, 1) := by decide +kernel
theorem dX8_sign_42 : decode cX8_sign 42 = .ok (.iload_n 3, 1) := by decide +kernel
theorem dX8_sign_43 : decode cX8_sign 43 = .ok (.invokevirtual 245, 3) := by decide +kernel
theorem dX8_sign_46 : decode cX8_sign 46 = .ok (.ireturn, 1) := by decide +kernel
set_option maxRecDepth 20000 in
theorem ggX8_changes_X8_isNoSet : GoodIn wsX8_changes wsX8_isNoSet := goodIn_r _ [5, 6, 7, 4, 8] (by decide +kernel) (by decide +kernel)
set_option maxRecDepth 20000 in
theorem gX8_changes_X8_isNoSet : GoodIn wsX8_changes (va_wsS RX8 117 yX8_isNoSet wsX8_isNoSet) := goodIn_app (goodIn_of _ (by decide +kernel)) ggX8_changes_X8_isNoSet
set_option maxRecDepth 20000 in
theorem ggX8_changes_X8_isBeyond : GoodIn wsX8_changes wsX8_isBeyond := goodIn_r _ [8] (by decide +kernel) (by decide +kernel)
set_option maxRecDepth 20000 in
theorem gX8_changes_X8_isBeyond : GoodIn wsX8_changes (va_wsS RX8 61 yX8_isBeyond wsX8_isBeyond) := goodIn_app (goodIn_of _ (by decide +kernel)) ggX8_changes_X8_isBeyond
set_option maxRecDepth 20000 in
theorem ggX8_changes_X8_isNoPlaceOnLine : GoodIn wsX8_changes wsX8_isNoPlaceOnLine := goodIn_r _ [11, 6, 7, 4, 8] (by decide +kernel) (by decide +kernel)
set_option maxRecDepth 20000 in
theorem gX8_changes_X8_isNoPlaceOnLine : GoodIn wsX8_changes (va_wsS RX8 242 yX8_isNoPlaceOnLine wsX8_isNoPlaceOnLine) := goodIn_app (goodIn_of _ (by decide +kernel)) ggX8_changes_X8_isNoPlaceOnLine
set_option maxRecDepth 20000 in
theorem ggX8_changes_X8_rowOf : GoodIn wsX8_changes wsX8_rowOf := goodIn_r _ [15, 1, 16, 17, 18, 19, 20, 21, 22, 23, 24, 25, 26, 27, 28, 29, 30, 31, 32, 33, 34, 35, 36, 37, 38, 39, 40, 41, 42, 43, 44, 45, 46, 47, 48, 49, 50, 51, 4, 52, 53, 54, 55, 56, 57, 58, 59, 60, 61, 62, 63, 64, 65, 66, 67, 68, 69, 70, 71, 72, 73, 74, 75, 76, 77, 78, 79, 80, 81, 82, 83, 84, 85, 86, 87, 88, 89, 90, 91, 92, 93, 94, 95, 96, 97, 98, 99, 100, 101, 102, 103, 132, 133, 134, 135, 136, 137, 138, 139, 140, 141, 142, 143, 144, 145, 146, 147, 148, 149, 150, 151, 152, 153, 154, 155, 156, 157, 158, 159, 160] (by decide +kernel) (by decide +kernel)
set_option maxRecDepth 20000 in
theorem gX8_changes_X8_rowOf : GoodIn wsX8_changes (wsV RX8 125 RX8 yX8_rowOf wsX8_rowOf) := goodIn_app (goodIn_of _ (by decide +kernel)) ggX8_changes_X8_rowOf
set_option maxRecDepth 20000 in
theorem ggX8_changes_X8_degreeOf : GoodIn wsX8_changes wsX8_degreeOf := goodIn_r _ [107, 16, 57, 30, 31, 32, 33, 34, 108, 81, 82, 83, 84, 85, 86, 132, 133, 134, 135, 136, 137, 138, 139, 140, 150, 151, 152, 153, 154, 155, 156, 157, 158, 159, 160] (by decide +kernel) (by decide +kernel)
set_option maxRecDepth 20000 in
theorem gX8_changes_X8_degreeOf : GoodIn wsX8_changes (wsV RX8 137 RX8 yX8_degreeOf wsX8_degreeOf) := goodIn_app (goodIn_of _ (by decide +kernel)) ggX8_changes_X8_degreeOf
set_option maxRecDepth 20000 in
theorem ggX8_changes_X4_signAt : GoodIn wsX8_changes wsX4_signAt := goodIn_r _ [112, 113, 114, 115, 20, 116, 68, 117, 118, 119, 120, 121, 122, 97, 123, 99, 124, 125, 126, 127, 128, 129, 130, 131, 141, 142, 143, 144, 145, 146, 147, 148, 149] (by decide +kernel) (by decide +kernel)
set_option maxRecDepth 20000 in
theorem gX8_changes_X4_signAt : GoodIn wsX8_changes (wsV RX8 245 RX4 yX4_signAt wsX4_signAt) := goodIn_app (goodIn_of _ (by decide +kernel)) ggX8_changes_X4_signAt
theorem dX8_changes_0 : decode cX8_changes 0 = .ok (.iload_n 1, 1) := by decide +kernel
theorem dX8_changes_1 : decode cX8_changes 1 = .ok (.invokestatic 117, 3) := by decide +kernel
theorem dX8_changes_4 : decode cX8_changes 4 = .ok (.ifCond .ne 34, 3) := by decide +kernel
theorem dX8_changes_7 : decode cX8_changes 7 = .ok (.iload_n 2, 1) := by decide +kernel
theorem dX8_changes_8 : decode cX8_changes 8 = .ok (.iconst 1, 1) := by decide +kernel
theorem dX8_changes_9 : decode cX8_changes 9 = .ok (.bipush 6, 2) := by decide +kernel
theorem dX8_changes_11 : decode cX8_changes 11 = .ok (.invokestatic 61, 3) := by decide +kernel
theorem dX8_changes_14 : decode cX8_changes 14 = .ok (.ifCond .ne 24, 3) := by decide +kernel
theorem dX8_changes_17 : decode cX8_changes 17 = .ok (.iload_n 3, 1) := by decide +kernel
theorem dX8_changes_18 : decode cX8_changes 18 = .ok (.iload 4, 2) := by decide +kernel
theorem dX8_changes_20 : decode cX8_changes 20 = .ok (.if_icmp .gt 18, 3) := by decide +kernel
theorem dX8_changes_23 : decode cX8_changes 23 = .ok (.iload_n 3, 1) := by decide +kernel
theorem dX8_changes_24 : decode cX8_changes 24 = .ok (.invokestatic 242, 3) := by decide +kernel
theorem dX8_changes_27 : decode cX8_changes 27 = .ok (.ifCond .ne 11, 3) := by decide +kernel
theorem dX8_changes_30 : decode cX8_changes 30 = .ok (.iload 4, 2) := by decide +kernel
theorem dX8_changes_32 : decode cX8_changes 32 = .ok (.invokestatic 242, 3) := by decide +kernel
theorem dX8_changes_35 : decode cX8_changes 35 = .ok (.ifCond .eq 6, 3) := by decide +kernel
theorem dX8_changes_38 : decode cX8_changes 38 = .ok (.bipush (-2), 2) := by decide +kernel
theorem dX8_changes_40 : decode cX8_changes 40 = .ok (.ireturn, 1) := by decide +kernel
theorem dX8_changes_41 : decode cX8_changes 41 = .ok (.aload_n 0, 1) := by decide +kernel
theorem dX8_changes_42 : decode cX8_changes 42 = .ok (.iload_n 1, 1) := by decide +kernel
theorem dX8_changes_43 : decode cX8_changes 43 = .ok (.invokevirtual 125, 3) := by decide +kernel
theorem dX8_changes_46 : decode cX8_changes 46 = .ok (.istore 5, 2) := by decide +kernel
theorem dX8_changes_48 : decode cX8_changes 48 = .ok (.aload_n 0, 1) := by decide +kernel
theorem dX8_changes_49 : decode cX8_changes 49 = .ok (.iload_n 1, 1) := by decide +kernel
theorem dX8_changes_50 : decode cX8_changes 50 = .ok (.invokevirtual 137, 3) := by decide +kernel
theorem dX8_changes_53 : decode cX8_changes 53 = .ok (.istore 6, 2) := by decide +kernel
theorem dX8_changes_55 : decode cX8_changes 55 = .ok (.iconst 0, 1) := by decide +kernel
theorem dX8_changes_56 : decode cX8_changes 56 = .ok (.istore 7, 2) := by decide +kernel
theorem dX8_changes_58 : decode cX8_changes 58 = .ok (.iconst 0, 1) := by decide +kernel
theorem dX8_changes_59 : decode cX8_changes 59 = .ok (.istore 8, 2) := by decide +kernel
theorem dX8_changes_61 : decode cX8_changes 61 = .ok (.iload_n 3, 1) := by decide +kernel
theorem dX8_changes_62 : decode cX8_changes 62 = .ok (.istore 9, 2) := by decide +kernel
theorem dX8_changes_64 : decode cX8_changes 64 = .ok (.iload 9, 2) := by decide +kernel
theorem dX8_changes_66 : decode cX8_changes 66 = .ok (.iload 4, 2) := by decide +kernel
theorem dX8_changes_68 : decode cX8_changes 68 = .ok (.if_icmp .gt 66, 3) := by decide +kernel
theorem dX8_changes_71 : decode cX8_changes 71 = .ok (.aload_n 0, 1) := by decide +kernel
theorem dX8_changes_72 : decode cX8_changes 72 = .ok (.getfield 26, 3) := by decide +kernel
theorem dX8_changes_75 : decode cX8_changes 75 = .ok (.iload 5, 2) := by decide +kernel
theorem dX8_changes_77 : decode cX8_changes 77 = .ok (.iload 6, 2) := by decide +kernel
theorem dX8_changes_79 : decode cX8_changes 79 = .ok (.iload 9, 2) := by decide +kernel
theorem dX8_changes_81 : decode cX8_changes 81 = .ok (.iload_n 2, 1) := by decide +kernel
theorem dX8_changes_82 : decode cX8_changes 82 = .ok (.invokevirtual 245, 3) := by decide +kernel
theorem dX8_changes_85 : decode cX8_changes 85 = .ok (.istore 10, 2) := by decide +kernel
theorem dX8_changes_87 : decode cX8_changes 87 = .ok (.iload 10, 2) := by decide +kernel
theorem dX8_changes_89 : decode cX8_changes 89 = .ok (.bipush (-5), 2) := by decide +kernel
theorem dX8_changes_91 : decode cX8_changes 91 = .ok (.if_icmp .ne 6, 3) := by decide +kernel
theorem dX8_changes_94 : decode cX8_changes 94 = .ok (.bipush (-5), 2) := by decide +kernel
theorem dX8_changes_96 : decode cX8_changes 96 = .ok (.ireturn, 1) := by decide +kernel
theorem dX8_changes_97 : decode cX8_changes 97 = .ok (.iload 10, 2) := by decide +kernel
theorem dX8_changes_99 : decode cX8_changes 99 = .ok (.ifCond .eq 29, 3) := by decide +kernel
theorem dX8_changes_102 : decode cX8_changes 102 = .ok (.iload 8, 2) := by decide +kernel
theorem dX8_changes_104 : decode cX8_changes 104 = .ok (.iload 7, 2) := by decide +kernel
theorem dX8_changes_106 : decode cX8_changes 106 = .ok (.ifCond .eq 14, 3) := by decide +kernel
theorem dX8_changes_109 : decode cX8_changes 109 = .ok (.iload 10, 2) := by decide +kernel
theorem dX8_changes_111 : decode cX8_changes 111 = .ok (.iload 7, 2) := by decide +kernel
theorem dX8_changes_113 : decode cX8_changes 113 = .ok (.if_icmp .eq 7, 3) := by decide +kernel
theorem dX8_changes_116 : decode cX8_changes 116 = .ok (.iconst 1, 1) := by decide +kernel
theorem dX8_changes_117 : decode cX8_changes 117 = .ok (.goto 4, 3) := by decide +kernel
theorem dX8_changes_120 : decode cX8_changes 120 = .ok (.iconst 0, 1) := by decide +kernel
theorem dX8_changes_121 : decode cX8_changes 121 = .ok (.iadd, 1) := by decide +kernel
theorem dX8_changes_122 : decode cX8_changes 122 = .ok (.istore 8, 2) := by decide +kernel
theorem dX8_changes_124 : decode cX8_changes 124 = .ok (.iload 10, 2) := by decide +kernel
theorem dX8_changes_126 : decode cX8_changes 126 = .ok (.istore 7, 2) := by decide +kernel
theorem dX8_changes_128 : decode cX8_changes 128 = .ok (.iinc 9 1, 3) := by decide +kernel
theorem dX8_changes_131 : decode cX8_changes 131 = .ok (.goto (-67), 3) := by decide +kernel
theorem dX8_changes_134 : decode cX8_changes 134 = .ok (.iload 8, 2) := by decide +kernel
theorem dX8_changes_136 : decode cX8_changes 136 = .ok (.ireturn, 1) := by decide +kernel
set_option maxRecDepth 20000 in
theorem ggX8_isPairing_X1_hasLines : GoodIn wsX8_isPairing wsX1_hasLines := goodIn_r _ [6, 7, 8, 9, 10, 5, 11, 12, 28, 29, 30, 31, 32, 33, 34, 35, 36, 37, 38] (by decide +kernel) (by decide +kernel)
set_option maxRecDepth 20000 in
theorem gX8_isPairing_X1_hasLines : GoodIn wsX8_isPairing (wsV RX8 248 RX1 yX1_hasLines wsX1_hasLines) := goodIn_app (goodIn_of _ (by decide +kernel)) ggX8_isPairing_X1_hasLines
set_option maxRecDepth 20000 in
theorem ggX8_isPairing_X1_meetNowhere : GoodIn wsX8_isPairing wsX1_meetNowhere := goodIn_r _ [16, 12, 17, 18, 28, 29, 30, 31, 32, 33, 34, 35, 36, 37, 38] (by decide +kernel) (by decide +kernel)
set_option maxRecDepth 20000 in
theorem gX8_isPairing_X1_meetNowhere : GoodIn wsX8_isPairing (wsV RX8 252 RX1 yX1_meetNowhere wsX1_meetNowhere) := goodIn_app (goodIn_of _ (by decide +kernel)) ggX8_isPairing_X1_meetNowhere
theorem dX8_isPairing_0 : decode cX8_isPairing 0 = .ok (.aload_n 0, 1) := by decide +kernel
theorem dX8_isPairing_1 : decode cX8_isPairing 1 = .ok (.getfield 12, 3) := by decide +kernel
theorem dX8_isPairing_4 : decode cX8_isPairing 4 = .ok (.lload_n 1, 1) := by decide +kernel
theorem dX8_isPairing_5 : decode cX8_isPairing 5 = .ok (.invokevirtual 248, 3) := by decide +kernel
theorem dX8_isPairing_8 : decode cX8_isPairing 8 = .ok (.ifCond .ne 6, 3) := by decide +kernel
theorem dX8_isPairing_11 : decode cX8_isPairing 11 = .ok (.bipush (-2), 2) := by decide +kernel
theorem dX8_isPairing_13 : decode cX8_isPairing 13 = .ok (.ireturn, 1) := by decide +kernel
theorem dX8_isPairing_14 : decode cX8_isPairing 14 = .ok (.aload_n 0, 1) := by decide +kernel
theorem dX8_isPairing_15 : decode cX8_isPairing 15 = .ok (.getfield 12, 3) := by decide +kernel
theorem dX8_isPairing_18 : decode cX8_isPairing 18 = .ok (.lload_n 1, 1) := by decide +kernel
theorem dX8_isPairing_19 : decode cX8_isPairing 19 = .ok (.invokevirtual 252, 3) := by decide +kernel
theorem dX8_isPairing_22 : decode cX8_isPairing 22 = .ok (.ifCond .eq 7, 3) := by decide +kernel
theorem dX8_isPairing_25 : decode cX8_isPairing 25 = .ok (.iconst 1, 1) := by decide +kernel
theorem dX8_isPairing_26 : decode cX8_isPairing 26 = .ok (.goto 4, 3) := by decide +kernel
theorem dX8_isPairing_29 : decode cX8_isPairing 29 = .ok (.iconst 0, 1) := by decide +kernel
theorem dX8_isPairing_30 : decode cX8_isPairing 30 = .ok (.ireturn, 1) := by decide +kernel
set_option maxRecDepth 20000 in
theorem ggX8_worth_X1_hasLines : GoodIn wsX8_worth wsX1_hasLines := goodIn_r _ [9, 10, 11, 12, 13, 8, 14, 15, 55, 56, 57, 58, 59, 60, 61, 62, 63, 64, 65] (by decide +kernel) (by decide +kernel)
set_option maxRecDepth 20000 in
theorem gX8_worth_X1_hasLines : GoodIn wsX8_worth (wsV RX8 248 RX1 yX1_hasLines wsX1_hasLines) := goodIn_app (goodIn_of _ (by decide +kernel)) ggX8_worth_X1_hasLines
set_option maxRecDepth 20000 in
theorem ggX8_worth_X1_meetNowhere : GoodIn wsX8_worth wsX1_meetNowhere := goodIn_r _ [19, 15, 20, 21, 55, 56, 57, 58, 59, 60, 61, 62, 63, 64, 65] (by decide +kernel) (by decide +kernel)
set_option maxRecDepth 20000 in
theorem gX8_worth_X1_meetNowhere : GoodIn wsX8_worth (wsV RX8 252 RX1 yX1_meetNowhere wsX1_meetNowhere) := goodIn_app (goodIn_of _ (by decide +kernel)) ggX8_worth_X1_meetNowhere
set_option maxRecDepth 20000 in
theorem ggX8_worth_X1_productOf : GoodIn wsX8_worth wsX1_productOf := goodIn_r _ [25, 15, 26, 27, 28, 8, 29, 30, 31, 32, 33, 34, 35, 36, 37, 38, 39, 40, 41, 42, 43, 44, 45, 55, 56, 57, 58, 59, 60, 61, 62, 63, 64, 65] (by decide +kernel) (by decide +kernel)
set_option maxRecDepth 20000 in
theorem gX8_worth_X1_productOf : GoodIn wsX8_worth (wsV RX8 255 RX1 yX1_productOf wsX1_productOf) := goodIn_app (goodIn_of _ (by decide +kernel)) ggX8_worth_X1_productOf
theorem dX8_worth_0 : decode cX8_worth 0 = .ok (.aload_n 0, 1) := by decide +kernel
theorem dX8_worth_1 : decode cX8_worth 1 = .ok (.getfield 12, 3) := by decide +kernel
theorem dX8_worth_4 : decode cX8_worth 4 = .ok (.lload_n 1, 1) := by decide +kernel
theorem dX8_worth_5 : decode cX8_worth 5 = .ok (.invokevirtual 248, 3) := by decide +kernel
theorem dX8_worth_8 : decode cX8_worth 8 = .ok (.ifCond .ne 7, 3) := by decide +kernel
theorem dX8_worth_11 : decode cX8_worth 11 = .ok (.ldc2_w 123, 3) := by decide +kernel
theorem dX8_worth_14 : decode cX8_worth 14 = .ok (.lreturn, 1) := by decide +kernel
theorem dX8_worth_15 : decode cX8_worth 15 = .ok (.aload_n 0, 1) := by decide +kernel
theorem dX8_worth_16 : decode cX8_worth 16 = .ok (.getfield 12, 3) := by decide +kernel
theorem dX8_worth_19 : decode cX8_worth 19 = .ok (.lload_n 1, 1) := by decide +kernel
theorem dX8_worth_20 : decode cX8_worth 20 = .ok (.invokevirtual 252, 3) := by decide +kernel
theorem dX8_worth_23 : decode cX8_worth 23 = .ok (.ifCond .ne 7, 3) := by decide +kernel
theorem dX8_worth_26 : decode cX8_worth 26 = .ok (.ldc2_w 227, 3) := by decide +kernel
theorem dX8_worth_29 : decode cX8_worth 29 = .ok (.lreturn, 1) := by decide +kernel
theorem dX8_worth_30 : decode cX8_worth 30 = .ok (.aload_n 0, 1) := by decide +kernel
theorem dX8_worth_31 : decode cX8_worth 31 = .ok (.getfield 12, 3) := by decide +kernel
theorem dX8_worth_34 : decode cX8_worth 34 = .ok (.lload_n 1, 1) := by decide +kernel
theorem dX8_worth_35 : decode cX8_worth 35 = .ok (.invokevirtual 255, 3) := by decide +kernel
theorem dX8_worth_38 : decode cX8_worth 38 = .ok (.lstore_n 3, 1) := by decide +kernel
theorem dX8_worth_39 : decode cX8_worth 39 = .ok (.lload_n 3, 1) := by decide +kernel
theorem dX8_worth_40 : decode cX8_worth 40 = .ok (.lconst 0, 1) := by decide +kernel
theorem dX8_worth_41 : decode cX8_worth 41 = .ok (.lcmp, 1) := by decide +kernel
theorem dX8_worth_42 : decode cX8_worth 42 = .ok (.ifCond .ge 9, 3) := by decide +kernel
theorem dX8_worth_45 : decode cX8_worth 45 = .ok (.ldc2_w 131, 3) := by decide +kernel
theorem dX8_worth_48 : decode cX8_worth 48 = .ok (.goto 4, 3) := by decide +kernel
theorem dX8_worth_51 : decode cX8_worth 51 = .ok (.lload_n 3, 1) := by decide +kernel
theorem dX8_worth_52 : decode cX8_worth 52 = .ok (.lreturn, 1) := by decide +kernel
set_option maxRecDepth 20000 in
theorem ggX8_listed_X8_isBeyond : GoodIn wsX8_listed wsX8_isBeyond := goodIn_r _ [7] (by decide +kernel) (by decide +kernel)
set_option maxRecDepth 20000 in
theorem gX8_listed_X8_isBeyond : GoodIn wsX8_listed (va_wsS RX8 61 yX8_isBeyond wsX8_isBeyond) := goodIn_app (goodIn_of _ (by decide +kernel)) ggX8_listed_X8_isBeyond
set_option maxRecDepth 20000 in
theorem ggX8_listed_X1_pairingsOf : GoodIn wsX8_listed wsX1_pairingsOf := goodIn_r _ [12, 13, 14, 15, 11, 16, 17, 18, 19, 20, 21, 22, 23, 24, 25, 26, 27, 28, 29, 30, 31, 32, 33, 34, 35, 36, 37, 38, 39, 40, 41, 42, 43, 44, 58, 59, 60, 61, 62, 63, 64, 65, 66, 67, 68] (by decide +kernel) (by decide +kernel)
set_option maxRecDepth 20000 in
theorem gX8_listed_X1_pairingsOf : GoodIn wsX8_listed (wsV RX8 259 RX1 yX1_pairingsOf wsX1_pairingsOf) := goodIn_app (goodIn_of _ (by decide +kernel)) ggX8_listed_X1_pairingsOf
set_option maxRecDepth 20000 in
theorem ggX8_listed_X1_pairingAt : GoodIn wsX8_listed wsX1_pairingAt := goodIn_r _ [48, 33, 13, 14, 15, 11, 16, 17, 22, 23, 24, 25, 26, 27, 28, 29, 30, 31, 32, 34, 35, 36, 37, 38, 39, 40, 41, 42, 43, 44, 18, 19, 20, 21, 58, 59, 60, 61, 62, 63, 64, 65, 66, 67, 68] (by decide +kernel) (by decide +kernel)
set_option maxRecDepth 20000 in
theorem gX8_listed_X1_pairingAt : GoodIn wsX8_listed (wsV RX8 263 RX1 yX1_pairingAt wsX1_pairingAt) := goodIn_app (goodIn_of _ (by decide +kernel)) ggX8_listed_X1_pairingAt
theorem dX8_listed_0 : decode cX8_listed 0 = .ok (.iload_n 1, 1) := by decide +kernel
theorem dX8_listed_1 : decode cX8_listed 1 = .ok (.iconst 0, 1) := by decide +kernel
theorem dX8_listed_2 : decode cX8_listed 2 = .ok (.bipush 6, 2) := by decide +kernel
theorem dX8_listed_4 : decode cX8_listed 4 = .ok (.invokestatic 61, 3) := by decide +kernel
theorem dX8_listed_7 : decode cX8_listed 7 = .ok (.ifCond .eq 7, 3) := by decide +kernel
theorem dX8_listed_10 : decode cX8_listed 10 = .ok (.ldc2_w 123, 3) := by decide +kernel
theorem dX8_listed_13 : decode cX8_listed 13 = .ok (.lreturn, 1) := by decide +kernel
theorem dX8_listed_14 : decode cX8_listed 14 = .ok (.iload_n 2, 1) := by decide +kernel
theorem dX8_listed_15 : decode cX8_listed 15 = .ok (.iconst (-1), 1) := by decide +kernel
theorem dX8_listed_16 : decode cX8_listed 16 = .ok (.if_icmp .ge 7, 3) := by decide +kernel
theorem dX8_listed_19 : decode cX8_listed 19 = .ok (.ldc2_w 221, 3) := by decide +kernel
theorem dX8_listed_22 : decode cX8_listed 22 = .ok (.lreturn, 1) := by decide +kernel
theorem dX8_listed_23 : decode cX8_listed 23 = .ok (.iload_n 2, 1) := by decide +kernel
theorem dX8_listed_24 : decode cX8_listed 24 = .ok (.iconst (-1), 1) := by decide +kernel
theorem dX8_listed_25 : decode cX8_listed 25 = .ok (.if_icmp .ne 12, 3) := by decide +kernel
theorem dX8_listed_28 : decode cX8_listed 28 = .ok (.aload_n 0, 1) := by decide +kernel
theorem dX8_listed_29 : decode cX8_listed 29 = .ok (.getfield 12, 3) := by decide +kernel
theorem dX8_listed_32 : decode cX8_listed 32 = .ok (.iload_n 1, 1) := by decide +kernel
theorem dX8_listed_33 : decode cX8_listed 33 = .ok (.invokevirtual 259, 3) := by decide +kernel
theorem dX8_listed_36 : decode cX8_listed 36 = .ok (.lreturn, 1) := by decide +kernel
theorem dX8_listed_37 : decode cX8_listed 37 = .ok (.aload_n 0, 1) := by decide +kernel
theorem dX8_listed_38 : decode cX8_listed 38 = .ok (.getfield 12, 3) := by decide +kernel
theorem dX8_listed_41 : decode cX8_listed 41 = .ok (.iload_n 1, 1) := by decide +kernel
theorem dX8_listed_42 : decode cX8_listed 42 = .ok (.iload_n 2, 1) := by decide +kernel
theorem dX8_listed_43 : decode cX8_listed 43 = .ok (.invokevirtual 263, 3) := by decide +kernel
theorem dX8_listed_46 : decode cX8_listed 46 = .ok (.lstore_n 3, 1) := by decide +kernel
theorem dX8_listed_47 : decode cX8_listed 47 = .ok (.lload_n 3, 1) := by decide +kernel
theorem dX8_listed_48 : decode cX8_listed 48 = .ok (.lconst 0, 1) := by decide +kernel
theorem dX8_listed_49 : decode cX8_listed 49 = .ok (.lcmp, 1) := by decide +kernel
theorem dX8_listed_50 : decode cX8_listed 50 = .ok (.ifCond .ge 9, 3) := by decide +kernel
theorem dX8_listed_53 : decode cX8_listed 53 = .ok (.ldc2_w 221, 3) := by decide +kernel
theorem dX8_listed_56 : decode cX8_listed 56 = .ok (.goto 4, 3) := by decide +kernel
theorem dX8_listed_59 : decode cX8_listed 59 = .ok (.lload_n 3, 1) := by decide +kernel
theorem dX8_listed_60 : decode cX8_listed 60 = .ok (.lreturn, 1) := by decide +kernel
set_option maxRecDepth 20000 in
theorem ggX8_lot_X8_isBeyond : GoodIn wsX8_lot wsX8_isBeyond := goodIn_r _ [6] (by decide +kernel) (by decide +kernel)
set_option maxRecDepth 20000 in
theorem gX8_lot_X8_isBeyond : GoodIn wsX8_lot (va_wsS RX8 61 yX8_isBeyond wsX8_isBeyond) := goodIn_app (goodIn_of _ (by decide +kernel)) ggX8_lot_X8_isBeyond
set_option maxRecDepth 20000 in
theorem ggX8_lot_X1_drawn : GoodIn wsX8_lot wsX1_drawn := goodIn_r _ [11, 12, 13, 14, 15, 16, 10, 17, 18, 19, 20, 30, 31, 32, 33, 34, 35, 36, 37, 38, 39, 40] (by decide +kernel) (by decide +kernel)
set_option maxRecDepth 20000 in
theorem gX8_lot_X1_drawn : GoodIn wsX8_lot (wsV RX8 267 RX1 yX1_drawn wsX1_drawn) := goodIn_app (goodIn_of _ (by decide +kernel)) ggX8_lot_X1_drawn
theorem dX8_lot_0 : decode cX8_lot 0 = .ok (.iload_n 2, 1) := by decide +kernel
theorem dX8_lot_1 : decode cX8_lot 1 = .ok (.iconst 0, 1) := by decide +kernel
theorem dX8_lot_2 : decode cX8_lot 2 = .ok (.bipush 10, 2) := by decide +kernel
theorem dX8_lot_4 : decode cX8_lot 4 = .ok (.invokestatic 61, 3) := by decide +kernel
theorem dX8_lot_7 : decode cX8_lot 7 = .ok (.ifCond .eq 7, 3) := by decide +kernel
theorem dX8_lot_10 : decode cX8_lot 10 = .ok (.ldc2_w 123, 3) := by decide +kernel
theorem dX8_lot_13 : decode cX8_lot 13 = .ok (.lreturn, 1) := by decide +kernel
theorem dX8_lot_14 : decode cX8_lot 14 = .ok (.aload_n 0, 1) := by decide +kernel
theorem dX8_lot_15 : decode cX8_lot 15 = .ok (.getfield 12, 3) := by decide +kernel
theorem dX8_lot_18 : decode cX8_lot 18 = .ok (.iload_n 1, 1) := by decide +kernel
theorem dX8_lot_19 : decode cX8_lot 19 = .ok (.iload_n 2, 1) := by decide +kernel
theorem dX8_lot_20 : decode cX8_lot 20 = .ok (.invokevirtual 267, 3) := by decide +kernel
theorem dX8_lot_23 : decode cX8_lot 23 = .ok (.lreturn, 1) := by decide +kernel
set_option maxRecDepth 20000 in
theorem ggX8_rack_X8_isNoRack : GoodIn wsX8_rack wsX8_isNoRack := goodIn_r _ [5, 6, 7, 4, 8] (by decide +kernel) (by decide +kernel)
set_option maxRecDepth 20000 in
theorem gX8_rack_X8_isNoRack : GoodIn wsX8_rack (va_wsS RX8 270 yX8_isNoRack wsX8_isNoRack) := goodIn_app (goodIn_of _ (by decide +kernel)) ggX8_rack_X8_isNoRack
set_option maxRecDepth 20000 in
theorem ggX8_rack_X8_isBeyond : GoodIn wsX8_rack wsX8_isBeyond := goodIn_r _ [8] (by decide +kernel) (by decide +kernel)
set_option maxRecDepth 20000 in
theorem gX8_rack_X8_isBeyond : GoodIn wsX8_rack (va_wsS RX8 61 yX8_isBeyond wsX8_isBeyond) := goodIn_app (goodIn_of _ (by decide +kernel)) ggX8_rack_X8_isBeyond
set_option maxRecDepth 20000 in
theorem ggX8_rack_X2_begin : GoodIn wsX8_rack wsX2_begin := goodIn_r _ [13, 14, 15, 16, 17, 18, 19, 20, 30, 31, 32, 33] (by decide +kernel) (by decide +kernel)
set_option maxRecDepth 20000 in
theorem gX8_rack_X2_begin : GoodIn wsX8_rack (wsV RX8 273 RX2 yX2_begin wsX2_begin) := goodIn_app (goodIn_of _ (by decide +kernel)) ggX8_rack_X2_begin
theorem dX8_rack_0 : decode cX8_rack 0 = .ok (.iload_n 1, 1) := by decide +kernel
theorem dX8_rack_1 : decode cX8_rack 1 = .ok (.invokestatic 270, 3) := by decide +kernel
theorem dX8_rack_4 : decode cX8_rack 4 = .ok (.ifCond .ne 23, 3) := by decide +kernel
theorem dX8_rack_7 : decode cX8_rack 7 = .ok (.iload_n 2, 1) := by decide +kernel
theorem dX8_rack_8 : decode cX8_rack 8 = .ok (.iconst (-1), 1) := by decide +kernel
theorem dX8_rack_9 : decode cX8_rack 9 = .ok (.iconst 5, 1) := by decide +kernel
theorem dX8_rack_10 : decode cX8_rack 10 = .ok (.invokestatic 61, 3) := by decide +kernel
theorem dX8_rack_13 : decode cX8_rack 13 = .ok (.ifCond .ne 14, 3) := by decide +kernel
theorem dX8_rack_16 : decode cX8_rack 16 = .ok (.iload_n 2, 1) := by decide +kernel
theorem dX8_rack_17 : decode cX8_rack 17 = .ok (.iconst (-1), 1) := by decide +kernel
theorem dX8_rack_18 : decode cX8_rack 18 = .ok (.if_icmp .eq 12, 3) := by decide +kernel
theorem dX8_rack_21 : decode cX8_rack 21 = .ok (.iload_n 3, 1) := by decide +kernel
theorem dX8_rack_22 : decode cX8_rack 22 = .ok (.bipush 20, 2) := by decide +kernel
theorem dX8_rack_24 : decode cX8_rack 24 = .ok (.if_icmp .le 6, 3) := by decide +kernel
theorem dX8_rack_27 : decode cX8_rack 27 = .ok (.bipush (-2), 2) := by decide +kernel
theorem dX8_rack_29 : decode cX8_rack 29 = .ok (.ireturn, 1) := by decide +kernel
theorem dX8_rack_30 : decode cX8_rack 30 = .ok (.iload_n 2, 1) := by decide +kernel
theorem dX8_rack_31 : decode cX8_rack 31 = .ok (.iconst (-1), 1) := by decide +kernel
theorem dX8_rack_32 : decode cX8_rack 32 = .ok (.if_icmp .eq 10, 3) := by decide +kernel
theorem dX8_rack_35 : decode cX8_rack 35 = .ok (.iload_n 3, 1) := by decide +kernel
theorem dX8_rack_36 : decode cX8_rack 36 = .ok (.ifCond .ge 6, 3) := by decide +kernel
theorem dX8_rack_39 : decode cX8_rack 39 = .ok (.bipush (-14), 2) := by decide +kernel
theorem dX8_rack_41 : decode cX8_rack 41 = .ok (.ireturn, 1) := by decide +kernel
theorem dX8_rack_42 : decode cX8_rack 42 = .ok (.aload_n 0, 1) := by decide +kernel
theorem dX8_rack_43 : decode cX8_rack 43 = .ok (.getfield 49, 3) := by decide +kernel
theorem dX8_rack_46 : decode cX8_rack 46 = .ok (.iload_n 1, 1) := by decide +kernel
theorem dX8_rack_47 : decode cX8_rack 47 = .ok (.aaload, 1) := by decide +kernel
theorem dX8_rack_48 : decode cX8_rack 48 = .ok (.iload_n 2, 1) := by decide +kernel
theorem dX8_rack_49 : decode cX8_rack 49 = .ok (.iload_n 3, 1) := by decide +kernel
theorem dX8_rack_50 : decode cX8_rack 50 = .ok (.invokevirtual 273, 3) := by decide +kernel
theorem dX8_rack_53 : decode cX8_rack 53 = .ok (.iconst 1, 1) := by decide +kernel
theorem dX8_rack_54 : decode cX8_rack 54 = .ok (.ireturn, 1) := by decide +kernel
set_option maxRecDepth 20000 in
theorem ggX8_lay_X8_isNoRack : GoodIn wsX8_lay wsX8_isNoRack := goodIn_r _ [9, 10, 11, 8, 12] (by decide +kernel) (by decide +kernel)
set_option maxRecDepth 20000 in
theorem gX8_lay_X8_isNoRack : GoodIn wsX8_lay (va_wsS RX8 270 yX8_isNoRack wsX8_isNoRack) := goodIn_app (goodIn_of _ (by decide +kernel)) ggX8_lay_X8_isNoRack
set_option maxRecDepth 20000 in
theorem ggX8_lay_X1_hasLine : GoodIn wsX8_lay wsX1_hasLine := goodIn_r _ [17, 18, 45, 46, 47, 48, 49, 50, 51, 52, 53, 54, 55] (by decide +kernel) (by decide +kernel)
set_option maxRecDepth 20000 in
theorem gX8_lay_X1_hasLine : GoodIn wsX8_lay (wsV RX8 77 RX1 yX1_hasLine wsX1_hasLine) := goodIn_app (goodIn_of _ (by decide +kernel)) ggX8_lay_X1_hasLine
set_option maxRecDepth 20000 in
theorem ggX8_lay_X2_faultAt : GoodIn wsX8_lay wsX2_faultAt := goodIn_r _ [23, 24, 25, 56, 57, 58, 59] (by decide +kernel) (by decide +kernel)
set_option maxRecDepth 20000 in
theorem gX8_lay_X2_faultAt : GoodIn wsX8_lay (wsV RX8 276 RX2 yX2_faultAt wsX2_faultAt) := goodIn_app (goodIn_of _ (by decide +kernel)) ggX8_lay_X2_faultAt
set_option maxRecDepth 20000 in
theorem ggX8_lay_X8_isUnder : GoodIn wsX8_lay wsX8_isUnder := goodIn_r _ [28, 29] (by decide +kernel) (by decide +kernel)
set_option maxRecDepth 20000 in
theorem gX8_lay_X8_isUnder : GoodIn wsX8_lay (va_wsS RX8 282 yX8_isUnder wsX8_isUnder) := goodIn_app (goodIn_of _ (by decide +kernel)) ggX8_lay_X8_isUnder
set_option maxRecDepth 20000 in
theorem ggX8_lay_X2_put : GoodIn wsX8_lay wsX2_put := goodIn_r _ [33, 34, 35, 56, 57, 58, 59] (by decide +kernel) (by decide +kernel)
set_option maxRecDepth 20000 in
theorem gX8_lay_X2_put : GoodIn wsX8_lay (wsV RX8 285 RX2 yX2_put wsX2_put) := goodIn_app (goodIn_of _ (by decide +kernel)) ggX8_lay_X2_put
theorem dX8_lay_0 : decode cX8_lay 0 = .ok (.iload_n 1, 1) := by decide +kernel
theorem dX8_lay_1 : decode cX8_lay 1 = .ok (.invokestatic 270, 3) := by decide +kernel
theorem dX8_lay_4 : decode cX8_lay 4 = .ok (.ifCond .ne 14, 3) := by decide +kernel
theorem dX8_lay_7 : decode cX8_lay 7 = .ok (.aload_n 0, 1) := by decide +kernel
theorem dX8_lay_8 : decode cX8_lay 8 = .ok (.getfield 12, 3) := by decide +kernel
theorem dX8_lay_11 : decode cX8_lay 11 = .ok (.iload_n 3, 1) := by decide +kernel
theorem dX8_lay_12 : decode cX8_lay 12 = .ok (.invokevirtual 77, 3) := by decide +kernel
theorem dX8_lay_15 : decode cX8_lay 15 = .ok (.ifCond .ne 6, 3) := by decide +kernel
theorem dX8_lay_18 : decode cX8_lay 18 = .ok (.bipush (-2), 2) := by decide +kernel
theorem dX8_lay_20 : decode cX8_lay 20 = .ok (.ireturn, 1) := by decide +kernel
theorem dX8_lay_21 : decode cX8_lay 21 = .ok (.aload_n 0, 1) := by decide +kernel
theorem dX8_lay_22 : decode cX8_lay 22 = .ok (.getfield 49, 3) := by decide +kernel
theorem dX8_lay_25 : decode cX8_lay 25 = .ok (.iload_n 1, 1) := by decide +kernel
theorem dX8_lay_26 : decode cX8_lay 26 = .ok (.aaload, 1) := by decide +kernel
theorem dX8_lay_27 : decode cX8_lay 27 = .ok (.iload_n 2, 1) := by decide +kernel
theorem dX8_lay_28 : decode cX8_lay 28 = .ok (.invokevirtual 276, 3) := by decide +kernel
theorem dX8_lay_31 : decode cX8_lay 31 = .ok (.istore 4, 2) := by decide +kernel
theorem dX8_lay_33 : decode cX8_lay 33 = .ok (.iload 4, 2) := by decide +kernel
theorem dX8_lay_35 : decode cX8_lay 35 = .ok (.ifCond .eq 6, 3) := by decide +kernel
theorem dX8_lay_38 : decode cX8_lay 38 = .ok (.iload 4, 2) := by decide +kernel
theorem dX8_lay_40 : decode cX8_lay 40 = .ok (.ireturn, 1) := by decide +kernel
theorem dX8_lay_41 : decode cX8_lay 41 = .ok (.aload_n 0, 1) := by decide +kernel
theorem dX8_lay_42 : decode cX8_lay 42 = .ok (.getfield 12, 3) := by decide +kernel
theorem dX8_lay_45 : decode cX8_lay 45 = .ok (.getfield 81, 3) := by decide +kernel
theorem dX8_lay_48 : decode cX8_lay 48 = .ok (.iload_n 3, 1) := by decide +kernel
theorem dX8_lay_49 : decode cX8_lay 49 = .ok (.iaload, 1) := by decide +kernel
theorem dX8_lay_50 : decode cX8_lay 50 = .ok (.istore 5, 2) := by decide +kernel
theorem dX8_lay_52 : decode cX8_lay 52 = .ok (.iload 5, 2) := by decide +kernel
theorem dX8_lay_54 : decode cX8_lay 54 = .ok (.aload_n 0, 1) := by decide +kernel
theorem dX8_lay_55 : decode cX8_lay 55 = .ok (.getfield 49, 3) := by decide +kernel
theorem dX8_lay_58 : decode cX8_lay 58 = .ok (.iload_n 1, 1) := by decide +kernel
theorem dX8_lay_59 : decode cX8_lay 59 = .ok (.aaload, 1) := by decide +kernel
theorem dX8_lay_60 : decode cX8_lay 60 = .ok (.getfield 279, 3) := by decide +kernel
theorem dX8_lay_63 : decode cX8_lay 63 = .ok (.invokestatic 282, 3) := by decide +kernel
theorem dX8_lay_66 : decode cX8_lay 66 = .ok (.ifCond .ne 6, 3) := by decide +kernel
theorem dX8_lay_69 : decode cX8_lay 69 = .ok (.bipush (-13), 2) := by decide +kernel
theorem dX8_lay_71 : decode cX8_lay 71 = .ok (.ireturn, 1) := by decide +kernel
theorem dX8_lay_72 : decode cX8_lay 72 = .ok (.aload_n 0, 1) := by decide +kernel
theorem dX8_lay_73 : decode cX8_lay 73 = .ok (.getfield 49, 3) := by decide +kernel
theorem dX8_lay_76 : decode cX8_lay 76 = .ok (.iload_n 1, 1) := by decide +kernel
theorem dX8_lay_77 : decode cX8_lay 77 = .ok (.aaload, 1) := by decide +kernel
theorem dX8_lay_78 : decode cX8_lay 78 = .ok (.iload_n 2, 1) := by decide +kernel
theorem dX8_lay_79 : decode cX8_lay 79 = .ok (.iload 5, 2) := by decide +kernel
theorem dX8_lay_81 : decode cX8_lay 81 = .ok (.aload_n 0, 1) := by decide +kernel
theorem dX8_lay_82 : decode cX8_lay 82 = .ok (.getfield 12, 3) := by decide +kernel
theorem dX8_lay_85 : decode cX8_lay 85 = .ok (.getfield 85, 3) := by decide +kernel
theorem dX8_lay_88 : decode cX8_lay 88 = .ok (.iload_n 3, 1) := by decide +kernel
theorem dX8_lay_89 : decode cX8_lay 89 = .ok (.iaload, 1) := by decide +kernel
theorem dX8_lay_90 : decode cX8_lay 90 = .ok (.invokevirtual 285, 3) := by decide +kernel
theorem dX8_lay_93 : decode cX8_lay 93 = .ok (.iload 5, 2) := by decide +kernel
theorem dX8_lay_95 : decode cX8_lay 95 = .ok (.ireturn, 1) := by decide +kernel
set_option maxRecDepth 20000 in
theorem ggX8_of_X8_isNoRack : GoodIn wsX8_of wsX8_isNoRack := goodIn_r _ [9, 10, 11, 8, 12] (by decide +kernel) (by decide +kernel)
set_option maxRecDepth 20000 in
theorem gX8_of_X8_isNoRack : GoodIn wsX8_of (va_wsS RX8 270 yX8_isNoRack wsX8_isNoRack) := goodIn_app (goodIn_of _ (by decide +kernel)) ggX8_of_X8_isNoRack
set_option maxRecDepth 20000 in
theorem ggX8_of_X2_faultAt : GoodIn wsX8_of wsX2_faultAt := goodIn_r _ [17, 18, 19, 41, 42, 43, 44] (by decide +kernel) (by decide +kernel)
set_option maxRecDepth 20000 in
theorem gX8_of_X2_faultAt : GoodIn wsX8_of (wsV RX8 276 RX2 yX2_faultAt wsX2_faultAt) := goodIn_app (goodIn_of _ (by decide +kernel)) ggX8_of_X2_faultAt
set_option maxRecDepth 20000 in
theorem ggX8_of_X2_isEmptyAt : GoodIn wsX8_of wsX2_isEmptyAt := goodIn_r _ [23, 24, 41, 42, 43, 44] (by decide +kernel) (by decide +kernel)
set_option maxRecDepth 20000 in
theorem gX8_of_X2_isEmptyAt : GoodIn wsX8_of (wsV RX8 289 RX2 yX2_isEmptyAt wsX2_isEmptyAt) := goodIn_app (goodIn_of _ (by decide +kernel)) ggX8_of_X2_isEmptyAt
set_option maxRecDepth 20000 in
theorem ggX8_of_X8_weightBy : GoodIn wsX8_of wsX8_weightBy := goodIn_r _ [27, 28, 29, 30, 31] (by decide +kernel) (by decide +kernel)
set_option maxRecDepth 20000 in
theorem gX8_of_X8_weightBy : GoodIn wsX8_of (va_wsS RX8 294 yX8_weightBy wsX8_weightBy) := goodIn_app (goodIn_of _ (by decide +kernel)) ggX8_of_X8_weightBy
theorem dX8_of_0 : decode cX8_of 0 = .ok (.iload_n 1, 1) := by decide +kernel
theorem dX8_of_1 : decode cX8_of 1 = .ok (.invokestatic 270, 3) := by decide +kernel
theorem dX8_of_4 : decode cX8_of 4 = .ok (.ifCond .eq 6, 3) := by decide +kernel
theorem dX8_of_7 : decode cX8_of 7 = .ok (.bipush (-2), 2) := by decide +kernel
theorem dX8_of_9 : decode cX8_of 9 = .ok (.ireturn, 1) := by decide +kernel
theorem dX8_of_10 : decode cX8_of 10 = .ok (.aload_n 0, 1) := by decide +kernel
theorem dX8_of_11 : decode cX8_of 11 = .ok (.getfield 49, 3) := by decide +kernel
theorem dX8_of_14 : decode cX8_of 14 = .ok (.iload_n 1, 1) := by decide +kernel
theorem dX8_of_15 : decode cX8_of 15 = .ok (.aaload, 1) := by decide +kernel
theorem dX8_of_16 : decode cX8_of 16 = .ok (.iload_n 2, 1) := by decide +kernel
theorem dX8_of_17 : decode cX8_of 17 = .ok (.invokevirtual 276, 3) := by decide +kernel
theorem dX8_of_20 : decode cX8_of 20 = .ok (.istore_n 3, 1) := by decide +kernel
theorem dX8_of_21 : decode cX8_of 21 = .ok (.iload_n 3, 1) := by decide +kernel
theorem dX8_of_22 : decode cX8_of 22 = .ok (.ifCond .eq 5, 3) := by decide +kernel
theorem dX8_of_25 : decode cX8_of 25 = .ok (.iload_n 3, 1) := by decide +kernel
theorem dX8_of_26 : decode cX8_of 26 = .ok (.ireturn, 1) := by decide +kernel
theorem dX8_of_27 : decode cX8_of 27 = .ok (.aload_n 0, 1) := by decide +kernel
theorem dX8_of_28 : decode cX8_of 28 = .ok (.getfield 49, 3) := by decide +kernel
theorem dX8_of_31 : decode cX8_of 31 = .ok (.iload_n 1, 1) := by decide +kernel
theorem dX8_of_32 : decode cX8_of 32 = .ok (.aaload, 1) := by decide +kernel
theorem dX8_of_33 : decode cX8_of 33 = .ok (.iload_n 2, 1) := by decide +kernel
theorem dX8_of_34 : decode cX8_of 34 = .ok (.invokevirtual 289, 3) := by decide +kernel
theorem dX8_of_37 : decode cX8_of 37 = .ok (.ifCond .eq 6, 3) := by decide +kernel
theorem dX8_of_40 : decode cX8_of 40 = .ok (.bipush (-3), 2) := by decide +kernel
theorem dX8_of_42 : decode cX8_of 42 = .ok (.ireturn, 1) := by decide +kernel
theorem dX8_of_43 : decode cX8_of 43 = .ok (.aload_n 0, 1) := by decide +kernel
theorem dX8_of_44 : decode cX8_of 44 = .ok (.getfield 49, 3) := by decide +kernel
theorem dX8_of_47 : decode cX8_of 47 = .ok (.iload_n 1, 1) := by decide +kernel
theorem dX8_of_48 : decode cX8_of 48 = .ok (.aaload, 1) := by decide +kernel
theorem dX8_of_49 : decode cX8_of 49 = .ok (.getfield 292, 3) := by decide +kernel
theorem dX8_of_52 : decode cX8_of 52 = .ok (.iload_n 2, 1) := by decide +kernel
theorem dX8_of_53 : decode cX8_of 53 = .ok (.iaload, 1) := by decide +kernel
theorem dX8_of_54 : decode cX8_of 54 = .ok (.aload_n 0, 1) := by decide +kernel
theorem dX8_of_55 : decode cX8_of 55 = .ok (.getfield 49, 3) := by decide +kernel
theorem dX8_of_58 : decode cX8_of 58 = .ok (.iload_n 1, 1) := by decide +kernel
theorem dX8_of_59 : decode cX8_of 59 = .ok (.aaload, 1) := by decide +kernel
theorem dX8_of_60 : decode cX8_of 60 = .ok (.getfield 293, 3) := by decide +kernel
theorem dX8_of_63 : decode cX8_of 63 = .ok (.iload_n 2, 1) := by decide +kernel
theorem dX8_of_64 : decode cX8_of 64 = .ok (.iaload, 1) := by decide +kernel
theorem dX8_of_65 : decode cX8_of 65 = .ok (.aload_n 0, 1) := by decide +kernel
theorem dX8_of_66 : decode cX8_of 66 = .ok (.getfield 12, 3) := by decide +kernel
theorem dX8_of_69 : decode cX8_of 69 = .ok (.getfield 107, 3) := by decide +kernel
theorem dX8_of_72 : decode cX8_of 72 = .ok (.invokestatic 294, 3) := by decide +kernel
theorem dX8_of_75 : decode cX8_of 75 = .ok (.ireturn, 1) := by decide +kernel
set_option maxRecDepth 20000 in
theorem ggX8_sheet_X8_isNoSheet : GoodIn wsX8_sheet wsX8_isNoSheet := goodIn_r _ [5, 6, 7, 4, 8] (by decide +kernel) (by decide +kernel)
set_option maxRecDepth 20000 in
theorem gX8_sheet_X8_isNoSheet : GoodIn wsX8_sheet (va_wsS RX8 298 yX8_isNoSheet wsX8_isNoSheet) := goodIn_app (goodIn_of _ (by decide +kernel)) ggX8_sheet_X8_isNoSheet
set_option maxRecDepth 20000 in
theorem ggX8_sheet_X8_isBeyond : GoodIn wsX8_sheet wsX8_isBeyond := goodIn_r _ [8] (by decide +kernel) (by decide +kernel)
set_option maxRecDepth 20000 in
theorem gX8_sheet_X8_isBeyond : GoodIn wsX8_sheet (va_wsS RX8 61 yX8_isBeyond wsX8_isBeyond) := goodIn_app (goodIn_of _ (by decide +kernel)) ggX8_sheet_X8_isBeyond
set_option maxRecDepth 20000 in
theorem ggX8_sheet_X3_begin : GoodIn wsX8_sheet wsX3_begin := goodIn_r _ [13, 14, 15, 16, 17, 18, 19, 20, 30, 31, 32, 33, 34, 35, 36] (by decide +kernel) (by decide +kernel)
set_option maxRecDepth 20000 in
theorem gX8_sheet_X3_begin : GoodIn wsX8_sheet (wsV RX8 301 RX3 yX3_begin wsX3_begin) := goodIn_app (goodIn_of _ (by decide +kernel)) ggX8_sheet_X3_begin
theorem dX8_sheet_0 : decode cX8_sheet 0 = .ok (.iload_n 1, 1) := by decide +kernel
theorem dX8_sheet_1 : decode cX8_sheet 1 = .ok (.invokestatic 298, 3) := by decide +kernel
theorem dX8_sheet_4 : decode cX8_sheet 4 = .ok (.ifCond .ne 23, 3) := by decide +kernel
theorem dX8_sheet_7 : decode cX8_sheet 7 = .ok (.iload_n 2, 1) := by decide +kernel
theorem dX8_sheet_8 : decode cX8_sheet 8 = .ok (.iconst (-1), 1) := by decide +kernel
theorem dX8_sheet_9 : decode cX8_sheet 9 = .ok (.iconst 3, 1) := by decide +kernel
theorem dX8_sheet_10 : decode cX8_sheet 10 = .ok (.invokestatic 61, 3) := by decide +kernel
theorem dX8_sheet_13 : decode cX8_sheet 13 = .ok (.ifCond .ne 14, 3) := by decide +kernel
theorem dX8_sheet_16 : decode cX8_sheet 16 = .ok (.iload_n 2, 1) := by decide +kernel
theorem dX8_sheet_17 : decode cX8_sheet 17 = .ok (.iconst (-1), 1) := by decide +kernel
theorem dX8_sheet_18 : decode cX8_sheet 18 = .ok (.if_icmp .eq 12, 3) := by decide +kernel
theorem dX8_sheet_21 : decode cX8_sheet 21 = .ok (.iload_n 3, 1) := by decide +kernel
theorem dX8_sheet_22 : decode cX8_sheet 22 = .ok (.bipush 60, 2) := by decide +kernel
theorem dX8_sheet_24 : decode cX8_sheet 24 = .ok (.if_icmp .le 6, 3) := by decide +kernel
theorem dX8_sheet_27 : decode cX8_sheet 27 = .ok (.bipush (-2), 2) := by decide +kernel
theorem dX8_sheet_29 : decode cX8_sheet 29 = .ok (.ireturn, 1) := by decide +kernel
theorem dX8_sheet_30 : decode cX8_sheet 30 = .ok (.iload_n 2, 1) := by decide +kernel
theorem dX8_sheet_31 : decode cX8_sheet 31 = .ok (.iconst (-1), 1) := by decide +kernel
theorem dX8_sheet_32 : decode cX8_sheet 32 = .ok (.if_icmp .eq 10, 3) := by decide +kernel
theorem dX8_sheet_35 : decode cX8_sheet 35 = .ok (.iload_n 3, 1) := by decide +kernel
theorem dX8_sheet_36 : decode cX8_sheet 36 = .ok (.ifCond .ge 6, 3) := by decide +kernel
theorem dX8_sheet_39 : decode cX8_sheet 39 = .ok (.bipush (-14), 2) := by decide +kernel
theorem dX8_sheet_41 : decode cX8_sheet 41 = .ok (.ireturn, 1) := by decide +kernel
theorem dX8_sheet_42 : decode cX8_sheet 42 = .ok (.aload_n 0, 1) := by decide +kernel
theorem dX8_sheet_43 : decode cX8_sheet 43 = .ok (.getfield 55, 3) := by decide +kernel
theorem dX8_sheet_46 : decode cX8_sheet 46 = .ok (.iload_n 1, 1) := by decide +kernel
theorem dX8_sheet_47 : decode cX8_sheet 47 = .ok (.aaload, 1) := by decide +kernel
theorem dX8_sheet_48 : decode cX8_sheet 48 = .ok (.iload_n 2, 1) := by decide +kernel
theorem dX8_sheet_49 : decode cX8_sheet 49 = .ok (.iload_n 3, 1) := by decide +kernel
theorem dX8_sheet_50 : decode cX8_sheet 50 = .ok (.invokevirtual 301, 3) := by decide +kernel
theorem dX8_sheet_53 : decode cX8_sheet 53 = .ok (.iconst 1, 1) := by decide +kernel
theorem dX8_sheet_54 : decode cX8_sheet 54 = .ok (.ireturn, 1) := by decide +kernel
set_option maxRecDepth 20000 in
theorem ggX8_cell_X8_isNoSheet : GoodIn wsX8_cell wsX8_isNoSheet := goodIn_r _ [5, 6, 7, 4, 8] (by decide +kernel) (by decide +kernel)
set_option maxRecDepth 20000 in
theorem gX8_cell_X8_isNoSheet : GoodIn wsX8_cell (va_wsS RX8 298 yX8_isNoSheet wsX8_isNoSheet) := goodIn_app (goodIn_of _ (by decide +kernel)) ggX8_cell_X8_isNoSheet
set_option maxRecDepth 20000 in
theorem ggX8_cell_X3_faultAt : GoodIn wsX8_cell wsX3_faultAt := goodIn_r _ [13, 14, 15, 16, 12, 17, 18, 19, 20, 21, 22, 23, 46, 47, 48, 49, 50, 51, 52] (by decide +kernel) (by decide +kernel)
set_option maxRecDepth 20000 in
theorem gX8_cell_X3_faultAt : GoodIn wsX8_cell (wsV RX8 302 RX3 yX3_faultAt wsX3_faultAt) := goodIn_app (goodIn_of _ (by decide +kernel)) ggX8_cell_X3_faultAt
set_option maxRecDepth 20000 in
theorem ggX8_cell_X3_put : GoodIn wsX8_cell wsX3_put := goodIn_r _ [27, 18, 28, 29, 30, 31, 32, 33, 34, 35, 36, 46, 47, 48, 49, 50, 51, 52] (by decide +kernel) (by decide +kernel)
set_option maxRecDepth 20000 in
theorem gX8_cell_X3_put : GoodIn wsX8_cell (wsV RX8 303 RX3 yX3_put wsX3_put) := goodIn_app (goodIn_of _ (by decide +kernel)) ggX8_cell_X3_put
theorem dX8_cell_0 : decode cX8_cell 0 = .ok (.iload_n 1, 1) := by decide +kernel
theorem dX8_cell_1 : decode cX8_cell 1 = .ok (.invokestatic 298, 3) := by decide +kernel
theorem dX8_cell_4 : decode cX8_cell 4 = .ok (.ifCond .eq 6, 3) := by decide +kernel
theorem dX8_cell_7 : decode cX8_cell 7 = .ok (.bipush (-2), 2) := by decide +kernel
theorem dX8_cell_9 : decode cX8_cell 9 = .ok (.ireturn, 1) := by decide +kernel
theorem dX8_cell_10 : decode cX8_cell 10 = .ok (.aload_n 0, 1) := by decide +kernel
theorem dX8_cell_11 : decode cX8_cell 11 = .ok (.getfield 55, 3) := by decide +kernel
theorem dX8_cell_14 : decode cX8_cell 14 = .ok (.iload_n 1, 1) := by decide +kernel
theorem dX8_cell_15 : decode cX8_cell 15 = .ok (.aaload, 1) := by decide +kernel
theorem dX8_cell_16 : decode cX8_cell 16 = .ok (.iload_n 2, 1) := by decide +kernel
theorem dX8_cell_17 : decode cX8_cell 17 = .ok (.invokevirtual 302, 3) := by decide +kernel
theorem dX8_cell_20 : decode cX8_cell 20 = .ok (.istore 5, 2) := by decide +kernel
theorem dX8_cell_22 : decode cX8_cell 22 = .ok (.iload 5, 2) := by decide +kernel
theorem dX8_cell_24 : decode cX8_cell 24 = .ok (.ifCond .eq 6, 3) := by decide +kernel
theorem dX8_cell_27 : decode cX8_cell 27 = .ok (.iload 5, 2) := by decide +kernel
theorem dX8_cell_29 : decode cX8_cell 29 = .ok (.ireturn, 1) := by decide +kernel
theorem dX8_cell_30 : decode cX8_cell 30 = .ok (.aload_n 0, 1) := by decide +kernel
theorem dX8_cell_31 : decode cX8_cell 31 = .ok (.getfield 55, 3) := by decide +kernel
theorem dX8_cell_34 : decode cX8_cell 34 = .ok (.iload_n 1, 1) := by decide +kernel
theorem dX8_cell_35 : decode cX8_cell 35 = .ok (.aaload, 1) := by decide +kernel
theorem dX8_cell_36 : decode cX8_cell 36 = .ok (.iload_n 2, 1) := by decide +kernel
theorem dX8_cell_37 : decode cX8_cell 37 = .ok (.lload_n 3, 1) := by decide +kernel
theorem dX8_cell_38 : decode cX8_cell 38 = .ok (.invokevirtual 303, 3) := by decide +kernel
theorem dX8_cell_41 : decode cX8_cell 41 = .ok (.ifCond .eq 7, 3) := by decide +kernel
theorem dX8_cell_44 : decode cX8_cell 44 = .ok (.iconst 1, 1) := by decide +kernel
theorem dX8_cell_45 : decode cX8_cell 45 = .ok (.goto 5, 3) := by decide +kernel
theorem dX8_cell_48 : decode cX8_cell 48 = .ok (.bipush (-5), 2) := by decide +kernel
theorem dX8_cell_50 : decode cX8_cell 50 = .ok (.ireturn, 1) := by decide +kernel
set_option maxRecDepth 20000 in
theorem ggX8_read_X8_isNoSheet : GoodIn wsX8_read wsX8_isNoSheet := goodIn_r _ [7, 8, 9, 6, 10] (by decide +kernel) (by decide +kernel)
set_option maxRecDepth 20000 in
theorem gX8_read_X8_isNoSheet : GoodIn wsX8_read (va_wsS RX8 298 yX8_isNoSheet wsX8_isNoSheet) := goodIn_app (goodIn_of _ (by decide +kernel)) ggX8_read_X8_isNoSheet
set_option maxRecDepth 20000 in
theorem ggX8_read_X8_isBeyond : GoodIn wsX8_read wsX8_isBeyond := goodIn_r _ [10] (by decide +kernel) (by decide +kernel)
set_option maxRecDepth 20000 in
theorem gX8_read_X8_isBeyond : GoodIn wsX8_read (va_wsS RX8 61 yX8_isBeyond wsX8_isBeyond) := goodIn_app (goodIn_of _ (by decide +kernel)) ggX8_read_X8_isBeyond
set_option maxRecDepth 20000 in
theorem ggX8_read_X3_faultAt : GoodIn wsX8_read wsX3_faultAt := goodIn_r _ [15, 16, 17, 18, 14, 19, 20, 21, 22, 23, 24, 25, 79, 80, 81, 82, 83, 84, 85] (by decide +kernel) (by decide +kernel)
set_option maxRecDepth 20000 in
theorem gX8_read_X3_faultAt : GoodIn wsX8_read (wsV RX8 302 RX3 yX3_faultAt wsX3_faultAt) := goodIn_app (goodIn_of _ (by decide +kernel)) ggX8_read_X3_faultAt
set_option maxRecDepth 20000 in
theorem ggX8_read_X3_readAs : GoodIn wsX8_read wsX3_readAs := goodIn_r _ [29, 30, 31, 32, 14, 33, 20, 34, 35, 36, 37, 38, 39, 40, 41, 42, 43, 44, 45, 46, 47, 48, 49, 50, 51, 52, 53, 54, 55, 56, 57, 58, 59, 60, 61, 62, 63, 64, 65, 66, 67, 68, 69, 79, 80, 81, 82, 83, 84, 85] (by decide +kernel) (by decide +kernel)
set_option maxRecDepth 20000 in
theorem gX8_read_X3_readAs : GoodIn wsX8_read (wsV RX8 308 RX3 yX3_readAs wsX3_readAs) := goodIn_app (goodIn_of _ (by decide +kernel)) ggX8_read_X3_readAs
theorem dX8_read_0 : decode cX8_read 0 = .ok (.iload_n 1, 1) := by decide +kernel
theorem dX8_read_1 : decode cX8_read 1 = .ok (.invokestatic 298, 3) := by decide +kernel
theorem dX8_read_4 : decode cX8_read 4 = .ok (.ifCond .ne 12, 3) := by decide +kernel
theorem dX8_read_7 : decode cX8_read 7 = .ok (.iload_n 3, 1) := by decide +kernel
theorem dX8_read_8 : decode cX8_read 8 = .ok (.iconst 0, 1) := by decide +kernel
theorem dX8_read_9 : decode cX8_read 9 = .ok (.iconst 4, 1) := by decide +kernel
theorem dX8_read_10 : decode cX8_read 10 = .ok (.invokestatic 61, 3) := by decide +kernel
theorem dX8_read_13 : decode cX8_read 13 = .ok (.ifCond .eq 7, 3) := by decide +kernel
theorem dX8_read_16 : decode cX8_read 16 = .ok (.ldc2_w 123, 3) := by decide +kernel
theorem dX8_read_19 : decode cX8_read 19 = .ok (.lreturn, 1) := by decide +kernel
theorem dX8_read_20 : decode cX8_read 20 = .ok (.aload_n 0, 1) := by decide +kernel
theorem dX8_read_21 : decode cX8_read 21 = .ok (.getfield 55, 3) := by decide +kernel
theorem dX8_read_24 : decode cX8_read 24 = .ok (.iload_n 1, 1) := by decide +kernel
theorem dX8_read_25 : decode cX8_read 25 = .ok (.aaload, 1) := by decide +kernel
theorem dX8_read_26 : decode cX8_read 26 = .ok (.iload_n 2, 1) := by decide +kernel
theorem dX8_read_27 : decode cX8_read 27 = .ok (.invokevirtual 302, 3) := by decide +kernel
theorem dX8_read_30 : decode cX8_read 30 = .ok (.istore 4, 2) := by decide +kernel
theorem dX8_read_32 : decode cX8_read 32 = .ok (.iload 4, 2) := by decide +kernel
theorem dX8_read_34 : decode cX8_read 34 = .ok (.ifCond .eq 11, 3) := by decide +kernel
theorem dX8_read_37 : decode cX8_read 37 = .ok (.ldc2_w 306, 3) := by decide +kernel
theorem dX8_read_40 : decode cX8_read 40 = .ok (.iload 4, 2) := by decide +kernel
theorem dX8_read_42 : decode cX8_read 42 = .ok (.i2l, 1) := by decide +kernel
theorem dX8_read_43 : decode cX8_read 43 = .ok (.ladd, 1) := by decide +kernel
theorem dX8_read_44 : decode cX8_read 44 = .ok (.lreturn, 1) := by decide +kernel
theorem dX8_read_45 : decode cX8_read 45 = .ok (.aload_n 0, 1) := by decide +kernel
theorem dX8_read_46 : decode cX8_read 46 = .ok (.getfield 55, 3) := by decide +kernel
theorem dX8_read_49 : decode cX8_read 49 = .ok (.iload_n 1, 1) := by decide +kernel
theorem dX8_read_50 : decode cX8_read 50 = .ok (.aaload, 1) := by decide +kernel
theorem dX8_read_51 : decode cX8_read 51 = .ok (.iload_n 2, 1) := by decide +kernel
theorem dX8_read_52 : decode cX8_read 52 = .ok (.iload_n 3, 1) := by decide +kernel
theorem dX8_read_53 : decode cX8_read 53 = .ok (.invokevirtual 308, 3) := by decide +kernel
theorem dX8_read_56 : decode cX8_read 56 = .ok (.lreturn, 1) := by decide +kernel
set_option maxRecDepth 20000 in
theorem ggX8_parts_X8_isNoSheet : GoodIn wsX8_parts wsX8_isNoSheet := goodIn_r _ [5, 6, 7, 4, 8] (by decide +kernel) (by decide +kernel)
set_option maxRecDepth 20000 in
theorem gX8_parts_X8_isNoSheet : GoodIn wsX8_parts (va_wsS RX8 298 yX8_isNoSheet wsX8_isNoSheet) := goodIn_app (goodIn_of _ (by decide +kernel)) ggX8_parts_X8_isNoSheet
set_option maxRecDepth 20000 in
theorem ggX8_parts_X8_isBeyond : GoodIn wsX8_parts wsX8_isBeyond := goodIn_r _ [8] (by decide +kernel) (by decide +kernel)
set_option maxRecDepth 20000 in
theorem gX8_parts_X8_isBeyond : GoodIn wsX8_parts (va_wsS RX8 61 yX8_isBeyond wsX8_isBeyond) := goodIn_app (goodIn_of _ (by decide +kernel)) ggX8_parts_X8_isBeyond
set_option maxRecDepth 20000 in
theorem ggX8_parts_X3_faultAt : GoodIn wsX8_parts wsX3_faultAt := goodIn_r _ [13, 14, 15, 16, 12, 17, 18, 19, 20, 21, 22, 23, 41, 42, 43, 44, 45, 46, 47] (by decide +kernel) (by decide +kernel)
set_option maxRecDepth 20000 in
theorem gX8_parts_X3_faultAt : GoodIn wsX8_parts (wsV RX8 302 RX3 yX3_faultAt wsX3_faultAt) := goodIn_app (goodIn_of _ (by decide +kernel)) ggX8_parts_X3_faultAt
set_option maxRecDepth 20000 in
theorem ggX8_parts_X3_divide : GoodIn wsX8_parts wsX3_divide := goodIn_r _ [27, 18, 28, 29, 30, 31, 41, 42, 43, 44, 45, 46, 47] (by decide +kernel) (by decide +kernel)
set_option maxRecDepth 20000 in
theorem gX8_parts_X3_divide : GoodIn wsX8_parts (wsV RX8 311 RX3 yX3_divide wsX3_divide) := goodIn_app (goodIn_of _ (by decide +kernel)) ggX8_parts_X3_divide
theorem dX8_parts_0 : decode cX8_parts 0 = .ok (.iload_n 1, 1) := by decide +kernel
theorem dX8_parts_1 : decode cX8_parts 1 = .ok (.invokestatic 298, 3) := by decide +kernel
theorem dX8_parts_4 : decode cX8_parts 4 = .ok (.ifCond .ne 13, 3) := by decide +kernel
theorem dX8_parts_7 : decode cX8_parts 7 = .ok (.iload_n 3, 1) := by decide +kernel
theorem dX8_parts_8 : decode cX8_parts 8 = .ok (.iconst 1, 1) := by decide +kernel
theorem dX8_parts_9 : decode cX8_parts 9 = .ok (.bipush 99, 2) := by decide +kernel
theorem dX8_parts_11 : decode cX8_parts 11 = .ok (.invokestatic 61, 3) := by decide +kernel
theorem dX8_parts_14 : decode cX8_parts 14 = .ok (.ifCond .eq 6, 3) := by decide +kernel
theorem dX8_parts_17 : decode cX8_parts 17 = .ok (.bipush (-2), 2) := by decide +kernel
theorem dX8_parts_19 : decode cX8_parts 19 = .ok (.ireturn, 1) := by decide +kernel
theorem dX8_parts_20 : decode cX8_parts 20 = .ok (.aload_n 0, 1) := by decide +kernel
theorem dX8_parts_21 : decode cX8_parts 21 = .ok (.getfield 55, 3) := by decide +kernel
theorem dX8_parts_24 : decode cX8_parts 24 = .ok (.iload_n 1, 1) := by decide +kernel
theorem dX8_parts_25 : decode cX8_parts 25 = .ok (.aaload, 1) := by decide +kernel
theorem dX8_parts_26 : decode cX8_parts 26 = .ok (.iload_n 2, 1) := by decide +kernel
theorem dX8_parts_27 : decode cX8_parts 27 = .ok (.invokevirtual 302, 3) := by decide +kernel
theorem dX8_parts_30 : decode cX8_parts 30 = .ok (.istore 4, 2) := by decide +kernel
theorem dX8_parts_32 : decode cX8_parts 32 = .ok (.iload 4, 2) := by decide +kernel
theorem dX8_parts_34 : decode cX8_parts 34 = .ok (.ifCond .eq 6, 3) := by decide +kernel
theorem dX8_parts_37 : decode cX8_parts 37 = .ok (.iload 4, 2) := by decide +kernel
theorem dX8_parts_39 : decode cX8_parts 39 = .ok (.ireturn, 1) := by decide +kernel
theorem dX8_parts_40 : decode cX8_parts 40 = .ok (.aload_n 0, 1) := by decide +kernel
theorem dX8_parts_41 : decode cX8_parts 41 = .ok (.getfield 55, 3) := by decide +kernel
theorem dX8_parts_44 : decode cX8_parts 44 = .ok (.iload_n 1, 1) := by decide +kernel
theorem dX8_parts_45 : decode cX8_parts 45 = .ok (.aaload, 1) := by decide +kernel
theorem dX8_parts_46 : decode cX8_parts 46 = .ok (.iload_n 2, 1) := by decide +kernel
theorem dX8_parts_47 : decode cX8_parts 47 = .ok (.iload_n 3, 1) := by decide +kernel
theorem dX8_parts_48 : decode cX8_parts 48 = .ok (.invokevirtual 311, 3) := by decide +kernel
theorem dX8_parts_51 : decode cX8_parts 51 = .ok (.iconst 1, 1) := by decide +kernel
theorem dX8_parts_52 : decode cX8_parts 52 = .ok (.ireturn, 1) := by decide +kernel
set_option maxRecDepth 20000 in
theorem ggX8_writes_X8_faultOf : GoodIn wsX8_writes wsX8_faultOf := goodIn_r _ [7, 1, 2, 8, 9, 6, 10, 11, 12, 13, 14, 15, 16, 17, 18, 19, 20, 21, 22, 23, 24, 25, 26, 27, 28, 29, 30, 31, 32, 33, 34, 35, 36, 37, 38, 39, 40, 41, 42, 43, 44, 45, 46, 47, 48, 49, 50, 51, 52, 53, 54, 55, 56, 57, 58, 59, 60, 61, 62, 63, 64, 65, 66, 67, 68, 69, 70, 71, 72, 73, 74, 75, 76, 77, 78, 79, 80, 81, 82, 83, 84, 85, 86, 87, 88, 89, 90, 91, 92, 93, 94, 95, 96, 97, 98, 99, 100, 101, 102, 103, 104, 105, 106, 107, 108, 109, 110, 111, 112, 113, 114, 115, 116, 117, 118, 146, 147, 148, 149, 150, 151, 152, 153, 154, 155, 156, 157, 158, 159, 160, 161, 162, 163, 164, 165, 166, 167, 168, 169, 170, 171, 172, 173, 174, 175, 176, 177, 178, 179, 180, 181] (by decide +kernel) (by decide +kernel)
set_option maxRecDepth 20000 in
theorem gX8_writes_X8_faultOf : GoodIn wsX8_writes (wsV RX8 314 RX8 yX8_faultOf wsX8_faultOf) := goodIn_app (goodIn_of _ (by decide +kernel)) ggX8_writes_X8_faultOf
set_option maxRecDepth 20000 in
theorem ggX8_writes_X8_rowOf : GoodIn wsX8_writes wsX8_rowOf := goodIn_r _ [26, 2, 27, 28, 29, 30, 31, 32, 33, 34, 35, 36, 37, 38, 39, 40, 41, 42, 43, 44, 45, 46, 47, 48, 49, 50, 51, 52, 53, 54, 55, 56, 57, 58, 59, 60, 61, 62, 6, 63, 64, 65, 66, 67, 68, 69, 70, 71, 72, 73, 74, 75, 76, 77, 78, 79, 80, 81, 82, 83, 84, 85, 86, 87, 88, 89, 90, 91, 92, 93, 94, 95, 96, 97, 98, 99, 100, 101, 102, 103, 104, 105, 106, 107, 108, 109, 110, 111, 112, 113, 114, 146, 147, 148, 149, 150, 151, 152, 153, 154, 162, 163, 164, 165, 166, 167, 168, 169, 170, 171, 172, 173, 174, 175, 176, 177, 178, 179, 180, 181] (by decide +kernel) (by decide +kernel)
set_option maxRecDepth 20000 in
theorem gX8_writes_X8_rowOf : GoodIn wsX8_writes (wsV RX8 125 RX8 yX8_rowOf wsX8_rowOf) := goodIn_app (goodIn_of _ (by decide +kernel)) ggX8_writes_X8_rowOf
set_option maxRecDepth 20000 in
theorem ggX8_writes_X8_degreeOf : GoodIn wsX8_writes wsX8_degreeOf := goodIn_r _ [122, 27, 68, 41, 42, 43, 44, 45, 123, 92, 93, 94, 95, 96, 97, 146, 147, 148, 149, 150, 151, 152, 153, 154, 171, 172, 173, 174, 175, 176, 177, 178, 179, 180, 181] (by decide +kernel) (by decide +kernel)
set_option maxRecDepth 20000 in
theorem gX8_writes_X8_degreeOf : GoodIn wsX8_writes (wsV RX8 137 RX8 yX8_degreeOf wsX8_degreeOf) := goodIn_app (goodIn_of _ (by decide +kernel)) ggX8_writes_X8_degreeOf
set_option maxRecDepth 20000 in
theorem ggX8_writes_X3_hasPlace : GoodIn wsX8_writes wsX3_hasPlace := goodIn_r _ [127, 128, 155, 156, 157, 158, 159, 160, 161] (by decide +kernel) (by decide +kernel)
set_option maxRecDepth 20000 in
theorem gX8_writes_X3_hasPlace : GoodIn wsX8_writes (wsV RX8 317 RX3 yX3_hasPlace wsX3_hasPlace) := goodIn_app (goodIn_of _ (by decide +kernel)) ggX8_writes_X3_hasPlace
set_option maxRecDepth 20000 in
theorem ggX8_writes_X4_numberAt : GoodIn wsX8_writes wsX4_numberAt := goodIn_r _ [132, 79, 162, 163, 164, 165, 166, 167, 168, 169, 170] (by decide +kernel) (by decide +kernel)
set_option maxRecDepth 20000 in
theorem gX8_writes_X4_numberAt : GoodIn wsX8_writes (wsV RX8 140 RX4 yX4_numberAt wsX4_numberAt) := goodIn_app (goodIn_of _ (by decide +kernel)) ggX8_writes_X4_numberAt
set_option maxRecDepth 20000 in
theorem ggX8_writes_X3_put : GoodIn wsX8_writes wsX3_put := goodIn_r _ [136, 22, 137, 138, 139, 140, 141, 142, 143, 144, 145, 155, 156, 157, 158, 159, 160, 161] (by decide +kernel) (by decide +kernel)
set_option maxRecDepth 20000 in
theorem gX8_writes_X3_put : GoodIn wsX8_writes (wsV RX8 303 RX3 yX3_put wsX3_put) := goodIn_app (goodIn_of _ (by decide +kernel)) ggX8_writes_X3_put
theorem dX8_writes_0 : decode cX8_writes 0 = .ok (.aload_n 0, 1) := by decide +kernel
theorem dX8_writes_1 : decode cX8_writes 1 = .ok (.iload_n 1, 1) := by decide +kernel
theorem dX8_writes_2 : decode cX8_writes 2 = .ok (.iload_n 2, 1) := by decide +kernel
theorem dX8_writes_3 : decode cX8_writes 3 = .ok (.invokevirtual 314, 3) := by decide +kernel
theorem dX8_writes_6 : decode cX8_writes 6 = .ok (.istore_n 3, 1) := by decide +kernel
theorem dX8_writes_7 : decode cX8_writes 7 = .ok (.iload_n 3, 1) := by decide +kernel
theorem dX8_writes_8 : decode cX8_writes 8 = .ok (.ifCond .eq 5, 3) := by decide +kernel
theorem dX8_writes_11 : decode cX8_writes 11 = .ok (.iload_n 3, 1) := by decide +kernel
theorem dX8_writes_12 : decode cX8_writes 12 = .ok (.ireturn, 1) := by decide +kernel
theorem dX8_writes_13 : decode cX8_writes 13 = .ok (.aload_n 0, 1) := by decide +kernel
theorem dX8_writes_14 : decode cX8_writes 14 = .ok (.iload_n 2, 1) := by decide +kernel
theorem dX8_writes_15 : decode cX8_writes 15 = .ok (.invokevirtual 125, 3) := by decide +kernel
theorem dX8_writes_18 : decode cX8_writes 18 = .ok (.istore 4, 2) := by decide +kernel
theorem dX8_writes_20 : decode cX8_writes 20 = .ok (.aload_n 0, 1) := by decide +kernel
theorem dX8_writes_21 : decode cX8_writes 21 = .ok (.iload_n 2, 1) := by decide +kernel
theorem dX8_writes_22 : decode cX8_writes 22 = .ok (.invokevirtual 137, 3) := by decide +kernel
theorem dX8_writes_25 : decode cX8_writes 25 = .ok (.istore 5, 2) := by decide +kernel
theorem dX8_writes_27 : decode cX8_writes 27 = .ok (.iconst 0, 1) := by decide +kernel
theorem dX8_writes_28 : decode cX8_writes 28 = .ok (.istore 6, 2) := by decide +kernel
theorem dX8_writes_30 : decode cX8_writes 30 = .ok (.iload 6, 2) := by decide +kernel
theorem dX8_writes_32 : decode cX8_writes 32 = .ok (.iload 5, 2) := by decide +kernel
theorem dX8_writes_34 : decode cX8_writes 34 = .ok (.if_icmp .gt 56, 3) := by decide +kernel
theorem dX8_writes_37 : decode cX8_writes 37 = .ok (.aload_n 0, 1) := by decide +kernel
theorem dX8_writes_38 : decode cX8_writes 38 = .ok (.getfield 55, 3) := by decide +kernel
theorem dX8_writes_41 : decode cX8_writes 41 = .ok (.iload_n 1, 1) := by decide +kernel
theorem dX8_writes_42 : decode cX8_writes 42 = .ok (.aaload, 1) := by decide +kernel
theorem dX8_writes_43 : decode cX8_writes 43 = .ok (.iload 6, 2) := by decide +kernel
theorem dX8_writes_45 : decode cX8_writes 45 = .ok (.invokevirtual 317, 3) := by decide +kernel
theorem dX8_writes_48 : decode cX8_writes 48 = .ok (.ifCond .ne 6, 3) := by decide +kernel
theorem dX8_writes_51 : decode cX8_writes 51 = .ok (.bipush (-12), 2) := by decide +kernel
theorem dX8_writes_53 : decode cX8_writes 53 = .ok (.ireturn, 1) := by decide +kernel
theorem dX8_writes_54 : decode cX8_writes 54 = .ok (.aload_n 0, 1) := by decide +kernel
theorem dX8_writes_55 : decode cX8_writes 55 = .ok (.getfield 55, 3) := by decide +kernel
theorem dX8_writes_58 : decode cX8_writes 58 = .ok (.iload_n 1, 1) := by decide +kernel
theorem dX8_writes_59 : decode cX8_writes 59 = .ok (.aaload, 1) := by decide +kernel
theorem dX8_writes_60 : decode cX8_writes 60 = .ok (.iload 6, 2) := by decide +kernel
theorem dX8_writes_62 : decode cX8_writes 62 = .ok (.aload_n 0, 1) := by decide +kernel
theorem dX8_writes_63 : decode cX8_writes 63 = .ok (.getfield 26, 3) := by decide +kernel
theorem dX8_writes_66 : decode cX8_writes 66 = .ok (.iload 4, 2) := by decide +kernel
theorem dX8_writes_68 : decode cX8_writes 68 = .ok (.iload 5, 2) := by decide +kernel
theorem dX8_writes_70 : decode cX8_writes 70 = .ok (.iload 6, 2) := by decide +kernel
theorem dX8_writes_72 : decode cX8_writes 72 = .ok (.invokevirtual 140, 3) := by decide +kernel
theorem dX8_writes_75 : decode cX8_writes 75 = .ok (.invokevirtual 303, 3) := by decide +kernel
theorem dX8_writes_78 : decode cX8_writes 78 = .ok (.ifCond .ne 6, 3) := by decide +kernel
theorem dX8_writes_81 : decode cX8_writes 81 = .ok (.bipush (-5), 2) := by decide +kernel
theorem dX8_writes_83 : decode cX8_writes 83 = .ok (.ireturn, 1) := by decide +kernel
theorem dX8_writes_84 : decode cX8_writes 84 = .ok (.iinc 6 1, 3) := by decide +kernel
theorem dX8_writes_87 : decode cX8_writes 87 = .ok (.goto (-57), 3) := by decide +kernel
theorem dX8_writes_90 : decode cX8_writes 90 = .ok (.iload 5, 2) := by decide +kernel
theorem dX8_writes_92 : decode cX8_writes 92 = .ok (.iconst 1, 1) := by decide +kernel
theorem dX8_writes_93 : decode cX8_writes 93 = .ok (.iadd, 1) := by decide +kernel
theorem dX8_writes_94 : decode cX8_writes 94 = .ok (.ireturn, 1) := by decide +kernel
set_option maxRecDepth 20000 in
theorem ggX8_same_X8_faultOf : GoodIn wsX8_same wsX8_faultOf := goodIn_r _ [9, 1, 3, 10, 11, 8, 12, 13, 14, 15, 16, 17, 18, 19, 20, 21, 22, 23, 24, 25, 26, 27, 28, 29, 30, 31, 32, 33, 34, 35, 36, 37, 38, 39, 40, 41, 42, 43, 44, 45, 46, 47, 48, 49, 50, 51, 52, 53, 54, 55, 56, 57, 58, 59, 60, 61, 62, 63, 64, 65, 66, 67, 68, 69, 70, 71, 72, 73, 74, 75, 76, 77, 78, 79, 80, 81, 82, 83, 84, 85, 86, 87, 88, 89, 90, 91, 92, 93, 94, 95, 96, 97, 98, 99, 100, 101, 102, 103, 104, 105, 106, 107, 108, 109, 110, 111, 112, 113, 114, 115, 116, 117, 118, 119, 120, 129, 130, 131, 132, 133, 134, 135, 136, 137, 138, 139, 140, 141, 142, 143, 144, 145, 146, 147, 148, 149, 150, 151, 152, 153, 154, 155, 156, 157, 158, 159, 160, 161, 162, 163, 164] (by decide +kernel) (by decide +kernel)
set_option maxRecDepth 20000 in
theorem gX8_same_X8_faultOf : GoodIn wsX8_same (wsV RX8 314 RX8 yX8_faultOf wsX8_faultOf) := goodIn_app (goodIn_of _ (by decide +kernel)) ggX8_same_X8_faultOf
set_option maxRecDepth 20000 in
theorem ggX8_same_X8_rowOf : GoodIn wsX8_same wsX8_rowOf := goodIn_r _ [28, 3, 29, 30, 31, 32, 33, 34, 35, 36, 37, 38, 39, 40, 41, 42, 43, 44, 45, 46, 47, 48, 49, 50, 51, 52, 53, 54, 55, 56, 57, 58, 59, 60, 61, 62, 63, 64, 8, 65, 66, 67, 68, 69, 70, 71, 72, 73, 74, 75, 76, 77, 78, 79, 80, 81, 82, 83, 84, 85, 86, 87, 88, 89, 90, 91, 92, 93, 94, 95, 96, 97, 98, 99, 100, 101, 102, 103, 104, 105, 106, 107, 108, 109, 110, 111, 112, 113, 114, 115, 116, 129, 130, 131, 132, 133, 134, 135, 136, 137, 145, 146, 147, 148, 149, 150, 151, 152, 153, 154, 155, 156, 157, 158, 159, 160, 161, 162, 163, 164] (by decide +kernel) (by decide +kernel)
set_option maxRecDepth 20000 in
theorem gX8_same_X8_rowOf : GoodIn wsX8_same (wsV RX8 125 RX8 yX8_rowOf wsX8_rowOf) := goodIn_app (goodIn_of _ (by decide +kernel)) ggX8_same_X8_rowOf
set_option maxRecDepth 20000 in
theorem ggX8_same_X3_holds : GoodIn wsX8_same wsX3_holds := goodIn_r _ [124, 24, 125, 126, 127, 128, 138, 139, 140, 141, 142, 143, 144] (by decide +kernel) (by decide +kernel)
set_option maxRecDepth 20000 in
theorem gX8_same_X3_holds : GoodIn wsX8_same (wsV RX8 321 RX3 yX3_holds wsX3_holds) := goodIn_app (goodIn_of _ (by decide +kernel)) ggX8_same_X3_holds
theorem dX8_same_0 : decode cX8_same 0 = .ok (.aload_n 0, 1) := by decide +kernel
theorem dX8_same_1 : decode cX8_same 1 = .ok (.iload_n 1, 1) := by decide +kernel
theorem dX8_same_2 : decode cX8_same 2 = .ok (.iload_n 2, 1) := by decide +kernel
theorem dX8_same_3 : decode cX8_same 3 = .ok (.invokevirtual 314, 3) := by decide +kernel
theorem dX8_same_6 : decode cX8_same 6 = .ok (.istore_n 3, 1) := by decide +kernel
theorem dX8_same_7 : decode cX8_same 7 = .ok (.iload_n 3, 1) := by decide +kernel
theorem dX8_same_8 : decode cX8_same 8 = .ok (.ifCond .eq 5, 3) := by decide +kernel
theorem dX8_same_11 : decode cX8_same 11 = .ok (.iload_n 3, 1) := by decide +kernel
theorem dX8_same_12 : decode cX8_same 12 = .ok (.ireturn, 1) := by decide +kernel
theorem dX8_same_13 : decode cX8_same 13 = .ok (.aload_n 0, 1) := by decide +kernel
theorem dX8_same_14 : decode cX8_same 14 = .ok (.iload_n 2, 1) := by decide +kernel
theorem dX8_same_15 : decode cX8_same 15 = .ok (.invokevirtual 125, 3) := by decide +kernel
theorem dX8_same_18 : decode cX8_same 18 = .ok (.istore 4, 2) := by decide +kernel
theorem dX8_same_20 : decode cX8_same 20 = .ok (.iconst 0, 1) := by decide +kernel
theorem dX8_same_21 : decode cX8_same 21 = .ok (.istore 5, 2) := by decide +kernel
theorem dX8_same_23 : decode cX8_same 23 = .ok (.iload 5, 2) := by decide +kernel
theorem dX8_same_25 : decode cX8_same 25 = .ok (.aload_n 0, 1) := by decide +kernel
theorem dX8_same_26 : decode cX8_same 26 = .ok (.getfield 55, 3) := by decide +kernel
theorem dX8_same_29 : decode cX8_same 29 = .ok (.iload_n 1, 1) := by decide +kernel
theorem dX8_same_30 : decode cX8_same 30 = .ok (.aaload, 1) := by decide +kernel
theorem dX8_same_31 : decode cX8_same 31 = .ok (.getfield 320, 3) := by decide +kernel
theorem dX8_same_34 : decode cX8_same 34 = .ok (.if_icmp .ge 50, 3) := by decide +kernel
theorem dX8_same_37 : decode cX8_same 37 = .ok (.aload_n 0, 1) := by decide +kernel
theorem dX8_same_38 : decode cX8_same 38 = .ok (.getfield 55, 3) := by decide +kernel
theorem dX8_same_41 : decode cX8_same 41 = .ok (.iload_n 1, 1) := by decide +kernel
theorem dX8_same_42 : decode cX8_same 42 = .ok (.aaload, 1) := by decide +kernel
theorem dX8_same_43 : decode cX8_same 43 = .ok (.iload 5, 2) := by decide +kernel
theorem dX8_same_45 : decode cX8_same 45 = .ok (.iload 5, 2) := by decide +kernel
theorem dX8_same_47 : decode cX8_same 47 = .ok (.bipush 7, 2) := by decide +kernel
theorem dX8_same_49 : decode cX8_same 49 = .ok (.if_icmp .ge 19, 3) := by decide +kernel
theorem dX8_same_52 : decode cX8_same 52 = .ok (.aload_n 0, 1) := by decide +kernel
theorem dX8_same_53 : decode cX8_same 53 = .ok (.getfield 26, 3) := by decide +kernel
theorem dX8_same_56 : decode cX8_same 56 = .ok (.getfield 133, 3) := by decide +kernel
theorem dX8_same_59 : decode cX8_same 59 = .ok (.iload 4, 2) := by decide +kernel
theorem dX8_same_61 : decode cX8_same 61 = .ok (.iload 5, 2) := by decide +kernel
theorem dX8_same_63 : decode cX8_same 63 = .ok (.iadd, 1) := by decide +kernel
theorem dX8_same_64 : decode cX8_same 64 = .ok (.laload, 1) := by decide +kernel
theorem dX8_same_65 : decode cX8_same 65 = .ok (.goto 4, 3) := by decide +kernel
theorem dX8_same_68 : decode cX8_same 68 = .ok (.lconst 0, 1) := by decide +kernel
theorem dX8_same_69 : decode cX8_same 69 = .ok (.invokevirtual 321, 3) := by decide +kernel
theorem dX8_same_72 : decode cX8_same 72 = .ok (.ifCond .ne 6, 3) := by decide +kernel
theorem dX8_same_75 : decode cX8_same 75 = .ok (.iload 5, 2) := by decide +kernel
theorem dX8_same_77 : decode cX8_same 77 = .ok (.ireturn, 1) := by decide +kernel
theorem dX8_same_78 : decode cX8_same 78 = .ok (.iinc 5 1, 3) := by decide +kernel
theorem dX8_same_81 : decode cX8_same 81 = .ok (.goto (-58), 3) := by decide +kernel
theorem dX8_same_84 : decode cX8_same 84 = .ok (.iconst (-1), 1) := by decide +kernel
theorem dX8_same_85 : decode cX8_same 85 = .ok (.ireturn, 1) := by decide +kernel
set_option maxRecDepth 20000 in
theorem ggX8_copy_X8_isNoSheet : GoodIn wsX8_copy wsX8_isNoSheet := goodIn_r _ [6, 7, 8, 5, 9] (by decide +kernel) (by decide +kernel)
set_option maxRecDepth 20000 in
theorem gX8_copy_X8_isNoSheet : GoodIn wsX8_copy (va_wsS RX8 298 yX8_isNoSheet wsX8_isNoSheet) := goodIn_app (goodIn_of _ (by decide +kernel)) ggX8_copy_X8_isNoSheet
set_option maxRecDepth 20000 in
theorem ggX8_copy_X3_isMissing : GoodIn wsX8_copy wsX3_isMissing := goodIn_r _ [14, 15, 43, 44, 45, 46, 47, 48, 49] (by decide +kernel) (by decide +kernel)
set_option maxRecDepth 20000 in
theorem gX8_copy_X3_isMissing : GoodIn wsX8_copy (wsV RX8 324 RX3 yX3_isMissing wsX3_isMissing) := goodIn_app (goodIn_of _ (by decide +kernel)) ggX8_copy_X3_isMissing
set_option maxRecDepth 20000 in
theorem ggX8_copy_X3_hasRun : GoodIn wsX8_copy wsX3_hasRun := goodIn_r _ [19, 20, 43, 44, 45, 46, 47, 48, 49] (by decide +kernel) (by decide +kernel)
set_option maxRecDepth 20000 in
theorem gX8_copy_X3_hasRun : GoodIn wsX8_copy (wsV RX8 331 RX3 yX3_hasRun wsX3_hasRun) := goodIn_app (goodIn_of _ (by decide +kernel)) ggX8_copy_X3_hasRun
set_option maxRecDepth 20000 in
theorem ggX8_copy_X3_take : GoodIn wsX8_copy wsX3_take := goodIn_r _ [24, 25, 26, 27, 28, 29, 15, 30, 31, 32, 33, 43, 44, 45, 46, 47, 48, 49] (by decide +kernel) (by decide +kernel)
set_option maxRecDepth 20000 in
theorem gX8_copy_X3_take : GoodIn wsX8_copy (wsV RX8 334 RX3 yX3_take wsX3_take) := goodIn_app (goodIn_of _ (by decide +kernel)) ggX8_copy_X3_take
theorem dX8_copy_0 : decode cX8_copy 0 = .ok (.iload_n 1, 1) := by decide +kernel
theorem dX8_copy_1 : decode cX8_copy 1 = .ok (.invokestatic 298, 3) := by decide +kernel
theorem dX8_copy_4 : decode cX8_copy 4 = .ok (.ifCond .ne 10, 3) := by decide +kernel
theorem dX8_copy_7 : decode cX8_copy 7 = .ok (.iload_n 3, 1) := by decide +kernel
theorem dX8_copy_8 : decode cX8_copy 8 = .ok (.invokestatic 298, 3) := by decide +kernel
theorem dX8_copy_11 : decode cX8_copy 11 = .ok (.ifCond .eq 6, 3) := by decide +kernel
theorem dX8_copy_14 : decode cX8_copy 14 = .ok (.bipush (-2), 2) := by decide +kernel
theorem dX8_copy_16 : decode cX8_copy 16 = .ok (.ireturn, 1) := by decide +kernel
theorem dX8_copy_17 : decode cX8_copy 17 = .ok (.aload_n 0, 1) := by decide +kernel
theorem dX8_copy_18 : decode cX8_copy 18 = .ok (.getfield 55, 3) := by decide +kernel
theorem dX8_copy_21 : decode cX8_copy 21 = .ok (.iload_n 1, 1) := by decide +kernel
theorem dX8_copy_22 : decode cX8_copy 22 = .ok (.aaload, 1) := by decide +kernel
theorem dX8_copy_23 : decode cX8_copy 23 = .ok (.invokevirtual 324, 3) := by decide +kernel
theorem dX8_copy_26 : decode cX8_copy 26 = .ok (.ifCond .ne 15, 3) := by decide +kernel
theorem dX8_copy_29 : decode cX8_copy 29 = .ok (.aload_n 0, 1) := by decide +kernel
theorem dX8_copy_30 : decode cX8_copy 30 = .ok (.getfield 55, 3) := by decide +kernel
theorem dX8_copy_33 : decode cX8_copy 33 = .ok (.iload_n 3, 1) := by decide +kernel
theorem dX8_copy_34 : decode cX8_copy 34 = .ok (.aaload, 1) := by decide +kernel
theorem dX8_copy_35 : decode cX8_copy 35 = .ok (.invokevirtual 324, 3) := by decide +kernel
theorem dX8_copy_38 : decode cX8_copy 38 = .ok (.ifCond .eq 6, 3) := by decide +kernel
theorem dX8_copy_41 : decode cX8_copy 41 = .ok (.bipush (-11), 2) := by decide +kernel
theorem dX8_copy_43 : decode cX8_copy 43 = .ok (.ireturn, 1) := by decide +kernel
theorem dX8_copy_44 : decode cX8_copy 44 = .ok (.aload_n 0, 1) := by decide +kernel
theorem dX8_copy_45 : decode cX8_copy 45 = .ok (.getfield 55, 3) := by decide +kernel
theorem dX8_copy_48 : decode cX8_copy 48 = .ok (.iload_n 1, 1) := by decide +kernel
theorem dX8_copy_49 : decode cX8_copy 49 = .ok (.aaload, 1) := by decide +kernel
theorem dX8_copy_50 : decode cX8_copy 50 = .ok (.getfield 328, 3) := by decide +kernel
theorem dX8_copy_53 : decode cX8_copy 53 = .ok (.aload_n 0, 1) := by decide +kernel
theorem dX8_copy_54 : decode cX8_copy 54 = .ok (.getfield 55, 3) := by decide +kernel
theorem dX8_copy_57 : decode cX8_copy 57 = .ok (.iload_n 3, 1) := by decide +kernel
theorem dX8_copy_58 : decode cX8_copy 58 = .ok (.aaload, 1) := by decide +kernel
theorem dX8_copy_59 : decode cX8_copy 59 = .ok (.getfield 328, 3) := by decide +kernel
theorem dX8_copy_62 : decode cX8_copy 62 = .ok (.if_icmp .eq 6, 3) := by decide +kernel
theorem dX8_copy_65 : decode cX8_copy 65 = .ok (.bipush (-13), 2) := by decide +kernel
theorem dX8_copy_67 : decode cX8_copy 67 = .ok (.ireturn, 1) := by decide +kernel
theorem dX8_copy_68 : decode cX8_copy 68 = .ok (.aload_n 0, 1) := by decide +kernel
theorem dX8_copy_69 : decode cX8_copy 69 = .ok (.getfield 55, 3) := by decide +kernel
theorem dX8_copy_72 : decode cX8_copy 72 = .ok (.iload_n 1, 1) := by decide +kernel
theorem dX8_copy_73 : decode cX8_copy 73 = .ok (.aaload, 1) := by decide +kernel
theorem dX8_copy_74 : decode cX8_copy 74 = .ok (.iload_n 2, 1) := by decide +kernel
theorem dX8_copy_75 : decode cX8_copy 75 = .ok (.iload 5, 2) := by decide +kernel
theorem dX8_copy_77 : decode cX8_copy 77 = .ok (.invokevirtual 331, 3) := by decide +kernel
theorem dX8_copy_80 : decode cX8_copy 80 = .ok (.ifCond .eq 19, 3) := by decide +kernel
theorem dX8_copy_83 : decode cX8_copy 83 = .ok (.aload_n 0, 1) := by decide +kernel
theorem dX8_copy_84 : decode cX8_copy 84 = .ok (.getfield 55, 3) := by decide +kernel
theorem dX8_copy_87 : decode cX8_copy 87 = .ok (.iload_n 3, 1) := by decide +kernel
theorem dX8_copy_88 : decode cX8_copy 88 = .ok (.aaload, 1) := by decide +kernel
theorem dX8_copy_89 : decode cX8_copy 89 = .ok (.iload 4, 2) := by decide +kernel
theorem dX8_copy_91 : decode cX8_copy 91 = .ok (.iload 5, 2) := by decide +kernel
theorem dX8_copy_93 : decode cX8_copy 93 = .ok (.invokevirtual 331, 3) := by decide +kernel
theorem dX8_copy_96 : decode cX8_copy 96 = .ok (.ifCond .ne 6, 3) := by decide +kernel
theorem dX8_copy_99 : decode cX8_copy 99 = .ok (.bipush (-12), 2) := by decide +kernel
theorem dX8_copy_101 : decode cX8_copy 101 = .ok (.ireturn, 1) := by decide +kernel
theorem dX8_copy_102 : decode cX8_copy 102 = .ok (.aload_n 0, 1) := by decide +kernel
theorem dX8_copy_103 : decode cX8_copy 103 = .ok (.getfield 55, 3) := by decide +kernel
theorem dX8_copy_106 : decode cX8_copy 106 = .ok (.iload_n 3, 1) := by decide +kernel
theorem dX8_copy_107 : decode cX8_copy 107 = .ok (.aaload, 1) := by decide +kernel
theorem dX8_copy_108 : decode cX8_copy 108 = .ok (.aload_n 0, 1) := by decide +kernel
theorem dX8_copy_109 : decode cX8_copy 109 = .ok (.getfield 55, 3) := by decide +kernel
theorem dX8_copy_112 : decode cX8_copy 112 = .ok (.iload_n 1, 1) := by decide +kernel
theorem dX8_copy_113 : decode cX8_copy 113 = .ok (.aaload, 1) := by decide +kernel
theorem dX8_copy_114 : decode cX8_copy 114 = .ok (.iload_n 2, 1) := by decide +kernel
theorem dX8_copy_115 : decode cX8_copy 115 = .ok (.iload 4, 2) := by decide +kernel
theorem dX8_copy_117 : decode cX8_copy 117 = .ok (.iload 5, 2) := by decide +kernel
theorem dX8_copy_119 : decode cX8_copy 119 = .ok (.invokevirtual 334, 3) := by decide +kernel
theorem dX8_copy_122 : decode cX8_copy 122 = .ok (.iload 5, 2) := by decide +kernel
theorem dX8_copy_124 : decode cX8_copy 124 = .ok (.ireturn, 1) := by decide +kernel
set_option maxRecDepth 20000 in
theorem ggX8_build_X8_isNoSheet : GoodIn wsX8_build wsX8_isNoSheet := goodIn_r _ [8, 9, 10, 7, 11] (by decide +kernel) (by decide +kernel)
set_option maxRecDepth 20000 in
theorem gX8_build_X8_isNoSheet : GoodIn wsX8_build (va_wsS RX8 298 yX8_isNoSheet wsX8_isNoSheet) := goodIn_app (goodIn_of _ (by decide +kernel)) ggX8_build_X8_isNoSheet
set_option maxRecDepth 20000 in
theorem ggX8_build_X8_isBeyond : GoodIn wsX8_build wsX8_isBeyond := goodIn_r _ [11] (by decide +kernel) (by decide +kernel)
set_option maxRecDepth 20000 in
theorem gX8_build_X8_isBeyond : GoodIn wsX8_build (va_wsS RX8 61 yX8_isBeyond wsX8_isBeyond) := goodIn_app (goodIn_of _ (by decide +kernel)) ggX8_build_X8_isBeyond
set_option maxRecDepth 20000 in
theorem ggX8_build_X3_isMissing : GoodIn wsX8_build wsX3_isMissing := goodIn_r _ [16, 17, 66, 67, 68, 69, 70, 71, 72] (by decide +kernel) (by decide +kernel)
set_option maxRecDepth 20000 in
theorem gX8_build_X3_isMissing : GoodIn wsX8_build (wsV RX8 324 RX3 yX3_isMissing wsX3_isMissing) := goodIn_app (goodIn_of _ (by decide +kernel)) ggX8_build_X3_isMissing
set_option maxRecDepth 20000 in
theorem ggX8_build_X3_hasRun : GoodIn wsX8_build wsX3_hasRun := goodIn_r _ [21, 22, 66, 67, 68, 69, 70, 71, 72] (by decide +kernel) (by decide +kernel)
set_option maxRecDepth 20000 in
theorem gX8_build_X3_hasRun : GoodIn wsX8_build (wsV RX8 331 RX3 yX3_hasRun wsX3_hasRun) := goodIn_app (goodIn_of _ (by decide +kernel)) ggX8_build_X3_hasRun
set_option maxRecDepth 20000 in
theorem ggX8_build_X1_add : GoodIn wsX8_build wsX1_add := goodIn_r _ [27, 28, 29, 30, 31, 32, 33, 34, 35, 36, 37, 38, 39, 40, 10, 7, 11, 41, 42, 43, 26, 44, 45, 46, 47, 48, 49, 50, 51, 52, 53, 54, 55, 56, 73, 74, 75, 76, 77, 78, 79, 80, 81, 82, 83] (by decide +kernel) (by decide +kernel)
set_option maxRecDepth 20000 in
theorem gX8_build_X1_add : GoodIn wsX8_build (wsV RX8 73 RX1 yX1_add wsX1_add) := goodIn_app (goodIn_of _ (by decide +kernel)) ggX8_build_X1_add
theorem dX8_build_0 : decode cX8_build 0 = .ok (.iload_n 1, 1) := by decide +kernel
theorem dX8_build_1 : decode cX8_build 1 = .ok (.invokestatic 298, 3) := by decide +kernel
theorem dX8_build_4 : decode cX8_build 4 = .ok (.ifCond .ne 13, 3) := by decide +kernel
theorem dX8_build_7 : decode cX8_build 7 = .ok (.iload_n 3, 1) := by decide +kernel
theorem dX8_build_8 : decode cX8_build 8 = .ok (.iconst 0, 1) := by decide +kernel
theorem dX8_build_9 : decode cX8_build 9 = .ok (.bipush 15, 2) := by decide +kernel
theorem dX8_build_11 : decode cX8_build 11 = .ok (.invokestatic 61, 3) := by decide +kernel
theorem dX8_build_14 : decode cX8_build 14 = .ok (.ifCond .eq 6, 3) := by decide +kernel
theorem dX8_build_17 : decode cX8_build 17 = .ok (.bipush (-2), 2) := by decide +kernel
theorem dX8_build_19 : decode cX8_build 19 = .ok (.ireturn, 1) := by decide +kernel
theorem dX8_build_20 : decode cX8_build 20 = .ok (.aload_n 0, 1) := by decide +kernel
theorem dX8_build_21 : decode cX8_build 21 = .ok (.getfield 55, 3) := by decide +kernel
theorem dX8_build_24 : decode cX8_build 24 = .ok (.iload_n 1, 1) := by decide +kernel
theorem dX8_build_25 : decode cX8_build 25 = .ok (.aaload, 1) := by decide +kernel
theorem dX8_build_26 : decode cX8_build 26 = .ok (.invokevirtual 324, 3) := by decide +kernel
theorem dX8_build_29 : decode cX8_build 29 = .ok (.ifCond .eq 6, 3) := by decide +kernel
theorem dX8_build_32 : decode cX8_build 32 = .ok (.bipush (-11), 2) := by decide +kernel
theorem dX8_build_34 : decode cX8_build 34 = .ok (.ireturn, 1) := by decide +kernel
theorem dX8_build_35 : decode cX8_build 35 = .ok (.aload_n 0, 1) := by decide +kernel
theorem dX8_build_36 : decode cX8_build 36 = .ok (.getfield 55, 3) := by decide +kernel
theorem dX8_build_39 : decode cX8_build 39 = .ok (.iload_n 1, 1) := by decide +kernel
theorem dX8_build_40 : decode cX8_build 40 = .ok (.aaload, 1) := by decide +kernel
theorem dX8_build_41 : decode cX8_build 41 = .ok (.getfield 328, 3) := by decide +kernel
theorem dX8_build_44 : decode cX8_build 44 = .ok (.ifCond .eq 6, 3) := by decide +kernel
theorem dX8_build_47 : decode cX8_build 47 = .ok (.bipush (-13), 2) := by decide +kernel
theorem dX8_build_49 : decode cX8_build 49 = .ok (.ireturn, 1) := by decide +kernel
theorem dX8_build_50 : decode cX8_build 50 = .ok (.aload_n 0, 1) := by decide +kernel
theorem dX8_build_51 : decode cX8_build 51 = .ok (.getfield 55, 3) := by decide +kernel
theorem dX8_build_54 : decode cX8_build 54 = .ok (.iload_n 1, 1) := by decide +kernel
theorem dX8_build_55 : decode cX8_build 55 = .ok (.aaload, 1) := by decide +kernel
theorem dX8_build_56 : decode cX8_build 56 = .ok (.getfield 338, 3) := by decide +kernel
theorem dX8_build_59 : decode cX8_build 59 = .ok (.astore 4, 2) := by decide +kernel
theorem dX8_build_61 : decode cX8_build 61 = .ok (.iconst 0, 1) := by decide +kernel
theorem dX8_build_62 : decode cX8_build 62 = .ok (.istore 5, 2) := by decide +kernel
theorem dX8_build_64 : decode cX8_build 64 = .ok (.iconst 0, 1) := by decide +kernel
theorem dX8_build_65 : decode cX8_build 65 = .ok (.istore 6, 2) := by decide +kernel
theorem dX8_build_67 : decode cX8_build 67 = .ok (.iload 6, 2) := by decide +kernel
theorem dX8_build_69 : decode cX8_build 69 = .ok (.iload_n 3, 1) := by decide +kernel
theorem dX8_build_70 : decode cX8_build 70 = .ok (.if_icmp .ge 91, 3) := by decide +kernel
theorem dX8_build_73 : decode cX8_build 73 = .ok (.iload_n 2, 1) := by decide +kernel
theorem dX8_build_74 : decode cX8_build 74 = .ok (.bipush 60, 2) := by decide +kernel
theorem dX8_build_76 : decode cX8_build 76 = .ok (.if_icmp .gt 22, 3) := by decide +kernel
theorem dX8_build_79 : decode cX8_build 79 = .ok (.aload_n 0, 1) := by decide +kernel
theorem dX8_build_80 : decode cX8_build 80 = .ok (.getfield 55, 3) := by decide +kernel
theorem dX8_build_83 : decode cX8_build 83 = .ok (.iload_n 1, 1) := by decide +kernel
theorem dX8_build_84 : decode cX8_build 84 = .ok (.aaload, 1) := by decide +kernel
theorem dX8_build_85 : decode cX8_build 85 = .ok (.iload_n 2, 1) := by decide +kernel
theorem dX8_build_86 : decode cX8_build 86 = .ok (.iconst 4, 1) := by decide +kernel
theorem dX8_build_87 : decode cX8_build 87 = .ok (.iload 6, 2) := by decide +kernel
theorem dX8_build_89 : decode cX8_build 89 = .ok (.imul, 1) := by decide +kernel
theorem dX8_build_90 : decode cX8_build 90 = .ok (.iadd, 1) := by decide +kernel
theorem dX8_build_91 : decode cX8_build 91 = .ok (.iconst 4, 1) := by decide +kernel
theorem dX8_build_92 : decode cX8_build 92 = .ok (.invokevirtual 331, 3) := by decide +kernel
theorem dX8_build_95 : decode cX8_build 95 = .ok (.ifCond .ne 6, 3) := by decide +kernel
theorem dX8_build_98 : decode cX8_build 98 = .ok (.bipush (-12), 2) := by decide +kernel
theorem dX8_build_100 : decode cX8_build 100 = .ok (.ireturn, 1) := by decide +kernel
theorem dX8_build_101 : decode cX8_build 101 = .ok (.iload_n 2, 1) := by decide +kernel
theorem dX8_build_102 : decode cX8_build 102 = .ok (.iconst 4, 1) := by decide +kernel
theorem dX8_build_103 : decode cX8_build 103 = .ok (.iload 6, 2) := by decide +kernel
theorem dX8_build_105 : decode cX8_build 105 = .ok (.imul, 1) := by decide +kernel
theorem dX8_build_106 : decode cX8_build 106 = .ok (.iadd, 1) := by decide +kernel
theorem dX8_build_107 : decode cX8_build 107 = .ok (.istore 7, 2) := by decide +kernel
theorem dX8_build_109 : decode cX8_build 109 = .ok (.iload 5, 2) := by decide +kernel
theorem dX8_build_111 : decode cX8_build 111 = .ok (.aload_n 0, 1) := by decide +kernel
theorem dX8_build_112 : decode cX8_build 112 = .ok (.getfield 12, 3) := by decide +kernel
theorem dX8_build_115 : decode cX8_build 115 = .ok (.aload 4, 2) := by decide +kernel
theorem dX8_build_117 : decode cX8_build 117 = .ok (.iload 7, 2) := by decide +kernel
theorem dX8_build_119 : decode cX8_build 119 = .ok (.iaload, 1) := by decide +kernel
theorem dX8_build_120 : decode cX8_build 120 = .ok (.aload 4, 2) := by decide +kernel
theorem dX8_build_122 : decode cX8_build 122 = .ok (.iload 7, 2) := by decide +kernel
theorem dX8_build_124 : decode cX8_build 124 = .ok (.iconst 1, 1) := by decide +kernel
theorem dX8_build_125 : decode cX8_build 125 = .ok (.iadd, 1) := by decide +kernel
theorem dX8_build_126 : decode cX8_build 126 = .ok (.iaload, 1) := by decide +kernel
theorem dX8_build_127 : decode cX8_build 127 = .ok (.aload 4, 2) := by decide +kernel
theorem dX8_build_129 : decode cX8_build 129 = .ok (.iload 7, 2) := by decide +kernel
theorem dX8_build_131 : decode cX8_build 131 = .ok (.iconst 2, 1) := by decide +kernel
theorem dX8_build_132 : decode cX8_build 132 = .ok (.iadd, 1) := by decide +kernel
theorem dX8_build_133 : decode cX8_build 133 = .ok (.iaload, 1) := by decide +kernel
theorem dX8_build_134 : decode cX8_build 134 = .ok (.aload 4, 2) := by decide +kernel
theorem dX8_build_136 : decode cX8_build 136 = .ok (.iload 7, 2) := by decide +kernel
theorem dX8_build_138 : decode cX8_build 138 = .ok (.iconst 3, 1) := by decide +kernel
theorem dX8_build_139 : decode cX8_build 139 = .ok (.iadd, 1) := by decide +kernel
theorem dX8_build_140 : decode cX8_build 140 = .ok (.iaload, 1) := by decide +kernel
theorem dX8_build_141 : decode cX8_build 141 = .ok (.invokevirtual 73, 3) := by decide +kernel
theorem dX8_build_144 : decode cX8_build 144 = .ok (.ifCond .lt 7, 3) := by decide +kernel
theorem dX8_build_147 : decode cX8_build 147 = .ok (.iconst 1, 1) := by decide +kernel
theorem dX8_build_148 : decode cX8_build 148 = .ok (.goto 4, 3) := by decide +kernel
theorem dX8_build_151 : decode cX8_build 151 = .ok (.iconst 0, 1) := by decide +kernel
theorem dX8_build_152 : decode cX8_build 152 = .ok (.iadd, 1) := by decide +kernel
theorem dX8_build_153 : decode cX8_build 153 = .ok (.istore 5, 2) := by decide +kernel
theorem dX8_build_155 : decode cX8_build 155 = .ok (.iinc 6 1, 3) := by decide +kernel
theorem dX8_build_158 : decode cX8_build 158 = .ok (.goto (-91), 3) := by decide +kernel
theorem dX8_build_161 : decode cX8_build 161 = .ok (.iload 5, 2) := by decide +kernel
theorem dX8_build_163 : decode cX8_build 163 = .ok (.ireturn, 1) := by decide +kernel
set_option maxRecDepth 20000 in
theorem ggX8_image_X1_become : GoodIn wsX8_image wsX1_become := goodIn_r _ [9, 10, 11, 12, 13, 14, 15, 16, 17, 18, 19, 20, 21, 22, 23, 8, 24, 25, 26, 27, 28, 29, 30, 31, 32, 33, 34, 35, 36, 37, 38, 39, 49, 50, 51, 52, 53, 54, 55, 56, 57, 58, 59] (by decide +kernel) (by decide +kernel)
set_option maxRecDepth 20000 in
theorem gX8_image_X1_become : GoodIn wsX8_image (wsV RX8 341 RX1 yX1_become wsX1_become) := goodIn_app (goodIn_of _ (by decide +kernel)) ggX8_image_X1_become
theorem dX8_image_0 : decode cX8_image 0 = .ok (.aload_n 0, 1) := by decide +kernel
theorem dX8_image_1 : decode cX8_image 1 = .ok (.getfield 16, 3) := by decide +kernel
theorem dX8_image_4 : decode cX8_image 4 = .ok (.aload_n 0, 1) := by decide +kernel
theorem dX8_image_5 : decode cX8_image 5 = .ok (.getfield 12, 3) := by decide +kernel
theorem dX8_image_8 : decode cX8_image 8 = .ok (.invokevirtual 341, 3) := by decide +kernel
theorem dX8_image_11 : decode cX8_image 11 = .ok (.aload_n 0, 1) := by decide +kernel
theorem dX8_image_12 : decode cX8_image 12 = .ok (.iconst 1, 1) := by decide +kernel
theorem dX8_image_13 : decode cX8_image 13 = .ok (.putfield 19, 3) := by decide +kernel
theorem dX8_image_16 : decode cX8_image 16 = .ok (.aload_n 0, 1) := by decide +kernel
theorem dX8_image_17 : decode cX8_image 17 = .ok (.getfield 12, 3) := by decide +kernel
theorem dX8_image_20 : decode cX8_image 20 = .ok (.getfield 104, 3) := by decide +kernel
theorem dX8_image_23 : decode cX8_image 23 = .ok (.ireturn, 1) := by decide +kernel
set_option maxRecDepth 20000 in
theorem ggX8_back_X1_become : GoodIn wsX8_back wsX1_become := goodIn_r _ [9, 10, 11, 12, 13, 14, 15, 16, 17, 18, 19, 20, 21, 22, 23, 8, 24, 25, 26, 27, 28, 29, 30, 31, 32, 33, 34, 35, 36, 37, 38, 39, 49, 50, 51, 52, 53, 54, 55, 56, 57, 58, 59] (by decide +kernel) (by decide +kernel)
set_option maxRecDepth 20000 in
theorem gX8_back_X1_become : GoodIn wsX8_back (wsV RX8 341 RX1 yX1_become wsX1_become) := goodIn_app (goodIn_of _ (by decide +kernel)) ggX8_back_X1_become
theorem dX8_back_0 : decode cX8_back 0 = .ok (.aload_n 0, 1) := by decide +kernel
theorem dX8_back_1 : decode cX8_back 1 = .ok (.getfield 19, 3) := by decide +kernel
theorem dX8_back_4 : decode cX8_back 4 = .ok (.ifCond .ne 6, 3) := by decide +kernel
theorem dX8_back_7 : decode cX8_back 7 = .ok (.bipush (-3), 2) := by decide +kernel
theorem dX8_back_9 : decode cX8_back 9 = .ok (.ireturn, 1) := by decide +kernel
theorem dX8_back_10 : decode cX8_back 10 = .ok (.aload_n 0, 1) := by decide +kernel
theorem dX8_back_11 : decode cX8_back 11 = .ok (.getfield 12, 3) := by decide +kernel
theorem dX8_back_14 : decode cX8_back 14 = .ok (.aload_n 0, 1) := by decide +kernel
theorem dX8_back_15 : decode cX8_back 15 = .ok (.getfield 16, 3) := by decide +kernel
theorem dX8_back_18 : decode cX8_back 18 = .ok (.invokevirtual 341, 3) := by decide +kernel
theorem dX8_back_21 : decode cX8_back 21 = .ok (.aload_n 0, 1) := by decide +kernel
theorem dX8_back_22 : decode cX8_back 22 = .ok (.getfield 12, 3) := by decide +kernel
theorem dX8_back_25 : decode cX8_back 25 = .ok (.getfield 104, 3) := by decide +kernel
theorem dX8_back_28 : decode cX8_back 28 = .ok (.ireturn, 1) := by decide +kernel
theorem dX8_count_0 : decode cX8_count 0 = .ok (.iload_n 1, 1) := by decide +kernel
theorem dX8_count_1 : decode cX8_count 1 = .ok (.tableswitch 63 0 3 #[31, 39, 47, 55], 31) := by decide +kernel
theorem dX8_count_32 : decode cX8_count 32 = .ok (.aload_n 0, 1) := by decide +kernel
theorem dX8_count_33 : decode cX8_count 33 = .ok (.getfield 12, 3) := by decide +kernel
theorem dX8_count_36 : decode cX8_count 36 = .ok (.getfield 65, 3) := by decide +kernel
theorem dX8_count_39 : decode cX8_count 39 = .ok (.ireturn, 1) := by decide +kernel
theorem dX8_count_40 : decode cX8_count 40 = .ok (.aload_n 0, 1) := by decide +kernel
theorem dX8_count_41 : decode cX8_count 41 = .ok (.getfield 12, 3) := by decide +kernel
theorem dX8_count_44 : decode cX8_count 44 = .ok (.getfield 104, 3) := by decide +kernel
theorem dX8_count_47 : decode cX8_count 47 = .ok (.ireturn, 1) := by decide +kernel
theorem dX8_count_48 : decode cX8_count 48 = .ok (.aload_n 0, 1) := by decide +kernel
theorem dX8_count_49 : decode cX8_count 49 = .ok (.getfield 12, 3) := by decide +kernel
theorem dX8_count_52 : decode cX8_count 52 = .ok (.getfield 107, 3) := by decide +kernel
theorem dX8_count_55 : decode cX8_count 55 = .ok (.ireturn, 1) := by decide +kernel
theorem dX8_count_56 : decode cX8_count 56 = .ok (.aload_n 0, 1) := by decide +kernel
theorem dX8_count_57 : decode cX8_count 57 = .ok (.getfield 40, 3) := by decide +kernel
theorem dX8_count_60 : decode cX8_count 60 = .ok (.getfield 203, 3) := by decide +kernel
theorem dX8_count_63 : decode cX8_count 63 = .ok (.ireturn, 1) := by decide +kernel
theorem dX8_count_64 : decode cX8_count 64 = .ok (.bipush (-2), 2) := by decide +kernel
theorem dX8_count_66 : decode cX8_count 66 = .ok (.ireturn, 1) := by decide +kernel
set_option maxRecDepth 20000 in
theorem ggX8_rowOf_X4_prepare : GoodIn wsX8_rowOf wsX4_prepare := goodIn_r _ [7, 8, 9, 10, 11, 12, 13, 14, 15, 16, 17, 18, 19, 20, 21, 22, 23, 24, 25, 26, 27, 28, 29, 30, 31, 32, 33, 34, 35, 36, 37, 38, 39, 40, 41, 42, 43, 100, 101, 102, 103, 104, 105, 106, 107, 108, 109, 110, 111, 112, 113, 114, 115, 116, 117, 118, 119] (by decide +kernel) (by decide +kernel)
set_option maxRecDepth 20000 in
theorem gX8_rowOf_X4_prepare : GoodIn wsX8_rowOf (wsV RX8 185 RX4 yX4_prepare wsX4_prepare) := goodIn_app (goodIn_of _ (by decide +kernel)) ggX8_rowOf_X4_prepare
set_option maxRecDepth 20000 in
theorem ggX8_rowOf_X1_allPoints : GoodIn wsX8_rowOf wsX1_allPoints := goodIn_r _ [19, 20, 109, 110, 111, 112, 113, 114, 115, 116, 117, 118, 119] (by decide +kernel) (by decide +kernel)
set_option maxRecDepth 20000 in
theorem gX8_rowOf_X1_allPoints : GoodIn wsX8_rowOf (wsV RX8 189 RX1 yX1_allPoints wsX1_allPoints) := goodIn_app (goodIn_of _ (by decide +kernel)) ggX8_rowOf_X1_allPoints
set_option maxRecDepth 20000 in
theorem ggX8_rowOf_X4_rowFor : GoodIn wsX8_rowOf wsX4_rowFor := goodIn_r _ [48, 49, 50, 51, 6, 52, 53, 8, 54, 55, 56, 57, 58, 59, 60, 12, 14, 61, 62, 63, 64, 65, 66, 67, 68, 69, 70, 71, 72, 73, 74, 75, 76, 77, 78, 41, 42, 43, 79, 80, 81, 82, 83, 84, 85, 86, 87, 88, 89, 90, 100, 101, 102, 103, 104, 105, 106, 107, 108] (by decide +kernel) (by decide +kernel)
set_option maxRecDepth 20000 in
theorem gX8_rowOf_X4_rowFor : GoodIn wsX8_rowOf (wsV RX8 192 RX4 yX4_rowFor wsX4_rowFor) := goodIn_app (goodIn_of _ (by decide +kernel)) ggX8_rowOf_X4_rowFor
theorem dX8_rowOf_0 : decode cX8_rowOf 0 = .ok (.aload_n 0, 1) := by decide +kernel
theorem dX8_rowOf_1 : decode cX8_rowOf 1 = .ok (.getfield 26, 3) := by decide +kernel
theorem dX8_rowOf_4 : decode cX8_rowOf 4 = .ok (.aload_n 0, 1) := by decide +kernel
theorem dX8_rowOf_5 : decode cX8_rowOf 5 = .ok (.getfield 12, 3) := by decide +kernel
theorem dX8_rowOf_8 : decode cX8_rowOf 8 = .ok (.iconst 0, 1) := by decide +kernel
theorem dX8_rowOf_9 : decode cX8_rowOf 9 = .ok (.invokevirtual 185, 3) := by decide +kernel
theorem dX8_rowOf_12 : decode cX8_rowOf 12 = .ok (.aload_n 0, 1) := by decide +kernel
theorem dX8_rowOf_13 : decode cX8_rowOf 13 = .ok (.getfield 26, 3) := by decide +kernel
theorem dX8_rowOf_16 : decode cX8_rowOf 16 = .ok (.aload_n 0, 1) := by decide +kernel
theorem dX8_rowOf_17 : decode cX8_rowOf 17 = .ok (.getfield 12, 3) := by decide +kernel
theorem dX8_rowOf_20 : decode cX8_rowOf 20 = .ok (.invokevirtual 189, 3) := by decide +kernel
theorem dX8_rowOf_23 : decode cX8_rowOf 23 = .ok (.iload_n 1, 1) := by decide +kernel
theorem dX8_rowOf_24 : decode cX8_rowOf 24 = .ok (.iconst (-1), 1) := by decide +kernel
theorem dX8_rowOf_25 : decode cX8_rowOf 25 = .ok (.ixor, 1) := by decide +kernel
theorem dX8_rowOf_26 : decode cX8_rowOf 26 = .ok (.iand, 1) := by decide +kernel
theorem dX8_rowOf_27 : decode cX8_rowOf 27 = .ok (.invokevirtual 192, 3) := by decide +kernel
theorem dX8_rowOf_30 : decode cX8_rowOf 30 = .ok (.ireturn, 1) := by decide +kernel
set_option maxRecDepth 20000 in
theorem ggX8_degreeOf_X1_allPoints : GoodIn wsX8_degreeOf wsX1_allPoints := goodIn_r _ [6, 7, 24, 25, 26, 27, 28, 29, 30, 31, 32, 33, 34] (by decide +kernel) (by decide +kernel)
set_option maxRecDepth 20000 in
theorem gX8_degreeOf_X1_allPoints : GoodIn wsX8_degreeOf (wsV RX8 189 RX1 yX1_allPoints wsX1_allPoints) := goodIn_app (goodIn_of _ (by decide +kernel)) ggX8_degreeOf_X1_allPoints
set_option maxRecDepth 20000 in
theorem ggX8_degreeOf_J6_bitCount_0f7a4 : GoodIn wsX8_degreeOf wsJ6_bitCount_0f7a4 := goodIn_r _ [11, 12, 13, 14] (by decide +kernel) (by decide +kernel)
set_option maxRecDepth 20000 in
theorem gX8_degreeOf_J6_bitCount_0f7a4 : GoodIn wsX8_degreeOf (va_wsS RX8 345 yJ6_bitCount_0f7a4 wsJ6_bitCount_0f7a4) := goodIn_app (goodIn_of _ (by decide +kernel)) ggX8_degreeOf_J6_bitCount_0f7a4
theorem dX8_degreeOf_0 : decode cX8_degreeOf 0 = .ok (.aload_n 0, 1) := by decide +kernel
theorem dX8_degreeOf_1 : decode cX8_degreeOf 1 = .ok (.getfield 12, 3) := by decide +kernel
theorem dX8_degreeOf_4 : decode cX8_degreeOf 4 = .ok (.invokevirtual 189, 3) := by decide +kernel
theorem dX8_degreeOf_7 : decode cX8_degreeOf 7 = .ok (.iload_n 1, 1) := by decide +kernel
theorem dX8_degreeOf_8 : decode cX8_degreeOf 8 = .ok (.iconst (-1), 1) := by decide +kernel
theorem dX8_degreeOf_9 : decode cX8_degreeOf 9 = .ok (.ixor, 1) := by decide +kernel
theorem dX8_degreeOf_10 : decode cX8_degreeOf 10 = .ok (.iand, 1) := by decide +kernel
theorem dX8_degreeOf_11 : decode cX8_degreeOf 11 = .ok (.invokestatic 345, 3) := by decide +kernel
theorem dX8_degreeOf_14 : decode cX8_degreeOf 14 = .ok (.ireturn, 1) := by decide +kernel
set_option maxRecDepth 20000 in
theorem ggX8_isNoPointIn_X1_hasPoint : GoodIn wsX8_isNoPointIn wsX1_hasPoint := goodIn_r _ [6, 7, 24, 25, 26, 27, 28, 29, 30, 31, 32, 33, 34] (by decide +kernel) (by decide +kernel)
set_option maxRecDepth 20000 in
theorem gX8_isNoPointIn_X1_hasPoint : GoodIn wsX8_isNoPointIn (wsV RX8 110 RX1 yX1_hasPoint wsX1_hasPoint) := goodIn_app (goodIn_of _ (by decide +kernel)) ggX8_isNoPointIn_X1_hasPoint
set_option maxRecDepth 20000 in
theorem ggX8_isNoPointIn_X8_isNoSet : GoodIn wsX8_isNoPointIn wsX8_isNoSet := goodIn_r _ [11, 12, 13, 10, 14] (by decide +kernel) (by decide +kernel)
set_option maxRecDepth 20000 in
theorem gX8_isNoPointIn_X8_isNoSet : GoodIn wsX8_isNoPointIn (va_wsS RX8 117 yX8_isNoSet wsX8_isNoSet) := goodIn_app (goodIn_of _ (by decide +kernel)) ggX8_isNoPointIn_X8_isNoSet
theorem dX8_isNoPointIn_0 : decode cX8_isNoPointIn 0 = .ok (.aload_n 0, 1) := by decide +kernel
theorem dX8_isNoPointIn_1 : decode cX8_isNoPointIn 1 = .ok (.getfield 12, 3) := by decide +kernel
theorem dX8_isNoPointIn_4 : decode cX8_isNoPointIn 4 = .ok (.iload_n 1, 1) := by decide +kernel
theorem dX8_isNoPointIn_5 : decode cX8_isNoPointIn 5 = .ok (.invokevirtual 110, 3) := by decide +kernel
theorem dX8_isNoPointIn_8 : decode cX8_isNoPointIn 8 = .ok (.ifCond .eq 18, 3) := by decide +kernel
theorem dX8_isNoPointIn_11 : decode cX8_isNoPointIn 11 = .ok (.iload_n 2, 1) := by decide +kernel
theorem dX8_isNoPointIn_12 : decode cX8_isNoPointIn 12 = .ok (.invokestatic 117, 3) := by decide +kernel
theorem dX8_isNoPointIn_15 : decode cX8_isNoPointIn 15 = .ok (.ifCond .ne 11, 3) := by decide +kernel
theorem dX8_isNoPointIn_18 : decode cX8_isNoPointIn 18 = .ok (.iload_n 2, 1) := by decide +kernel
theorem dX8_isNoPointIn_19 : decode cX8_isNoPointIn 19 = .ok (.iload_n 1, 1) := by decide +kernel
theorem dX8_isNoPointIn_20 : decode cX8_isNoPointIn 20 = .ok (.ishr, 1) := by decide +kernel
theorem dX8_isNoPointIn_21 : decode cX8_isNoPointIn 21 = .ok (.iconst 1, 1) := by decide +kernel
theorem dX8_isNoPointIn_22 : decode cX8_isNoPointIn 22 = .ok (.iand, 1) := by decide +kernel
theorem dX8_isNoPointIn_23 : decode cX8_isNoPointIn 23 = .ok (.ifCond .eq 7, 3) := by decide +kernel
theorem dX8_isNoPointIn_26 : decode cX8_isNoPointIn 26 = .ok (.iconst 1, 1) := by decide +kernel
theorem dX8_isNoPointIn_27 : decode cX8_isNoPointIn 27 = .ok (.goto 4, 3) := by decide +kernel
theorem dX8_isNoPointIn_30 : decode cX8_isNoPointIn 30 = .ok (.iconst 0, 1) := by decide +kernel
theorem dX8_isNoPointIn_31 : decode cX8_isNoPointIn 31 = .ok (.ireturn, 1) := by decide +kernel
set_option maxRecDepth 20000 in
theorem ggX8_faultOf_X8_isNoSheet : GoodIn wsX8_faultOf wsX8_isNoSheet := goodIn_r _ [6, 7, 8, 5, 9] (by decide +kernel) (by decide +kernel)
set_option maxRecDepth 20000 in
theorem gX8_faultOf_X8_isNoSheet : GoodIn wsX8_faultOf (va_wsS RX8 298 yX8_isNoSheet wsX8_isNoSheet) := goodIn_app (goodIn_of _ (by decide +kernel)) ggX8_faultOf_X8_isNoSheet
set_option maxRecDepth 20000 in
theorem ggX8_faultOf_X8_isNoSet : GoodIn wsX8_faultOf wsX8_isNoSet := goodIn_r _ [12, 7, 8, 5, 9] (by decide +kernel) (by decide +kernel)
set_option maxRecDepth 20000 in
theorem gX8_faultOf_X8_isNoSet : GoodIn wsX8_faultOf (va_wsS RX8 117 yX8_isNoSet wsX8_isNoSet) := goodIn_app (goodIn_of _ (by decide +kernel)) ggX8_faultOf_X8_isNoSet
set_option maxRecDepth 20000 in
theorem ggX8_faultOf_X3_isMissing : GoodIn wsX8_faultOf wsX3_isMissing := goodIn_r _ [17, 18, 124, 125, 126, 127, 128, 129, 130] (by decide +kernel) (by decide +kernel)
set_option maxRecDepth 20000 in
theorem gX8_faultOf_X3_isMissing : GoodIn wsX8_faultOf (wsV RX8 324 RX3 yX3_isMissing wsX3_isMissing) := goodIn_app (goodIn_of _ (by decide +kernel)) ggX8_faultOf_X3_isMissing
set_option maxRecDepth 20000 in
theorem ggX8_faultOf_X8_rowOf : GoodIn wsX8_faultOf wsX8_rowOf := goodIn_r _ [22, 2, 23, 24, 25, 26, 27, 28, 29, 30, 31, 32, 33, 34, 35, 36, 37, 38, 39, 40, 41, 42, 43, 44, 45, 46, 47, 48, 49, 50, 51, 52, 53, 54, 55, 56, 57, 58, 5, 59, 60, 61, 62, 63, 64, 65, 66, 67, 68, 69, 70, 71, 72, 73, 74, 75, 76, 77, 78, 79, 80, 81, 82, 83, 84, 85, 86, 87, 88, 89, 90, 91, 92, 93, 94, 95, 96, 97, 98, 99, 100, 101, 102, 103, 104, 105, 106, 107, 108, 109, 110, 115, 116, 117, 118, 119, 120, 121, 122, 123, 131, 132, 133, 134, 135, 136, 137, 138, 139, 140, 141, 142, 143, 144, 145, 146, 147, 148, 149, 150] (by decide +kernel) (by decide +kernel)
set_option maxRecDepth 20000 in
theorem gX8_faultOf_X8_rowOf : GoodIn wsX8_faultOf (wsV RX8 125 RX8 yX8_rowOf wsX8_rowOf) := goodIn_app (goodIn_of _ (by decide +kernel)) ggX8_faultOf_X8_rowOf
set_option maxRecDepth 20000 in
theorem ggX8_faultOf_X4_isMuch : GoodIn wsX8_faultOf wsX4_isMuch := goodIn_r _ [114, 75, 131, 132, 133, 134, 135, 136, 137, 138, 139] (by decide +kernel) (by decide +kernel)
set_option maxRecDepth 20000 in
theorem gX8_faultOf_X4_isMuch : GoodIn wsX8_faultOf (wsV RX8 128 RX4 yX4_isMuch wsX4_isMuch) := goodIn_app (goodIn_of _ (by decide +kernel)) ggX8_faultOf_X4_isMuch
theorem dX8_faultOf_0 : decode cX8_faultOf 0 = .ok (.iload_n 1, 1) := by decide +kernel
theorem dX8_faultOf_1 : decode cX8_faultOf 1 = .ok (.invokestatic 298, 3) := by decide +kernel
theorem dX8_faultOf_4 : decode cX8_faultOf 4 = .ok (.ifCond .ne 10, 3) := by decide +kernel
theorem dX8_faultOf_7 : decode cX8_faultOf 7 = .ok (.iload_n 2, 1) := by decide +kernel
theorem dX8_faultOf_8 : decode cX8_faultOf 8 = .ok (.invokestatic 117, 3) := by decide +kernel
theorem dX8_faultOf_11 : decode cX8_faultOf 11 = .ok (.ifCond .eq 6, 3) := by decide +kernel
theorem dX8_faultOf_14 : decode cX8_faultOf 14 = .ok (.bipush (-2), 2) := by decide +kernel
theorem dX8_faultOf_16 : decode cX8_faultOf 16 = .ok (.ireturn, 1) := by decide +kernel
theorem dX8_faultOf_17 : decode cX8_faultOf 17 = .ok (.aload_n 0, 1) := by decide +kernel
theorem dX8_faultOf_18 : decode cX8_faultOf 18 = .ok (.getfield 55, 3) := by decide +kernel
theorem dX8_faultOf_21 : decode cX8_faultOf 21 = .ok (.iload_n 1, 1) := by decide +kernel
theorem dX8_faultOf_22 : decode cX8_faultOf 22 = .ok (.aaload, 1) := by decide +kernel
theorem dX8_faultOf_23 : decode cX8_faultOf 23 = .ok (.invokevirtual 324, 3) := by decide +kernel
theorem dX8_faultOf_26 : decode cX8_faultOf 26 = .ok (.ifCond .eq 6, 3) := by decide +kernel
theorem dX8_faultOf_29 : decode cX8_faultOf 29 = .ok (.bipush (-11), 2) := by decide +kernel
theorem dX8_faultOf_31 : decode cX8_faultOf 31 = .ok (.ireturn, 1) := by decide +kernel
theorem dX8_faultOf_32 : decode cX8_faultOf 32 = .ok (.aload_n 0, 1) := by decide +kernel
theorem dX8_faultOf_33 : decode cX8_faultOf 33 = .ok (.getfield 26, 3) := by decide +kernel
theorem dX8_faultOf_36 : decode cX8_faultOf 36 = .ok (.aload_n 0, 1) := by decide +kernel
theorem dX8_faultOf_37 : decode cX8_faultOf 37 = .ok (.iload_n 2, 1) := by decide +kernel
theorem dX8_faultOf_38 : decode cX8_faultOf 38 = .ok (.invokevirtual 125, 3) := by decide +kernel
theorem dX8_faultOf_41 : decode cX8_faultOf 41 = .ok (.invokevirtual 128, 3) := by decide +kernel
theorem dX8_faultOf_44 : decode cX8_faultOf 44 = .ok (.ifCond .eq 8, 3) := by decide +kernel
theorem dX8_faultOf_47 : decode cX8_faultOf 47 = .ok (.bipush (-5), 2) := by decide +kernel
theorem dX8_faultOf_49 : decode cX8_faultOf 49 = .ok (.goto 4, 3) := by decide +kernel
theorem dX8_faultOf_52 : decode cX8_faultOf 52 = .ok (.iconst 0, 1) := by decide +kernel
theorem dX8_faultOf_53 : decode cX8_faultOf 53 = .ok (.ireturn, 1) := by decide +kernel
theorem dX8_isBeyond_0 : decode cX8_isBeyond 0 = .ok (.iload_n 0, 1) := by decide +kernel
theorem dX8_isBeyond_1 : decode cX8_isBeyond 1 = .ok (.iload_n 1, 1) := by decide +kernel
theorem dX8_isBeyond_2 : decode cX8_isBeyond 2 = .ok (.if_icmp .lt 8, 3) := by decide +kernel
theorem dX8_isBeyond_5 : decode cX8_isBeyond 5 = .ok (.iload_n 0, 1) := by decide +kernel
theorem dX8_isBeyond_6 : decode cX8_isBeyond 6 = .ok (.iload_n 2, 1) := by decide +kernel
theorem dX8_isBeyond_7 : decode cX8_isBeyond 7 = .ok (.if_icmp .le 7, 3) := by decide +kernel
theorem dX8_isBeyond_10 : decode cX8_isBeyond 10 = .ok (.iconst 1, 1) := by decide +kernel
theorem dX8_isBeyond_11 : decode cX8_isBeyond 11 = .ok (.goto 4, 3) := by decide +kernel
theorem dX8_isBeyond_14 : decode cX8_isBeyond 14 = .ok (.iconst 0, 1) := by decide +kernel
theorem dX8_isBeyond_15 : decode cX8_isBeyond 15 = .ok (.ireturn, 1) := by decide +kernel
set_option maxRecDepth 20000 in
theorem ggX8_isNoSet_X8_isBeyond : GoodIn wsX8_isNoSet wsX8_isBeyond := goodIn_r _ [4] (by decide +kernel) (by decide +kernel)
set_option maxRecDepth 20000 in
theorem gX8_isNoSet_X8_isBeyond : GoodIn wsX8_isNoSet (va_wsS RX8 61 yX8_isBeyond wsX8_isBeyond) := goodIn_app (goodIn_of _ (by decide +kernel)) ggX8_isNoSet_X8_isBeyond
theorem dX8_isNoSet_0 : decode cX8_isNoSet 0 = .ok (.iload_n 0, 1) := by decide +kernel
theorem dX8_isNoSet_1 : decode cX8_isNoSet 1 = .ok (.iconst 0, 1) := by decide +kernel
theorem dX8_isNoSet_2 : decode cX8_isNoSet 2 = .ok (.sipush 4095, 3) := by decide +kernel
theorem dX8_isNoSet_5 : decode cX8_isNoSet 5 = .ok (.invokestatic 61, 3) := by decide +kernel
theorem dX8_isNoSet_8 : decode cX8_isNoSet 8 = .ok (.ireturn, 1) := by decide +kernel
set_option maxRecDepth 20000 in
theorem ggX8_isNoRate_X8_isBeyond : GoodIn wsX8_isNoRate wsX8_isBeyond := goodIn_r _ [4] (by decide +kernel) (by decide +kernel)
set_option maxRecDepth 20000 in
theorem gX8_isNoRate_X8_isBeyond : GoodIn wsX8_isNoRate (va_wsS RX8 61 yX8_isBeyond wsX8_isBeyond) := goodIn_app (goodIn_of _ (by decide +kernel)) ggX8_isNoRate_X8_isBeyond
theorem dX8_isNoRate_0 : decode cX8_isNoRate 0 = .ok (.iload_n 0, 1) := by decide +kernel
theorem dX8_isNoRate_1 : decode cX8_isNoRate 1 = .ok (.iconst 0, 1) := by decide +kernel
theorem dX8_isNoRate_2 : decode cX8_isNoRate 2 = .ok (.bipush 9, 2) := by decide +kernel
theorem dX8_isNoRate_4 : decode cX8_isNoRate 4 = .ok (.invokestatic 61, 3) := by decide +kernel
theorem dX8_isNoRate_7 : decode cX8_isNoRate 7 = .ok (.ireturn, 1) := by decide +kernel
set_option maxRecDepth 20000 in
theorem ggX8_isNoPart_X8_isBeyond : GoodIn wsX8_isNoPart wsX8_isBeyond := goodIn_r _ [4] (by decide +kernel) (by decide +kernel)
set_option maxRecDepth 20000 in
theorem gX8_isNoPart_X8_isBeyond : GoodIn wsX8_isNoPart (va_wsS RX8 61 yX8_isBeyond wsX8_isBeyond) := goodIn_app (goodIn_of _ (by decide +kernel)) ggX8_isNoPart_X8_isBeyond
theorem dX8_isNoPart_0 : decode cX8_isNoPart 0 = .ok (.iload_n 0, 1) := by decide +kernel
theorem dX8_isNoPart_1 : decode cX8_isNoPart 1 = .ok (.iconst 0, 1) := by decide +kernel
theorem dX8_isNoPart_2 : decode cX8_isNoPart 2 = .ok (.iconst 1, 1) := by decide +kernel
theorem dX8_isNoPart_3 : decode cX8_isNoPart 3 = .ok (.invokestatic 61, 3) := by decide +kernel
theorem dX8_isNoPart_6 : decode cX8_isNoPart 6 = .ok (.ireturn, 1) := by decide +kernel
set_option maxRecDepth 20000 in
theorem ggX8_isNoPlaceOnLine_X8_isBeyond : GoodIn wsX8_isNoPlaceOnLine wsX8_isBeyond := goodIn_r _ [4] (by decide +kernel) (by decide +kernel)
set_option maxRecDepth 20000 in
theorem gX8_isNoPlaceOnLine_X8_isBeyond : GoodIn wsX8_isNoPlaceOnLine (va_wsS RX8 61 yX8_isBeyond wsX8_isBeyond) := goodIn_app (goodIn_of _ (by decide +kernel)) ggX8_isNoPlaceOnLine_X8_isBeyond
theorem dX8_isNoPlaceOnLine_0 : decode cX8_isNoPlaceOnLine 0 = .ok (.iload_n 0, 1) := by decide +kernel
theorem dX8_isNoPlaceOnLine_1 : decode cX8_isNoPlaceOnLine 1 = .ok (.bipush (-60), 2) := by decide +kernel
theorem dX8_isNoPlaceOnLine_3 : decode cX8_isNoPlaceOnLine 3 = .ok (.bipush 60, 2) := by decide +kernel
theorem dX8_isNoPlaceOnLine_5 : decode cX8_isNoPlaceOnLine 5 = .ok (.invokestatic 61, 3) := by decide +kernel
theorem dX8_isNoPlaceOnLine_8 : decode cX8_isNoPlaceOnLine 8 = .ok (.ireturn, 1) := by decide +kernel
set_option maxRecDepth 20000 in
theorem ggX8_isNoRack_X8_isBeyond : GoodIn wsX8_isNoRack wsX8_isBeyond := goodIn_r _ [4] (by decide +kernel) (by decide +kernel)
set_option maxRecDepth 20000 in
theorem gX8_isNoRack_X8_isBeyond : GoodIn wsX8_isNoRack (va_wsS RX8 61 yX8_isBeyond wsX8_isBeyond) := goodIn_app (goodIn_of _ (by decide +kernel)) ggX8_isNoRack_X8_isBeyond
theorem dX8_isNoRack_0 : decode cX8_isNoRack 0 = .ok (.iload_n 0, 1) := by decide +kernel
theorem dX8_isNoRack_1 : decode cX8_isNoRack 1 = .ok (.iconst 0, 1) := by decide +kernel
theorem dX8_isNoRack_2 : decode cX8_isNoRack 2 = .ok (.iconst 2, 1) := by decide +kernel
theorem dX8_isNoRack_3 : decode cX8_isNoRack 3 = .ok (.invokestatic 61, 3) := by decide +kernel
theorem dX8_isNoRack_6 : decode cX8_isNoRack 6 = .ok (.ireturn, 1) := by decide +kernel
set_option maxRecDepth 20000 in
theorem ggX8_isNoSheet_X8_isBeyond : GoodIn wsX8_isNoSheet wsX8_isBeyond := goodIn_r _ [4] (by decide +kernel) (by decide +kernel)
set_option maxRecDepth 20000 in
theorem gX8_isNoSheet_X8_isBeyond : GoodIn wsX8_isNoSheet (va_wsS RX8 61 yX8_isBeyond wsX8_isBeyond) := goodIn_app (goodIn_of _ (by decide +kernel)) ggX8_isNoSheet_X8_isBeyond
theorem dX8_isNoSheet_0 : decode cX8_isNoSheet 0 = .ok (.iload_n 0, 1) := by decide +kernel
theorem dX8_isNoSheet_1 : decode cX8_isNoSheet 1 = .ok (.iconst 0, 1) := by decide +kernel
theorem dX8_isNoSheet_2 : decode cX8_isNoSheet 2 = .ok (.iconst 3, 1) := by decide +kernel
theorem dX8_isNoSheet_3 : decode cX8_isNoSheet 3 = .ok (.invokestatic 61, 3) := by decide +kernel
theorem dX8_isNoSheet_6 : decode cX8_isNoSheet 6 = .ok (.ireturn, 1) := by decide +kernel
theorem dX8_isUnder_0 : decode cX8_isUnder 0 = .ok (.iload_n 0, 1) := by decide +kernel
theorem dX8_isUnder_1 : decode cX8_isUnder 1 = .ok (.istore_n 2, 1) := by decide +kernel
theorem dX8_isUnder_2 : decode cX8_isUnder 2 = .ok (.iconst 0, 1) := by decide +kernel
theorem dX8_isUnder_3 : decode cX8_isUnder 3 = .ok (.istore_n 3, 1) := by decide +kernel
theorem dX8_isUnder_4 : decode cX8_isUnder 4 = .ok (.iload_n 3, 1) := by decide +kernel
theorem dX8_isUnder_5 : decode cX8_isUnder 5 = .ok (.bipush 6, 2) := by decide +kernel
theorem dX8_isUnder_7 : decode cX8_isUnder 7 = .ok (.if_icmp .ge 32, 3) := by decide +kernel
theorem dX8_isUnder_10 : decode cX8_isUnder 10 = .ok (.iload_n 2, 1) := by decide +kernel
theorem dX8_isUnder_11 : decode cX8_isUnder 11 = .ok (.ifCond .lt 28, 3) := by decide +kernel
theorem dX8_isUnder_14 : decode cX8_isUnder 14 = .ok (.iload_n 2, 1) := by decide +kernel
theorem dX8_isUnder_15 : decode cX8_isUnder 15 = .ok (.bipush 6, 2) := by decide +kernel
theorem dX8_isUnder_17 : decode cX8_isUnder 17 = .ok (.if_icmp .ge 22, 3) := by decide +kernel
theorem dX8_isUnder_20 : decode cX8_isUnder 20 = .ok (.iload_n 2, 1) := by decide +kernel
theorem dX8_isUnder_21 : decode cX8_isUnder 21 = .ok (.iload_n 1, 1) := by decide +kernel
theorem dX8_isUnder_22 : decode cX8_isUnder 22 = .ok (.if_icmp .ne 5, 3) := by decide +kernel
theorem dX8_isUnder_25 : decode cX8_isUnder 25 = .ok (.iconst 1, 1) := by decide +kernel
theorem dX8_isUnder_26 : decode cX8_isUnder 26 = .ok (.ireturn, 1) := by decide +kernel
theorem dX8_isUnder_27 : decode cX8_isUnder 27 = .ok (.getstatic 350, 3) := by decide +kernel
theorem dX8_isUnder_30 : decode cX8_isUnder 30 = .ok (.iload_n 2, 1) := by decide +kernel
theorem dX8_isUnder_31 : decode cX8_isUnder 31 = .ok (.iaload, 1) := by decide +kernel
theorem dX8_isUnder_32 : decode cX8_isUnder 32 = .ok (.istore_n 2, 1) := by decide +kernel
theorem dX8_isUnder_33 : decode cX8_isUnder 33 = .ok (.iinc 3 1, 3) := by decide +kernel
theorem dX8_isUnder_36 : decode cX8_isUnder 36 = .ok (.goto (-32), 3) := by decide +kernel
theorem dX8_isUnder_39 : decode cX8_isUnder 39 = .ok (.iconst 0, 1) := by decide +kernel
theorem dX8_isUnder_40 : decode cX8_isUnder 40 = .ok (.ireturn, 1) := by decide +kernel
theorem dX8_weightBy_0 : decode cX8_weightBy 0 = .ok (.iload_n 0, 1) := by decide +kernel
theorem dX8_weightBy_1 : decode cX8_weightBy 1 = .ok (.tableswitch 75 1 5 #[35, 39, 47, 53, 63], 35) := by decide +kernel
theorem dX8_weightBy_36 : decode cX8_weightBy 36 = .ok (.iconst 2, 1) := by decide +kernel
theorem dX8_weightBy_37 : decode cX8_weightBy 37 = .ok (.iload_n 1, 1) := by decide +kernel
theorem dX8_weightBy_38 : decode cX8_weightBy 38 = .ok (.imul, 1) := by decide +kernel
theorem dX8_weightBy_39 : decode cX8_weightBy 39 = .ok (.ireturn, 1) := by decide +kernel
theorem dX8_weightBy_40 : decode cX8_weightBy 40 = .ok (.iconst 0, 1) := by decide +kernel
theorem dX8_weightBy_41 : decode cX8_weightBy 41 = .ok (.iload_n 1, 1) := by decide +kernel
theorem dX8_weightBy_42 : decode cX8_weightBy 42 = .ok (.iload_n 2, 1) := by decide +kernel
theorem dX8_weightBy_43 : decode cX8_weightBy 43 = .ok (.isub, 1) := by decide +kernel
theorem dX8_weightBy_44 : decode cX8_weightBy 44 = .ok (.invokestatic 353, 3) := by decide +kernel
theorem dX8_weightBy_47 : decode cX8_weightBy 47 = .ok (.ireturn, 1) := by decide +kernel
theorem dX8_weightBy_48 : decode cX8_weightBy 48 = .ok (.iconst 2, 1) := by decide +kernel
theorem dX8_weightBy_49 : decode cX8_weightBy 49 = .ok (.iload_n 1, 1) := by decide +kernel
theorem dX8_weightBy_50 : decode cX8_weightBy 50 = .ok (.imul, 1) := by decide +kernel
theorem dX8_weightBy_51 : decode cX8_weightBy 51 = .ok (.iload_n 2, 1) := by decide +kernel
theorem dX8_weightBy_52 : decode cX8_weightBy 52 = .ok (.iadd, 1) := by decide +kernel
theorem dX8_weightBy_53 : decode cX8_weightBy 53 = .ok (.ireturn, 1) := by decide +kernel
theorem dX8_weightBy_54 : decode cX8_weightBy 54 = .ok (.iconst 0, 1) := by decide +kernel
theorem dX8_weightBy_55 : decode cX8_weightBy 55 = .ok (.iload_n 1, 1) := by decide +kernel
theorem dX8_weightBy_56 : decode cX8_weightBy 56 = .ok (.iload_n 2, 1) := by decide +kernel
theorem dX8_weightBy_57 : decode cX8_weightBy 57 = .ok (.isub, 1) := by decide +kernel
theorem dX8_weightBy_58 : decode cX8_weightBy 58 = .ok (.invokestatic 353, 3) := by decide +kernel
theorem dX8_weightBy_61 : decode cX8_weightBy 61 = .ok (.iconst 2, 1) := by decide +kernel
theorem dX8_weightBy_62 : decode cX8_weightBy 62 = .ok (.idiv, 1) := by decide +kernel
theorem dX8_weightBy_63 : decode cX8_weightBy 63 = .ok (.ireturn, 1) := by decide +kernel
theorem dX8_weightBy_64 : decode cX8_weightBy 64 = .ok (.iload_n 2, 1) := by decide +kernel
theorem dX8_weightBy_65 : decode cX8_weightBy 65 = .ok (.iconst 2, 1) := by decide +kernel
theorem dX8_weightBy_66 : decode cX8_weightBy 66 = .ok (.irem, 1) := by decide +kernel
theorem dX8_weightBy_67 : decode cX8_weightBy 67 = .ok (.ifCond .ne 7, 3) := by decide +kernel
theorem dX8_weightBy_70 : decode cX8_weightBy 70 = .ok (.iload_n 1, 1) := by decide +kernel
theorem dX8_weightBy_71 : decode cX8_weightBy 71 = .ok (.goto 4, 3) := by decide +kernel
theorem dX8_weightBy_74 : decode cX8_weightBy 74 = .ok (.iconst 1, 1) := by decide +kernel
theorem dX8_weightBy_75 : decode cX8_weightBy 75 = .ok (.ireturn, 1) := by decide +kernel
theorem dX8_weightBy_76 : decode cX8_weightBy 76 = .ok (.iload_n 1, 1) := by decide +kernel
theorem dX8_weightBy_77 : decode cX8_weightBy 77 = .ok (.ireturn, 1) := by decide +kernel
set_option maxRecDepth 20000 in
theorem ggX8_partOf_X7_commonOf : GoodIn wsX8_partOf wsX7_commonOf := goodIn_r _ [5] (by decide +kernel) (by decide +kernel)
set_option maxRecDepth 20000 in
theorem gX8_partOf_X7_commonOf : GoodIn wsX8_partOf (va_wsS RX8 358 yX7_commonOf wsX7_commonOf) := goodIn_app (goodIn_of _ (by decide +kernel)) ggX8_partOf_X7_commonOf
theorem dX8_partOf_0 : decode cX8_partOf 0 = .ok (.lload_n 0, 1) := by decide +kernel
theorem dX8_partOf_1 : decode cX8_partOf 1 = .ok (.lconst 0, 1) := by decide +kernel
theorem dX8_partOf_2 : decode cX8_partOf 2 = .ok (.lcmp, 1) := by decide +kernel
theorem dX8_partOf_3 : decode cX8_partOf 3 = .ok (.ifCond .lt 9, 3) := by decide +kernel
theorem dX8_partOf_6 : decode cX8_partOf 6 = .ok (.lload_n 2, 1) := by decide +kernel
theorem dX8_partOf_7 : decode cX8_partOf 7 = .ok (.lconst 0, 1) := by decide +kernel
theorem dX8_partOf_8 : decode cX8_partOf 8 = .ok (.lcmp, 1) := by decide +kernel
theorem dX8_partOf_9 : decode cX8_partOf 9 = .ok (.ifCond .gt 7, 3) := by decide +kernel
theorem dX8_partOf_12 : decode cX8_partOf 12 = .ok (.ldc2_w 131, 3) := by decide +kernel
theorem dX8_partOf_15 : decode cX8_partOf 15 = .ok (.lreturn, 1) := by decide +kernel
theorem dX8_partOf_16 : decode cX8_partOf 16 = .ok (.lload_n 0, 1) := by decide +kernel
theorem dX8_partOf_17 : decode cX8_partOf 17 = .ok (.lload_n 2, 1) := by decide +kernel
theorem dX8_partOf_18 : decode cX8_partOf 18 = .ok (.invokestatic 358, 3) := by decide +kernel
theorem dX8_partOf_21 : decode cX8_partOf 21 = .ok (.lstore 5, 2) := by decide +kernel
theorem dX8_partOf_23 : decode cX8_partOf 23 = .ok (.iload 4, 2) := by decide +kernel
theorem dX8_partOf_25 : decode cX8_partOf 25 = .ok (.ifCond .ne 7, 3) := by decide +kernel
theorem dX8_partOf_28 : decode cX8_partOf 28 = .ok (.lload_n 0, 1) := by decide +kernel
theorem dX8_partOf_29 : decode cX8_partOf 29 = .ok (.goto 4, 3) := by decide +kernel
theorem dX8_partOf_32 : decode cX8_partOf 32 = .ok (.lload_n 2, 1) := by decide +kernel
theorem dX8_partOf_33 : decode cX8_partOf 33 = .ok (.lload 5, 2) := by decide +kernel
theorem dX8_partOf_35 : decode cX8_partOf 35 = .ok (.ldiv, 1) := by decide +kernel
theorem dX8_partOf_36 : decode cX8_partOf 36 = .ok (.lreturn, 1) := by decide +kernel
set_option maxRecDepth 20000 in
theorem ggX8_meanTold_X0_ofFloat : GoodIn wsX8_meanTold wsX0_ofFloat := goodIn_r _ [7, 8, 9, 10, 6, 11, 12, 13, 14] (by decide +kernel) (by decide +kernel)
set_option maxRecDepth 20000 in
theorem gX8_meanTold_X0_ofFloat : GoodIn wsX8_meanTold (va_wsS RX8 363 yX0_ofFloat wsX0_ofFloat) := goodIn_app (goodIn_of _ (by decide +kernel)) ggX8_meanTold_X0_ofFloat
set_option maxRecDepth 20000 in
theorem ggX8_meanTold_X0_ofDouble : GoodIn wsX8_meanTold wsX0_ofDouble := goodIn_r _ [17, 18, 9, 10, 6, 11, 12, 13, 14] (by decide +kernel) (by decide +kernel)
set_option maxRecDepth 20000 in
theorem gX8_meanTold_X0_ofDouble : GoodIn wsX8_meanTold (va_wsS RX8 369 yX0_ofDouble wsX0_ofDouble) := goodIn_app (goodIn_of _ (by decide +kernel)) ggX8_meanTold_X0_ofDouble
set_option maxRecDepth 20000 in
theorem ggX8_meanTold_X0_restOf : GoodIn wsX8_meanTold wsX0_restOf := goodIn_r _ [21, 22, 13] (by decide +kernel) (by decide +kernel)
set_option maxRecDepth 20000 in
theorem gX8_meanTold_X0_restOf : GoodIn wsX8_meanTold (va_wsS RX8 373 yX0_restOf wsX0_restOf) := goodIn_app (goodIn_of _ (by decide +kernel)) ggX8_meanTold_X0_restOf
theorem dX8_meanTold_0 : decode cX8_meanTold 0 = .ok (.iload_n 2, 1) := by decide +kernel
theorem dX8_meanTold_1 : decode cX8_meanTold 1 = .ok (.tableswitch 80 0 4 #[35, 42, 50, 56, 68], 35) := by decide +kernel
theorem dX8_meanTold_36 : decode cX8_meanTold 36 = .ok (.dload_n 0, 1) := by decide +kernel
theorem dX8_meanTold_37 : decode cX8_meanTold 37 = .ok (.ldc2_w 361, 3) := by decide +kernel
theorem dX8_meanTold_40 : decode cX8_meanTold 40 = .ok (.dmul, 1) := by decide +kernel
theorem dX8_meanTold_41 : decode cX8_meanTold 41 = .ok (.d2l, 1) := by decide +kernel
theorem dX8_meanTold_42 : decode cX8_meanTold 42 = .ok (.lreturn, 1) := by decide +kernel
theorem dX8_meanTold_43 : decode cX8_meanTold 43 = .ok (.dload_n 0, 1) := by decide +kernel
theorem dX8_meanTold_44 : decode cX8_meanTold 44 = .ok (.d2f, 1) := by decide +kernel
theorem dX8_meanTold_45 : decode cX8_meanTold 45 = .ok (.iconst 0, 1) := by decide +kernel
theorem dX8_meanTold_46 : decode cX8_meanTold 46 = .ok (.invokestatic 363, 3) := by decide +kernel
theorem dX8_meanTold_49 : decode cX8_meanTold 49 = .ok (.i2l, 1) := by decide +kernel
theorem dX8_meanTold_50 : decode cX8_meanTold 50 = .ok (.lreturn, 1) := by decide +kernel
theorem dX8_meanTold_51 : decode cX8_meanTold 51 = .ok (.dload_n 0, 1) := by decide +kernel
theorem dX8_meanTold_52 : decode cX8_meanTold 52 = .ok (.iconst 0, 1) := by decide +kernel
theorem dX8_meanTold_53 : decode cX8_meanTold 53 = .ok (.invokestatic 369, 3) := by decide +kernel
theorem dX8_meanTold_56 : decode cX8_meanTold 56 = .ok (.lreturn, 1) := by decide +kernel
theorem dX8_meanTold_57 : decode cX8_meanTold 57 = .ok (.dload_n 0, 1) := by decide +kernel
theorem dX8_meanTold_58 : decode cX8_meanTold 58 = .ok (.dconst 1, 1) := by decide +kernel
theorem dX8_meanTold_59 : decode cX8_meanTold 59 = .ok (.invokestatic 373, 3) := by decide +kernel
theorem dX8_meanTold_62 : decode cX8_meanTold 62 = .ok (.ldc2_w 361, 3) := by decide +kernel
theorem dX8_meanTold_65 : decode cX8_meanTold 65 = .ok (.dmul, 1) := by decide +kernel
theorem dX8_meanTold_66 : decode cX8_meanTold 66 = .ok (.d2i, 1) := by decide +kernel
theorem dX8_meanTold_67 : decode cX8_meanTold 67 = .ok (.i2l, 1) := by decide +kernel
theorem dX8_meanTold_68 : decode cX8_meanTold 68 = .ok (.lreturn, 1) := by decide +kernel
theorem dX8_meanTold_69 : decode cX8_meanTold 69 = .ok (.dload_n 0, 1) := by decide +kernel
theorem dX8_meanTold_70 : decode cX8_meanTold 70 = .ok (.ldc2_w 377, 3) := by decide +kernel
theorem dX8_meanTold_73 : decode cX8_meanTold 73 = .ok (.invokestatic 373, 3) := by decide +kernel
theorem dX8_meanTold_76 : decode cX8_meanTold 76 = .ok (.iconst 0, 1) := by decide +kernel
theorem dX8_meanTold_77 : decode cX8_meanTold 77 = .ok (.invokestatic 369, 3) := by decide +kernel
theorem dX8_meanTold_80 : decode cX8_meanTold 80 = .ok (.lreturn, 1) := by decide +kernel
theorem dX8_meanTold_81 : decode cX8_meanTold 81 = .ok (.dload_n 0, 1) := by decide +kernel
theorem dX8_meanTold_82 : decode cX8_meanTold 82 = .ok (.d2f, 1) := by decide +kernel
theorem dX8_meanTold_83 : decode cX8_meanTold 83 = .ok (.f2d, 1) := by decide +kernel
theorem dX8_meanTold_84 : decode cX8_meanTold 84 = .ok (.ldc2_w 379, 3) := by decide +kernel
theorem dX8_meanTold_87 : decode cX8_meanTold 87 = .ok (.invokestatic 373, 3) := by decide +kernel
theorem dX8_meanTold_90 : decode cX8_meanTold 90 = .ok (.d2f, 1) := by decide +kernel
theorem dX8_meanTold_91 : decode cX8_meanTold 91 = .ok (.iconst 0, 1) := by decide +kernel
theorem dX8_meanTold_92 : decode cX8_meanTold 92 = .ok (.invokestatic 363, 3) := by decide +kernel
theorem dX8_meanTold_95 : decode cX8_meanTold 95 = .ok (.i2l, 1) := by decide +kernel
theorem dX8_meanTold_96 : decode cX8_meanTold 96 = .ok (.lreturn, 1) := by decide +kernel
theorem dX9_init_0 : decode cX9_init 0 = .ok (.aload_n 0, 1) := by decide +kernel
theorem dX9_init_1 : decode cX9_init 1 = .ok (.invokespecial 1, 3) := by decide +kernel
theorem dX9_init_4 : decode cX9_init 4 = .ok (.aload_n 0, 1) := by decide +kernel
theorem dX9_init_5 : decode cX9_init 5 = .ok (.bipush 40, 2) := by decide +kernel
theorem dX9_init_7 : decode cX9_init 7 = .ok (.newarray .int, 2) := by decide +kernel
theorem dX9_init_9 : decode cX9_init 9 = .ok (.putfield 9, 3) := by decide +kernel
theorem dX9_init_12 : decode cX9_init 12 = .ok (.aload_n 0, 1) := by decide +kernel
theorem dX9_init_13 : decode cX9_init 13 = .ok (.bipush 40, 2) := by decide +kernel
theorem dX9_init_15 : decode cX9_init 15 = .ok (.newarray .int, 2) := by decide +kernel
theorem dX9_init_17 : decode cX9_init 17 = .ok (.putfield 13, 3) := by decide +kernel
theorem dX9_init_20 : decode cX9_init 20 = .ok (.aload_n 0, 1) := by decide +kernel
theorem dX9_init_21 : decode cX9_init 21 = .ok (.bipush 40, 2) := by decide +kernel
theorem dX9_init_23 : decode cX9_init 23 = .ok (.newarray .int, 2) := by decide +kernel
theorem dX9_init_25 : decode cX9_init 25 = .ok (.putfield 16, 3) := by decide +kernel
theorem dX9_init_28 : decode cX9_init 28 = .ok (.aload_n 0, 1) := by decide +kernel
theorem dX9_init_29 : decode cX9_init 29 = .ok (.bipush 40, 2) := by decide +kernel
theorem dX9_init_31 : decode cX9_init 31 = .ok (.newarray .int, 2) := by decide +kernel
theorem dX9_init_33 : decode cX9_init 33 = .ok (.putfield 19, 3) := by decide +kernel
theorem dX9_init_36 : decode cX9_init 36 = .ok (.aload_n 0, 1) := by decide +kernel
theorem dX9_init_37 : decode cX9_init 37 = .ok (.sipush 163, 3) := by decide +kernel
theorem dX9_init_40 : decode cX9_init 40 = .ok (.newarray .int, 2) := by decide +kernel
theorem dX9_init_42 : decode cX9_init 42 = .ok (.putfield 22, 3) := by decide +kernel
theorem dX9_init_45 : decode cX9_init 45 = .ok (.aload_n 0, 1) := by decide +kernel
theorem dX9_init_46 : decode cX9_init 46 = .ok (.sipush 28672, 3) := by decide +kernel
theorem dX9_init_49 : decode cX9_init 49 = .ok (.newarray .long, 2) := by decide +kernel
theorem dX9_init_51 : decode cX9_init 51 = .ok (.putfield 25, 3) := by decide +kernel
theorem dX9_init_54 : decode cX9_init 54 = .ok (.aload_n 0, 1) := by decide +kernel
theorem dX9_init_55 : decode cX9_init 55 = .ok (.bipush 7, 2) := by decide +kernel
theorem dX9_init_57 : decode cX9_init 57 = .ok (.newarray .long, 2) := by decide +kernel
theorem dX9_init_59 : decode cX9_init 59 = .ok (.putfield 29, 3) := by decide +kernel
theorem dX9_init_62 : decode cX9_init 62 = .ok (.aload_n 0, 1) := by decide +kernel
theorem dX9_init_63 : decode cX9_init 63 = .ok (.sipush 144, 3) := by decide +kernel
theorem dX9_init_66 : decode cX9_init 66 = .ok (.newarray .int, 2) := by decide +kernel
theorem dX9_init_68 : decode cX9_init 68 = .ok (.putfield 32, 3) := by decide +kernel
theorem dX9_init_71 : decode cX9_init 71 = .ok (.aload_n 0, 1) := by decide +kernel
theorem dX9_init_72 : decode cX9_init 72 = .ok (.bipush 7, 2) := by decide +kernel
theorem dX9_init_74 : decode cX9_init 74 = .ok (.newarray .long, 2) := by decide +kernel
theorem dX9_init_76 : decode cX9_init 76 = .ok (.putfield 35, 3) := by decide +kernel
theorem dX9_init_79 : decode cX9_init 79 = .ok (.aload_n 0, 1) := by decide +kernel
theorem dX9_init_80 : decode cX9_init 80 = .ok (.sipush 300, 3) := by decide +kernel
theorem dX9_init_83 : decode cX9_init 83 = .ok (.newarray .int, 2) := by decide +kernel
theorem dX9_init_85 : decode cX9_init 85 = .ok (.putfield 38, 3) := by decide +kernel
theorem dX9_init_88 : decode cX9_init 88 = .ok (.aload_n 0, 1) := by decide +kernel
theorem dX9_init_89 : decode cX9_init 89 = .ok (.sipush 300, 3) := by decide +kernel
theorem dX9_init_92 : decode cX9_init 92 = .ok (.newarray .int, 2) := by decide +kernel
theorem dX9_init_94 : decode cX9_init 94 = .ok (.putfield 41, 3) := by decide +kernel
theorem dX9_init_97 : decode cX9_init 97 = .ok (.aload_n 0, 1) := by decide +kernel
theorem dX9_init_98 : decode cX9_init 98 = .ok (.sipush 300, 3) := by decide +kernel
theorem dX9_init_101 : decode cX9_init 101 = .ok (.newarray .int, 2) := by decide +kernel
theorem dX9_init_103 : decode cX9_init 103 = .ok (.putfield 44, 3) := by decide +kernel
theorem dX9_init_106 : decode cX9_init 106 = .ok (.aload_n 0, 1) := by decide +kernel
theorem dX9_init_107 : decode cX9_init 107 = .ok (.sipush 300, 3) := by decide +kernel
theorem dX9_init_110 : decode cX9_init 110 = .ok (.newarray .int, 2) := by decide +kernel
theorem dX9_init_112 : decode cX9_init 112 = .ok (.putfield 47, 3) := by decide +kernel
theorem dX9_init_115 : decode cX9_init 115 = .ok (.aload_n 0, 1) := by decide +kernel
theorem dX9_init_116 : decode cX9_init 116 = .ok (.sipush 300, 3) := by decide +kernel
theorem dX9_init_119 : decode cX9_init 119 = .ok (.newarray .long, 2) := by decide +kernel
theorem dX9_init_121 : decode cX9_init 121 = .ok (.putfield 50, 3) := by decide +kernel
theorem dX9_init_124 : decode cX9_init 124 = .ok (.aload_n 0, 1) := by decide +kernel
theorem dX9_init_125 : decode cX9_init 125 = .ok (.sipush 300, 3) := by decide +kernel
theorem dX9_init_128 : decode cX9_init 128 = .ok (.newarray .long, 2) := by decide +kernel
theorem dX9_init_130 : decode cX9_init 130 = .ok (.putfield 53, 3) := by decide +kernel
theorem dX9_init_133 : decode cX9_init 133 = .ok (.aload_n 0, 1) := by decide +kernel
theorem dX9_init_134 : decode cX9_init 134 = .ok (.iconst 3, 1) := by decide +kernel
theorem dX9_init_135 : decode cX9_init 135 = .ok (.newarray .int, 2) := by decide +kernel
theorem dX9_init_137 : decode cX9_init 137 = .ok (.dup, 1) := by decide +kernel
theorem dX9_init_138 : decode cX9_init 138 = .ok (.iconst 0, 1) := by decide +kernel
theorem dX9_init_139 : decode cX9_init 139 = .ok (.iconst (-1), 1) := by decide +kernel
theorem dX9_init_140 : decode cX9_init 140 = .ok (.iastore, 1) := by decide +kernel
theorem dX9_init_141 : decode cX9_init 141 = .ok (.dup, 1) := by decide +kernel
theorem dX9_init_142 : decode cX9_init 142 = .ok (.iconst 1, 1) := by decide +kernel
theorem dX9_init_143 : decode cX9_init 143 = .ok (.iconst (-1), 1) := by decide +kernel
theorem dX9_init_144 : decode cX9_init 144 = .ok (.iastore, 1) := by decide +kernel
theorem dX9_init_145 : decode cX9_init 145 = .ok (.dup, 1) := by decide +kernel
theorem dX9_init_146 : decode cX9_init 146 = .ok (.iconst 2, 1) := by decide +kernel
theorem dX9_init_147 : decode cX9_init 147 = .ok (.iconst (-1), 1) := by decide +kernel
theorem dX9_init_148 : decode cX9_init 148 = .ok (.iastore, 1) := by decide +kernel
theorem dX9_init_149 : decode cX9_init 149 = .ok (.putfield 56, 3) := by decide +kernel
theorem dX9_init_152 : decode cX9_init 152 = .ok (.aload_n 0, 1) := by decide +kernel
theorem dX9_init_153 : decode cX9_init 153 = .ok (.iconst 3, 1) := by decide +kernel
theorem dX9_init_154 : decode cX9_init 154 = .ok (.newarray .int, 2) := by decide +kernel
theorem dX9_init_156 : decode cX9_init 156 = .ok (.putfield 59, 3) := by decide +kernel
theorem dX9_init_159 : decode cX9_init 159 = .ok (.aload_n 0, 1) := by decide +kernel
theorem dX9_init_160 : decode cX9_init 160 = .ok (.bipush 60, 2) := by decide +kernel
theorem dX9_init_162 : decode cX9_init 162 = .ok (.newarray .int, 2) := by decide +kernel
theorem dX9_init_164 : decode cX9_init 164 = .ok (.putfield 62, 3) := by decide +kernel
theorem dX9_init_167 : decode cX9_init 167 = .ok (.aload_n 0, 1) := by decide +kernel
theorem dX9_init_168 : decode cX9_init 168 = .ok (.iconst 4, 1) := by decide +kernel
theorem dX9_init_169 : decode cX9_init 169 = .ok (.newarray .int, 2) := by decide +kernel
theorem dX9_init_171 : decode cX9_init 171 = .ok (.dup, 1) := by decide +kernel
theorem dX9_init_172 : decode cX9_init 172 = .ok (.iconst 0, 1) := by decide +kernel
theorem dX9_init_173 : decode cX9_init 173 = .ok (.iconst (-1), 1) := by decide +kernel
theorem dX9_init_174 : decode cX9_init 174 = .ok (.iastore, 1) := by decide +kernel
