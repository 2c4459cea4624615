set_option maxRecDepth 20000 in
theorem ggX0_ofFloat_X0_packed : GoodIn wsX0_ofFloat wsX0_packed := goodIn_r _ [5, 6, 7, 8] (by decide +kernel) (by decide +kernel)
set_option maxRecDepth 20000 in
theorem gX0_ofFloat_X0_packed : GoodIn wsX0_ofFloat (va_wsS RX0 9 yX0_packed wsX0_packed) := goodIn_app (goodIn_of _ (by decide +kernel)) ggX0_ofFloat_X0_packed
theorem dX0_ofFloat_0 : decode cX0_ofFloat 0 = .ok (.fload_n 0, 1) := by decide +kernel
theorem dX0_ofFloat_1 : decode cX0_ofFloat 1 = .ok (.fconst 0, 1) := by decide +kernel
theorem dX0_ofFloat_2 : decode cX0_ofFloat 2 = .ok (.fcmp .g, 1) := by decide +kernel
theorem dX0_ofFloat_3 : decode cX0_ofFloat 3 = .ok (.ifCond .ge 9, 3) := by decide +kernel
theorem dX0_ofFloat_6 : decode cX0_ofFloat 6 = .ok (.fload_n 0, 1) := by decide +kernel
theorem dX0_ofFloat_7 : decode cX0_ofFloat 7 = .ok (.fneg, 1) := by decide +kernel
theorem dX0_ofFloat_8 : decode cX0_ofFloat 8 = .ok (.f2d, 1) := by decide +kernel
theorem dX0_ofFloat_9 : decode cX0_ofFloat 9 = .ok (.goto 5, 3) := by decide +kernel
theorem dX0_ofFloat_12 : decode cX0_ofFloat 12 = .ok (.fload_n 0, 1) := by decide +kernel
theorem dX0_ofFloat_13 : decode cX0_ofFloat 13 = .ok (.f2d, 1) := by decide +kernel
theorem dX0_ofFloat_14 : decode cX0_ofFloat 14 = .ok (.bipush 23, 2) := by decide +kernel
theorem dX0_ofFloat_16 : decode cX0_ofFloat 16 = .ok (.bipush (-126), 2) := by decide +kernel
theorem dX0_ofFloat_18 : decode cX0_ofFloat 18 = .ok (.invokestatic 9, 3) := by decide +kernel
theorem dX0_ofFloat_21 : decode cX0_ofFloat 21 = .ok (.l2i, 1) := by decide +kernel
theorem dX0_ofFloat_22 : decode cX0_ofFloat 22 = .ok (.istore_n 2, 1) := by decide +kernel
theorem dX0_ofFloat_23 : decode cX0_ofFloat 23 = .ok (.iload_n 1, 1) := by decide +kernel
theorem dX0_ofFloat_24 : decode cX0_ofFloat 24 = .ok (.ifCond .eq 10, 3) := by decide +kernel
theorem dX0_ofFloat_27 : decode cX0_ofFloat 27 = .ok (.iload_n 2, 1) := by decide +kernel
theorem dX0_ofFloat_28 : decode cX0_ofFloat 28 = .ok (.ldc 15, 2) := by decide +kernel
theorem dX0_ofFloat_30 : decode cX0_ofFloat 30 = .ok (.ior, 1) := by decide +kernel
theorem dX0_ofFloat_31 : decode cX0_ofFloat 31 = .ok (.goto 4, 3) := by decide +kernel
theorem dX0_ofFloat_34 : decode cX0_ofFloat 34 = .ok (.iload_n 2, 1) := by decide +kernel
theorem dX0_ofFloat_35 : decode cX0_ofFloat 35 = .ok (.ireturn, 1) := by decide +kernel
set_option maxRecDepth 20000 in
theorem ggX0_ofDouble_X0_packed : GoodIn wsX0_ofDouble wsX0_packed := goodIn_r _ [5, 6, 7, 8] (by decide +kernel) (by decide +kernel)
set_option maxRecDepth 20000 in
theorem gX0_ofDouble_X0_packed : GoodIn wsX0_ofDouble (va_wsS RX0 9 yX0_packed wsX0_packed) := goodIn_app (goodIn_of _ (by decide +kernel)) ggX0_ofDouble_X0_packed
theorem dX0_ofDouble_0 : decode cX0_ofDouble 0 = .ok (.dload_n 0, 1) := by decide +kernel
theorem dX0_ofDouble_1 : decode cX0_ofDouble 1 = .ok (.dconst 0, 1) := by decide +kernel
theorem dX0_ofDouble_2 : decode cX0_ofDouble 2 = .ok (.dcmp .g, 1) := by decide +kernel
theorem dX0_ofDouble_3 : decode cX0_ofDouble 3 = .ok (.ifCond .ge 8, 3) := by decide +kernel
theorem dX0_ofDouble_6 : decode cX0_ofDouble 6 = .ok (.dload_n 0, 1) := by decide +kernel
theorem dX0_ofDouble_7 : decode cX0_ofDouble 7 = .ok (.dneg, 1) := by decide +kernel
theorem dX0_ofDouble_8 : decode cX0_ofDouble 8 = .ok (.goto 4, 3) := by decide +kernel
theorem dX0_ofDouble_11 : decode cX0_ofDouble 11 = .ok (.dload_n 0, 1) := by decide +kernel
theorem dX0_ofDouble_12 : decode cX0_ofDouble 12 = .ok (.bipush 52, 2) := by decide +kernel
theorem dX0_ofDouble_14 : decode cX0_ofDouble 14 = .ok (.sipush (-1022), 3) := by decide +kernel
theorem dX0_ofDouble_17 : decode cX0_ofDouble 17 = .ok (.invokestatic 9, 3) := by decide +kernel
theorem dX0_ofDouble_20 : decode cX0_ofDouble 20 = .ok (.lstore_n 3, 1) := by decide +kernel
theorem dX0_ofDouble_21 : decode cX0_ofDouble 21 = .ok (.iload_n 2, 1) := by decide +kernel
theorem dX0_ofDouble_22 : decode cX0_ofDouble 22 = .ok (.ifCond .eq 11, 3) := by decide +kernel
theorem dX0_ofDouble_25 : decode cX0_ofDouble 25 = .ok (.lload_n 3, 1) := by decide +kernel
theorem dX0_ofDouble_26 : decode cX0_ofDouble 26 = .ok (.ldc2_w 16, 3) := by decide +kernel
theorem dX0_ofDouble_29 : decode cX0_ofDouble 29 = .ok (.lor, 1) := by decide +kernel
theorem dX0_ofDouble_30 : decode cX0_ofDouble 30 = .ok (.goto 4, 3) := by decide +kernel
theorem dX0_ofDouble_33 : decode cX0_ofDouble 33 = .ok (.lload_n 3, 1) := by decide +kernel
theorem dX0_ofDouble_34 : decode cX0_ofDouble 34 = .ok (.lreturn, 1) := by decide +kernel
theorem dX0_packed_0 : decode cX0_packed 0 = .ok (.dload_n 0, 1) := by decide +kernel
theorem dX0_packed_1 : decode cX0_packed 1 = .ok (.dconst 0, 1) := by decide +kernel
theorem dX0_packed_2 : decode cX0_packed 2 = .ok (.dcmp .l, 1) := by decide +kernel
theorem dX0_packed_3 : decode cX0_packed 3 = .ok (.ifCond .ne 5, 3) := by decide +kernel
theorem dX0_packed_6 : decode cX0_packed 6 = .ok (.lconst 0, 1) := by decide +kernel
theorem dX0_packed_7 : decode cX0_packed 7 = .ok (.lreturn, 1) := by decide +kernel
theorem dX0_packed_8 : decode cX0_packed 8 = .ok (.dload_n 0, 1) := by decide +kernel
theorem dX0_packed_9 : decode cX0_packed 9 = .ok (.dstore 4, 2) := by decide +kernel
theorem dX0_packed_11 : decode cX0_packed 11 = .ok (.iconst 0, 1) := by decide +kernel
theorem dX0_packed_12 : decode cX0_packed 12 = .ok (.istore 6, 2) := by decide +kernel
theorem dX0_packed_14 : decode cX0_packed 14 = .ok (.iconst 0, 1) := by decide +kernel
theorem dX0_packed_15 : decode cX0_packed 15 = .ok (.istore 7, 2) := by decide +kernel
theorem dX0_packed_17 : decode cX0_packed 17 = .ok (.iload 7, 2) := by decide +kernel
theorem dX0_packed_19 : decode cX0_packed 19 = .ok (.bipush 20, 2) := by decide +kernel
theorem dX0_packed_21 : decode cX0_packed 21 = .ok (.if_icmp .ge 31, 3) := by decide +kernel
theorem dX0_packed_24 : decode cX0_packed 24 = .ok (.dload 4, 2) := by decide +kernel
theorem dX0_packed_26 : decode cX0_packed 26 = .ok (.ldc2_w 18, 3) := by decide +kernel
theorem dX0_packed_29 : decode cX0_packed 29 = .ok (.dmul, 1) := by decide +kernel
theorem dX0_packed_30 : decode cX0_packed 30 = .ok (.dconst 1, 1) := by decide +kernel
theorem dX0_packed_31 : decode cX0_packed 31 = .ok (.dcmp .g, 1) := by decide +kernel
theorem dX0_packed_32 : decode cX0_packed 32 = .ok (.ifCond .ge 20, 3) := by decide +kernel
theorem dX0_packed_35 : decode cX0_packed 35 = .ok (.dload 4, 2) := by decide +kernel
theorem dX0_packed_37 : decode cX0_packed 37 = .ok (.ldc2_w 18, 3) := by decide +kernel
theorem dX0_packed_40 : decode cX0_packed 40 = .ok (.dmul, 1) := by decide +kernel
theorem dX0_packed_41 : decode cX0_packed 41 = .ok (.dstore 4, 2) := by decide +kernel
theorem dX0_packed_43 : decode cX0_packed 43 = .ok (.iinc 6 (-64), 3) := by decide +kernel
theorem dX0_packed_46 : decode cX0_packed 46 = .ok (.iinc 7 1, 3) := by decide +kernel
theorem dX0_packed_49 : decode cX0_packed 49 = .ok (.goto (-32), 3) := by decide +kernel
theorem dX0_packed_52 : decode cX0_packed 52 = .ok (.iconst 0, 1) := by decide +kernel
theorem dX0_packed_53 : decode cX0_packed 53 = .ok (.istore 7, 2) := by decide +kernel
theorem dX0_packed_55 : decode cX0_packed 55 = .ok (.iload 7, 2) := by decide +kernel
theorem dX0_packed_57 : decode cX0_packed 57 = .ok (.bipush 64, 2) := by decide +kernel
theorem dX0_packed_59 : decode cX0_packed 59 = .ok (.if_icmp .ge 29, 3) := by decide +kernel
theorem dX0_packed_62 : decode cX0_packed 62 = .ok (.dload 4, 2) := by decide +kernel
theorem dX0_packed_64 : decode cX0_packed 64 = .ok (.ldc2_w 20, 3) := by decide +kernel
theorem dX0_packed_67 : decode cX0_packed 67 = .ok (.dcmp .l, 1) := by decide +kernel
theorem dX0_packed_68 : decode cX0_packed 68 = .ok (.ifCond .lt 20, 3) := by decide +kernel
theorem dX0_packed_71 : decode cX0_packed 71 = .ok (.dload 4, 2) := by decide +kernel
theorem dX0_packed_73 : decode cX0_packed 73 = .ok (.ldc2_w 20, 3) := by decide +kernel
theorem dX0_packed_76 : decode cX0_packed 76 = .ok (.ddiv, 1) := by decide +kernel
theorem dX0_packed_77 : decode cX0_packed 77 = .ok (.dstore 4, 2) := by decide +kernel
theorem dX0_packed_79 : decode cX0_packed 79 = .ok (.iinc 6 1, 3) := by decide +kernel
theorem dX0_packed_82 : decode cX0_packed 82 = .ok (.iinc 7 1, 3) := by decide +kernel
theorem dX0_packed_85 : decode cX0_packed 85 = .ok (.goto (-30), 3) := by decide +kernel
theorem dX0_packed_88 : decode cX0_packed 88 = .ok (.iconst 0, 1) := by decide +kernel
theorem dX0_packed_89 : decode cX0_packed 89 = .ok (.istore 7, 2) := by decide +kernel
theorem dX0_packed_91 : decode cX0_packed 91 = .ok (.iload 7, 2) := by decide +kernel
theorem dX0_packed_93 : decode cX0_packed 93 = .ok (.bipush 64, 2) := by decide +kernel
theorem dX0_packed_95 : decode cX0_packed 95 = .ok (.if_icmp .ge 27, 3) := by decide +kernel
theorem dX0_packed_98 : decode cX0_packed 98 = .ok (.dload 4, 2) := by decide +kernel
theorem dX0_packed_100 : decode cX0_packed 100 = .ok (.dconst 1, 1) := by decide +kernel
theorem dX0_packed_101 : decode cX0_packed 101 = .ok (.dcmp .g, 1) := by decide +kernel
theorem dX0_packed_102 : decode cX0_packed 102 = .ok (.ifCond .ge 20, 3) := by decide +kernel
theorem dX0_packed_105 : decode cX0_packed 105 = .ok (.dload 4, 2) := by decide +kernel
theorem dX0_packed_107 : decode cX0_packed 107 = .ok (.ldc2_w 20, 3) := by decide +kernel
theorem dX0_packed_110 : decode cX0_packed 110 = .ok (.dmul, 1) := by decide +kernel
theorem dX0_packed_111 : decode cX0_packed 111 = .ok (.dstore 4, 2) := by decide +kernel
theorem dX0_packed_113 : decode cX0_packed 113 = .ok (.iinc 6 (-1), 3) := by decide +kernel
theorem dX0_packed_116 : decode cX0_packed 116 = .ok (.iinc 7 1, 3) := by decide +kernel
theorem dX0_packed_119 : decode cX0_packed 119 = .ok (.goto (-28), 3) := by decide +kernel
theorem dX0_packed_122 : decode cX0_packed 122 = .ok (.dload 4, 2) := by decide +kernel
theorem dX0_packed_124 : decode cX0_packed 124 = .ok (.ldc2_w 22, 3) := by decide +kernel
theorem dX0_packed_127 : decode cX0_packed 127 = .ok (.dmul, 1) := by decide +kernel
theorem dX0_packed_128 : decode cX0_packed 128 = .ok (.d2l, 1) := by decide +kernel
theorem dX0_packed_129 : decode cX0_packed 129 = .ok (.bipush 52, 2) := by decide +kernel
theorem dX0_packed_131 : decode cX0_packed 131 = .ok (.iload_n 2, 1) := by decide +kernel
theorem dX0_packed_132 : decode cX0_packed 132 = .ok (.isub, 1) := by decide +kernel
theorem dX0_packed_133 : decode cX0_packed 133 = .ok (.lshr, 1) := by decide +kernel
theorem dX0_packed_134 : decode cX0_packed 134 = .ok (.lstore 7, 2) := by decide +kernel
theorem dX0_packed_136 : decode cX0_packed 136 = .ok (.iload 6, 2) := by decide +kernel
theorem dX0_packed_138 : decode cX0_packed 138 = .ok (.iload_n 3, 1) := by decide +kernel
theorem dX0_packed_139 : decode cX0_packed 139 = .ok (.if_icmp .ge 11, 3) := by decide +kernel
theorem dX0_packed_142 : decode cX0_packed 142 = .ok (.lload 7, 2) := by decide +kernel
theorem dX0_packed_144 : decode cX0_packed 144 = .ok (.iload_n 3, 1) := by decide +kernel
theorem dX0_packed_145 : decode cX0_packed 145 = .ok (.iload 6, 2) := by decide +kernel
theorem dX0_packed_147 : decode cX0_packed 147 = .ok (.isub, 1) := by decide +kernel
theorem dX0_packed_148 : decode cX0_packed 148 = .ok (.lshr, 1) := by decide +kernel
theorem dX0_packed_149 : decode cX0_packed 149 = .ok (.lreturn, 1) := by decide +kernel
theorem dX0_packed_150 : decode cX0_packed 150 = .ok (.lconst 1, 1) := by decide +kernel
theorem dX0_packed_151 : decode cX0_packed 151 = .ok (.iload_n 2, 1) := by decide +kernel
theorem dX0_packed_152 : decode cX0_packed 152 = .ok (.lshl, 1) := by decide +kernel
theorem dX0_packed_153 : decode cX0_packed 153 = .ok (.lstore 9, 2) := by decide +kernel
theorem dX0_packed_155 : decode cX0_packed 155 = .ok (.iload 6, 2) := by decide +kernel
theorem dX0_packed_157 : decode cX0_packed 157 = .ok (.iload_n 3, 1) := by decide +kernel
theorem dX0_packed_158 : decode cX0_packed 158 = .ok (.isub, 1) := by decide +kernel
theorem dX0_packed_159 : decode cX0_packed 159 = .ok (.iconst 1, 1) := by decide +kernel
theorem dX0_packed_160 : decode cX0_packed 160 = .ok (.iadd, 1) := by decide +kernel
theorem dX0_packed_161 : decode cX0_packed 161 = .ok (.i2l, 1) := by decide +kernel
theorem dX0_packed_162 : decode cX0_packed 162 = .ok (.lload 9, 2) := by decide +kernel
theorem dX0_packed_164 : decode cX0_packed 164 = .ok (.lmul, 1) := by decide +kernel
theorem dX0_packed_165 : decode cX0_packed 165 = .ok (.lload 7, 2) := by decide +kernel
theorem dX0_packed_167 : decode cX0_packed 167 = .ok (.lload 9, 2) := by decide +kernel
theorem dX0_packed_169 : decode cX0_packed 169 = .ok (.lconst 1, 1) := by decide +kernel
theorem dX0_packed_170 : decode cX0_packed 170 = .ok (.lsub, 1) := by decide +kernel
theorem dX0_packed_171 : decode cX0_packed 171 = .ok (.land, 1) := by decide +kernel
theorem dX0_packed_172 : decode cX0_packed 172 = .ok (.lor, 1) := by decide +kernel
theorem dX0_packed_173 : decode cX0_packed 173 = .ok (.lreturn, 1) := by decide +kernel
theorem dX0_restOf_0 : decode cX0_restOf 0 = .ok (.dload_n 0, 1) := by decide +kernel
theorem dX0_restOf_1 : decode cX0_restOf 1 = .ok (.dstore 4, 2) := by decide +kernel
theorem dX0_restOf_3 : decode cX0_restOf 3 = .ok (.dload_n 2, 1) := by decide +kernel
theorem dX0_restOf_4 : decode cX0_restOf 4 = .ok (.ldc2_w 24, 3) := by decide +kernel
theorem dX0_restOf_7 : decode cX0_restOf 7 = .ok (.dmul, 1) := by decide +kernel
theorem dX0_restOf_8 : decode cX0_restOf 8 = .ok (.dstore 6, 2) := by decide +kernel
theorem dX0_restOf_10 : decode cX0_restOf 10 = .ok (.iconst 0, 1) := by decide +kernel
theorem dX0_restOf_11 : decode cX0_restOf 11 = .ok (.istore 8, 2) := by decide +kernel
theorem dX0_restOf_13 : decode cX0_restOf 13 = .ok (.iload 8, 2) := by decide +kernel
theorem dX0_restOf_15 : decode cX0_restOf 15 = .ok (.bipush 6, 2) := by decide +kernel
theorem dX0_restOf_17 : decode cX0_restOf 17 = .ok (.if_icmp .ge 37, 3) := by decide +kernel
theorem dX0_restOf_20 : decode cX0_restOf 20 = .ok (.dload 4, 2) := by decide +kernel
theorem dX0_restOf_22 : decode cX0_restOf 22 = .ok (.dload 6, 2) := by decide +kernel
theorem dX0_restOf_24 : decode cX0_restOf 24 = .ok (.dcmp .l, 1) := by decide +kernel
theorem dX0_restOf_25 : decode cX0_restOf 25 = .ok (.ifCond .lt 11, 3) := by decide +kernel
theorem dX0_restOf_28 : decode cX0_restOf 28 = .ok (.dload 4, 2) := by decide +kernel
theorem dX0_restOf_30 : decode cX0_restOf 30 = .ok (.dload 6, 2) := by decide +kernel
theorem dX0_restOf_32 : decode cX0_restOf 32 = .ok (.dsub, 1) := by decide +kernel
theorem dX0_restOf_33 : decode cX0_restOf 33 = .ok (.goto 5, 3) := by decide +kernel
theorem dX0_restOf_36 : decode cX0_restOf 36 = .ok (.dload 4, 2) := by decide +kernel
theorem dX0_restOf_38 : decode cX0_restOf 38 = .ok (.dstore 4, 2) := by decide +kernel
theorem dX0_restOf_40 : decode cX0_restOf 40 = .ok (.dload 6, 2) := by decide +kernel
theorem dX0_restOf_42 : decode cX0_restOf 42 = .ok (.ldc2_w 20, 3) := by decide +kernel
theorem dX0_restOf_45 : decode cX0_restOf 45 = .ok (.ddiv, 1) := by decide +kernel
theorem dX0_restOf_46 : decode cX0_restOf 46 = .ok (.dstore 6, 2) := by decide +kernel
theorem dX0_restOf_48 : decode cX0_restOf 48 = .ok (.iinc 8 1, 3) := by decide +kernel
theorem dX0_restOf_51 : decode cX0_restOf 51 = .ok (.goto (-38), 3) := by decide +kernel
theorem dX0_restOf_54 : decode cX0_restOf 54 = .ok (.dload 4, 2) := by decide +kernel
theorem dX0_restOf_56 : decode cX0_restOf 56 = .ok (.dreturn, 1) := by decide +kernel
theorem dX1_init_0 : decode cX1_init 0 = .ok (.aload_n 0, 1) := by decide +kernel
theorem dX1_init_1 : decode cX1_init 1 = .ok (.invokespecial 3, 3) := by decide +kernel
theorem dX1_init_4 : decode cX1_init 4 = .ok (.aload_n 0, 1) := by decide +kernel
theorem dX1_init_5 : decode cX1_init 5 = .ok (.bipush 40, 2) := by decide +kernel
theorem dX1_init_7 : decode cX1_init 7 = .ok (.newarray .int, 2) := by decide +kernel
theorem dX1_init_9 : decode cX1_init 9 = .ok (.putfield 9, 3) := by decide +kernel
theorem dX1_init_12 : decode cX1_init 12 = .ok (.aload_n 0, 1) := by decide +kernel
theorem dX1_init_13 : decode cX1_init 13 = .ok (.bipush 40, 2) := by decide +kernel
theorem dX1_init_15 : decode cX1_init 15 = .ok (.newarray .int, 2) := by decide +kernel
theorem dX1_init_17 : decode cX1_init 17 = .ok (.putfield 15, 3) := by decide +kernel
theorem dX1_init_20 : decode cX1_init 20 = .ok (.aload_n 0, 1) := by decide +kernel
theorem dX1_init_21 : decode cX1_init 21 = .ok (.bipush 40, 2) := by decide +kernel
theorem dX1_init_23 : decode cX1_init 23 = .ok (.newarray .int, 2) := by decide +kernel
theorem dX1_init_25 : decode cX1_init 25 = .ok (.putfield 18, 3) := by decide +kernel
theorem dX1_init_28 : decode cX1_init 28 = .ok (.aload_n 0, 1) := by decide +kernel
theorem dX1_init_29 : decode cX1_init 29 = .ok (.bipush 40, 2) := by decide +kernel
theorem dX1_init_31 : decode cX1_init 31 = .ok (.newarray .int, 2) := by decide +kernel
theorem dX1_init_33 : decode cX1_init 33 = .ok (.putfield 21, 3) := by decide +kernel
theorem dX1_init_36 : decode cX1_init 36 = .ok (.aload_n 0, 1) := by decide +kernel
theorem dX1_init_37 : decode cX1_init 37 = .ok (.sipush 144, 3) := by decide +kernel
theorem dX1_init_40 : decode cX1_init 40 = .ok (.newarray .int, 2) := by decide +kernel
theorem dX1_init_42 : decode cX1_init 42 = .ok (.putfield 24, 3) := by decide +kernel
theorem dX1_init_45 : decode cX1_init 45 = .ok (.aload_n 0, 1) := by decide +kernel
theorem dX1_init_46 : decode cX1_init 46 = .ok (.bipush 12, 2) := by decide +kernel
theorem dX1_init_48 : decode cX1_init 48 = .ok (.newarray .int, 2) := by decide +kernel
theorem dX1_init_50 : decode cX1_init 50 = .ok (.putfield 27, 3) := by decide +kernel
theorem dX1_init_53 : decode cX1_init 53 = .ok (.aload_n 0, 1) := by decide +kernel
theorem dX1_init_54 : decode cX1_init 54 = .ok (.bipush 12, 2) := by decide +kernel
theorem dX1_init_56 : decode cX1_init 56 = .ok (.newarray .long, 2) := by decide +kernel
theorem dX1_init_58 : decode cX1_init 58 = .ok (.putfield 30, 3) := by decide +kernel
theorem dX1_init_61 : decode cX1_init 61 = .ok (.aload_n 0, 1) := by decide +kernel
theorem dX1_init_62 : decode cX1_init 62 = .ok (.iconst 0, 1) := by decide +kernel
theorem dX1_init_63 : decode cX1_init 63 = .ok (.putfield 34, 3) := by decide +kernel
theorem dX1_init_66 : decode cX1_init 66 = .ok (.aload_n 0, 1) := by decide +kernel
theorem dX1_init_67 : decode cX1_init 67 = .ok (.iconst 0, 1) := by decide +kernel
theorem dX1_init_68 : decode cX1_init 68 = .ok (.putfield 38, 3) := by decide +kernel
theorem dX1_init_71 : decode cX1_init 71 = .ok (.aload_n 0, 1) := by decide +kernel
theorem dX1_init_72 : decode cX1_init 72 = .ok (.iconst 0, 1) := by decide +kernel
theorem dX1_init_73 : decode cX1_init 73 = .ok (.putfield 41, 3) := by decide +kernel
theorem dX1_init_76 : decode cX1_init 76 = .ok (.aload_n 0, 1) := by decide +kernel
theorem dX1_init_77 : decode cX1_init 77 = .ok (.iconst 0, 1) := by decide +kernel
theorem dX1_init_78 : decode cX1_init 78 = .ok (.putfield 44, 3) := by decide +kernel
theorem dX1_init_81 : decode cX1_init 81 = .ok (.return_, 1) := by decide +kernel
set_option maxRecDepth 20000 in
theorem ggX1_begin_X1_link : GoodIn wsX1_begin wsX1_link := goodIn_r _ [7, 8, 9, 10, 2, 11, 12, 13, 14, 15, 16, 17, 18, 19, 20, 21, 6, 22, 23, 24, 25, 26, 27, 28, 29, 30, 31, 32, 33, 34, 35] (by decide +kernel) (by decide +kernel)
set_option maxRecDepth 20000 in
theorem gX1_begin_X1_link : GoodIn wsX1_begin (wsV RX1 47 RX1 yX1_link wsX1_link) := goodIn_app (goodIn_of _ (by decide +kernel)) ggX1_begin_X1_link
theorem dX1_begin_0 : decode cX1_begin 0 = .ok (.aload_n 0, 1) := by decide +kernel
theorem dX1_begin_1 : decode cX1_begin 1 = .ok (.iload_n 1, 1) := by decide +kernel
theorem dX1_begin_2 : decode cX1_begin 2 = .ok (.putfield 34, 3) := by decide +kernel
theorem dX1_begin_5 : decode cX1_begin 5 = .ok (.aload_n 0, 1) := by decide +kernel
theorem dX1_begin_6 : decode cX1_begin 6 = .ok (.iconst 0, 1) := by decide +kernel
theorem dX1_begin_7 : decode cX1_begin 7 = .ok (.putfield 38, 3) := by decide +kernel
theorem dX1_begin_10 : decode cX1_begin 10 = .ok (.aload_n 0, 1) := by decide +kernel
theorem dX1_begin_11 : decode cX1_begin 11 = .ok (.invokevirtual 47, 3) := by decide +kernel
theorem dX1_begin_14 : decode cX1_begin 14 = .ok (.return_, 1) := by decide +kernel
set_option maxRecDepth 20000 in
theorem ggX1_add_X8_isBeyond : GoodIn wsX1_add wsX8_isBeyond := goodIn_r _ [16] (by decide +kernel) (by decide +kernel)
set_option maxRecDepth 20000 in
theorem gX1_add_X8_isBeyond_n50 : GoodIn wsX1_add (wsX8_isBeyond) := ggX1_add_X8_isBeyond
set_option maxRecDepth 20000 in
theorem ggX1_add_X1_hasPoint : GoodIn wsX1_add wsX1_hasPoint := goodIn_r _ [21, 22, 34, 35, 36, 37, 38, 39, 40, 41, 42, 43, 44] (by decide +kernel) (by decide +kernel)
set_option maxRecDepth 20000 in
theorem gX1_add_X1_hasPoint : GoodIn wsX1_add (wsV RX1 54 RX1 yX1_hasPoint wsX1_hasPoint) := goodIn_app (goodIn_of _ (by decide +kernel)) ggX1_add_X1_hasPoint
set_option maxRecDepth 20000 in
theorem ggX1_add_X1_joining : GoodIn wsX1_add wsX1_joining := goodIn_r _ [26, 27, 34, 35, 36, 37, 38, 39, 40, 41, 42, 43, 44] (by decide +kernel) (by decide +kernel)
set_option maxRecDepth 20000 in
theorem gX1_add_X1_joining : GoodIn wsX1_add (wsV RX1 58 RX1 yX1_joining wsX1_joining) := goodIn_app (goodIn_of _ (by decide +kernel)) ggX1_add_X1_joining
set_option maxRecDepth 20000 in
theorem ggX1_add_X1_linkOne : GoodIn wsX1_add wsX1_linkOne := goodIn_r _ [31, 4, 9, 27, 32, 33, 34, 35, 36, 37, 38, 39, 40, 41, 42, 43, 44] (by decide +kernel) (by decide +kernel)
set_option maxRecDepth 20000 in
theorem gX1_add_X1_linkOne : GoodIn wsX1_add (wsV RX1 70 RX1 yX1_linkOne wsX1_linkOne) := goodIn_app (goodIn_of _ (by decide +kernel)) ggX1_add_X1_linkOne
theorem dX1_add_0 : decode cX1_add 0 = .ok (.iload_n 1, 1) := by decide +kernel
theorem dX1_add_1 : decode cX1_add 1 = .ok (.iconst 0, 1) := by decide +kernel
theorem dX1_add_2 : decode cX1_add 2 = .ok (.iconst 5, 1) := by decide +kernel
theorem dX1_add_3 : decode cX1_add 3 = .ok (.invokestatic 50, 3) := by decide +kernel
theorem dX1_add_6 : decode cX1_add 6 = .ok (.ifCond .ne 37, 3) := by decide +kernel
theorem dX1_add_9 : decode cX1_add 9 = .ok (.iload_n 2, 1) := by decide +kernel
theorem dX1_add_10 : decode cX1_add 10 = .ok (.iconst 0, 1) := by decide +kernel
theorem dX1_add_11 : decode cX1_add 11 = .ok (.sipush 9999, 3) := by decide +kernel
theorem dX1_add_14 : decode cX1_add 14 = .ok (.invokestatic 50, 3) := by decide +kernel
theorem dX1_add_17 : decode cX1_add 17 = .ok (.ifCond .ne 26, 3) := by decide +kernel
theorem dX1_add_20 : decode cX1_add 20 = .ok (.aload_n 0, 1) := by decide +kernel
theorem dX1_add_21 : decode cX1_add 21 = .ok (.iload_n 3, 1) := by decide +kernel
theorem dX1_add_22 : decode cX1_add 22 = .ok (.invokevirtual 54, 3) := by decide +kernel
theorem dX1_add_25 : decode cX1_add 25 = .ok (.ifCond .eq 18, 3) := by decide +kernel
theorem dX1_add_28 : decode cX1_add 28 = .ok (.aload_n 0, 1) := by decide +kernel
theorem dX1_add_29 : decode cX1_add 29 = .ok (.iload 4, 2) := by decide +kernel
theorem dX1_add_31 : decode cX1_add 31 = .ok (.invokevirtual 54, 3) := by decide +kernel
theorem dX1_add_34 : decode cX1_add 34 = .ok (.ifCond .eq 9, 3) := by decide +kernel
theorem dX1_add_37 : decode cX1_add 37 = .ok (.iload_n 3, 1) := by decide +kernel
theorem dX1_add_38 : decode cX1_add 38 = .ok (.iload 4, 2) := by decide +kernel
theorem dX1_add_40 : decode cX1_add 40 = .ok (.if_icmp .ne 6, 3) := by decide +kernel
theorem dX1_add_43 : decode cX1_add 43 = .ok (.bipush (-2), 2) := by decide +kernel
theorem dX1_add_45 : decode cX1_add 45 = .ok (.ireturn, 1) := by decide +kernel
theorem dX1_add_46 : decode cX1_add 46 = .ok (.aload_n 0, 1) := by decide +kernel
theorem dX1_add_47 : decode cX1_add 47 = .ok (.iload_n 3, 1) := by decide +kernel
theorem dX1_add_48 : decode cX1_add 48 = .ok (.iload 4, 2) := by decide +kernel
theorem dX1_add_50 : decode cX1_add 50 = .ok (.invokevirtual 58, 3) := by decide +kernel
theorem dX1_add_53 : decode cX1_add 53 = .ok (.iconst (-1), 1) := by decide +kernel
theorem dX1_add_54 : decode cX1_add 54 = .ok (.if_icmp .eq 6, 3) := by decide +kernel
theorem dX1_add_57 : decode cX1_add 57 = .ok (.bipush (-3), 2) := by decide +kernel
theorem dX1_add_59 : decode cX1_add 59 = .ok (.ireturn, 1) := by decide +kernel
theorem dX1_add_60 : decode cX1_add 60 = .ok (.aload_n 0, 1) := by decide +kernel
theorem dX1_add_61 : decode cX1_add 61 = .ok (.getfield 38, 3) := by decide +kernel
theorem dX1_add_64 : decode cX1_add 64 = .ok (.bipush 40, 2) := by decide +kernel
theorem dX1_add_66 : decode cX1_add 66 = .ok (.if_icmp .lt 6, 3) := by decide +kernel
theorem dX1_add_69 : decode cX1_add 69 = .ok (.bipush (-4), 2) := by decide +kernel
theorem dX1_add_71 : decode cX1_add 71 = .ok (.ireturn, 1) := by decide +kernel
theorem dX1_add_72 : decode cX1_add 72 = .ok (.aload_n 0, 1) := by decide +kernel
theorem dX1_add_73 : decode cX1_add 73 = .ok (.getfield 38, 3) := by decide +kernel
theorem dX1_add_76 : decode cX1_add 76 = .ok (.istore 5, 2) := by decide +kernel
theorem dX1_add_78 : decode cX1_add 78 = .ok (.aload_n 0, 1) := by decide +kernel
theorem dX1_add_79 : decode cX1_add 79 = .ok (.dup, 1) := by decide +kernel
theorem dX1_add_80 : decode cX1_add 80 = .ok (.getfield 38, 3) := by decide +kernel
theorem dX1_add_83 : decode cX1_add 83 = .ok (.iconst 1, 1) := by decide +kernel
theorem dX1_add_84 : decode cX1_add 84 = .ok (.iadd, 1) := by decide +kernel
theorem dX1_add_85 : decode cX1_add 85 = .ok (.putfield 38, 3) := by decide +kernel
theorem dX1_add_88 : decode cX1_add 88 = .ok (.aload_n 0, 1) := by decide +kernel
theorem dX1_add_89 : decode cX1_add 89 = .ok (.getfield 9, 3) := by decide +kernel
theorem dX1_add_92 : decode cX1_add 92 = .ok (.iload 5, 2) := by decide +kernel
theorem dX1_add_94 : decode cX1_add 94 = .ok (.iload_n 1, 1) := by decide +kernel
theorem dX1_add_95 : decode cX1_add 95 = .ok (.iastore, 1) := by decide +kernel
theorem dX1_add_96 : decode cX1_add 96 = .ok (.aload_n 0, 1) := by decide +kernel
theorem dX1_add_97 : decode cX1_add 97 = .ok (.getfield 15, 3) := by decide +kernel
theorem dX1_add_100 : decode cX1_add 100 = .ok (.iload 5, 2) := by decide +kernel
theorem dX1_add_102 : decode cX1_add 102 = .ok (.iload_n 2, 1) := by decide +kernel
theorem dX1_add_103 : decode cX1_add 103 = .ok (.iastore, 1) := by decide +kernel
theorem dX1_add_104 : decode cX1_add 104 = .ok (.aload_n 0, 1) := by decide +kernel
theorem dX1_add_105 : decode cX1_add 105 = .ok (.getfield 18, 3) := by decide +kernel
theorem dX1_add_108 : decode cX1_add 108 = .ok (.iload 5, 2) := by decide +kernel
theorem dX1_add_110 : decode cX1_add 110 = .ok (.iload_n 3, 1) := by decide +kernel
theorem dX1_add_111 : decode cX1_add 111 = .ok (.iload 4, 2) := by decide +kernel
theorem dX1_add_113 : decode cX1_add 113 = .ok (.invokestatic 62, 3) := by decide +kernel
theorem dX1_add_116 : decode cX1_add 116 = .ok (.iastore, 1) := by decide +kernel
theorem dX1_add_117 : decode cX1_add 117 = .ok (.aload_n 0, 1) := by decide +kernel
theorem dX1_add_118 : decode cX1_add 118 = .ok (.getfield 21, 3) := by decide +kernel
theorem dX1_add_121 : decode cX1_add 121 = .ok (.iload 5, 2) := by decide +kernel
theorem dX1_add_123 : decode cX1_add 123 = .ok (.iload_n 3, 1) := by decide +kernel
theorem dX1_add_124 : decode cX1_add 124 = .ok (.iload 4, 2) := by decide +kernel
theorem dX1_add_126 : decode cX1_add 126 = .ok (.invokestatic 67, 3) := by decide +kernel
theorem dX1_add_129 : decode cX1_add 129 = .ok (.iastore, 1) := by decide +kernel
theorem dX1_add_130 : decode cX1_add 130 = .ok (.aload_n 0, 1) := by decide +kernel
theorem dX1_add_131 : decode cX1_add 131 = .ok (.iload 5, 2) := by decide +kernel
theorem dX1_add_133 : decode cX1_add 133 = .ok (.invokevirtual 70, 3) := by decide +kernel
theorem dX1_add_136 : decode cX1_add 136 = .ok (.aload_n 0, 1) := by decide +kernel
theorem dX1_add_137 : decode cX1_add 137 = .ok (.dup, 1) := by decide +kernel
theorem dX1_add_138 : decode cX1_add 138 = .ok (.getfield 44, 3) := by decide +kernel
theorem dX1_add_141 : decode cX1_add 141 = .ok (.iconst 1, 1) := by decide +kernel
theorem dX1_add_142 : decode cX1_add 142 = .ok (.iadd, 1) := by decide +kernel
theorem dX1_add_143 : decode cX1_add 143 = .ok (.putfield 44, 3) := by decide +kernel
theorem dX1_add_146 : decode cX1_add 146 = .ok (.iload 5, 2) := by decide +kernel
theorem dX1_add_148 : decode cX1_add 148 = .ok (.ireturn, 1) := by decide +kernel
set_option maxRecDepth 20000 in
theorem ggX1_remove_X1_link : GoodIn wsX1_remove wsX1_link := goodIn_r _ [10, 11, 12, 13, 1, 14, 15, 16, 17, 18, 19, 20, 21, 22, 23, 24, 9, 25, 4, 5, 26, 27, 28, 29, 30, 31, 32, 33, 34, 35, 36] (by decide +kernel) (by decide +kernel)
set_option maxRecDepth 20000 in
theorem gX1_remove_X1_link : GoodIn wsX1_remove (wsV RX1 47 RX1 yX1_link wsX1_link) := goodIn_app (goodIn_of _ (by decide +kernel)) ggX1_remove_X1_link
theorem dX1_remove_0 : decode cX1_remove 0 = .ok (.aload_n 0, 1) := by decide +kernel
theorem dX1_remove_1 : decode cX1_remove 1 = .ok (.dup, 1) := by decide +kernel
theorem dX1_remove_2 : decode cX1_remove 2 = .ok (.getfield 38, 3) := by decide +kernel
theorem dX1_remove_5 : decode cX1_remove 5 = .ok (.iconst 1, 1) := by decide +kernel
theorem dX1_remove_6 : decode cX1_remove 6 = .ok (.isub, 1) := by decide +kernel
theorem dX1_remove_7 : decode cX1_remove 7 = .ok (.putfield 38, 3) := by decide +kernel
theorem dX1_remove_10 : decode cX1_remove 10 = .ok (.iload_n 1, 1) := by decide +kernel
theorem dX1_remove_11 : decode cX1_remove 11 = .ok (.istore_n 2, 1) := by decide +kernel
theorem dX1_remove_12 : decode cX1_remove 12 = .ok (.iload_n 2, 1) := by decide +kernel
theorem dX1_remove_13 : decode cX1_remove 13 = .ok (.aload_n 0, 1) := by decide +kernel
theorem dX1_remove_14 : decode cX1_remove 14 = .ok (.getfield 38, 3) := by decide +kernel
theorem dX1_remove_17 : decode cX1_remove 17 = .ok (.if_icmp .ge 65, 3) := by decide +kernel
theorem dX1_remove_20 : decode cX1_remove 20 = .ok (.aload_n 0, 1) := by decide +kernel
theorem dX1_remove_21 : decode cX1_remove 21 = .ok (.getfield 9, 3) := by decide +kernel
theorem dX1_remove_24 : decode cX1_remove 24 = .ok (.iload_n 2, 1) := by decide +kernel
theorem dX1_remove_25 : decode cX1_remove 25 = .ok (.aload_n 0, 1) := by decide +kernel
theorem dX1_remove_26 : decode cX1_remove 26 = .ok (.getfield 9, 3) := by decide +kernel
theorem dX1_remove_29 : decode cX1_remove 29 = .ok (.iload_n 2, 1) := by decide +kernel
theorem dX1_remove_30 : decode cX1_remove 30 = .ok (.iconst 1, 1) := by decide +kernel
theorem dX1_remove_31 : decode cX1_remove 31 = .ok (.iadd, 1) := by decide +kernel
theorem dX1_remove_32 : decode cX1_remove 32 = .ok (.iaload, 1) := by decide +kernel
theorem dX1_remove_33 : decode cX1_remove 33 = .ok (.iastore, 1) := by decide +kernel
theorem dX1_remove_34 : decode cX1_remove 34 = .ok (.aload_n 0, 1) := by decide +kernel
theorem dX1_remove_35 : decode cX1_remove 35 = .ok (.getfield 15, 3) := by decide +kernel
theorem dX1_remove_38 : decode cX1_remove 38 = .ok (.iload_n 2, 1) := by decide +kernel
theorem dX1_remove_39 : decode cX1_remove 39 = .ok (.aload_n 0, 1) := by decide +kernel
theorem dX1_remove_40 : decode cX1_remove 40 = .ok (.getfield 15, 3) := by decide +kernel
theorem dX1_remove_43 : decode cX1_remove 43 = .ok (.iload_n 2, 1) := by decide +kernel
theorem dX1_remove_44 : decode cX1_remove 44 = .ok (.iconst 1, 1) := by decide +kernel
theorem dX1_remove_45 : decode cX1_remove 45 = .ok (.iadd, 1) := by decide +kernel
theorem dX1_remove_46 : decode cX1_remove 46 = .ok (.iaload, 1) := by decide +kernel
theorem dX1_remove_47 : decode cX1_remove 47 = .ok (.iastore, 1) := by decide +kernel
theorem dX1_remove_48 : decode cX1_remove 48 = .ok (.aload_n 0, 1) := by decide +kernel
theorem dX1_remove_49 : decode cX1_remove 49 = .ok (.getfield 18, 3) := by decide +kernel
theorem dX1_remove_52 : decode cX1_remove 52 = .ok (.iload_n 2, 1) := by decide +kernel
theorem dX1_remove_53 : decode cX1_remove 53 = .ok (.aload_n 0, 1) := by decide +kernel
theorem dX1_remove_54 : decode cX1_remove 54 = .ok (.getfield 18, 3) := by decide +kernel
theorem dX1_remove_57 : decode cX1_remove 57 = .ok (.iload_n 2, 1) := by decide +kernel
theorem dX1_remove_58 : decode cX1_remove 58 = .ok (.iconst 1, 1) := by decide +kernel
theorem dX1_remove_59 : decode cX1_remove 59 = .ok (.iadd, 1) := by decide +kernel
theorem dX1_remove_60 : decode cX1_remove 60 = .ok (.iaload, 1) := by decide +kernel
theorem dX1_remove_61 : decode cX1_remove 61 = .ok (.iastore, 1) := by decide +kernel
theorem dX1_remove_62 : decode cX1_remove 62 = .ok (.aload_n 0, 1) := by decide +kernel
theorem dX1_remove_63 : decode cX1_remove 63 = .ok (.getfield 21, 3) := by decide +kernel
theorem dX1_remove_66 : decode cX1_remove 66 = .ok (.iload_n 2, 1) := by decide +kernel
theorem dX1_remove_67 : decode cX1_remove 67 = .ok (.aload_n 0, 1) := by decide +kernel
theorem dX1_remove_68 : decode cX1_remove 68 = .ok (.getfield 21, 3) := by decide +kernel
theorem dX1_remove_71 : decode cX1_remove 71 = .ok (.iload_n 2, 1) := by decide +kernel
theorem dX1_remove_72 : decode cX1_remove 72 = .ok (.iconst 1, 1) := by decide +kernel
theorem dX1_remove_73 : decode cX1_remove 73 = .ok (.iadd, 1) := by decide +kernel
theorem dX1_remove_74 : decode cX1_remove 74 = .ok (.iaload, 1) := by decide +kernel
theorem dX1_remove_75 : decode cX1_remove 75 = .ok (.iastore, 1) := by decide +kernel
theorem dX1_remove_76 : decode cX1_remove 76 = .ok (.iinc 2 1, 3) := by decide +kernel
theorem dX1_remove_79 : decode cX1_remove 79 = .ok (.goto (-67), 3) := by decide +kernel
theorem dX1_remove_82 : decode cX1_remove 82 = .ok (.aload_n 0, 1) := by decide +kernel
theorem dX1_remove_83 : decode cX1_remove 83 = .ok (.invokevirtual 47, 3) := by decide +kernel
theorem dX1_remove_86 : decode cX1_remove 86 = .ok (.return_, 1) := by decide +kernel
set_option maxRecDepth 20000 in
theorem ggX1_become_X1_link : GoodIn wsX1_become wsX1_link := goodIn_r _ [16, 17, 18, 19, 10, 20, 21, 22, 23, 24, 25, 26, 27, 28, 29, 30, 15, 31, 7, 8, 32, 33, 34, 35, 36, 37, 38, 39, 40, 41, 42] (by decide +kernel) (by decide +kernel)
set_option maxRecDepth 20000 in
theorem gX1_become_X1_link : GoodIn wsX1_become (wsV RX1 47 RX1 yX1_link wsX1_link) := goodIn_app (goodIn_of _ (by decide +kernel)) ggX1_become_X1_link
theorem dX1_become_0 : decode cX1_become 0 = .ok (.aload_n 1, 1) := by decide +kernel
theorem dX1_become_1 : decode cX1_become 1 = .ok (.getfield 9, 3) := by decide +kernel
theorem dX1_become_4 : decode cX1_become 4 = .ok (.iconst 0, 1) := by decide +kernel
theorem dX1_become_5 : decode cX1_become 5 = .ok (.aload_n 0, 1) := by decide +kernel
theorem dX1_become_6 : decode cX1_become 6 = .ok (.getfield 9, 3) := by decide +kernel
theorem dX1_become_9 : decode cX1_become 9 = .ok (.iconst 0, 1) := by decide +kernel
theorem dX1_become_10 : decode cX1_become 10 = .ok (.bipush 40, 2) := by decide +kernel
theorem dX1_become_12 : decode cX1_become 12 = .ok (.invokestatic 74, 3) := by decide +kernel
theorem dX1_become_15 : decode cX1_become 15 = .ok (.aload_n 1, 1) := by decide +kernel
theorem dX1_become_16 : decode cX1_become 16 = .ok (.getfield 15, 3) := by decide +kernel
theorem dX1_become_19 : decode cX1_become 19 = .ok (.iconst 0, 1) := by decide +kernel
theorem dX1_become_20 : decode cX1_become 20 = .ok (.aload_n 0, 1) := by decide +kernel
theorem dX1_become_21 : decode cX1_become 21 = .ok (.getfield 15, 3) := by decide +kernel
theorem dX1_become_24 : decode cX1_become 24 = .ok (.iconst 0, 1) := by decide +kernel
theorem dX1_become_25 : decode cX1_become 25 = .ok (.bipush 40, 2) := by decide +kernel
theorem dX1_become_27 : decode cX1_become 27 = .ok (.invokestatic 74, 3) := by decide +kernel
theorem dX1_become_30 : decode cX1_become 30 = .ok (.aload_n 1, 1) := by decide +kernel
theorem dX1_become_31 : decode cX1_become 31 = .ok (.getfield 18, 3) := by decide +kernel
theorem dX1_become_34 : decode cX1_become 34 = .ok (.iconst 0, 1) := by decide +kernel
theorem dX1_become_35 : decode cX1_become 35 = .ok (.aload_n 0, 1) := by decide +kernel
theorem dX1_become_36 : decode cX1_become 36 = .ok (.getfield 18, 3) := by decide +kernel
theorem dX1_become_39 : decode cX1_become 39 = .ok (.iconst 0, 1) := by decide +kernel
theorem dX1_become_40 : decode cX1_become 40 = .ok (.bipush 40, 2) := by decide +kernel
theorem dX1_become_42 : decode cX1_become 42 = .ok (.invokestatic 74, 3) := by decide +kernel
theorem dX1_become_45 : decode cX1_become 45 = .ok (.aload_n 1, 1) := by decide +kernel
theorem dX1_become_46 : decode cX1_become 46 = .ok (.getfield 21, 3) := by decide +kernel
theorem dX1_become_49 : decode cX1_become 49 = .ok (.iconst 0, 1) := by decide +kernel
theorem dX1_become_50 : decode cX1_become 50 = .ok (.aload_n 0, 1) := by decide +kernel
theorem dX1_become_51 : decode cX1_become 51 = .ok (.getfield 21, 3) := by decide +kernel
theorem dX1_become_54 : decode cX1_become 54 = .ok (.iconst 0, 1) := by decide +kernel
theorem dX1_become_55 : decode cX1_become 55 = .ok (.bipush 40, 2) := by decide +kernel
theorem dX1_become_57 : decode cX1_become 57 = .ok (.invokestatic 74, 3) := by decide +kernel
theorem dX1_become_60 : decode cX1_become 60 = .ok (.aload_n 0, 1) := by decide +kernel
theorem dX1_become_61 : decode cX1_become 61 = .ok (.aload_n 1, 1) := by decide +kernel
theorem dX1_become_62 : decode cX1_become 62 = .ok (.getfield 34, 3) := by decide +kernel
theorem dX1_become_65 : decode cX1_become 65 = .ok (.putfield 34, 3) := by decide +kernel
theorem dX1_become_68 : decode cX1_become 68 = .ok (.aload_n 0, 1) := by decide +kernel
theorem dX1_become_69 : decode cX1_become 69 = .ok (.aload_n 1, 1) := by decide +kernel
theorem dX1_become_70 : decode cX1_become 70 = .ok (.getfield 38, 3) := by decide +kernel
theorem dX1_become_73 : decode cX1_become 73 = .ok (.putfield 38, 3) := by decide +kernel
theorem dX1_become_76 : decode cX1_become 76 = .ok (.aload_n 0, 1) := by decide +kernel
theorem dX1_become_77 : decode cX1_become 77 = .ok (.aload_n 1, 1) := by decide +kernel
theorem dX1_become_78 : decode cX1_become 78 = .ok (.getfield 41, 3) := by decide +kernel
theorem dX1_become_81 : decode cX1_become 81 = .ok (.putfield 41, 3) := by decide +kernel
theorem dX1_become_84 : decode cX1_become 84 = .ok (.aload_n 0, 1) := by decide +kernel
theorem dX1_become_85 : decode cX1_become 85 = .ok (.invokevirtual 47, 3) := by decide +kernel
theorem dX1_become_88 : decode cX1_become 88 = .ok (.return_, 1) := by decide +kernel
set_option maxRecDepth 20000 in
theorem ggX1_link_J7_fill_53178 : GoodIn wsX1_link wsJ7_fill_53178 := goodIn_r _ [9] (by decide +kernel) (by decide +kernel)
set_option maxRecDepth 20000 in
theorem gX1_link_J7_fill_53178 : GoodIn wsX1_link (va_wsS RX1 80 yJ7_fill_53178 wsJ7_fill_53178) := goodIn_app (goodIn_of _ (by decide +kernel)) ggX1_link_J7_fill_53178
set_option maxRecDepth 20000 in
theorem ggX1_link_J7_fill_d0a16 : GoodIn wsX1_link wsJ7_fill_d0a16 := goodIn_r _ [12] (by decide +kernel) (by decide +kernel)
set_option maxRecDepth 20000 in
theorem gX1_link_J7_fill_d0a16 : GoodIn wsX1_link (va_wsS RX1 86 yJ7_fill_d0a16 wsJ7_fill_d0a16) := goodIn_app (goodIn_of _ (by decide +kernel)) ggX1_link_J7_fill_d0a16
set_option maxRecDepth 20000 in
theorem ggX1_link_X1_linkOne : GoodIn wsX1_link wsX1_linkOne := goodIn_r _ [17, 18, 19, 1, 2, 3, 20, 21, 22, 23, 24, 25, 26, 27, 28, 29, 30] (by decide +kernel) (by decide +kernel)
set_option maxRecDepth 20000 in
theorem gX1_link_X1_linkOne : GoodIn wsX1_link (wsV RX1 70 RX1 yX1_linkOne wsX1_linkOne) := goodIn_app (goodIn_of _ (by decide +kernel)) ggX1_link_X1_linkOne
theorem dX1_link_0 : decode cX1_link 0 = .ok (.aload_n 0, 1) := by decide +kernel
theorem dX1_link_1 : decode cX1_link 1 = .ok (.getfield 24, 3) := by decide +kernel
theorem dX1_link_4 : decode cX1_link 4 = .ok (.iconst 0, 1) := by decide +kernel
theorem dX1_link_5 : decode cX1_link 5 = .ok (.invokestatic 80, 3) := by decide +kernel
theorem dX1_link_8 : decode cX1_link 8 = .ok (.aload_n 0, 1) := by decide +kernel
theorem dX1_link_9 : decode cX1_link 9 = .ok (.getfield 27, 3) := by decide +kernel
theorem dX1_link_12 : decode cX1_link 12 = .ok (.iconst 0, 1) := by decide +kernel
theorem dX1_link_13 : decode cX1_link 13 = .ok (.invokestatic 80, 3) := by decide +kernel
theorem dX1_link_16 : decode cX1_link 16 = .ok (.aload_n 0, 1) := by decide +kernel
theorem dX1_link_17 : decode cX1_link 17 = .ok (.getfield 30, 3) := by decide +kernel
theorem dX1_link_20 : decode cX1_link 20 = .ok (.lconst 0, 1) := by decide +kernel
theorem dX1_link_21 : decode cX1_link 21 = .ok (.invokestatic 86, 3) := by decide +kernel
theorem dX1_link_24 : decode cX1_link 24 = .ok (.iconst 0, 1) := by decide +kernel
theorem dX1_link_25 : decode cX1_link 25 = .ok (.istore_n 1, 1) := by decide +kernel
theorem dX1_link_26 : decode cX1_link 26 = .ok (.iload_n 1, 1) := by decide +kernel
theorem dX1_link_27 : decode cX1_link 27 = .ok (.aload_n 0, 1) := by decide +kernel
theorem dX1_link_28 : decode cX1_link 28 = .ok (.getfield 38, 3) := by decide +kernel
theorem dX1_link_31 : decode cX1_link 31 = .ok (.if_icmp .ge 14, 3) := by decide +kernel
theorem dX1_link_34 : decode cX1_link 34 = .ok (.aload_n 0, 1) := by decide +kernel
theorem dX1_link_35 : decode cX1_link 35 = .ok (.iload_n 1, 1) := by decide +kernel
theorem dX1_link_36 : decode cX1_link 36 = .ok (.invokevirtual 70, 3) := by decide +kernel
theorem dX1_link_39 : decode cX1_link 39 = .ok (.iinc 1 1, 3) := by decide +kernel
theorem dX1_link_42 : decode cX1_link 42 = .ok (.goto (-16), 3) := by decide +kernel
theorem dX1_link_45 : decode cX1_link 45 = .ok (.aload_n 0, 1) := by decide +kernel
theorem dX1_link_46 : decode cX1_link 46 = .ok (.dup, 1) := by decide +kernel
theorem dX1_link_47 : decode cX1_link 47 = .ok (.getfield 44, 3) := by decide +kernel
theorem dX1_link_50 : decode cX1_link 50 = .ok (.iconst 1, 1) := by decide +kernel
theorem dX1_link_51 : decode cX1_link 51 = .ok (.iadd, 1) := by decide +kernel
theorem dX1_link_52 : decode cX1_link 52 = .ok (.putfield 44, 3) := by decide +kernel
theorem dX1_link_55 : decode cX1_link 55 = .ok (.return_, 1) := by decide +kernel
theorem dX1_linkOne_0 : decode cX1_linkOne 0 = .ok (.aload_n 0, 1) := by decide +kernel
theorem dX1_linkOne_1 : decode cX1_linkOne 1 = .ok (.getfield 18, 3) := by decide +kernel
theorem dX1_linkOne_4 : decode cX1_linkOne 4 = .ok (.iload_n 1, 1) := by decide +kernel
theorem dX1_linkOne_5 : decode cX1_linkOne 5 = .ok (.iaload, 1) := by decide +kernel
theorem dX1_linkOne_6 : decode cX1_linkOne 6 = .ok (.istore_n 2, 1) := by decide +kernel
theorem dX1_linkOne_7 : decode cX1_linkOne 7 = .ok (.aload_n 0, 1) := by decide +kernel
theorem dX1_linkOne_8 : decode cX1_linkOne 8 = .ok (.getfield 21, 3) := by decide +kernel
theorem dX1_linkOne_11 : decode cX1_linkOne 11 = .ok (.iload_n 1, 1) := by decide +kernel
theorem dX1_linkOne_12 : decode cX1_linkOne 12 = .ok (.iaload, 1) := by decide +kernel
theorem dX1_linkOne_13 : decode cX1_linkOne 13 = .ok (.istore_n 3, 1) := by decide +kernel
theorem dX1_linkOne_14 : decode cX1_linkOne 14 = .ok (.aload_n 0, 1) := by decide +kernel
theorem dX1_linkOne_15 : decode cX1_linkOne 15 = .ok (.getfield 24, 3) := by decide +kernel
theorem dX1_linkOne_18 : decode cX1_linkOne 18 = .ok (.iload_n 2, 1) := by decide +kernel
theorem dX1_linkOne_19 : decode cX1_linkOne 19 = .ok (.bipush 12, 2) := by decide +kernel
theorem dX1_linkOne_21 : decode cX1_linkOne 21 = .ok (.imul, 1) := by decide +kernel
theorem dX1_linkOne_22 : decode cX1_linkOne 22 = .ok (.iload_n 3, 1) := by decide +kernel
theorem dX1_linkOne_23 : decode cX1_linkOne 23 = .ok (.iadd, 1) := by decide +kernel
theorem dX1_linkOne_24 : decode cX1_linkOne 24 = .ok (.iload_n 1, 1) := by decide +kernel
theorem dX1_linkOne_25 : decode cX1_linkOne 25 = .ok (.iconst 1, 1) := by decide +kernel
theorem dX1_linkOne_26 : decode cX1_linkOne 26 = .ok (.iadd, 1) := by decide +kernel
theorem dX1_linkOne_27 : decode cX1_linkOne 27 = .ok (.iastore, 1) := by decide +kernel
theorem dX1_linkOne_28 : decode cX1_linkOne 28 = .ok (.aload_n 0, 1) := by decide +kernel
theorem dX1_linkOne_29 : decode cX1_linkOne 29 = .ok (.getfield 24, 3) := by decide +kernel
theorem dX1_linkOne_32 : decode cX1_linkOne 32 = .ok (.iload_n 3, 1) := by decide +kernel
theorem dX1_linkOne_33 : decode cX1_linkOne 33 = .ok (.bipush 12, 2) := by decide +kernel
theorem dX1_linkOne_35 : decode cX1_linkOne 35 = .ok (.imul, 1) := by decide +kernel
theorem dX1_linkOne_36 : decode cX1_linkOne 36 = .ok (.iload_n 2, 1) := by decide +kernel
theorem dX1_linkOne_37 : decode cX1_linkOne 37 = .ok (.iadd, 1) := by decide +kernel
theorem dX1_linkOne_38 : decode cX1_linkOne 38 = .ok (.iload_n 1, 1) := by decide +kernel
theorem dX1_linkOne_39 : decode cX1_linkOne 39 = .ok (.iconst 1, 1) := by decide +kernel
theorem dX1_linkOne_40 : decode cX1_linkOne 40 = .ok (.iadd, 1) := by decide +kernel
theorem dX1_linkOne_41 : decode cX1_linkOne 41 = .ok (.iastore, 1) := by decide +kernel
theorem dX1_linkOne_42 : decode cX1_linkOne 42 = .ok (.aload_n 0, 1) := by decide +kernel
theorem dX1_linkOne_43 : decode cX1_linkOne 43 = .ok (.getfield 27, 3) := by decide +kernel
theorem dX1_linkOne_46 : decode cX1_linkOne 46 = .ok (.iload_n 2, 1) := by decide +kernel
theorem dX1_linkOne_47 : decode cX1_linkOne 47 = .ok (.dup2, 1) := by decide +kernel
theorem dX1_linkOne_48 : decode cX1_linkOne 48 = .ok (.iaload, 1) := by decide +kernel
theorem dX1_linkOne_49 : decode cX1_linkOne 49 = .ok (.iconst 1, 1) := by decide +kernel
theorem dX1_linkOne_50 : decode cX1_linkOne 50 = .ok (.iload_n 3, 1) := by decide +kernel
theorem dX1_linkOne_51 : decode cX1_linkOne 51 = .ok (.ishl, 1) := by decide +kernel
theorem dX1_linkOne_52 : decode cX1_linkOne 52 = .ok (.ior, 1) := by decide +kernel
theorem dX1_linkOne_53 : decode cX1_linkOne 53 = .ok (.iastore, 1) := by decide +kernel
theorem dX1_linkOne_54 : decode cX1_linkOne 54 = .ok (.aload_n 0, 1) := by decide +kernel
theorem dX1_linkOne_55 : decode cX1_linkOne 55 = .ok (.getfield 27, 3) := by decide +kernel
theorem dX1_linkOne_58 : decode cX1_linkOne 58 = .ok (.iload_n 3, 1) := by decide +kernel
theorem dX1_linkOne_59 : decode cX1_linkOne 59 = .ok (.dup2, 1) := by decide +kernel
theorem dX1_linkOne_60 : decode cX1_linkOne 60 = .ok (.iaload, 1) := by decide +kernel
theorem dX1_linkOne_61 : decode cX1_linkOne 61 = .ok (.iconst 1, 1) := by decide +kernel
theorem dX1_linkOne_62 : decode cX1_linkOne 62 = .ok (.iload_n 2, 1) := by decide +kernel
theorem dX1_linkOne_63 : decode cX1_linkOne 63 = .ok (.ishl, 1) := by decide +kernel
theorem dX1_linkOne_64 : decode cX1_linkOne 64 = .ok (.ior, 1) := by decide +kernel
theorem dX1_linkOne_65 : decode cX1_linkOne 65 = .ok (.iastore, 1) := by decide +kernel
theorem dX1_linkOne_66 : decode cX1_linkOne 66 = .ok (.aload_n 0, 1) := by decide +kernel
theorem dX1_linkOne_67 : decode cX1_linkOne 67 = .ok (.getfield 30, 3) := by decide +kernel
theorem dX1_linkOne_70 : decode cX1_linkOne 70 = .ok (.iload_n 2, 1) := by decide +kernel
theorem dX1_linkOne_71 : decode cX1_linkOne 71 = .ok (.dup2, 1) := by decide +kernel
theorem dX1_linkOne_72 : decode cX1_linkOne 72 = .ok (.laload, 1) := by decide +kernel
theorem dX1_linkOne_73 : decode cX1_linkOne 73 = .ok (.lconst 1, 1) := by decide +kernel
theorem dX1_linkOne_74 : decode cX1_linkOne 74 = .ok (.iload_n 1, 1) := by decide +kernel
theorem dX1_linkOne_75 : decode cX1_linkOne 75 = .ok (.lshl, 1) := by decide +kernel
theorem dX1_linkOne_76 : decode cX1_linkOne 76 = .ok (.lor, 1) := by decide +kernel
theorem dX1_linkOne_77 : decode cX1_linkOne 77 = .ok (.lastore, 1) := by decide +kernel
theorem dX1_linkOne_78 : decode cX1_linkOne 78 = .ok (.aload_n 0, 1) := by decide +kernel
theorem dX1_linkOne_79 : decode cX1_linkOne 79 = .ok (.getfield 30, 3) := by decide +kernel
theorem dX1_linkOne_82 : decode cX1_linkOne 82 = .ok (.iload_n 3, 1) := by decide +kernel
theorem dX1_linkOne_83 : decode cX1_linkOne 83 = .ok (.dup2, 1) := by decide +kernel
theorem dX1_linkOne_84 : decode cX1_linkOne 84 = .ok (.laload, 1) := by decide +kernel
theorem dX1_linkOne_85 : decode cX1_linkOne 85 = .ok (.lconst 1, 1) := by decide +kernel
theorem dX1_linkOne_86 : decode cX1_linkOne 86 = .ok (.iload_n 1, 1) := by decide +kernel
theorem dX1_linkOne_87 : decode cX1_linkOne 87 = .ok (.lshl, 1) := by decide +kernel
theorem dX1_linkOne_88 : decode cX1_linkOne 88 = .ok (.lor, 1) := by decide +kernel
theorem dX1_linkOne_89 : decode cX1_linkOne 89 = .ok (.lastore, 1) := by decide +kernel
theorem dX1_linkOne_90 : decode cX1_linkOne 90 = .ok (.return_, 1) := by decide +kernel
theorem dX1_hasPoint_0 : decode cX1_hasPoint 0 = .ok (.iload_n 1, 1) := by decide +kernel
theorem dX1_hasPoint_1 : decode cX1_hasPoint 1 = .ok (.ifCond .lt 15, 3) := by decide +kernel
theorem dX1_hasPoint_4 : decode cX1_hasPoint 4 = .ok (.iload_n 1, 1) := by decide +kernel
theorem dX1_hasPoint_5 : decode cX1_hasPoint 5 = .ok (.aload_n 0, 1) := by decide +kernel
theorem dX1_hasPoint_6 : decode cX1_hasPoint 6 = .ok (.getfield 34, 3) := by decide +kernel
theorem dX1_hasPoint_9 : decode cX1_hasPoint 9 = .ok (.if_icmp .ge 7, 3) := by decide +kernel
theorem dX1_hasPoint_12 : decode cX1_hasPoint 12 = .ok (.iconst 1, 1) := by decide +kernel
theorem dX1_hasPoint_13 : decode cX1_hasPoint 13 = .ok (.goto 4, 3) := by decide +kernel
theorem dX1_hasPoint_16 : decode cX1_hasPoint 16 = .ok (.iconst 0, 1) := by decide +kernel
theorem dX1_hasPoint_17 : decode cX1_hasPoint 17 = .ok (.ireturn, 1) := by decide +kernel
theorem dX1_hasLine_0 : decode cX1_hasLine 0 = .ok (.iload_n 1, 1) := by decide +kernel
theorem dX1_hasLine_1 : decode cX1_hasLine 1 = .ok (.ifCond .lt 15, 3) := by decide +kernel
theorem dX1_hasLine_4 : decode cX1_hasLine 4 = .ok (.iload_n 1, 1) := by decide +kernel
theorem dX1_hasLine_5 : decode cX1_hasLine 5 = .ok (.aload_n 0, 1) := by decide +kernel
theorem dX1_hasLine_6 : decode cX1_hasLine 6 = .ok (.getfield 38, 3) := by decide +kernel
theorem dX1_hasLine_9 : decode cX1_hasLine 9 = .ok (.if_icmp .ge 7, 3) := by decide +kernel
theorem dX1_hasLine_12 : decode cX1_hasLine 12 = .ok (.iconst 1, 1) := by decide +kernel
theorem dX1_hasLine_13 : decode cX1_hasLine 13 = .ok (.goto 4, 3) := by decide +kernel
theorem dX1_hasLine_16 : decode cX1_hasLine 16 = .ok (.iconst 0, 1) := by decide +kernel
theorem dX1_hasLine_17 : decode cX1_hasLine 17 = .ok (.ireturn, 1) := by decide +kernel
set_option maxRecDepth 20000 in
theorem ggX1_hasLines_X1_allLines : GoodIn wsX1_hasLines wsX1_allLines := goodIn_r _ [6, 7, 8, 9, 10, 11, 12, 13, 14, 15, 16, 17, 18] (by decide +kernel) (by decide +kernel)
set_option maxRecDepth 20000 in
theorem gX1_hasLines_X1_allLines : GoodIn wsX1_hasLines (wsV RX1 89 RX1 yX1_allLines wsX1_allLines) := goodIn_app (goodIn_of _ (by decide +kernel)) ggX1_hasLines_X1_allLines
theorem dX1_hasLines_0 : decode cX1_hasLines 0 = .ok (.lload_n 1, 1) := by decide +kernel
theorem dX1_hasLines_1 : decode cX1_hasLines 1 = .ok (.aload_n 0, 1) := by decide +kernel
theorem dX1_hasLines_2 : decode cX1_hasLines 2 = .ok (.invokevirtual 89, 3) := by decide +kernel
theorem dX1_hasLines_5 : decode cX1_hasLines 5 = .ok (.ldc2_w 93, 3) := by decide +kernel
theorem dX1_hasLines_8 : decode cX1_hasLines 8 = .ok (.lxor, 1) := by decide +kernel
theorem dX1_hasLines_9 : decode cX1_hasLines 9 = .ok (.land, 1) := by decide +kernel
theorem dX1_hasLines_10 : decode cX1_hasLines 10 = .ok (.lconst 0, 1) := by decide +kernel
theorem dX1_hasLines_11 : decode cX1_hasLines 11 = .ok (.lcmp, 1) := by decide +kernel
theorem dX1_hasLines_12 : decode cX1_hasLines 12 = .ok (.ifCond .ne 7, 3) := by decide +kernel
theorem dX1_hasLines_15 : decode cX1_hasLines 15 = .ok (.iconst 1, 1) := by decide +kernel
theorem dX1_hasLines_16 : decode cX1_hasLines 16 = .ok (.goto 4, 3) := by decide +kernel
theorem dX1_hasLines_19 : decode cX1_hasLines 19 = .ok (.iconst 0, 1) := by decide +kernel
theorem dX1_hasLines_20 : decode cX1_hasLines 20 = .ok (.ireturn, 1) := by decide +kernel
theorem dX1_allPoints_0 : decode cX1_allPoints 0 = .ok (.iconst 1, 1) := by decide +kernel
theorem dX1_allPoints_1 : decode cX1_allPoints 1 = .ok (.aload_n 0, 1) := by decide +kernel
theorem dX1_allPoints_2 : decode cX1_allPoints 2 = .ok (.getfield 34, 3) := by decide +kernel
theorem dX1_allPoints_5 : decode cX1_allPoints 5 = .ok (.ishl, 1) := by decide +kernel
theorem dX1_allPoints_6 : decode cX1_allPoints 6 = .ok (.iconst 1, 1) := by decide +kernel
theorem dX1_allPoints_7 : decode cX1_allPoints 7 = .ok (.isub, 1) := by decide +kernel
theorem dX1_allPoints_8 : decode cX1_allPoints 8 = .ok (.ireturn, 1) := by decide +kernel
theorem dX1_allLines_0 : decode cX1_allLines 0 = .ok (.lconst 1, 1) := by decide +kernel
theorem dX1_allLines_1 : decode cX1_allLines 1 = .ok (.aload_n 0, 1) := by decide +kernel
theorem dX1_allLines_2 : decode cX1_allLines 2 = .ok (.getfield 38, 3) := by decide +kernel
theorem dX1_allLines_5 : decode cX1_allLines 5 = .ok (.lshl, 1) := by decide +kernel
theorem dX1_allLines_6 : decode cX1_allLines 6 = .ok (.lconst 1, 1) := by decide +kernel
theorem dX1_allLines_7 : decode cX1_allLines 7 = .ok (.lsub, 1) := by decide +kernel
theorem dX1_allLines_8 : decode cX1_allLines 8 = .ok (.lreturn, 1) := by decide +kernel
theorem dX1_joining_0 : decode cX1_joining 0 = .ok (.aload_n 0, 1) := by decide +kernel
theorem dX1_joining_1 : decode cX1_joining 1 = .ok (.getfield 24, 3) := by decide +kernel
theorem dX1_joining_4 : decode cX1_joining 4 = .ok (.iload_n 1, 1) := by decide +kernel
theorem dX1_joining_5 : decode cX1_joining 5 = .ok (.bipush 12, 2) := by decide +kernel
theorem dX1_joining_7 : decode cX1_joining 7 = .ok (.imul, 1) := by decide +kernel
theorem dX1_joining_8 : decode cX1_joining 8 = .ok (.iload_n 2, 1) := by decide +kernel
theorem dX1_joining_9 : decode cX1_joining 9 = .ok (.iadd, 1) := by decide +kernel
theorem dX1_joining_10 : decode cX1_joining 10 = .ok (.iaload, 1) := by decide +kernel
theorem dX1_joining_11 : decode cX1_joining 11 = .ok (.iconst 1, 1) := by decide +kernel
theorem dX1_joining_12 : decode cX1_joining 12 = .ok (.isub, 1) := by decide +kernel
theorem dX1_joining_13 : decode cX1_joining 13 = .ok (.ireturn, 1) := by decide +kernel
set_option maxRecDepth 20000 in
theorem ggX1_weightOf_X8_weightBy : GoodIn wsX1_weightOf wsX8_weightBy := goodIn_r _ [6, 7, 8, 9, 10] (by decide +kernel) (by decide +kernel)
set_option maxRecDepth 20000 in
theorem gX1_weightOf_X8_weightBy_n95 : GoodIn wsX1_weightOf (wsX8_weightBy) := ggX1_weightOf_X8_weightBy
theorem dX1_weightOf_0 : decode cX1_weightOf 0 = .ok (.aload_n 0, 1) := by decide +kernel
theorem dX1_weightOf_1 : decode cX1_weightOf 1 = .ok (.getfield 9, 3) := by decide +kernel
theorem dX1_weightOf_4 : decode cX1_weightOf 4 = .ok (.iload_n 1, 1) := by decide +kernel
theorem dX1_weightOf_5 : decode cX1_weightOf 5 = .ok (.iaload, 1) := by decide +kernel
theorem dX1_weightOf_6 : decode cX1_weightOf 6 = .ok (.aload_n 0, 1) := by decide +kernel
theorem dX1_weightOf_7 : decode cX1_weightOf 7 = .ok (.getfield 15, 3) := by decide +kernel
theorem dX1_weightOf_10 : decode cX1_weightOf 10 = .ok (.iload_n 1, 1) := by decide +kernel
theorem dX1_weightOf_11 : decode cX1_weightOf 11 = .ok (.iaload, 1) := by decide +kernel
theorem dX1_weightOf_12 : decode cX1_weightOf 12 = .ok (.aload_n 0, 1) := by decide +kernel
theorem dX1_weightOf_13 : decode cX1_weightOf 13 = .ok (.getfield 41, 3) := by decide +kernel
theorem dX1_weightOf_16 : decode cX1_weightOf 16 = .ok (.invokestatic 95, 3) := by decide +kernel
theorem dX1_weightOf_19 : decode cX1_weightOf 19 = .ok (.ireturn, 1) := by decide +kernel
set_option maxRecDepth 20000 in
theorem ggX1_weightBetween_X1_joining : GoodIn wsX1_weightBetween wsX1_joining := goodIn_r _ [5, 6, 21, 22, 23, 24, 25, 26, 27, 28, 29, 30, 31] (by decide +kernel) (by decide +kernel)
set_option maxRecDepth 20000 in
theorem gX1_weightBetween_X1_joining : GoodIn wsX1_weightBetween (wsV RX1 58 RX1 yX1_joining wsX1_joining) := goodIn_app (goodIn_of _ (by decide +kernel)) ggX1_weightBetween_X1_joining
set_option maxRecDepth 20000 in
theorem ggX1_weightBetween_X1_weightOf : GoodIn wsX1_weightBetween wsX1_weightOf := goodIn_r _ [10, 11, 12, 13, 14, 15, 16, 17, 18, 19, 20, 21, 22, 23, 24, 25, 26, 27, 28, 29, 30, 31] (by decide +kernel) (by decide +kernel)
set_option maxRecDepth 20000 in
theorem gX1_weightBetween_X1_weightOf : GoodIn wsX1_weightBetween (wsV RX1 99 RX1 yX1_weightOf wsX1_weightOf) := goodIn_app (goodIn_of _ (by decide +kernel)) ggX1_weightBetween_X1_weightOf
theorem dX1_weightBetween_0 : decode cX1_weightBetween 0 = .ok (.aload_n 0, 1) := by decide +kernel
theorem dX1_weightBetween_1 : decode cX1_weightBetween 1 = .ok (.iload_n 1, 1) := by decide +kernel
theorem dX1_weightBetween_2 : decode cX1_weightBetween 2 = .ok (.iload_n 2, 1) := by decide +kernel
theorem dX1_weightBetween_3 : decode cX1_weightBetween 3 = .ok (.invokevirtual 58, 3) := by decide +kernel
theorem dX1_weightBetween_6 : decode cX1_weightBetween 6 = .ok (.istore_n 3, 1) := by decide +kernel
theorem dX1_weightBetween_7 : decode cX1_weightBetween 7 = .ok (.iload_n 3, 1) := by decide +kernel
theorem dX1_weightBetween_8 : decode cX1_weightBetween 8 = .ok (.ifCond .ge 7, 3) := by decide +kernel
theorem dX1_weightBetween_11 : decode cX1_weightBetween 11 = .ok (.iconst 0, 1) := by decide +kernel
theorem dX1_weightBetween_12 : decode cX1_weightBetween 12 = .ok (.goto 8, 3) := by decide +kernel
theorem dX1_weightBetween_15 : decode cX1_weightBetween 15 = .ok (.aload_n 0, 1) := by decide +kernel
theorem dX1_weightBetween_16 : decode cX1_weightBetween 16 = .ok (.iload_n 3, 1) := by decide +kernel
theorem dX1_weightBetween_17 : decode cX1_weightBetween 17 = .ok (.invokevirtual 99, 3) := by decide +kernel
theorem dX1_weightBetween_20 : decode cX1_weightBetween 20 = .ok (.ireturn, 1) := by decide +kernel
theorem dX1_meeting_0 : decode cX1_meeting 0 = .ok (.aload_n 0, 1) := by decide +kernel
theorem dX1_meeting_1 : decode cX1_meeting 1 = .ok (.getfield 30, 3) := by decide +kernel
theorem dX1_meeting_4 : decode cX1_meeting 4 = .ok (.aload_n 0, 1) := by decide +kernel
theorem dX1_meeting_5 : decode cX1_meeting 5 = .ok (.getfield 18, 3) := by decide +kernel
theorem dX1_meeting_8 : decode cX1_meeting 8 = .ok (.iload_n 1, 1) := by decide +kernel
theorem dX1_meeting_9 : decode cX1_meeting 9 = .ok (.iaload, 1) := by decide +kernel
theorem dX1_meeting_10 : decode cX1_meeting 10 = .ok (.laload, 1) := by decide +kernel
theorem dX1_meeting_11 : decode cX1_meeting 11 = .ok (.aload_n 0, 1) := by decide +kernel
theorem dX1_meeting_12 : decode cX1_meeting 12 = .ok (.getfield 30, 3) := by decide +kernel
theorem dX1_meeting_15 : decode cX1_meeting 15 = .ok (.aload_n 0, 1) := by decide +kernel
theorem dX1_meeting_16 : decode cX1_meeting 16 = .ok (.getfield 21, 3) := by decide +kernel
theorem dX1_meeting_19 : decode cX1_meeting 19 = .ok (.iload_n 1, 1) := by decide +kernel
theorem dX1_meeting_20 : decode cX1_meeting 20 = .ok (.iaload, 1) := by decide +kernel
theorem dX1_meeting_21 : decode cX1_meeting 21 = .ok (.laload, 1) := by decide +kernel
theorem dX1_meeting_22 : decode cX1_meeting 22 = .ok (.lor, 1) := by decide +kernel
theorem dX1_meeting_23 : decode cX1_meeting 23 = .ok (.lreturn, 1) := by decide +kernel
theorem dX1_meetNowhere_0 : decode cX1_meetNowhere 0 = .ok (.iconst 0, 1) := by decide +kernel
theorem dX1_meetNowhere_1 : decode cX1_meetNowhere 1 = .ok (.istore_n 3, 1) := by decide +kernel
theorem dX1_meetNowhere_2 : decode cX1_meetNowhere 2 = .ok (.iconst 0, 1) := by decide +kernel
theorem dX1_meetNowhere_3 : decode cX1_meetNowhere 3 = .ok (.istore 4, 2) := by decide +kernel
theorem dX1_meetNowhere_5 : decode cX1_meetNowhere 5 = .ok (.iload 4, 2) := by decide +kernel
theorem dX1_meetNowhere_7 : decode cX1_meetNowhere 7 = .ok (.aload_n 0, 1) := by decide +kernel
theorem dX1_meetNowhere_8 : decode cX1_meetNowhere 8 = .ok (.getfield 38, 3) := by decide +kernel
theorem dX1_meetNowhere_11 : decode cX1_meetNowhere 11 = .ok (.if_icmp .ge 55, 3) := by decide +kernel
theorem dX1_meetNowhere_14 : decode cX1_meetNowhere 14 = .ok (.lload_n 1, 1) := by decide +kernel
theorem dX1_meetNowhere_15 : decode cX1_meetNowhere 15 = .ok (.iload 4, 2) := by decide +kernel
theorem dX1_meetNowhere_17 : decode cX1_meetNowhere 17 = .ok (.lushr, 1) := by decide +kernel
theorem dX1_meetNowhere_18 : decode cX1_meetNowhere 18 = .ok (.lconst 1, 1) := by decide +kernel
theorem dX1_meetNowhere_19 : decode cX1_meetNowhere 19 = .ok (.land, 1) := by decide +kernel
theorem dX1_meetNowhere_20 : decode cX1_meetNowhere 20 = .ok (.lconst 0, 1) := by decide +kernel
theorem dX1_meetNowhere_21 : decode cX1_meetNowhere 21 = .ok (.lcmp, 1) := by decide +kernel
theorem dX1_meetNowhere_22 : decode cX1_meetNowhere 22 = .ok (.ifCond .eq 38, 3) := by decide +kernel
theorem dX1_meetNowhere_25 : decode cX1_meetNowhere 25 = .ok (.iconst 1, 1) := by decide +kernel
theorem dX1_meetNowhere_26 : decode cX1_meetNowhere 26 = .ok (.aload_n 0, 1) := by decide +kernel
theorem dX1_meetNowhere_27 : decode cX1_meetNowhere 27 = .ok (.getfield 18, 3) := by decide +kernel
theorem dX1_meetNowhere_30 : decode cX1_meetNowhere 30 = .ok (.iload 4, 2) := by decide +kernel
theorem dX1_meetNowhere_32 : decode cX1_meetNowhere 32 = .ok (.iaload, 1) := by decide +kernel
theorem dX1_meetNowhere_33 : decode cX1_meetNowhere 33 = .ok (.ishl, 1) := by decide +kernel
theorem dX1_meetNowhere_34 : decode cX1_meetNowhere 34 = .ok (.iconst 1, 1) := by decide +kernel
theorem dX1_meetNowhere_35 : decode cX1_meetNowhere 35 = .ok (.aload_n 0, 1) := by decide +kernel
theorem dX1_meetNowhere_36 : decode cX1_meetNowhere 36 = .ok (.getfield 21, 3) := by decide +kernel
theorem dX1_meetNowhere_39 : decode cX1_meetNowhere 39 = .ok (.iload 4, 2) := by decide +kernel
theorem dX1_meetNowhere_41 : decode cX1_meetNowhere 41 = .ok (.iaload, 1) := by decide +kernel
theorem dX1_meetNowhere_42 : decode cX1_meetNowhere 42 = .ok (.ishl, 1) := by decide +kernel
theorem dX1_meetNowhere_43 : decode cX1_meetNowhere 43 = .ok (.ior, 1) := by decide +kernel
theorem dX1_meetNowhere_44 : decode cX1_meetNowhere 44 = .ok (.istore 5, 2) := by decide +kernel
theorem dX1_meetNowhere_46 : decode cX1_meetNowhere 46 = .ok (.iload_n 3, 1) := by decide +kernel
theorem dX1_meetNowhere_47 : decode cX1_meetNowhere 47 = .ok (.iload 5, 2) := by decide +kernel
theorem dX1_meetNowhere_49 : decode cX1_meetNowhere 49 = .ok (.iand, 1) := by decide +kernel
theorem dX1_meetNowhere_50 : decode cX1_meetNowhere 50 = .ok (.ifCond .eq 5, 3) := by decide +kernel
theorem dX1_meetNowhere_53 : decode cX1_meetNowhere 53 = .ok (.iconst 0, 1) := by decide +kernel
theorem dX1_meetNowhere_54 : decode cX1_meetNowhere 54 = .ok (.ireturn, 1) := by decide +kernel
theorem dX1_meetNowhere_55 : decode cX1_meetNowhere 55 = .ok (.iload_n 3, 1) := by decide +kernel
theorem dX1_meetNowhere_56 : decode cX1_meetNowhere 56 = .ok (.iload 5, 2) := by decide +kernel
theorem dX1_meetNowhere_58 : decode cX1_meetNowhere 58 = .ok (.ior, 1) := by decide +kernel
theorem dX1_meetNowhere_59 : decode cX1_meetNowhere 59 = .ok (.istore_n 3, 1) := by decide +kernel
theorem dX1_meetNowhere_60 : decode cX1_meetNowhere 60 = .ok (.iinc 4 1, 3) := by decide +kernel
theorem dX1_meetNowhere_63 : decode cX1_meetNowhere 63 = .ok (.goto (-58), 3) := by decide +kernel
theorem dX1_meetNowhere_66 : decode cX1_meetNowhere 66 = .ok (.iconst 1, 1) := by decide +kernel
theorem dX1_meetNowhere_67 : decode cX1_meetNowhere 67 = .ok (.ireturn, 1) := by decide +kernel
set_option maxRecDepth 20000 in
theorem ggX1_productOf_X1_weightOf : GoodIn wsX1_productOf wsX1_weightOf := goodIn_r _ [6, 7, 8, 9, 10, 11, 12, 13, 14, 15, 16, 23, 24, 25, 26, 27, 28, 29, 30, 31, 32, 33] (by decide +kernel) (by decide +kernel)
set_option maxRecDepth 20000 in
theorem gX1_productOf_X1_weightOf : GoodIn wsX1_productOf (wsV RX1 99 RX1 yX1_weightOf wsX1_weightOf) := goodIn_app (goodIn_of _ (by decide +kernel)) ggX1_productOf_X1_weightOf
set_option maxRecDepth 20000 in
theorem ggX1_productOf_X7_times : GoodIn wsX1_productOf wsX7_times := goodIn_r _ [20, 21, 22] (by decide +kernel) (by decide +kernel)
set_option maxRecDepth 20000 in
theorem gX1_productOf_X7_times : GoodIn wsX1_productOf (va_wsS RX1 103 yX7_times wsX7_times) := goodIn_app (goodIn_of _ (by decide +kernel)) ggX1_productOf_X7_times
theorem dX1_productOf_0 : decode cX1_productOf 0 = .ok (.lconst 1, 1) := by decide +kernel
theorem dX1_productOf_1 : decode cX1_productOf 1 = .ok (.lstore_n 3, 1) := by decide +kernel
theorem dX1_productOf_2 : decode cX1_productOf 2 = .ok (.iconst 0, 1) := by decide +kernel
theorem dX1_productOf_3 : decode cX1_productOf 3 = .ok (.istore 5, 2) := by decide +kernel
theorem dX1_productOf_5 : decode cX1_productOf 5 = .ok (.iload 5, 2) := by decide +kernel
theorem dX1_productOf_7 : decode cX1_productOf 7 = .ok (.aload_n 0, 1) := by decide +kernel
theorem dX1_productOf_8 : decode cX1_productOf 8 = .ok (.getfield 38, 3) := by decide +kernel
theorem dX1_productOf_11 : decode cX1_productOf 11 = .ok (.if_icmp .ge 43, 3) := by decide +kernel
theorem dX1_productOf_14 : decode cX1_productOf 14 = .ok (.lload_n 1, 1) := by decide +kernel
theorem dX1_productOf_15 : decode cX1_productOf 15 = .ok (.iload 5, 2) := by decide +kernel
theorem dX1_productOf_17 : decode cX1_productOf 17 = .ok (.lushr, 1) := by decide +kernel
theorem dX1_productOf_18 : decode cX1_productOf 18 = .ok (.lconst 1, 1) := by decide +kernel
theorem dX1_productOf_19 : decode cX1_productOf 19 = .ok (.land, 1) := by decide +kernel
theorem dX1_productOf_20 : decode cX1_productOf 20 = .ok (.lconst 0, 1) := by decide +kernel
theorem dX1_productOf_21 : decode cX1_productOf 21 = .ok (.lcmp, 1) := by decide +kernel
theorem dX1_productOf_22 : decode cX1_productOf 22 = .ok (.ifCond .eq 26, 3) := by decide +kernel
theorem dX1_productOf_25 : decode cX1_productOf 25 = .ok (.aload_n 0, 1) := by decide +kernel
theorem dX1_productOf_26 : decode cX1_productOf 26 = .ok (.iload 5, 2) := by decide +kernel
theorem dX1_productOf_28 : decode cX1_productOf 28 = .ok (.invokevirtual 99, 3) := by decide +kernel
theorem dX1_productOf_31 : decode cX1_productOf 31 = .ok (.istore 6, 2) := by decide +kernel
theorem dX1_productOf_33 : decode cX1_productOf 33 = .ok (.iload 6, 2) := by decide +kernel
theorem dX1_productOf_35 : decode cX1_productOf 35 = .ok (.ifCond .ne 5, 3) := by decide +kernel
theorem dX1_productOf_38 : decode cX1_productOf 38 = .ok (.lconst 0, 1) := by decide +kernel
theorem dX1_productOf_39 : decode cX1_productOf 39 = .ok (.lreturn, 1) := by decide +kernel
theorem dX1_productOf_40 : decode cX1_productOf 40 = .ok (.lload_n 3, 1) := by decide +kernel
theorem dX1_productOf_41 : decode cX1_productOf 41 = .ok (.iload 6, 2) := by decide +kernel
theorem dX1_productOf_43 : decode cX1_productOf 43 = .ok (.i2l, 1) := by decide +kernel
theorem dX1_productOf_44 : decode cX1_productOf 44 = .ok (.invokestatic 103, 3) := by decide +kernel
theorem dX1_productOf_47 : decode cX1_productOf 47 = .ok (.lstore_n 3, 1) := by decide +kernel
theorem dX1_productOf_48 : decode cX1_productOf 48 = .ok (.iinc 5 1, 3) := by decide +kernel
theorem dX1_productOf_51 : decode cX1_productOf 51 = .ok (.goto (-46), 3) := by decide +kernel
theorem dX1_productOf_54 : decode cX1_productOf 54 = .ok (.lload_n 3, 1) := by decide +kernel
theorem dX1_productOf_55 : decode cX1_productOf 55 = .ok (.lreturn, 1) := by decide +kernel
set_option maxRecDepth 20000 in
theorem ggX1_pairingsOf_X1_allLines : GoodIn wsX1_pairingsOf wsX1_allLines := goodIn_r _ [5, 6, 34, 35, 36, 37, 38, 39, 40, 41, 42, 43, 44] (by decide +kernel) (by decide +kernel)
set_option maxRecDepth 20000 in
theorem gX1_pairingsOf_X1_allLines : GoodIn wsX1_pairingsOf (wsV RX1 89 RX1 yX1_allLines wsX1_allLines) := goodIn_app (goodIn_of _ (by decide +kernel)) ggX1_pairingsOf_X1_allLines
set_option maxRecDepth 20000 in
theorem ggX1_pairingsOf_X1_pairingsIn : GoodIn wsX1_pairingsOf wsX1_pairingsIn := goodIn_r _ [10, 11, 12, 13, 14, 15, 16, 17, 18, 19, 20, 4, 21, 22, 23, 24, 25, 26, 6, 27, 28, 29, 30, 31, 32, 33, 7, 8, 9, 34, 35, 36, 37, 38, 39, 40, 41, 42, 43, 44] (by decide +kernel) (by decide +kernel)
set_option maxRecDepth 20000 in
theorem gX1_pairingsOf_X1_pairingsIn : GoodIn wsX1_pairingsOf (wsV RX1 109 RX1 yX1_pairingsIn wsX1_pairingsIn) := goodIn_app (goodIn_of _ (by decide +kernel)) ggX1_pairingsOf_X1_pairingsIn
theorem dX1_pairingsOf_0 : decode cX1_pairingsOf 0 = .ok (.aload_n 0, 1) := by decide +kernel
theorem dX1_pairingsOf_1 : decode cX1_pairingsOf 1 = .ok (.aload_n 0, 1) := by decide +kernel
theorem dX1_pairingsOf_2 : decode cX1_pairingsOf 2 = .ok (.invokevirtual 89, 3) := by decide +kernel
theorem dX1_pairingsOf_5 : decode cX1_pairingsOf 5 = .ok (.iload_n 1, 1) := by decide +kernel
theorem dX1_pairingsOf_6 : decode cX1_pairingsOf 6 = .ok (.invokevirtual 109, 3) := by decide +kernel
theorem dX1_pairingsOf_9 : decode cX1_pairingsOf 9 = .ok (.lreturn, 1) := by decide +kernel
set_option maxRecDepth 20000 in
theorem ggX1_pairingsIn_J13_bitCount_95d88 : GoodIn wsX1_pairingsIn wsJ13_bitCount_95d88 := goodIn_r _ [4, 5, 6, 7] (by decide +kernel) (by decide +kernel)
set_option maxRecDepth 20000 in
theorem gX1_pairingsIn_J13_bitCount_95d88 : GoodIn wsX1_pairingsIn (va_wsS RX1 113 yJ13_bitCount_95d88 wsJ13_bitCount_95d88) := goodIn_app (goodIn_of _ (by decide +kernel)) ggX1_pairingsIn_J13_bitCount_95d88
set_option maxRecDepth 20000 in
theorem ggX1_pairingsIn_X1_freeBelow : GoodIn wsX1_pairingsIn wsX1_freeBelow := goodIn_r _ [12, 13, 1, 2, 3, 4, 5, 6, 7, 14, 15, 16, 11, 17, 18, 19, 20, 21, 22, 23, 24, 25, 29, 30, 31, 32, 33, 34, 35, 36, 37, 38, 39] (by decide +kernel) (by decide +kernel)
set_option maxRecDepth 20000 in
theorem gX1_pairingsIn_X1_freeBelow : GoodIn wsX1_pairingsIn (wsV RX1 119 RX1 yX1_freeBelow wsX1_freeBelow) := goodIn_app (goodIn_of _ (by decide +kernel)) ggX1_pairingsIn_X1_freeBelow
set_option maxRecDepth 20000 in
theorem ggX1_pairingsIn_X1_pairingsIn : GoodIn wsX1_pairingsIn wsX1_pairingsIn := goodIn_r _ [0, 1, 2, 3, 4, 5, 6, 7, 8, 9, 10, 11, 12, 13, 14, 15, 16, 17, 18, 19, 20, 21, 22, 23, 24, 25, 26, 27, 28, 29, 30, 31, 32, 33, 34, 35, 36, 37, 38, 39] (by decide +kernel) (by decide +kernel)
set_option maxRecDepth 20000 in
theorem gX1_pairingsIn_X1_pairingsIn : GoodIn wsX1_pairingsIn (wsV RX1 109 RX1 yX1_pairingsIn wsX1_pairingsIn) := goodIn_app (goodIn_of _ (by decide +kernel)) ggX1_pairingsIn_X1_pairingsIn
theorem dX1_pairingsIn_0 : decode cX1_pairingsIn 0 = .ok (.lload_n 1, 1) := by decide +kernel
theorem dX1_pairingsIn_1 : decode cX1_pairingsIn 1 = .ok (.invokestatic 113, 3) := by decide +kernel
theorem dX1_pairingsIn_4 : decode cX1_pairingsIn 4 = .ok (.istore 4, 2) := by decide +kernel
theorem dX1_pairingsIn_6 : decode cX1_pairingsIn 6 = .ok (.iload_n 3, 1) := by decide +kernel
theorem dX1_pairingsIn_7 : decode cX1_pairingsIn 7 = .ok (.ifCond .le 9, 3) := by decide +kernel
theorem dX1_pairingsIn_10 : decode cX1_pairingsIn 10 = .ok (.iload 4, 2) := by decide +kernel
theorem dX1_pairingsIn_12 : decode cX1_pairingsIn 12 = .ok (.iload_n 3, 1) := by decide +kernel
theorem dX1_pairingsIn_13 : decode cX1_pairingsIn 13 = .ok (.if_icmp .ge 13, 3) := by decide +kernel
theorem dX1_pairingsIn_16 : decode cX1_pairingsIn 16 = .ok (.iload_n 3, 1) := by decide +kernel
theorem dX1_pairingsIn_17 : decode cX1_pairingsIn 17 = .ok (.ifCond .ne 7, 3) := by decide +kernel
theorem dX1_pairingsIn_20 : decode cX1_pairingsIn 20 = .ok (.lconst 1, 1) := by decide +kernel
theorem dX1_pairingsIn_21 : decode cX1_pairingsIn 21 = .ok (.goto 4, 3) := by decide +kernel
theorem dX1_pairingsIn_24 : decode cX1_pairingsIn 24 = .ok (.lconst 0, 1) := by decide +kernel
theorem dX1_pairingsIn_25 : decode cX1_pairingsIn 25 = .ok (.lreturn, 1) := by decide +kernel
theorem dX1_pairingsIn_26 : decode cX1_pairingsIn 26 = .ok (.iload_n 3, 1) := by decide +kernel
theorem dX1_pairingsIn_27 : decode cX1_pairingsIn 27 = .ok (.iconst 1, 1) := by decide +kernel
theorem dX1_pairingsIn_28 : decode cX1_pairingsIn 28 = .ok (.if_icmp .ne 7, 3) := by decide +kernel
theorem dX1_pairingsIn_31 : decode cX1_pairingsIn 31 = .ok (.iload 4, 2) := by decide +kernel
theorem dX1_pairingsIn_33 : decode cX1_pairingsIn 33 = .ok (.i2l, 1) := by decide +kernel
theorem dX1_pairingsIn_34 : decode cX1_pairingsIn 34 = .ok (.lreturn, 1) := by decide +kernel
theorem dX1_pairingsIn_35 : decode cX1_pairingsIn 35 = .ok (.lconst 0, 1) := by decide +kernel
theorem dX1_pairingsIn_36 : decode cX1_pairingsIn 36 = .ok (.lstore 5, 2) := by decide +kernel
theorem dX1_pairingsIn_38 : decode cX1_pairingsIn 38 = .ok (.lload_n 1, 1) := by decide +kernel
theorem dX1_pairingsIn_39 : decode cX1_pairingsIn 39 = .ok (.lstore 7, 2) := by decide +kernel
theorem dX1_pairingsIn_41 : decode cX1_pairingsIn 41 = .ok (.iconst 0, 1) := by decide +kernel
theorem dX1_pairingsIn_42 : decode cX1_pairingsIn 42 = .ok (.istore 9, 2) := by decide +kernel
theorem dX1_pairingsIn_44 : decode cX1_pairingsIn 44 = .ok (.iload 9, 2) := by decide +kernel
theorem dX1_pairingsIn_46 : decode cX1_pairingsIn 46 = .ok (.iload 4, 2) := by decide +kernel
theorem dX1_pairingsIn_48 : decode cX1_pairingsIn 48 = .ok (.if_icmp .ge 43, 3) := by decide +kernel
theorem dX1_pairingsIn_51 : decode cX1_pairingsIn 51 = .ok (.lload 7, 2) := by decide +kernel
theorem dX1_pairingsIn_53 : decode cX1_pairingsIn 53 = .ok (.lload 7, 2) := by decide +kernel
theorem dX1_pairingsIn_55 : decode cX1_pairingsIn 55 = .ok (.lneg, 1) := by decide +kernel
theorem dX1_pairingsIn_56 : decode cX1_pairingsIn 56 = .ok (.land, 1) := by decide +kernel
theorem dX1_pairingsIn_57 : decode cX1_pairingsIn 57 = .ok (.lstore 10, 2) := by decide +kernel
theorem dX1_pairingsIn_59 : decode cX1_pairingsIn 59 = .ok (.lload 7, 2) := by decide +kernel
theorem dX1_pairingsIn_61 : decode cX1_pairingsIn 61 = .ok (.lload 10, 2) := by decide +kernel
theorem dX1_pairingsIn_63 : decode cX1_pairingsIn 63 = .ok (.lxor, 1) := by decide +kernel
theorem dX1_pairingsIn_64 : decode cX1_pairingsIn 64 = .ok (.lstore 7, 2) := by decide +kernel
theorem dX1_pairingsIn_66 : decode cX1_pairingsIn 66 = .ok (.lload 5, 2) := by decide +kernel
theorem dX1_pairingsIn_68 : decode cX1_pairingsIn 68 = .ok (.aload_n 0, 1) := by decide +kernel
theorem dX1_pairingsIn_69 : decode cX1_pairingsIn 69 = .ok (.aload_n 0, 1) := by decide +kernel
theorem dX1_pairingsIn_70 : decode cX1_pairingsIn 70 = .ok (.lload_n 1, 1) := by decide +kernel
theorem dX1_pairingsIn_71 : decode cX1_pairingsIn 71 = .ok (.lload 10, 2) := by decide +kernel
theorem dX1_pairingsIn_73 : decode cX1_pairingsIn 73 = .ok (.invokevirtual 119, 3) := by decide +kernel
theorem dX1_pairingsIn_76 : decode cX1_pairingsIn 76 = .ok (.iload_n 3, 1) := by decide +kernel
theorem dX1_pairingsIn_77 : decode cX1_pairingsIn 77 = .ok (.iconst 1, 1) := by decide +kernel
theorem dX1_pairingsIn_78 : decode cX1_pairingsIn 78 = .ok (.isub, 1) := by decide +kernel
theorem dX1_pairingsIn_79 : decode cX1_pairingsIn 79 = .ok (.invokevirtual 109, 3) := by decide +kernel
theorem dX1_pairingsIn_82 : decode cX1_pairingsIn 82 = .ok (.ladd, 1) := by decide +kernel
theorem dX1_pairingsIn_83 : decode cX1_pairingsIn 83 = .ok (.lstore 5, 2) := by decide +kernel
theorem dX1_pairingsIn_85 : decode cX1_pairingsIn 85 = .ok (.iinc 9 1, 3) := by decide +kernel
theorem dX1_pairingsIn_88 : decode cX1_pairingsIn 88 = .ok (.goto (-44), 3) := by decide +kernel
theorem dX1_pairingsIn_91 : decode cX1_pairingsIn 91 = .ok (.lload 5, 2) := by decide +kernel
theorem dX1_pairingsIn_93 : decode cX1_pairingsIn 93 = .ok (.lreturn, 1) := by decide +kernel
set_option maxRecDepth 20000 in
theorem ggX1_freeBelow_J13_bitCount_95d88 : GoodIn wsX1_freeBelow wsJ13_bitCount_95d88 := goodIn_r _ [5, 6, 7, 8] (by decide +kernel) (by decide +kernel)
set_option maxRecDepth 20000 in
theorem gX1_freeBelow_J13_bitCount_95d88 : GoodIn wsX1_freeBelow (va_wsS RX1 113 yJ13_bitCount_95d88 wsJ13_bitCount_95d88) := goodIn_app (goodIn_of _ (by decide +kernel)) ggX1_freeBelow_J13_bitCount_95d88
set_option maxRecDepth 20000 in
theorem ggX1_freeBelow_X1_hasLine : GoodIn wsX1_freeBelow wsX1_hasLine := goodIn_r _ [13, 14, 22, 23, 24, 25, 26, 27, 28, 29, 30, 31, 32] (by decide +kernel) (by decide +kernel)
set_option maxRecDepth 20000 in
theorem gX1_freeBelow_X1_hasLine : GoodIn wsX1_freeBelow (wsV RX1 122 RX1 yX1_hasLine wsX1_hasLine) := goodIn_app (goodIn_of _ (by decide +kernel)) ggX1_freeBelow_X1_hasLine
set_option maxRecDepth 20000 in
theorem ggX1_freeBelow_X1_meeting : GoodIn wsX1_freeBelow wsX1_meeting := goodIn_r _ [18, 19, 20, 21, 22, 23, 24, 25, 26, 27, 28, 29, 30, 31, 32] (by decide +kernel) (by decide +kernel)
set_option maxRecDepth 20000 in
theorem gX1_freeBelow_X1_meeting : GoodIn wsX1_freeBelow (wsV RX1 125 RX1 yX1_meeting wsX1_meeting) := goodIn_app (goodIn_of _ (by decide +kernel)) ggX1_freeBelow_X1_meeting
theorem dX1_freeBelow_0 : decode cX1_freeBelow 0 = .ok (.lload_n 3, 1) := by decide +kernel
theorem dX1_freeBelow_1 : decode cX1_freeBelow 1 = .ok (.lconst 1, 1) := by decide +kernel
theorem dX1_freeBelow_2 : decode cX1_freeBelow 2 = .ok (.lsub, 1) := by decide +kernel
theorem dX1_freeBelow_3 : decode cX1_freeBelow 3 = .ok (.invokestatic 113, 3) := by decide +kernel
theorem dX1_freeBelow_6 : decode cX1_freeBelow 6 = .ok (.istore 5, 2) := by decide +kernel
theorem dX1_freeBelow_8 : decode cX1_freeBelow 8 = .ok (.aload_n 0, 1) := by decide +kernel
theorem dX1_freeBelow_9 : decode cX1_freeBelow 9 = .ok (.iload 5, 2) := by decide +kernel
theorem dX1_freeBelow_11 : decode cX1_freeBelow 11 = .ok (.invokevirtual 122, 3) := by decide +kernel
theorem dX1_freeBelow_14 : decode cX1_freeBelow 14 = .ok (.ifCond .eq 22, 3) := by decide +kernel
theorem dX1_freeBelow_17 : decode cX1_freeBelow 17 = .ok (.lload_n 1, 1) := by decide +kernel
theorem dX1_freeBelow_18 : decode cX1_freeBelow 18 = .ok (.lload_n 3, 1) := by decide +kernel
theorem dX1_freeBelow_19 : decode cX1_freeBelow 19 = .ok (.lconst 1, 1) := by decide +kernel
theorem dX1_freeBelow_20 : decode cX1_freeBelow 20 = .ok (.lsub, 1) := by decide +kernel
theorem dX1_freeBelow_21 : decode cX1_freeBelow 21 = .ok (.land, 1) := by decide +kernel
theorem dX1_freeBelow_22 : decode cX1_freeBelow 22 = .ok (.aload_n 0, 1) := by decide +kernel
theorem dX1_freeBelow_23 : decode cX1_freeBelow 23 = .ok (.iload 5, 2) := by decide +kernel
theorem dX1_freeBelow_25 : decode cX1_freeBelow 25 = .ok (.invokevirtual 125, 3) := by decide +kernel
theorem dX1_freeBelow_28 : decode cX1_freeBelow 28 = .ok (.ldc2_w 93, 3) := by decide +kernel
theorem dX1_freeBelow_31 : decode cX1_freeBelow 31 = .ok (.lxor, 1) := by decide +kernel
theorem dX1_freeBelow_32 : decode cX1_freeBelow 32 = .ok (.land, 1) := by decide +kernel
theorem dX1_freeBelow_33 : decode cX1_freeBelow 33 = .ok (.goto 4, 3) := by decide +kernel
theorem dX1_freeBelow_36 : decode cX1_freeBelow 36 = .ok (.lconst 0, 1) := by decide +kernel
theorem dX1_freeBelow_37 : decode cX1_freeBelow 37 = .ok (.lreturn, 1) := by decide +kernel
set_option maxRecDepth 20000 in
theorem ggX1_pairingAt_X1_allLines : GoodIn wsX1_pairingAt wsX1_allLines := goodIn_r _ [6, 7, 34, 35, 36, 37, 38, 39, 40, 41, 42, 43, 44] (by decide +kernel) (by decide +kernel)
set_option maxRecDepth 20000 in
theorem gX1_pairingAt_X1_allLines : GoodIn wsX1_pairingAt (wsV RX1 89 RX1 yX1_allLines wsX1_allLines) := goodIn_app (goodIn_of _ (by decide +kernel)) ggX1_pairingAt_X1_allLines
set_option maxRecDepth 20000 in
theorem ggX1_pairingAt_J13_bitCount_95d88 : GoodIn wsX1_pairingAt wsJ13_bitCount_95d88 := goodIn_r _ [11, 12, 13, 14] (by decide +kernel) (by decide +kernel)
set_option maxRecDepth 20000 in
theorem gX1_pairingAt_J13_bitCount_95d88 : GoodIn wsX1_pairingAt (va_wsS RX1 113 yJ13_bitCount_95d88 wsJ13_bitCount_95d88) := goodIn_app (goodIn_of _ (by decide +kernel)) ggX1_pairingAt_J13_bitCount_95d88
set_option maxRecDepth 20000 in
theorem ggX1_pairingAt_X1_freeBelow : GoodIn wsX1_pairingAt wsX1_freeBelow := goodIn_r _ [18, 1, 8, 9, 10, 11, 12, 13, 14, 19, 20, 21, 5, 22, 7, 23, 24, 25, 26, 27, 28, 29, 34, 35, 36, 37, 38, 39, 40, 41, 42, 43, 44] (by decide +kernel) (by decide +kernel)
set_option maxRecDepth 20000 in
theorem gX1_pairingAt_X1_freeBelow : GoodIn wsX1_pairingAt (wsV RX1 119 RX1 yX1_freeBelow wsX1_freeBelow) := goodIn_app (goodIn_of _ (by decide +kernel)) ggX1_pairingAt_X1_freeBelow
set_option maxRecDepth 20000 in
theorem ggX1_pairingAt_X1_pairingsIn : GoodIn wsX1_pairingAt wsX1_pairingsIn := goodIn_r _ [33, 8, 9, 10, 11, 12, 13, 14, 15, 16, 17, 5, 18, 1, 19, 20, 21, 22, 7, 23, 24, 25, 26, 27, 28, 29, 30, 31, 32, 34, 35, 36, 37, 38, 39, 40, 41, 42, 43, 44] (by decide +kernel) (by decide +kernel)
set_option maxRecDepth 20000 in
theorem gX1_pairingAt_X1_pairingsIn : GoodIn wsX1_pairingAt (wsV RX1 109 RX1 yX1_pairingsIn wsX1_pairingsIn) := goodIn_app (goodIn_of _ (by decide +kernel)) ggX1_pairingAt_X1_pairingsIn
theorem dX1_pairingAt_0 : decode cX1_pairingAt 0 = .ok (.lconst 0, 1) := by decide +kernel
theorem dX1_pairingAt_1 : decode cX1_pairingAt 1 = .ok (.lstore_n 3, 1) := by decide +kernel
theorem dX1_pairingAt_2 : decode cX1_pairingAt 2 = .ok (.aload_n 0, 1) := by decide +kernel
theorem dX1_pairingAt_3 : decode cX1_pairingAt 3 = .ok (.invokevirtual 89, 3) := by decide +kernel
theorem dX1_pairingAt_6 : decode cX1_pairingAt 6 = .ok (.lstore 5, 2) := by decide +kernel
theorem dX1_pairingAt_8 : decode cX1_pairingAt 8 = .ok (.iload_n 2, 1) := by decide +kernel
theorem dX1_pairingAt_9 : decode cX1_pairingAt 9 = .ok (.i2l, 1) := by decide +kernel
theorem dX1_pairingAt_10 : decode cX1_pairingAt 10 = .ok (.lstore 7, 2) := by decide +kernel
theorem dX1_pairingAt_12 : decode cX1_pairingAt 12 = .ok (.iload_n 1, 1) := by decide +kernel
theorem dX1_pairingAt_13 : decode cX1_pairingAt 13 = .ok (.istore 9, 2) := by decide +kernel
theorem dX1_pairingAt_15 : decode cX1_pairingAt 15 = .ok (.iload 9, 2) := by decide +kernel
theorem dX1_pairingAt_17 : decode cX1_pairingAt 17 = .ok (.ifCond .le 122, 3) := by decide +kernel
theorem dX1_pairingAt_20 : decode cX1_pairingAt 20 = .ok (.lconst 0, 1) := by decide +kernel
theorem dX1_pairingAt_21 : decode cX1_pairingAt 21 = .ok (.lstore 10, 2) := by decide +kernel
theorem dX1_pairingAt_23 : decode cX1_pairingAt 23 = .ok (.lload 5, 2) := by decide +kernel
theorem dX1_pairingAt_25 : decode cX1_pairingAt 25 = .ok (.lstore 12, 2) := by decide +kernel
theorem dX1_pairingAt_27 : decode cX1_pairingAt 27 = .ok (.lload 5, 2) := by decide +kernel
theorem dX1_pairingAt_29 : decode cX1_pairingAt 29 = .ok (.invokestatic 113, 3) := by decide +kernel
theorem dX1_pairingAt_32 : decode cX1_pairingAt 32 = .ok (.istore 14, 2) := by decide +kernel
theorem dX1_pairingAt_34 : decode cX1_pairingAt 34 = .ok (.iload 14, 2) := by decide +kernel
theorem dX1_pairingAt_36 : decode cX1_pairingAt 36 = .ok (.ifCond .le 71, 3) := by decide +kernel
theorem dX1_pairingAt_39 : decode cX1_pairingAt 39 = .ok (.lload 10, 2) := by decide +kernel
theorem dX1_pairingAt_41 : decode cX1_pairingAt 41 = .ok (.lconst 0, 1) := by decide +kernel
theorem dX1_pairingAt_42 : decode cX1_pairingAt 42 = .ok (.lcmp, 1) := by decide +kernel
theorem dX1_pairingAt_43 : decode cX1_pairingAt 43 = .ok (.ifCond .ne 64, 3) := by decide +kernel
theorem dX1_pairingAt_46 : decode cX1_pairingAt 46 = .ok (.lload 12, 2) := by decide +kernel
theorem dX1_pairingAt_48 : decode cX1_pairingAt 48 = .ok (.lload 12, 2) := by decide +kernel
theorem dX1_pairingAt_50 : decode cX1_pairingAt 50 = .ok (.lneg, 1) := by decide +kernel
theorem dX1_pairingAt_51 : decode cX1_pairingAt 51 = .ok (.land, 1) := by decide +kernel
theorem dX1_pairingAt_52 : decode cX1_pairingAt 52 = .ok (.lstore 15, 2) := by decide +kernel
theorem dX1_pairingAt_54 : decode cX1_pairingAt 54 = .ok (.lload 12, 2) := by decide +kernel
theorem dX1_pairingAt_56 : decode cX1_pairingAt 56 = .ok (.lload 15, 2) := by decide +kernel
theorem dX1_pairingAt_58 : decode cX1_pairingAt 58 = .ok (.lxor, 1) := by decide +kernel
theorem dX1_pairingAt_59 : decode cX1_pairingAt 59 = .ok (.lstore 12, 2) := by decide +kernel
theorem dX1_pairingAt_61 : decode cX1_pairingAt 61 = .ok (.aload_n 0, 1) := by decide +kernel
theorem dX1_pairingAt_62 : decode cX1_pairingAt 62 = .ok (.aload_n 0, 1) := by decide +kernel
theorem dX1_pairingAt_63 : decode cX1_pairingAt 63 = .ok (.lload 5, 2) := by decide +kernel
theorem dX1_pairingAt_65 : decode cX1_pairingAt 65 = .ok (.lload 15, 2) := by decide +kernel
theorem dX1_pairingAt_67 : decode cX1_pairingAt 67 = .ok (.invokevirtual 119, 3) := by decide +kernel
theorem dX1_pairingAt_70 : decode cX1_pairingAt 70 = .ok (.iload 9, 2) := by decide +kernel
theorem dX1_pairingAt_72 : decode cX1_pairingAt 72 = .ok (.iconst 1, 1) := by decide +kernel
theorem dX1_pairingAt_73 : decode cX1_pairingAt 73 = .ok (.isub, 1) := by decide +kernel
theorem dX1_pairingAt_74 : decode cX1_pairingAt 74 = .ok (.invokevirtual 109, 3) := by decide +kernel
theorem dX1_pairingAt_77 : decode cX1_pairingAt 77 = .ok (.lstore 17, 2) := by decide +kernel
theorem dX1_pairingAt_79 : decode cX1_pairingAt 79 = .ok (.lload 7, 2) := by decide +kernel
theorem dX1_pairingAt_81 : decode cX1_pairingAt 81 = .ok (.lload 17, 2) := by decide +kernel
theorem dX1_pairingAt_83 : decode cX1_pairingAt 83 = .ok (.lcmp, 1) := by decide +kernel
theorem dX1_pairingAt_84 : decode cX1_pairingAt 84 = .ok (.ifCond .ge 10, 3) := by decide +kernel
theorem dX1_pairingAt_87 : decode cX1_pairingAt 87 = .ok (.lload 15, 2) := by decide +kernel
theorem dX1_pairingAt_89 : decode cX1_pairingAt 89 = .ok (.lstore 10, 2) := by decide +kernel
theorem dX1_pairingAt_91 : decode cX1_pairingAt 91 = .ok (.goto 10, 3) := by decide +kernel
theorem dX1_pairingAt_94 : decode cX1_pairingAt 94 = .ok (.lload 7, 2) := by decide +kernel
theorem dX1_pairingAt_96 : decode cX1_pairingAt 96 = .ok (.lload 17, 2) := by decide +kernel
theorem dX1_pairingAt_98 : decode cX1_pairingAt 98 = .ok (.lsub, 1) := by decide +kernel
theorem dX1_pairingAt_99 : decode cX1_pairingAt 99 = .ok (.lstore 7, 2) := by decide +kernel
theorem dX1_pairingAt_101 : decode cX1_pairingAt 101 = .ok (.iinc 14 (-1), 3) := by decide +kernel
theorem dX1_pairingAt_104 : decode cX1_pairingAt 104 = .ok (.goto (-70), 3) := by decide +kernel
theorem dX1_pairingAt_107 : decode cX1_pairingAt 107 = .ok (.lload 10, 2) := by decide +kernel
theorem dX1_pairingAt_109 : decode cX1_pairingAt 109 = .ok (.lconst 0, 1) := by decide +kernel
theorem dX1_pairingAt_110 : decode cX1_pairingAt 110 = .ok (.lcmp, 1) := by decide +kernel
theorem dX1_pairingAt_111 : decode cX1_pairingAt 111 = .ok (.ifCond .ne 7, 3) := by decide +kernel
theorem dX1_pairingAt_114 : decode cX1_pairingAt 114 = .ok (.ldc2_w 93, 3) := by decide +kernel
theorem dX1_pairingAt_117 : decode cX1_pairingAt 117 = .ok (.lreturn, 1) := by decide +kernel
theorem dX1_pairingAt_118 : decode cX1_pairingAt 118 = .ok (.lload_n 3, 1) := by decide +kernel
theorem dX1_pairingAt_119 : decode cX1_pairingAt 119 = .ok (.lload 10, 2) := by decide +kernel
theorem dX1_pairingAt_121 : decode cX1_pairingAt 121 = .ok (.lor, 1) := by decide +kernel
theorem dX1_pairingAt_122 : decode cX1_pairingAt 122 = .ok (.lstore_n 3, 1) := by decide +kernel
theorem dX1_pairingAt_123 : decode cX1_pairingAt 123 = .ok (.aload_n 0, 1) := by decide +kernel
theorem dX1_pairingAt_124 : decode cX1_pairingAt 124 = .ok (.lload 5, 2) := by decide +kernel
theorem dX1_pairingAt_126 : decode cX1_pairingAt 126 = .ok (.lload 10, 2) := by decide +kernel
theorem dX1_pairingAt_128 : decode cX1_pairingAt 128 = .ok (.invokevirtual 119, 3) := by decide +kernel
theorem dX1_pairingAt_131 : decode cX1_pairingAt 131 = .ok (.lstore 5, 2) := by decide +kernel
theorem dX1_pairingAt_133 : decode cX1_pairingAt 133 = .ok (.iinc 9 (-1), 3) := by decide +kernel
theorem dX1_pairingAt_136 : decode cX1_pairingAt 136 = .ok (.goto (-121), 3) := by decide +kernel
theorem dX1_pairingAt_139 : decode cX1_pairingAt 139 = .ok (.lload 7, 2) := by decide +kernel
theorem dX1_pairingAt_141 : decode cX1_pairingAt 141 = .ok (.lconst 0, 1) := by decide +kernel
theorem dX1_pairingAt_142 : decode cX1_pairingAt 142 = .ok (.lcmp, 1) := by decide +kernel
theorem dX1_pairingAt_143 : decode cX1_pairingAt 143 = .ok (.ifCond .ne 7, 3) := by decide +kernel
theorem dX1_pairingAt_146 : decode cX1_pairingAt 146 = .ok (.lload_n 3, 1) := by decide +kernel
theorem dX1_pairingAt_147 : decode cX1_pairingAt 147 = .ok (.goto 6, 3) := by decide +kernel
theorem dX1_pairingAt_150 : decode cX1_pairingAt 150 = .ok (.ldc2_w 93, 3) := by decide +kernel
theorem dX1_pairingAt_153 : decode cX1_pairingAt 153 = .ok (.lreturn, 1) := by decide +kernel
set_option maxRecDepth 20000 in
theorem ggX1_drawn_X1_meeting : GoodIn wsX1_drawn wsX1_meeting := goodIn_r _ [7, 8, 9, 10, 11, 12, 13, 14, 15, 16, 17, 18, 19, 20, 21] (by decide +kernel) (by decide +kernel)
set_option maxRecDepth 20000 in
theorem gX1_drawn_X1_meeting : GoodIn wsX1_drawn (wsV RX1 125 RX1 yX1_meeting wsX1_meeting) := goodIn_app (goodIn_of _ (by decide +kernel)) ggX1_drawn_X1_meeting
theorem dX1_drawn_0 : decode cX1_drawn 0 = .ok (.iload_n 1, 1) := by decide +kernel
theorem dX1_drawn_1 : decode cX1_drawn 1 = .ok (.istore_n 3, 1) := by decide +kernel
theorem dX1_drawn_2 : decode cX1_drawn 2 = .ok (.lconst 0, 1) := by decide +kernel
theorem dX1_drawn_3 : decode cX1_drawn 3 = .ok (.lstore 4, 2) := by decide +kernel
theorem dX1_drawn_5 : decode cX1_drawn 5 = .ok (.iconst 0, 1) := by decide +kernel
theorem dX1_drawn_6 : decode cX1_drawn 6 = .ok (.istore 6, 2) := by decide +kernel
theorem dX1_drawn_8 : decode cX1_drawn 8 = .ok (.iload 6, 2) := by decide +kernel
theorem dX1_drawn_10 : decode cX1_drawn 10 = .ok (.aload_n 0, 1) := by decide +kernel
theorem dX1_drawn_11 : decode cX1_drawn 11 = .ok (.getfield 38, 3) := by decide +kernel
theorem dX1_drawn_14 : decode cX1_drawn 14 = .ok (.if_icmp .ge 52, 3) := by decide +kernel
theorem dX1_drawn_17 : decode cX1_drawn 17 = .ok (.aload_n 0, 1) := by decide +kernel
theorem dX1_drawn_18 : decode cX1_drawn 18 = .ok (.iload 6, 2) := by decide +kernel
theorem dX1_drawn_20 : decode cX1_drawn 20 = .ok (.invokevirtual 125, 3) := by decide +kernel
theorem dX1_drawn_23 : decode cX1_drawn 23 = .ok (.lload 4, 2) := by decide +kernel
theorem dX1_drawn_25 : decode cX1_drawn 25 = .ok (.land, 1) := by decide +kernel
theorem dX1_drawn_26 : decode cX1_drawn 26 = .ok (.lconst 0, 1) := by decide +kernel
theorem dX1_drawn_27 : decode cX1_drawn 27 = .ok (.lcmp, 1) := by decide +kernel
theorem dX1_drawn_28 : decode cX1_drawn 28 = .ok (.ifCond .ne 32, 3) := by decide +kernel
theorem dX1_drawn_31 : decode cX1_drawn 31 = .ok (.iload_n 3, 1) := by decide +kernel
theorem dX1_drawn_32 : decode cX1_drawn 32 = .ok (.ldc 129, 2) := by decide +kernel
theorem dX1_drawn_34 : decode cX1_drawn 34 = .ok (.imul, 1) := by decide +kernel
theorem dX1_drawn_35 : decode cX1_drawn 35 = .ok (.sipush 12345, 3) := by decide +kernel
theorem dX1_drawn_38 : decode cX1_drawn 38 = .ok (.iadd, 1) := by decide +kernel
theorem dX1_drawn_39 : decode cX1_drawn 39 = .ok (.istore_n 3, 1) := by decide +kernel
theorem dX1_drawn_40 : decode cX1_drawn 40 = .ok (.iload_n 3, 1) := by decide +kernel
theorem dX1_drawn_41 : decode cX1_drawn 41 = .ok (.bipush 8, 2) := by decide +kernel
theorem dX1_drawn_43 : decode cX1_drawn 43 = .ok (.iushr, 1) := by decide +kernel
theorem dX1_drawn_44 : decode cX1_drawn 44 = .ok (.bipush 10, 2) := by decide +kernel
theorem dX1_drawn_46 : decode cX1_drawn 46 = .ok (.irem, 1) := by decide +kernel
theorem dX1_drawn_47 : decode cX1_drawn 47 = .ok (.iload_n 2, 1) := by decide +kernel
theorem dX1_drawn_48 : decode cX1_drawn 48 = .ok (.if_icmp .ge 12, 3) := by decide +kernel
theorem dX1_drawn_51 : decode cX1_drawn 51 = .ok (.lload 4, 2) := by decide +kernel
theorem dX1_drawn_53 : decode cX1_drawn 53 = .ok (.lconst 1, 1) := by decide +kernel
theorem dX1_drawn_54 : decode cX1_drawn 54 = .ok (.iload 6, 2) := by decide +kernel
theorem dX1_drawn_56 : decode cX1_drawn 56 = .ok (.lshl, 1) := by decide +kernel
theorem dX1_drawn_57 : decode cX1_drawn 57 = .ok (.lor, 1) := by decide +kernel
theorem dX1_drawn_58 : decode cX1_drawn 58 = .ok (.lstore 4, 2) := by decide +kernel
theorem dX1_drawn_60 : decode cX1_drawn 60 = .ok (.iinc 6 1, 3) := by decide +kernel
theorem dX1_drawn_63 : decode cX1_drawn 63 = .ok (.goto (-55), 3) := by decide +kernel
theorem dX1_drawn_66 : decode cX1_drawn 66 = .ok (.lload 4, 2) := by decide +kernel
theorem dX1_drawn_68 : decode cX1_drawn 68 = .ok (.lreturn, 1) := by decide +kernel
set_option maxRecDepth 20000 in
theorem ggX1_cutAsBits_X1_cutAt : GoodIn wsX1_cutAsBits wsX1_cutAt := goodIn_r _ [5, 6, 7, 8, 9, 10, 4, 11, 12, 13, 14, 15, 16, 17, 18, 19, 20, 21, 22, 23, 24, 25, 26, 27, 28, 29, 30, 1, 2, 3, 42, 43, 44, 45, 46, 47, 48, 49, 50, 51, 52] (by decide +kernel) (by decide +kernel)
set_option maxRecDepth 20000 in
theorem gX1_cutAsBits_X1_cutAt : GoodIn wsX1_cutAsBits (wsV RX1 130 RX1 yX1_cutAt wsX1_cutAt) := goodIn_app (goodIn_of _ (by decide +kernel)) ggX1_cutAsBits_X1_cutAt
set_option maxRecDepth 20000 in
theorem ggX1_cutAsBits_X0_ofFloat : GoodIn wsX1_cutAsBits wsX0_ofFloat := goodIn_r _ [34, 35, 36, 37, 33, 38, 39, 40, 41] (by decide +kernel) (by decide +kernel)
set_option maxRecDepth 20000 in
theorem gX1_cutAsBits_X0_ofFloat : GoodIn wsX1_cutAsBits (va_wsS RX1 134 yX0_ofFloat wsX0_ofFloat) := goodIn_app (goodIn_of _ (by decide +kernel)) ggX1_cutAsBits_X0_ofFloat
theorem dX1_cutAsBits_0 : decode cX1_cutAsBits 0 = .ok (.aload_n 0, 1) := by decide +kernel
theorem dX1_cutAsBits_1 : decode cX1_cutAsBits 1 = .ok (.iload_n 1, 1) := by decide +kernel
theorem dX1_cutAsBits_2 : decode cX1_cutAsBits 2 = .ok (.iload_n 2, 1) := by decide +kernel
theorem dX1_cutAsBits_3 : decode cX1_cutAsBits 3 = .ok (.iload_n 3, 1) := by decide +kernel
theorem dX1_cutAsBits_4 : decode cX1_cutAsBits 4 = .ok (.iload 4, 2) := by decide +kernel
theorem dX1_cutAsBits_6 : decode cX1_cutAsBits 6 = .ok (.invokevirtual 130, 3) := by decide +kernel
theorem dX1_cutAsBits_9 : decode cX1_cutAsBits 9 = .ok (.iconst 0, 1) := by decide +kernel
theorem dX1_cutAsBits_10 : decode cX1_cutAsBits 10 = .ok (.invokestatic 134, 3) := by decide +kernel
theorem dX1_cutAsBits_13 : decode cX1_cutAsBits 13 = .ok (.ireturn, 1) := by decide +kernel
set_option maxRecDepth 20000 in
theorem ggX1_cutAt_X1_weightBetween : GoodIn wsX1_cutAt wsX1_weightBetween := goodIn_r _ [7, 8, 9, 10, 6, 11, 12, 13, 14, 15, 16, 17, 18, 19, 20, 21, 22, 23, 24, 25, 26, 30, 31, 32, 33, 34, 35, 36, 37, 38, 39, 40] (by decide +kernel) (by decide +kernel)
set_option maxRecDepth 20000 in
theorem gX1_cutAt_X1_weightBetween : GoodIn wsX1_cutAt (wsV RX1 140 RX1 yX1_weightBetween wsX1_weightBetween) := goodIn_app (goodIn_of _ (by decide +kernel)) ggX1_cutAt_X1_weightBetween
set_option maxRecDepth 20000 in
theorem ggX1_cutAt_X1_cutAt : GoodIn wsX1_cutAt wsX1_cutAt := goodIn_r _ [0, 1, 2, 3, 4, 5, 6, 7, 8, 9, 10, 11, 12, 13, 14, 15, 16, 17, 18, 19, 20, 21, 22, 23, 24, 25, 26, 27, 28, 29, 30, 31, 32, 33, 34, 35, 36, 37, 38, 39, 40] (by decide +kernel) (by decide +kernel)
set_option maxRecDepth 20000 in
theorem gX1_cutAt_X1_cutAt : GoodIn wsX1_cutAt (wsV RX1 130 RX1 yX1_cutAt wsX1_cutAt) := goodIn_app (goodIn_of _ (by decide +kernel)) ggX1_cutAt_X1_cutAt
theorem dX1_cutAt_0 : decode cX1_cutAt 0 = .ok (.iload 4, 2) := by decide +kernel
theorem dX1_cutAt_2 : decode cX1_cutAt 2 = .ok (.ifCond .gt 5, 3) := by decide +kernel
theorem dX1_cutAt_5 : decode cX1_cutAt 5 = .ok (.fconst 1, 1) := by decide +kernel
theorem dX1_cutAt_6 : decode cX1_cutAt 6 = .ok (.freturn, 1) := by decide +kernel
theorem dX1_cutAt_7 : decode cX1_cutAt 7 = .ok (.iload_n 2, 1) := by decide +kernel
theorem dX1_cutAt_8 : decode cX1_cutAt 8 = .ok (.iconst 1, 1) := by decide +kernel
theorem dX1_cutAt_9 : decode cX1_cutAt 9 = .ok (.iload_n 1, 1) := by decide +kernel
theorem dX1_cutAt_10 : decode cX1_cutAt 10 = .ok (.ishl, 1) := by decide +kernel
theorem dX1_cutAt_11 : decode cX1_cutAt 11 = .ok (.ior, 1) := by decide +kernel
theorem dX1_cutAt_12 : decode cX1_cutAt 12 = .ok (.istore 5, 2) := by decide +kernel
theorem dX1_cutAt_14 : decode cX1_cutAt 14 = .ok (.aload_n 0, 1) := by decide +kernel
theorem dX1_cutAt_15 : decode cX1_cutAt 15 = .ok (.getfield 27, 3) := by decide +kernel
theorem dX1_cutAt_18 : decode cX1_cutAt 18 = .ok (.iload_n 1, 1) := by decide +kernel
theorem dX1_cutAt_19 : decode cX1_cutAt 19 = .ok (.iaload, 1) := by decide +kernel
theorem dX1_cutAt_20 : decode cX1_cutAt 20 = .ok (.iload 5, 2) := by decide +kernel
theorem dX1_cutAt_22 : decode cX1_cutAt 22 = .ok (.iconst (-1), 1) := by decide +kernel
theorem dX1_cutAt_23 : decode cX1_cutAt 23 = .ok (.ixor, 1) := by decide +kernel
theorem dX1_cutAt_24 : decode cX1_cutAt 24 = .ok (.iand, 1) := by decide +kernel
theorem dX1_cutAt_25 : decode cX1_cutAt 25 = .ok (.istore 6, 2) := by decide +kernel
theorem dX1_cutAt_27 : decode cX1_cutAt 27 = .ok (.fconst 1, 1) := by decide +kernel
theorem dX1_cutAt_28 : decode cX1_cutAt 28 = .ok (.fstore 7, 2) := by decide +kernel
theorem dX1_cutAt_30 : decode cX1_cutAt 30 = .ok (.iconst 0, 1) := by decide +kernel
theorem dX1_cutAt_31 : decode cX1_cutAt 31 = .ok (.istore 8, 2) := by decide +kernel
theorem dX1_cutAt_33 : decode cX1_cutAt 33 = .ok (.iload 8, 2) := by decide +kernel
theorem dX1_cutAt_35 : decode cX1_cutAt 35 = .ok (.aload_n 0, 1) := by decide +kernel
theorem dX1_cutAt_36 : decode cX1_cutAt 36 = .ok (.getfield 34, 3) := by decide +kernel
theorem dX1_cutAt_39 : decode cX1_cutAt 39 = .ok (.if_icmp .ge 48, 3) := by decide +kernel
theorem dX1_cutAt_42 : decode cX1_cutAt 42 = .ok (.iload 6, 2) := by decide +kernel
theorem dX1_cutAt_44 : decode cX1_cutAt 44 = .ok (.iload 8, 2) := by decide +kernel
theorem dX1_cutAt_46 : decode cX1_cutAt 46 = .ok (.ishr, 1) := by decide +kernel
theorem dX1_cutAt_47 : decode cX1_cutAt 47 = .ok (.iconst 1, 1) := by decide +kernel
theorem dX1_cutAt_48 : decode cX1_cutAt 48 = .ok (.iand, 1) := by decide +kernel
theorem dX1_cutAt_49 : decode cX1_cutAt 49 = .ok (.ifCond .eq 32, 3) := by decide +kernel
theorem dX1_cutAt_52 : decode cX1_cutAt 52 = .ok (.fload 7, 2) := by decide +kernel
theorem dX1_cutAt_54 : decode cX1_cutAt 54 = .ok (.iload_n 3, 1) := by decide +kernel
theorem dX1_cutAt_55 : decode cX1_cutAt 55 = .ok (.aload_n 0, 1) := by decide +kernel
theorem dX1_cutAt_56 : decode cX1_cutAt 56 = .ok (.iload_n 1, 1) := by decide +kernel
theorem dX1_cutAt_57 : decode cX1_cutAt 57 = .ok (.iload 8, 2) := by decide +kernel
theorem dX1_cutAt_59 : decode cX1_cutAt 59 = .ok (.invokevirtual 140, 3) := by decide +kernel
theorem dX1_cutAt_62 : decode cX1_cutAt 62 = .ok (.imul, 1) := by decide +kernel
theorem dX1_cutAt_63 : decode cX1_cutAt 63 = .ok (.i2f, 1) := by decide +kernel
theorem dX1_cutAt_64 : decode cX1_cutAt 64 = .ok (.aload_n 0, 1) := by decide +kernel
theorem dX1_cutAt_65 : decode cX1_cutAt 65 = .ok (.iload 8, 2) := by decide +kernel
theorem dX1_cutAt_67 : decode cX1_cutAt 67 = .ok (.iload 5, 2) := by decide +kernel
theorem dX1_cutAt_69 : decode cX1_cutAt 69 = .ok (.iload_n 3, 1) := by decide +kernel
theorem dX1_cutAt_70 : decode cX1_cutAt 70 = .ok (.iload 4, 2) := by decide +kernel
theorem dX1_cutAt_72 : decode cX1_cutAt 72 = .ok (.iconst 1, 1) := by decide +kernel
theorem dX1_cutAt_73 : decode cX1_cutAt 73 = .ok (.isub, 1) := by decide +kernel
theorem dX1_cutAt_74 : decode cX1_cutAt 74 = .ok (.invokevirtual 130, 3) := by decide +kernel
theorem dX1_cutAt_77 : decode cX1_cutAt 77 = .ok (.fmul, 1) := by decide +kernel
theorem dX1_cutAt_78 : decode cX1_cutAt 78 = .ok (.fadd, 1) := by decide +kernel
theorem dX1_cutAt_79 : decode cX1_cutAt 79 = .ok (.fstore 7, 2) := by decide +kernel
theorem dX1_cutAt_81 : decode cX1_cutAt 81 = .ok (.iinc 8 1, 3) := by decide +kernel
theorem dX1_cutAt_84 : decode cX1_cutAt 84 = .ok (.goto (-51), 3) := by decide +kernel
theorem dX1_cutAt_87 : decode cX1_cutAt 87 = .ok (.fconst 1, 1) := by decide +kernel
theorem dX1_cutAt_88 : decode cX1_cutAt 88 = .ok (.fload 7, 2) := by decide +kernel
theorem dX1_cutAt_90 : decode cX1_cutAt 90 = .ok (.fdiv, 1) := by decide +kernel
theorem dX1_cutAt_91 : decode cX1_cutAt 91 = .ok (.freturn, 1) := by decide +kernel
theorem dX2_init_0 : decode cX2_init 0 = .ok (.aload_n 0, 1) := by decide +kernel
theorem dX2_init_1 : decode cX2_init 1 = .ok (.invokespecial 3, 3) := by decide +kernel
theorem dX2_init_4 : decode cX2_init 4 = .ok (.aload_n 0, 1) := by decide +kernel
theorem dX2_init_5 : decode cX2_init 5 = .ok (.bipush 20, 2) := by decide +kernel
theorem dX2_init_7 : decode cX2_init 7 = .ok (.newarray .int, 2) := by decide +kernel
theorem dX2_init_9 : decode cX2_init 9 = .ok (.putfield 9, 3) := by decide +kernel
theorem dX2_init_12 : decode cX2_init 12 = .ok (.aload_n 0, 1) := by decide +kernel
theorem dX2_init_13 : decode cX2_init 13 = .ok (.bipush 20, 2) := by decide +kernel
theorem dX2_init_15 : decode cX2_init 15 = .ok (.newarray .int, 2) := by decide +kernel
theorem dX2_init_17 : decode cX2_init 17 = .ok (.putfield 15, 3) := by decide +kernel
theorem dX2_init_20 : decode cX2_init 20 = .ok (.aload_n 0, 1) := by decide +kernel
theorem dX2_init_21 : decode cX2_init 21 = .ok (.iconst (-1), 1) := by decide +kernel
theorem dX2_init_22 : decode cX2_init 22 = .ok (.putfield 18, 3) := by decide +kernel
theorem dX2_init_25 : decode cX2_init 25 = .ok (.aload_n 0, 1) := by decide +kernel
theorem dX2_init_26 : decode cX2_init 26 = .ok (.iconst 0, 1) := by decide +kernel
theorem dX2_init_27 : decode cX2_init 27 = .ok (.putfield 22, 3) := by decide +kernel
theorem dX2_init_30 : decode cX2_init 30 = .ok (.return_, 1) := by decide +kernel
set_option maxRecDepth 20000 in
theorem ggX2_begin_J7_fill_53178 : GoodIn wsX2_begin wsJ7_fill_53178 := goodIn_r _ [7] (by decide +kernel) (by decide +kernel)
set_option maxRecDepth 20000 in
theorem gX2_begin_J7_fill_53178 : GoodIn wsX2_begin (va_wsS RX2 25 yJ7_fill_53178 wsJ7_fill_53178) := goodIn_app (goodIn_of _ (by decide +kernel)) ggX2_begin_J7_fill_53178
theorem dX2_begin_0 : decode cX2_begin 0 = .ok (.aload_n 0, 1) := by decide +kernel
theorem dX2_begin_1 : decode cX2_begin 1 = .ok (.iload_n 1, 1) := by decide +kernel
theorem dX2_begin_2 : decode cX2_begin 2 = .ok (.putfield 18, 3) := by decide +kernel
theorem dX2_begin_5 : decode cX2_begin 5 = .ok (.aload_n 0, 1) := by decide +kernel
theorem dX2_begin_6 : decode cX2_begin 6 = .ok (.iload_n 1, 1) := by decide +kernel
theorem dX2_begin_7 : decode cX2_begin 7 = .ok (.iconst (-1), 1) := by decide +kernel
theorem dX2_begin_8 : decode cX2_begin 8 = .ok (.if_icmp .ne 7, 3) := by decide +kernel
theorem dX2_begin_11 : decode cX2_begin 11 = .ok (.iconst 0, 1) := by decide +kernel
theorem dX2_begin_12 : decode cX2_begin 12 = .ok (.goto 4, 3) := by decide +kernel
theorem dX2_begin_15 : decode cX2_begin 15 = .ok (.iload_n 2, 1) := by decide +kernel
theorem dX2_begin_16 : decode cX2_begin 16 = .ok (.putfield 22, 3) := by decide +kernel
theorem dX2_begin_19 : decode cX2_begin 19 = .ok (.aload_n 0, 1) := by decide +kernel
theorem dX2_begin_20 : decode cX2_begin 20 = .ok (.getfield 9, 3) := by decide +kernel
theorem dX2_begin_23 : decode cX2_begin 23 = .ok (.iconst (-1), 1) := by decide +kernel
theorem dX2_begin_24 : decode cX2_begin 24 = .ok (.invokestatic 25, 3) := by decide +kernel
theorem dX2_begin_27 : decode cX2_begin 27 = .ok (.return_, 1) := by decide +kernel
theorem dX2_faultAt_0 : decode cX2_faultAt 0 = .ok (.aload_n 0, 1) := by decide +kernel
theorem dX2_faultAt_1 : decode cX2_faultAt 1 = .ok (.getfield 18, 3) := by decide +kernel
theorem dX2_faultAt_4 : decode cX2_faultAt 4 = .ok (.iconst (-1), 1) := by decide +kernel
theorem dX2_faultAt_5 : decode cX2_faultAt 5 = .ok (.if_icmp .ne 6, 3) := by decide +kernel
theorem dX2_faultAt_8 : decode cX2_faultAt 8 = .ok (.bipush (-11), 2) := by decide +kernel
theorem dX2_faultAt_10 : decode cX2_faultAt 10 = .ok (.ireturn, 1) := by decide +kernel
theorem dX2_faultAt_11 : decode cX2_faultAt 11 = .ok (.iload_n 1, 1) := by decide +kernel
theorem dX2_faultAt_12 : decode cX2_faultAt 12 = .ok (.ifCond .lt 15, 3) := by decide +kernel
theorem dX2_faultAt_15 : decode cX2_faultAt 15 = .ok (.iload_n 1, 1) := by decide +kernel
theorem dX2_faultAt_16 : decode cX2_faultAt 16 = .ok (.aload_n 0, 1) := by decide +kernel
theorem dX2_faultAt_17 : decode cX2_faultAt 17 = .ok (.getfield 22, 3) := by decide +kernel
theorem dX2_faultAt_20 : decode cX2_faultAt 20 = .ok (.if_icmp .ge 7, 3) := by decide +kernel
theorem dX2_faultAt_23 : decode cX2_faultAt 23 = .ok (.iconst 0, 1) := by decide +kernel
theorem dX2_faultAt_24 : decode cX2_faultAt 24 = .ok (.goto 5, 3) := by decide +kernel
theorem dX2_faultAt_27 : decode cX2_faultAt 27 = .ok (.bipush (-12), 2) := by decide +kernel
theorem dX2_faultAt_29 : decode cX2_faultAt 29 = .ok (.ireturn, 1) := by decide +kernel
theorem dX2_isEmptyAt_0 : decode cX2_isEmptyAt 0 = .ok (.aload_n 0, 1) := by decide +kernel
theorem dX2_isEmptyAt_1 : decode cX2_isEmptyAt 1 = .ok (.getfield 9, 3) := by decide +kernel
theorem dX2_isEmptyAt_4 : decode cX2_isEmptyAt 4 = .ok (.iload_n 1, 1) := by decide +kernel
theorem dX2_isEmptyAt_5 : decode cX2_isEmptyAt 5 = .ok (.iaload, 1) := by decide +kernel
theorem dX2_isEmptyAt_6 : decode cX2_isEmptyAt 6 = .ok (.iconst (-1), 1) := by decide +kernel
theorem dX2_isEmptyAt_7 : decode cX2_isEmptyAt 7 = .ok (.if_icmp .ne 7, 3) := by decide +kernel
theorem dX2_isEmptyAt_10 : decode cX2_isEmptyAt 10 = .ok (.iconst 1, 1) := by decide +kernel
theorem dX2_isEmptyAt_11 : decode cX2_isEmptyAt 11 = .ok (.goto 4, 3) := by decide +kernel
theorem dX2_isEmptyAt_14 : decode cX2_isEmptyAt 14 = .ok (.iconst 0, 1) := by decide +kernel
theorem dX2_isEmptyAt_15 : decode cX2_isEmptyAt 15 = .ok (.ireturn, 1) := by decide +kernel
theorem dX2_put_0 : decode cX2_put 0 = .ok (.aload_n 0, 1) := by decide +kernel
theorem dX2_put_1 : decode cX2_put 1 = .ok (.getfield 9, 3) := by decide +kernel
theorem dX2_put_4 : decode cX2_put 4 = .ok (.iload_n 1, 1) := by decide +kernel
theorem dX2_put_5 : decode cX2_put 5 = .ok (.iload_n 2, 1) := by decide +kernel
theorem dX2_put_6 : decode cX2_put 6 = .ok (.iastore, 1) := by decide +kernel
theorem dX2_put_7 : decode cX2_put 7 = .ok (.aload_n 0, 1) := by decide +kernel
theorem dX2_put_8 : decode cX2_put 8 = .ok (.getfield 15, 3) := by decide +kernel
theorem dX2_put_11 : decode cX2_put 11 = .ok (.iload_n 1, 1) := by decide +kernel
theorem dX2_put_12 : decode cX2_put 12 = .ok (.iload_n 3, 1) := by decide +kernel
theorem dX2_put_13 : decode cX2_put 13 = .ok (.iastore, 1) := by decide +kernel
theorem dX2_put_14 : decode cX2_put 14 = .ok (.return_, 1) := by decide +kernel
theorem dX3_init_0 : decode cX3_init 0 = .ok (.aload_n 0, 1) := by decide +kernel
theorem dX3_init_1 : decode cX3_init 1 = .ok (.invokespecial 3, 3) := by decide +kernel
theorem dX3_init_4 : decode cX3_init 4 = .ok (.aload_n 0, 1) := by decide +kernel
theorem dX3_init_5 : decode cX3_init 5 = .ok (.bipush 60, 2) := by decide +kernel
theorem dX3_init_7 : decode cX3_init 7 = .ok (.newarray .int, 2) := by decide +kernel
theorem dX3_init_9 : decode cX3_init 9 = .ok (.putfield 9, 3) := by decide +kernel
theorem dX3_init_12 : decode cX3_init 12 = .ok (.aload_n 0, 1) := by decide +kernel
theorem dX3_init_13 : decode cX3_init 13 = .ok (.bipush 60, 2) := by decide +kernel
theorem dX3_init_15 : decode cX3_init 15 = .ok (.newarray .long, 2) := by decide +kernel
theorem dX3_init_17 : decode cX3_init 17 = .ok (.putfield 15, 3) := by decide +kernel
theorem dX3_init_20 : decode cX3_init 20 = .ok (.aload_n 0, 1) := by decide +kernel
theorem dX3_init_21 : decode cX3_init 21 = .ok (.bipush 60, 2) := by decide +kernel
theorem dX3_init_23 : decode cX3_init 23 = .ok (.newarray .float, 2) := by decide +kernel
theorem dX3_init_25 : decode cX3_init 25 = .ok (.putfield 19, 3) := by decide +kernel
theorem dX3_init_28 : decode cX3_init 28 = .ok (.aload_n 0, 1) := by decide +kernel
theorem dX3_init_29 : decode cX3_init 29 = .ok (.bipush 60, 2) := by decide +kernel
theorem dX3_init_31 : decode cX3_init 31 = .ok (.newarray .double, 2) := by decide +kernel
theorem dX3_init_33 : decode cX3_init 33 = .ok (.putfield 23, 3) := by decide +kernel
theorem dX3_init_36 : decode cX3_init 36 = .ok (.aload_n 0, 1) := by decide +kernel
theorem dX3_init_37 : decode cX3_init 37 = .ok (.bipush 60, 2) := by decide +kernel
theorem dX3_init_39 : decode cX3_init 39 = .ok (.newarray .int, 2) := by decide +kernel
theorem dX3_init_41 : decode cX3_init 41 = .ok (.putfield 27, 3) := by decide +kernel
theorem dX3_init_44 : decode cX3_init 44 = .ok (.aload_n 0, 1) := by decide +kernel
theorem dX3_init_45 : decode cX3_init 45 = .ok (.iconst (-1), 1) := by decide +kernel
theorem dX3_init_46 : decode cX3_init 46 = .ok (.putfield 30, 3) := by decide +kernel
theorem dX3_init_49 : decode cX3_init 49 = .ok (.aload_n 0, 1) := by decide +kernel
theorem dX3_init_50 : decode cX3_init 50 = .ok (.iconst 0, 1) := by decide +kernel
theorem dX3_init_51 : decode cX3_init 51 = .ok (.putfield 34, 3) := by decide +kernel
theorem dX3_init_54 : decode cX3_init 54 = .ok (.return_, 1) := by decide +kernel
theorem dX3_begin_0 : decode cX3_begin 0 = .ok (.aload_n 0, 1) := by decide +kernel
theorem dX3_begin_1 : decode cX3_begin 1 = .ok (.iload_n 1, 1) := by decide +kernel
theorem dX3_begin_2 : decode cX3_begin 2 = .ok (.putfield 30, 3) := by decide +kernel
theorem dX3_begin_5 : decode cX3_begin 5 = .ok (.aload_n 0, 1) := by decide +kernel
theorem dX3_begin_6 : decode cX3_begin 6 = .ok (.iload_n 1, 1) := by decide +kernel
theorem dX3_begin_7 : decode cX3_begin 7 = .ok (.iconst (-1), 1) := by decide +kernel
theorem dX3_begin_8 : decode cX3_begin 8 = .ok (.if_icmp .ne 7, 3) := by decide +kernel
theorem dX3_begin_11 : decode cX3_begin 11 = .ok (.iconst 0, 1) := by decide +kernel
theorem dX3_begin_12 : decode cX3_begin 12 = .ok (.goto 4, 3) := by decide +kernel
theorem dX3_begin_15 : decode cX3_begin 15 = .ok (.iload_n 2, 1) := by decide +kernel
theorem dX3_begin_16 : decode cX3_begin 16 = .ok (.putfield 34, 3) := by decide +kernel
theorem dX3_begin_19 : decode cX3_begin 19 = .ok (.iconst 0, 1) := by decide +kernel
theorem dX3_begin_20 : decode cX3_begin 20 = .ok (.istore_n 3, 1) := by decide +kernel
theorem dX3_begin_21 : decode cX3_begin 21 = .ok (.iload_n 3, 1) := by decide +kernel
theorem dX3_begin_22 : decode cX3_begin 22 = .ok (.bipush 60, 2) := by decide +kernel
theorem dX3_begin_24 : decode cX3_begin 24 = .ok (.if_icmp .ge 44, 3) := by decide +kernel
theorem dX3_begin_27 : decode cX3_begin 27 = .ok (.aload_n 0, 1) := by decide +kernel
theorem dX3_begin_28 : decode cX3_begin 28 = .ok (.getfield 9, 3) := by decide +kernel
theorem dX3_begin_31 : decode cX3_begin 31 = .ok (.iload_n 3, 1) := by decide +kernel
theorem dX3_begin_32 : decode cX3_begin 32 = .ok (.iconst 0, 1) := by decide +kernel
theorem dX3_begin_33 : decode cX3_begin 33 = .ok (.iastore, 1) := by decide +kernel
theorem dX3_begin_34 : decode cX3_begin 34 = .ok (.aload_n 0, 1) := by decide +kernel
theorem dX3_begin_35 : decode cX3_begin 35 = .ok (.getfield 15, 3) := by decide +kernel
theorem dX3_begin_38 : decode cX3_begin 38 = .ok (.iload_n 3, 1) := by decide +kernel
theorem dX3_begin_39 : decode cX3_begin 39 = .ok (.lconst 0, 1) := by decide +kernel
theorem dX3_begin_40 : decode cX3_begin 40 = .ok (.lastore, 1) := by decide +kernel
theorem dX3_begin_41 : decode cX3_begin 41 = .ok (.aload_n 0, 1) := by decide +kernel
theorem dX3_begin_42 : decode cX3_begin 42 = .ok (.getfield 19, 3) := by decide +kernel
theorem dX3_begin_45 : decode cX3_begin 45 = .ok (.iload_n 3, 1) := by decide +kernel
theorem dX3_begin_46 : decode cX3_begin 46 = .ok (.fconst 0, 1) := by decide +kernel
theorem dX3_begin_47 : decode cX3_begin 47 = .ok (.fastore, 1) := by decide +kernel
theorem dX3_begin_48 : decode cX3_begin 48 = .ok (.aload_n 0, 1) := by decide +kernel
theorem dX3_begin_49 : decode cX3_begin 49 = .ok (.getfield 23, 3) := by decide +kernel
theorem dX3_begin_52 : decode cX3_begin 52 = .ok (.iload_n 3, 1) := by decide +kernel
theorem dX3_begin_53 : decode cX3_begin 53 = .ok (.dconst 0, 1) := by decide +kernel
theorem dX3_begin_54 : decode cX3_begin 54 = .ok (.dastore, 1) := by decide +kernel
theorem dX3_begin_55 : decode cX3_begin 55 = .ok (.aload_n 0, 1) := by decide +kernel
theorem dX3_begin_56 : decode cX3_begin 56 = .ok (.getfield 27, 3) := by decide +kernel
theorem dX3_begin_59 : decode cX3_begin 59 = .ok (.iload_n 3, 1) := by decide +kernel
theorem dX3_begin_60 : decode cX3_begin 60 = .ok (.iconst 0, 1) := by decide +kernel
theorem dX3_begin_61 : decode cX3_begin 61 = .ok (.iastore, 1) := by decide +kernel
theorem dX3_begin_62 : decode cX3_begin 62 = .ok (.iinc 3 1, 3) := by decide +kernel
theorem dX3_begin_65 : decode cX3_begin 65 = .ok (.goto (-44), 3) := by decide +kernel
theorem dX3_begin_68 : decode cX3_begin 68 = .ok (.return_, 1) := by decide +kernel
theorem dX3_isMissing_0 : decode cX3_isMissing 0 = .ok (.aload_n 0, 1) := by decide +kernel
theorem dX3_isMissing_1 : decode cX3_isMissing 1 = .ok (.getfield 30, 3) := by decide +kernel
theorem dX3_isMissing_4 : decode cX3_isMissing 4 = .ok (.iconst (-1), 1) := by decide +kernel
theorem dX3_isMissing_5 : decode cX3_isMissing 5 = .ok (.if_icmp .ne 7, 3) := by decide +kernel
theorem dX3_isMissing_8 : decode cX3_isMissing 8 = .ok (.iconst 1, 1) := by decide +kernel
theorem dX3_isMissing_9 : decode cX3_isMissing 9 = .ok (.goto 4, 3) := by decide +kernel
theorem dX3_isMissing_12 : decode cX3_isMissing 12 = .ok (.iconst 0, 1) := by decide +kernel
theorem dX3_isMissing_13 : decode cX3_isMissing 13 = .ok (.ireturn, 1) := by decide +kernel
theorem dX3_hasPlace_0 : decode cX3_hasPlace 0 = .ok (.iload_n 1, 1) := by decide +kernel
theorem dX3_hasPlace_1 : decode cX3_hasPlace 1 = .ok (.ifCond .lt 15, 3) := by decide +kernel
theorem dX3_hasPlace_4 : decode cX3_hasPlace 4 = .ok (.iload_n 1, 1) := by decide +kernel
theorem dX3_hasPlace_5 : decode cX3_hasPlace 5 = .ok (.aload_n 0, 1) := by decide +kernel
theorem dX3_hasPlace_6 : decode cX3_hasPlace 6 = .ok (.getfield 34, 3) := by decide +kernel
theorem dX3_hasPlace_9 : decode cX3_hasPlace 9 = .ok (.if_icmp .ge 7, 3) := by decide +kernel
theorem dX3_hasPlace_12 : decode cX3_hasPlace 12 = .ok (.iconst 1, 1) := by decide +kernel
theorem dX3_hasPlace_13 : decode cX3_hasPlace 13 = .ok (.goto 4, 3) := by decide +kernel
theorem dX3_hasPlace_16 : decode cX3_hasPlace 16 = .ok (.iconst 0, 1) := by decide +kernel
theorem dX3_hasPlace_17 : decode cX3_hasPlace 17 = .ok (.ireturn, 1) := by decide +kernel
theorem dX3_hasRun_0 : decode cX3_hasRun 0 = .ok (.iload_n 1, 1) := by decide +kernel
theorem dX3_hasRun_1 : decode cX3_hasRun 1 = .ok (.ifCond .lt 29, 3) := by decide +kernel
theorem dX3_hasRun_4 : decode cX3_hasRun 4 = .ok (.iload_n 2, 1) := by decide +kernel
theorem dX3_hasRun_5 : decode cX3_hasRun 5 = .ok (.ifCond .lt 25, 3) := by decide +kernel
theorem dX3_hasRun_8 : decode cX3_hasRun 8 = .ok (.iload_n 1, 1) := by decide +kernel
theorem dX3_hasRun_9 : decode cX3_hasRun 9 = .ok (.aload_n 0, 1) := by decide +kernel
theorem dX3_hasRun_10 : decode cX3_hasRun 10 = .ok (.getfield 34, 3) := by decide +kernel
theorem dX3_hasRun_13 : decode cX3_hasRun 13 = .ok (.if_icmp .gt 17, 3) := by decide +kernel
theorem dX3_hasRun_16 : decode cX3_hasRun 16 = .ok (.iload_n 2, 1) := by decide +kernel
theorem dX3_hasRun_17 : decode cX3_hasRun 17 = .ok (.aload_n 0, 1) := by decide +kernel
theorem dX3_hasRun_18 : decode cX3_hasRun 18 = .ok (.getfield 34, 3) := by decide +kernel
theorem dX3_hasRun_21 : decode cX3_hasRun 21 = .ok (.iload_n 1, 1) := by decide +kernel
theorem dX3_hasRun_22 : decode cX3_hasRun 22 = .ok (.isub, 1) := by decide +kernel
theorem dX3_hasRun_23 : decode cX3_hasRun 23 = .ok (.if_icmp .gt 7, 3) := by decide +kernel
theorem dX3_hasRun_26 : decode cX3_hasRun 26 = .ok (.iconst 1, 1) := by decide +kernel
theorem dX3_hasRun_27 : decode cX3_hasRun 27 = .ok (.goto 4, 3) := by decide +kernel
theorem dX3_hasRun_30 : decode cX3_hasRun 30 = .ok (.iconst 0, 1) := by decide +kernel
theorem dX3_hasRun_31 : decode cX3_hasRun 31 = .ok (.ireturn, 1) := by decide +kernel
set_option maxRecDepth 20000 in
theorem ggX3_faultAt_X3_isMissing : GoodIn wsX3_faultAt wsX3_isMissing := goodIn_r _ [5, 6, 12, 13, 14, 15, 16, 17, 18] (by decide +kernel) (by decide +kernel)
set_option maxRecDepth 20000 in
theorem gX3_faultAt_X3_isMissing : GoodIn wsX3_faultAt (wsV RX3 37 RX3 yX3_isMissing wsX3_isMissing) := goodIn_app (goodIn_of _ (by decide +kernel)) ggX3_faultAt_X3_isMissing
set_option maxRecDepth 20000 in
theorem ggX3_faultAt_X3_hasPlace : GoodIn wsX3_faultAt wsX3_hasPlace := goodIn_r _ [10, 11, 12, 13, 14, 15, 16, 17, 18] (by decide +kernel) (by decide +kernel)
set_option maxRecDepth 20000 in
theorem gX3_faultAt_X3_hasPlace : GoodIn wsX3_faultAt (wsV RX3 41 RX3 yX3_hasPlace wsX3_hasPlace) := goodIn_app (goodIn_of _ (by decide +kernel)) ggX3_faultAt_X3_hasPlace
theorem dX3_faultAt_0 : decode cX3_faultAt 0 = .ok (.aload_n 0, 1) := by decide +kernel
theorem dX3_faultAt_1 : decode cX3_faultAt 1 = .ok (.invokevirtual 37, 3) := by decide +kernel
theorem dX3_faultAt_4 : decode cX3_faultAt 4 = .ok (.ifCond .eq 6, 3) := by decide +kernel
theorem dX3_faultAt_7 : decode cX3_faultAt 7 = .ok (.bipush (-11), 2) := by decide +kernel
theorem dX3_faultAt_9 : decode cX3_faultAt 9 = .ok (.ireturn, 1) := by decide +kernel
theorem dX3_faultAt_10 : decode cX3_faultAt 10 = .ok (.aload_n 0, 1) := by decide +kernel
theorem dX3_faultAt_11 : decode cX3_faultAt 11 = .ok (.iload_n 1, 1) := by decide +kernel
theorem dX3_faultAt_12 : decode cX3_faultAt 12 = .ok (.invokevirtual 41, 3) := by decide +kernel
theorem dX3_faultAt_15 : decode cX3_faultAt 15 = .ok (.ifCond .eq 7, 3) := by decide +kernel
theorem dX3_faultAt_18 : decode cX3_faultAt 18 = .ok (.iconst 0, 1) := by decide +kernel
theorem dX3_faultAt_19 : decode cX3_faultAt 19 = .ok (.goto 5, 3) := by decide +kernel
theorem dX3_faultAt_22 : decode cX3_faultAt 22 = .ok (.bipush (-12), 2) := by decide +kernel
theorem dX3_faultAt_24 : decode cX3_faultAt 24 = .ok (.ireturn, 1) := by decide +kernel
set_option maxRecDepth 20000 in
theorem ggX3_put_J13_compare_74951 : GoodIn wsX3_put wsJ13_compare_74951 := goodIn_r _ [10] (by decide +kernel) (by decide +kernel)
set_option maxRecDepth 20000 in
theorem gX3_put_J13_compare_74951 : GoodIn wsX3_put (va_wsS RX3 45 yJ13_compare_74951 wsJ13_compare_74951) := goodIn_app (goodIn_of _ (by decide +kernel)) ggX3_put_J13_compare_74951
theorem dX3_put_0 : decode cX3_put 0 = .ok (.aload_n 0, 1) := by decide +kernel
theorem dX3_put_1 : decode cX3_put 1 = .ok (.getfield 30, 3) := by decide +kernel
theorem dX3_put_4 : decode cX3_put 4 = .ok (.ifCond .ne 13, 3) := by decide +kernel
theorem dX3_put_7 : decode cX3_put 7 = .ok (.lload_n 2, 1) := by decide +kernel
theorem dX3_put_8 : decode cX3_put 8 = .ok (.lload_n 2, 1) := by decide +kernel
theorem dX3_put_9 : decode cX3_put 9 = .ok (.l2i, 1) := by decide +kernel
theorem dX3_put_10 : decode cX3_put 10 = .ok (.i2l, 1) := by decide +kernel
theorem dX3_put_11 : decode cX3_put 11 = .ok (.lcmp, 1) := by decide +kernel
theorem dX3_put_12 : decode cX3_put 12 = .ok (.ifCond .eq 5, 3) := by decide +kernel
theorem dX3_put_15 : decode cX3_put 15 = .ok (.iconst 0, 1) := by decide +kernel
theorem dX3_put_16 : decode cX3_put 16 = .ok (.ireturn, 1) := by decide +kernel
theorem dX3_put_17 : decode cX3_put 17 = .ok (.aload_n 0, 1) := by decide +kernel
theorem dX3_put_18 : decode cX3_put 18 = .ok (.getfield 27, 3) := by decide +kernel
theorem dX3_put_21 : decode cX3_put 21 = .ok (.iload_n 1, 1) := by decide +kernel
theorem dX3_put_22 : decode cX3_put 22 = .ok (.lload_n 2, 1) := by decide +kernel
theorem dX3_put_23 : decode cX3_put 23 = .ok (.lconst 0, 1) := by decide +kernel
theorem dX3_put_24 : decode cX3_put 24 = .ok (.invokestatic 45, 3) := by decide +kernel
theorem dX3_put_27 : decode cX3_put 27 = .ok (.iastore, 1) := by decide +kernel
theorem dX3_put_28 : decode cX3_put 28 = .ok (.aload_n 0, 1) := by decide +kernel
theorem dX3_put_29 : decode cX3_put 29 = .ok (.getfield 30, 3) := by decide +kernel
theorem dX3_put_32 : decode cX3_put 32 = .ok (.ifCond .ne 14, 3) := by decide +kernel
theorem dX3_put_35 : decode cX3_put 35 = .ok (.aload_n 0, 1) := by decide +kernel
theorem dX3_put_36 : decode cX3_put 36 = .ok (.getfield 9, 3) := by decide +kernel
theorem dX3_put_39 : decode cX3_put 39 = .ok (.iload_n 1, 1) := by decide +kernel
theorem dX3_put_40 : decode cX3_put 40 = .ok (.lload_n 2, 1) := by decide +kernel
theorem dX3_put_41 : decode cX3_put 41 = .ok (.l2i, 1) := by decide +kernel
theorem dX3_put_42 : decode cX3_put 42 = .ok (.iastore, 1) := by decide +kernel
theorem dX3_put_43 : decode cX3_put 43 = .ok (.goto 48, 3) := by decide +kernel
theorem dX3_put_46 : decode cX3_put 46 = .ok (.aload_n 0, 1) := by decide +kernel
theorem dX3_put_47 : decode cX3_put 47 = .ok (.getfield 30, 3) := by decide +kernel
theorem dX3_put_50 : decode cX3_put 50 = .ok (.iconst 1, 1) := by decide +kernel
theorem dX3_put_51 : decode cX3_put 51 = .ok (.if_icmp .ne 13, 3) := by decide +kernel
theorem dX3_put_54 : decode cX3_put 54 = .ok (.aload_n 0, 1) := by decide +kernel
theorem dX3_put_55 : decode cX3_put 55 = .ok (.getfield 15, 3) := by decide +kernel
theorem dX3_put_58 : decode cX3_put 58 = .ok (.iload_n 1, 1) := by decide +kernel
theorem dX3_put_59 : decode cX3_put 59 = .ok (.lload_n 2, 1) := by decide +kernel
theorem dX3_put_60 : decode cX3_put 60 = .ok (.lastore, 1) := by decide +kernel
theorem dX3_put_61 : decode cX3_put 61 = .ok (.goto 30, 3) := by decide +kernel
theorem dX3_put_64 : decode cX3_put 64 = .ok (.aload_n 0, 1) := by decide +kernel
theorem dX3_put_65 : decode cX3_put 65 = .ok (.getfield 30, 3) := by decide +kernel
theorem dX3_put_68 : decode cX3_put 68 = .ok (.iconst 2, 1) := by decide +kernel
theorem dX3_put_69 : decode cX3_put 69 = .ok (.if_icmp .ne 14, 3) := by decide +kernel
theorem dX3_put_72 : decode cX3_put 72 = .ok (.aload_n 0, 1) := by decide +kernel
theorem dX3_put_73 : decode cX3_put 73 = .ok (.getfield 19, 3) := by decide +kernel
theorem dX3_put_76 : decode cX3_put 76 = .ok (.iload_n 1, 1) := by decide +kernel
theorem dX3_put_77 : decode cX3_put 77 = .ok (.lload_n 2, 1) := by decide +kernel
theorem dX3_put_78 : decode cX3_put 78 = .ok (.l2f, 1) := by decide +kernel
theorem dX3_put_79 : decode cX3_put 79 = .ok (.fastore, 1) := by decide +kernel
theorem dX3_put_80 : decode cX3_put 80 = .ok (.goto 11, 3) := by decide +kernel
theorem dX3_put_83 : decode cX3_put 83 = .ok (.aload_n 0, 1) := by decide +kernel
theorem dX3_put_84 : decode cX3_put 84 = .ok (.getfield 23, 3) := by decide +kernel
theorem dX3_put_87 : decode cX3_put 87 = .ok (.iload_n 1, 1) := by decide +kernel
theorem dX3_put_88 : decode cX3_put 88 = .ok (.lload_n 2, 1) := by decide +kernel
theorem dX3_put_89 : decode cX3_put 89 = .ok (.l2d, 1) := by decide +kernel
theorem dX3_put_90 : decode cX3_put 90 = .ok (.dastore, 1) := by decide +kernel
theorem dX3_put_91 : decode cX3_put 91 = .ok (.iconst 1, 1) := by decide +kernel
theorem dX3_put_92 : decode cX3_put 92 = .ok (.ireturn, 1) := by decide +kernel
theorem dX3_holds_0 : decode cX3_holds 0 = .ok (.aload_n 0, 1) := by decide +kernel
theorem dX3_holds_1 : decode cX3_holds 1 = .ok (.getfield 30, 3) := by decide +kernel
theorem dX3_holds_4 : decode cX3_holds 4 = .ok (.tableswitch 81 0 2 #[28, 46, 63], 28) := by decide +kernel
theorem dX3_holds_32 : decode cX3_holds 32 = .ok (.aload_n 0, 1) := by decide +kernel
theorem dX3_holds_33 : decode cX3_holds 33 = .ok (.getfield 9, 3) := by decide +kernel
theorem dX3_holds_36 : decode cX3_holds 36 = .ok (.iload_n 1, 1) := by decide +kernel
theorem dX3_holds_37 : decode cX3_holds 37 = .ok (.iaload, 1) := by decide +kernel
theorem dX3_holds_38 : decode cX3_holds 38 = .ok (.i2l, 1) := by decide +kernel
theorem dX3_holds_39 : decode cX3_holds 39 = .ok (.lload_n 2, 1) := by decide +kernel
theorem dX3_holds_40 : decode cX3_holds 40 = .ok (.lcmp, 1) := by decide +kernel
theorem dX3_holds_41 : decode cX3_holds 41 = .ok (.ifCond .ne 7, 3) := by decide +kernel
theorem dX3_holds_44 : decode cX3_holds 44 = .ok (.iconst 1, 1) := by decide +kernel
theorem dX3_holds_45 : decode cX3_holds 45 = .ok (.goto 4, 3) := by decide +kernel
theorem dX3_holds_48 : decode cX3_holds 48 = .ok (.iconst 0, 1) := by decide +kernel
theorem dX3_holds_49 : decode cX3_holds 49 = .ok (.ireturn, 1) := by decide +kernel
theorem dX3_holds_50 : decode cX3_holds 50 = .ok (.aload_n 0, 1) := by decide +kernel
theorem dX3_holds_51 : decode cX3_holds 51 = .ok (.getfield 15, 3) := by decide +kernel
theorem dX3_holds_54 : decode cX3_holds 54 = .ok (.iload_n 1, 1) := by decide +kernel
theorem dX3_holds_55 : decode cX3_holds 55 = .ok (.laload, 1) := by decide +kernel
theorem dX3_holds_56 : decode cX3_holds 56 = .ok (.lload_n 2, 1) := by decide +kernel
theorem dX3_holds_57 : decode cX3_holds 57 = .ok (.lcmp, 1) := by decide +kernel
theorem dX3_holds_58 : decode cX3_holds 58 = .ok (.ifCond .ne 7, 3) := by decide +kernel
theorem dX3_holds_61 : decode cX3_holds 61 = .ok (.iconst 1, 1) := by decide +kernel
theorem dX3_holds_62 : decode cX3_holds 62 = .ok (.goto 4, 3) := by decide +kernel
theorem dX3_holds_65 : decode cX3_holds 65 = .ok (.iconst 0, 1) := by decide +kernel
theorem dX3_holds_66 : decode cX3_holds 66 = .ok (.ireturn, 1) := by decide +kernel
theorem dX3_holds_67 : decode cX3_holds 67 = .ok (.aload_n 0, 1) := by decide +kernel
theorem dX3_holds_68 : decode cX3_holds 68 = .ok (.getfield 19, 3) := by decide +kernel
theorem dX3_holds_71 : decode cX3_holds 71 = .ok (.iload_n 1, 1) := by decide +kernel
theorem dX3_holds_72 : decode cX3_holds 72 = .ok (.faload, 1) := by decide +kernel
theorem dX3_holds_73 : decode cX3_holds 73 = .ok (.lload_n 2, 1) := by decide +kernel
theorem dX3_holds_74 : decode cX3_holds 74 = .ok (.l2f, 1) := by decide +kernel
theorem dX3_holds_75 : decode cX3_holds 75 = .ok (.fcmp .l, 1) := by decide +kernel
theorem dX3_holds_76 : decode cX3_holds 76 = .ok (.ifCond .ne 7, 3) := by decide +kernel
theorem dX3_holds_79 : decode cX3_holds 79 = .ok (.iconst 1, 1) := by decide +kernel
theorem dX3_holds_80 : decode cX3_holds 80 = .ok (.goto 4, 3) := by decide +kernel
theorem dX3_holds_83 : decode cX3_holds 83 = .ok (.iconst 0, 1) := by decide +kernel
theorem dX3_holds_84 : decode cX3_holds 84 = .ok (.ireturn, 1) := by decide +kernel
theorem dX3_holds_85 : decode cX3_holds 85 = .ok (.aload_n 0, 1) := by decide +kernel
theorem dX3_holds_86 : decode cX3_holds 86 = .ok (.getfield 23, 3) := by decide +kernel
theorem dX3_holds_89 : decode cX3_holds 89 = .ok (.iload_n 1, 1) := by decide +kernel
theorem dX3_holds_90 : decode cX3_holds 90 = .ok (.daload, 1) := by decide +kernel
theorem dX3_holds_91 : decode cX3_holds 91 = .ok (.lload_n 2, 1) := by decide +kernel
theorem dX3_holds_92 : decode cX3_holds 92 = .ok (.l2d, 1) := by decide +kernel
theorem dX3_holds_93 : decode cX3_holds 93 = .ok (.dcmp .l, 1) := by decide +kernel
theorem dX3_holds_94 : decode cX3_holds 94 = .ok (.ifCond .ne 7, 3) := by decide +kernel
theorem dX3_holds_97 : decode cX3_holds 97 = .ok (.iconst 1, 1) := by decide +kernel
theorem dX3_holds_98 : decode cX3_holds 98 = .ok (.goto 4, 3) := by decide +kernel
theorem dX3_holds_101 : decode cX3_holds 101 = .ok (.iconst 0, 1) := by decide +kernel
theorem dX3_holds_102 : decode cX3_holds 102 = .ok (.ireturn, 1) := by decide +kernel
set_option maxRecDepth 20000 in
theorem ggX3_readAs_X3_asItIs : GoodIn wsX3_readAs wsX3_asItIs := goodIn_r _ [5, 6, 7, 8, 9, 10, 11, 12, 13, 4, 14, 15, 16, 17, 18, 19, 20, 21, 22, 23, 24, 25, 26, 27, 28, 29, 30, 43, 44, 45, 46, 47, 48, 49] (by decide +kernel) (by decide +kernel)
set_option maxRecDepth 20000 in
theorem gX3_readAs_X3_asItIs : GoodIn wsX3_readAs (wsV RX3 51 RX3 yX3_asItIs wsX3_asItIs) := goodIn_app (goodIn_of _ (by decide +kernel)) ggX3_readAs_X3_asItIs
set_option maxRecDepth 20000 in
theorem ggX3_readAs_X3_asInt : GoodIn wsX3_readAs wsX3_asInt := goodIn_r _ [34, 6, 7, 8, 9, 10, 43, 44, 45, 46, 47, 48, 49] (by decide +kernel) (by decide +kernel)
set_option maxRecDepth 20000 in
theorem gX3_readAs_X3_asInt : GoodIn wsX3_readAs (wsV RX3 55 RX3 yX3_asInt wsX3_asInt) := goodIn_app (goodIn_of _ (by decide +kernel)) ggX3_readAs_X3_asInt
set_option maxRecDepth 20000 in
theorem ggX3_readAs_X3_asLong : GoodIn wsX3_readAs wsX3_asLong := goodIn_r _ [38, 6, 7, 8, 9, 10, 43, 44, 45, 46, 47, 48, 49] (by decide +kernel) (by decide +kernel)
set_option maxRecDepth 20000 in
theorem gX3_readAs_X3_asLong : GoodIn wsX3_readAs (wsV RX3 59 RX3 yX3_asLong wsX3_asLong) := goodIn_app (goodIn_of _ (by decide +kernel)) ggX3_readAs_X3_asLong
set_option maxRecDepth 20000 in
theorem ggX3_readAs_X3_asFloat : GoodIn wsX3_readAs wsX3_asFloat := goodIn_r _ [42, 6, 7, 8, 9, 10, 43, 44, 45, 46, 47, 48, 49] (by decide +kernel) (by decide +kernel)
set_option maxRecDepth 20000 in
theorem gX3_readAs_X3_asFloat : GoodIn wsX3_readAs (wsV RX3 62 RX3 yX3_asFloat wsX3_asFloat) := goodIn_app (goodIn_of _ (by decide +kernel)) ggX3_readAs_X3_asFloat
set_option maxRecDepth 20000 in
theorem ggX3_readAs_X3_isNegative : GoodIn wsX3_readAs wsX3_isNegative := goodIn_r _ [14, 6, 7, 8, 15, 43, 44, 45, 46, 47, 48, 49] (by decide +kernel) (by decide +kernel)
set_option maxRecDepth 20000 in
theorem gX3_readAs_X3_isNegative : GoodIn wsX3_readAs (wsV RX3 66 RX3 yX3_isNegative wsX3_isNegative) := goodIn_app (goodIn_of _ (by decide +kernel)) ggX3_readAs_X3_isNegative
set_option maxRecDepth 20000 in
theorem ggX3_readAs_X0_ofFloat : GoodIn wsX3_readAs wsX0_ofFloat := goodIn_r _ [19, 20, 21, 22, 18, 23, 24, 25, 26] (by decide +kernel) (by decide +kernel)
set_option maxRecDepth 20000 in
theorem gX3_readAs_X0_ofFloat : GoodIn wsX3_readAs (va_wsS RX3 69 yX0_ofFloat wsX0_ofFloat) := goodIn_app (goodIn_of _ (by decide +kernel)) ggX3_readAs_X0_ofFloat
theorem dX3_readAs_0 : decode cX3_readAs 0 = .ok (.iload_n 2, 1) := by decide +kernel
theorem dX3_readAs_1 : decode cX3_readAs 1 = .ok (.tableswitch 65 0 3 #[31, 37, 44, 50], 31) := by decide +kernel
theorem dX3_readAs_32 : decode cX3_readAs 32 = .ok (.aload_n 0, 1) := by decide +kernel
theorem dX3_readAs_33 : decode cX3_readAs 33 = .ok (.iload_n 1, 1) := by decide +kernel
theorem dX3_readAs_34 : decode cX3_readAs 34 = .ok (.invokevirtual 51, 3) := by decide +kernel
theorem dX3_readAs_37 : decode cX3_readAs 37 = .ok (.lreturn, 1) := by decide +kernel
theorem dX3_readAs_38 : decode cX3_readAs 38 = .ok (.aload_n 0, 1) := by decide +kernel
theorem dX3_readAs_39 : decode cX3_readAs 39 = .ok (.iload_n 1, 1) := by decide +kernel
theorem dX3_readAs_40 : decode cX3_readAs 40 = .ok (.invokevirtual 55, 3) := by decide +kernel
theorem dX3_readAs_43 : decode cX3_readAs 43 = .ok (.i2l, 1) := by decide +kernel
theorem dX3_readAs_44 : decode cX3_readAs 44 = .ok (.lreturn, 1) := by decide +kernel
theorem dX3_readAs_45 : decode cX3_readAs 45 = .ok (.aload_n 0, 1) := by decide +kernel
theorem dX3_readAs_46 : decode cX3_readAs 46 = .ok (.iload_n 1, 1) := by decide +kernel
theorem dX3_readAs_47 : decode cX3_readAs 47 = .ok (.invokevirtual 59, 3) := by decide +kernel
theorem dX3_readAs_50 : decode cX3_readAs 50 = .ok (.lreturn, 1) := by decide +kernel
theorem dX3_readAs_51 : decode cX3_readAs 51 = .ok (.aload_n 0, 1) := by decide +kernel
theorem dX3_readAs_52 : decode cX3_readAs 52 = .ok (.iload_n 1, 1) := by decide +kernel
theorem dX3_readAs_53 : decode cX3_readAs 53 = .ok (.invokevirtual 62, 3) := by decide +kernel
theorem dX3_readAs_56 : decode cX3_readAs 56 = .ok (.aload_n 0, 1) := by decide +kernel
theorem dX3_readAs_57 : decode cX3_readAs 57 = .ok (.iload_n 1, 1) := by decide +kernel
theorem dX3_readAs_58 : decode cX3_readAs 58 = .ok (.invokevirtual 66, 3) := by decide +kernel
theorem dX3_readAs_61 : decode cX3_readAs 61 = .ok (.invokestatic 69, 3) := by decide +kernel
theorem dX3_readAs_64 : decode cX3_readAs 64 = .ok (.i2l, 1) := by decide +kernel
theorem dX3_readAs_65 : decode cX3_readAs 65 = .ok (.lreturn, 1) := by decide +kernel
theorem dX3_readAs_66 : decode cX3_readAs 66 = .ok (.aload_n 0, 1) := by decide +kernel
theorem dX3_readAs_67 : decode cX3_readAs 67 = .ok (.iload_n 1, 1) := by decide +kernel
theorem dX3_readAs_68 : decode cX3_readAs 68 = .ok (.invokevirtual 55, 3) := by decide +kernel
theorem dX3_readAs_71 : decode cX3_readAs 71 = .ok (.i2b, 1) := by decide +kernel
theorem dX3_readAs_72 : decode cX3_readAs 72 = .ok (.i2l, 1) := by decide +kernel
theorem dX3_readAs_73 : decode cX3_readAs 73 = .ok (.lreturn, 1) := by decide +kernel
set_option maxRecDepth 20000 in
theorem ggX3_asItIs_X3_isNegative : GoodIn wsX3_asItIs wsX3_isNegative := goodIn_r _ [10, 1, 2, 3, 11, 27, 28, 29, 30, 31, 32, 33] (by decide +kernel) (by decide +kernel)
set_option maxRecDepth 20000 in
theorem gX3_asItIs_X3_isNegative : GoodIn wsX3_asItIs (wsV RX3 66 RX3 yX3_isNegative wsX3_isNegative) := goodIn_app (goodIn_of _ (by decide +kernel)) ggX3_asItIs_X3_isNegative
set_option maxRecDepth 20000 in
theorem ggX3_asItIs_X0_ofFloat : GoodIn wsX3_asItIs wsX0_ofFloat := goodIn_r _ [15, 16, 17, 18, 14, 19, 20, 21, 22] (by decide +kernel) (by decide +kernel)
set_option maxRecDepth 20000 in
theorem gX3_asItIs_X0_ofFloat : GoodIn wsX3_asItIs (va_wsS RX3 69 yX0_ofFloat wsX0_ofFloat) := goodIn_app (goodIn_of _ (by decide +kernel)) ggX3_asItIs_X0_ofFloat
set_option maxRecDepth 20000 in
theorem ggX3_asItIs_X0_ofDouble : GoodIn wsX3_asItIs wsX0_ofDouble := goodIn_r _ [25, 26, 17, 18, 14, 19, 20, 21, 22] (by decide +kernel) (by decide +kernel)
set_option maxRecDepth 20000 in
theorem gX3_asItIs_X0_ofDouble : GoodIn wsX3_asItIs (va_wsS RX3 75 yX0_ofDouble wsX0_ofDouble) := goodIn_app (goodIn_of _ (by decide +kernel)) ggX3_asItIs_X0_ofDouble
theorem dX3_asItIs_0 : decode cX3_asItIs 0 = .ok (.aload_n 0, 1) := by decide +kernel
theorem dX3_asItIs_1 : decode cX3_asItIs 1 = .ok (.getfield 30, 3) := by decide +kernel
theorem dX3_asItIs_4 : decode cX3_asItIs 4 = .ok (.tableswitch 59 0 2 #[28, 36, 43], 28) := by decide +kernel
theorem dX3_asItIs_32 : decode cX3_asItIs 32 = .ok (.aload_n 0, 1) := by decide +kernel
theorem dX3_asItIs_33 : decode cX3_asItIs 33 = .ok (.getfield 9, 3) := by decide +kernel
theorem dX3_asItIs_36 : decode cX3_asItIs 36 = .ok (.iload_n 1, 1) := by decide +kernel
theorem dX3_asItIs_37 : decode cX3_asItIs 37 = .ok (.iaload, 1) := by decide +kernel
theorem dX3_asItIs_38 : decode cX3_asItIs 38 = .ok (.i2l, 1) := by decide +kernel
theorem dX3_asItIs_39 : decode cX3_asItIs 39 = .ok (.lreturn, 1) := by decide +kernel
theorem dX3_asItIs_40 : decode cX3_asItIs 40 = .ok (.aload_n 0, 1) := by decide +kernel
theorem dX3_asItIs_41 : decode cX3_asItIs 41 = .ok (.getfield 15, 3) := by decide +kernel
theorem dX3_asItIs_44 : decode cX3_asItIs 44 = .ok (.iload_n 1, 1) := by decide +kernel
theorem dX3_asItIs_45 : decode cX3_asItIs 45 = .ok (.laload, 1) := by decide +kernel
theorem dX3_asItIs_46 : decode cX3_asItIs 46 = .ok (.lreturn, 1) := by decide +kernel
theorem dX3_asItIs_47 : decode cX3_asItIs 47 = .ok (.aload_n 0, 1) := by decide +kernel
theorem dX3_asItIs_48 : decode cX3_asItIs 48 = .ok (.getfield 19, 3) := by decide +kernel
theorem dX3_asItIs_51 : decode cX3_asItIs 51 = .ok (.iload_n 1, 1) := by decide +kernel
theorem dX3_asItIs_52 : decode cX3_asItIs 52 = .ok (.faload, 1) := by decide +kernel
theorem dX3_asItIs_53 : decode cX3_asItIs 53 = .ok (.aload_n 0, 1) := by decide +kernel
theorem dX3_asItIs_54 : decode cX3_asItIs 54 = .ok (.iload_n 1, 1) := by decide +kernel
theorem dX3_asItIs_55 : decode cX3_asItIs 55 = .ok (.invokevirtual 66, 3) := by decide +kernel
theorem dX3_asItIs_58 : decode cX3_asItIs 58 = .ok (.invokestatic 69, 3) := by decide +kernel
theorem dX3_asItIs_61 : decode cX3_asItIs 61 = .ok (.i2l, 1) := by decide +kernel
theorem dX3_asItIs_62 : decode cX3_asItIs 62 = .ok (.lreturn, 1) := by decide +kernel
theorem dX3_asItIs_63 : decode cX3_asItIs 63 = .ok (.aload_n 0, 1) := by decide +kernel
theorem dX3_asItIs_64 : decode cX3_asItIs 64 = .ok (.getfield 23, 3) := by decide +kernel
theorem dX3_asItIs_67 : decode cX3_asItIs 67 = .ok (.iload_n 1, 1) := by decide +kernel
theorem dX3_asItIs_68 : decode cX3_asItIs 68 = .ok (.daload, 1) := by decide +kernel
theorem dX3_asItIs_69 : decode cX3_asItIs 69 = .ok (.aload_n 0, 1) := by decide +kernel
theorem dX3_asItIs_70 : decode cX3_asItIs 70 = .ok (.iload_n 1, 1) := by decide +kernel
theorem dX3_asItIs_71 : decode cX3_asItIs 71 = .ok (.invokevirtual 66, 3) := by decide +kernel
theorem dX3_asItIs_74 : decode cX3_asItIs 74 = .ok (.invokestatic 75, 3) := by decide +kernel
theorem dX3_asItIs_77 : decode cX3_asItIs 77 = .ok (.lreturn, 1) := by decide +kernel
theorem dX3_isNegative_0 : decode cX3_isNegative 0 = .ok (.aload_n 0, 1) := by decide +kernel
theorem dX3_isNegative_1 : decode cX3_isNegative 1 = .ok (.getfield 30, 3) := by decide +kernel
theorem dX3_isNegative_4 : decode cX3_isNegative 4 = .ok (.lookupswitch 60 #[(0, 28), (1, 43)], 28) := by decide +kernel
theorem dX3_isNegative_32 : decode cX3_isNegative 32 = .ok (.aload_n 0, 1) := by decide +kernel
theorem dX3_isNegative_33 : decode cX3_isNegative 33 = .ok (.getfield 9, 3) := by decide +kernel
theorem dX3_isNegative_36 : decode cX3_isNegative 36 = .ok (.iload_n 1, 1) := by decide +kernel
theorem dX3_isNegative_37 : decode cX3_isNegative 37 = .ok (.iaload, 1) := by decide +kernel
theorem dX3_isNegative_38 : decode cX3_isNegative 38 = .ok (.ifCond .ge 7, 3) := by decide +kernel
theorem dX3_isNegative_41 : decode cX3_isNegative 41 = .ok (.iconst 1, 1) := by decide +kernel
theorem dX3_isNegative_42 : decode cX3_isNegative 42 = .ok (.goto 4, 3) := by decide +kernel
theorem dX3_isNegative_45 : decode cX3_isNegative 45 = .ok (.iconst 0, 1) := by decide +kernel
theorem dX3_isNegative_46 : decode cX3_isNegative 46 = .ok (.ireturn, 1) := by decide +kernel
theorem dX3_isNegative_47 : decode cX3_isNegative 47 = .ok (.aload_n 0, 1) := by decide +kernel
theorem dX3_isNegative_48 : decode cX3_isNegative 48 = .ok (.getfield 15, 3) := by decide +kernel
theorem dX3_isNegative_51 : decode cX3_isNegative 51 = .ok (.iload_n 1, 1) := by decide +kernel
theorem dX3_isNegative_52 : decode cX3_isNegative 52 = .ok (.laload, 1) := by decide +kernel
theorem dX3_isNegative_53 : decode cX3_isNegative 53 = .ok (.lconst 0, 1) := by decide +kernel
theorem dX3_isNegative_54 : decode cX3_isNegative 54 = .ok (.lcmp, 1) := by decide +kernel
theorem dX3_isNegative_55 : decode cX3_isNegative 55 = .ok (.ifCond .ge 7, 3) := by decide +kernel
theorem dX3_isNegative_58 : decode cX3_isNegative 58 = .ok (.iconst 1, 1) := by decide +kernel
theorem dX3_isNegative_59 : decode cX3_isNegative 59 = .ok (.goto 4, 3) := by decide +kernel
theorem dX3_isNegative_62 : decode cX3_isNegative 62 = .ok (.iconst 0, 1) := by decide +kernel
theorem dX3_isNegative_63 : decode cX3_isNegative 63 = .ok (.ireturn, 1) := by decide +kernel
theorem dX3_isNegative_64 : decode cX3_isNegative 64 = .ok (.aload_n 0, 1) := by decide +kernel
theorem dX3_isNegative_65 : decode cX3_isNegative 65 = .ok (.getfield 27, 3) := by decide +kernel
theorem dX3_isNegative_68 : decode cX3_isNegative 68 = .ok (.iload_n 1, 1) := by decide +kernel
theorem dX3_isNegative_69 : decode cX3_isNegative 69 = .ok (.iaload, 1) := by decide +kernel
theorem dX3_isNegative_70 : decode cX3_isNegative 70 = .ok (.ifCond .ge 7, 3) := by decide +kernel
theorem dX3_isNegative_73 : decode cX3_isNegative 73 = .ok (.iconst 1, 1) := by decide +kernel
theorem dX3_isNegative_74 : decode cX3_isNegative 74 = .ok (.goto 4, 3) := by decide +kernel
theorem dX3_isNegative_77 : decode cX3_isNegative 77 = .ok (.iconst 0, 1) := by decide +kernel
theorem dX3_isNegative_78 : decode cX3_isNegative 78 = .ok (.ireturn, 1) := by decide +kernel
theorem dX3_asInt_0 : decode cX3_asInt 0 = .ok (.aload_n 0, 1) := by decide +kernel
theorem dX3_asInt_1 : decode cX3_asInt 1 = .ok (.getfield 30, 3) := by decide +kernel
theorem dX3_asInt_4 : decode cX3_asInt 4 = .ok (.tableswitch 51 0 2 #[28, 35, 43], 28) := by decide +kernel
theorem dX3_asInt_32 : decode cX3_asInt 32 = .ok (.aload_n 0, 1) := by decide +kernel
theorem dX3_asInt_33 : decode cX3_asInt 33 = .ok (.getfield 9, 3) := by decide +kernel
theorem dX3_asInt_36 : decode cX3_asInt 36 = .ok (.iload_n 1, 1) := by decide +kernel
theorem dX3_asInt_37 : decode cX3_asInt 37 = .ok (.iaload, 1) := by decide +kernel
theorem dX3_asInt_38 : decode cX3_asInt 38 = .ok (.ireturn, 1) := by decide +kernel
theorem dX3_asInt_39 : decode cX3_asInt 39 = .ok (.aload_n 0, 1) := by decide +kernel
theorem dX3_asInt_40 : decode cX3_asInt 40 = .ok (.getfield 15, 3) := by decide +kernel
theorem dX3_asInt_43 : decode cX3_asInt 43 = .ok (.iload_n 1, 1) := by decide +kernel
theorem dX3_asInt_44 : decode cX3_asInt 44 = .ok (.laload, 1) := by decide +kernel
theorem dX3_asInt_45 : decode cX3_asInt 45 = .ok (.l2i, 1) := by decide +kernel
theorem dX3_asInt_46 : decode cX3_asInt 46 = .ok (.ireturn, 1) := by decide +kernel
theorem dX3_asInt_47 : decode cX3_asInt 47 = .ok (.aload_n 0, 1) := by decide +kernel
theorem dX3_asInt_48 : decode cX3_asInt 48 = .ok (.getfield 19, 3) := by decide +kernel
theorem dX3_asInt_51 : decode cX3_asInt 51 = .ok (.iload_n 1, 1) := by decide +kernel
theorem dX3_asInt_52 : decode cX3_asInt 52 = .ok (.faload, 1) := by decide +kernel
theorem dX3_asInt_53 : decode cX3_asInt 53 = .ok (.f2i, 1) := by decide +kernel
theorem dX3_asInt_54 : decode cX3_asInt 54 = .ok (.ireturn, 1) := by decide +kernel
theorem dX3_asInt_55 : decode cX3_asInt 55 = .ok (.aload_n 0, 1) := by decide +kernel
theorem dX3_asInt_56 : decode cX3_asInt 56 = .ok (.getfield 23, 3) := by decide +kernel
theorem dX3_asInt_59 : decode cX3_asInt 59 = .ok (.iload_n 1, 1) := by decide +kernel
theorem dX3_asInt_60 : decode cX3_asInt 60 = .ok (.daload, 1) := by decide +kernel
theorem dX3_asInt_61 : decode cX3_asInt 61 = .ok (.d2i, 1) := by decide +kernel
theorem dX3_asInt_62 : decode cX3_asInt 62 = .ok (.ireturn, 1) := by decide +kernel
theorem dX3_asLong_0 : decode cX3_asLong 0 = .ok (.aload_n 0, 1) := by decide +kernel
theorem dX3_asLong_1 : decode cX3_asLong 1 = .ok (.getfield 30, 3) := by decide +kernel
theorem dX3_asLong_4 : decode cX3_asLong 4 = .ok (.tableswitch 51 0 2 #[28, 36, 43], 28) := by decide +kernel
theorem dX3_asLong_32 : decode cX3_asLong 32 = .ok (.aload_n 0, 1) := by decide +kernel
theorem dX3_asLong_33 : decode cX3_asLong 33 = .ok (.getfield 9, 3) := by decide +kernel
theorem dX3_asLong_36 : decode cX3_asLong 36 = .ok (.iload_n 1, 1) := by decide +kernel
theorem dX3_asLong_37 : decode cX3_asLong 37 = .ok (.iaload, 1) := by decide +kernel
theorem dX3_asLong_38 : decode cX3_asLong 38 = .ok (.i2l, 1) := by decide +kernel
theorem dX3_asLong_39 : decode cX3_asLong 39 = .ok (.lreturn, 1) := by decide +kernel
theorem dX3_asLong_40 : decode cX3_asLong 40 = .ok (.aload_n 0, 1) := by decide +kernel
theorem dX3_asLong_41 : decode cX3_asLong 41 = .ok (.getfield 15, 3) := by decide +kernel
theorem dX3_asLong_44 : decode cX3_asLong 44 = .ok (.iload_n 1, 1) := by decide +kernel
theorem dX3_asLong_45 : decode cX3_asLong 45 = .ok (.laload, 1) := by decide +kernel
theorem dX3_asLong_46 : decode cX3_asLong 46 = .ok (.lreturn, 1) := by decide +kernel
theorem dX3_asLong_47 : decode cX3_asLong 47 = .ok (.aload_n 0, 1) := by decide +kernel
theorem dX3_asLong_48 : decode cX3_asLong 48 = .ok (.getfield 19, 3) := by decide +kernel
theorem dX3_asLong_51 : decode cX3_asLong 51 = .ok (.iload_n 1, 1) := by decide +kernel
theorem dX3_asLong_52 : decode cX3_asLong 52 = .ok (.faload, 1) := by decide +kernel
theorem dX3_asLong_53 : decode cX3_asLong 53 = .ok (.f2l, 1) := by decide +kernel
theorem dX3_asLong_54 : decode cX3_asLong 54 = .ok (.lreturn, 1) := by decide +kernel
theorem dX3_asLong_55 : decode cX3_asLong 55 = .ok (.aload_n 0, 1) := by decide +kernel
theorem dX3_asLong_56 : decode cX3_asLong 56 = .ok (.getfield 23, 3) := by decide +kernel
theorem dX3_asLong_59 : decode cX3_asLong 59 = .ok (.iload_n 1, 1) := by decide +kernel
theorem dX3_asLong_60 : decode cX3_asLong 60 = .ok (.daload, 1) := by decide +kernel
theorem dX3_asLong_61 : decode cX3_asLong 61 = .ok (.d2l, 1) := by decide +kernel
theorem dX3_asLong_62 : decode cX3_asLong 62 = .ok (.lreturn, 1) := by decide +kernel
theorem dX3_asFloat_0 : decode cX3_asFloat 0 = .ok (.aload_n 0, 1) := by decide +kernel
theorem dX3_asFloat_1 : decode cX3_asFloat 1 = .ok (.getfield 30, 3) := by decide +kernel
theorem dX3_asFloat_4 : decode cX3_asFloat 4 = .ok (.tableswitch 51 0 2 #[28, 36, 44], 28) := by decide +kernel
theorem dX3_asFloat_32 : decode cX3_asFloat 32 = .ok (.aload_n 0, 1) := by decide +kernel
theorem dX3_asFloat_33 : decode cX3_asFloat 33 = .ok (.getfield 9, 3) := by decide +kernel
theorem dX3_asFloat_36 : decode cX3_asFloat 36 = .ok (.iload_n 1, 1) := by decide +kernel
theorem dX3_asFloat_37 : decode cX3_asFloat 37 = .ok (.iaload, 1) := by decide +kernel
theorem dX3_asFloat_38 : decode cX3_asFloat 38 = .ok (.i2f, 1) := by decide +kernel
theorem dX3_asFloat_39 : decode cX3_asFloat 39 = .ok (.freturn, 1) := by decide +kernel
theorem dX3_asFloat_40 : decode cX3_asFloat 40 = .ok (.aload_n 0, 1) := by decide +kernel
theorem dX3_asFloat_41 : decode cX3_asFloat 41 = .ok (.getfield 15, 3) := by decide +kernel
theorem dX3_asFloat_44 : decode cX3_asFloat 44 = .ok (.iload_n 1, 1) := by decide +kernel
theorem dX3_asFloat_45 : decode cX3_asFloat 45 = .ok (.laload, 1) := by decide +kernel
theorem dX3_asFloat_46 : decode cX3_asFloat 46 = .ok (.l2f, 1) := by decide +kernel
theorem dX3_asFloat_47 : decode cX3_asFloat 47 = .ok (.freturn, 1) := by decide +kernel
theorem dX3_asFloat_48 : decode cX3_asFloat 48 = .ok (.aload_n 0, 1) := by decide +kernel
theorem dX3_asFloat_49 : decode cX3_asFloat 49 = .ok (.getfield 19, 3) := by decide +kernel
theorem dX3_asFloat_52 : decode cX3_asFloat 52 = .ok (.iload_n 1, 1) := by decide +kernel
theorem dX3_asFloat_53 : decode cX3_asFloat 53 = .ok (.faload, 1) := by decide +kernel
theorem dX3_asFloat_54 : decode cX3_asFloat 54 = .ok (.freturn, 1) := by decide +kernel
theorem dX3_asFloat_55 : decode cX3_asFloat 55 = .ok (.aload_n 0, 1) := by decide +kernel
theorem dX3_asFloat_56 : decode cX3_asFloat 56 = .ok (.getfield 23, 3) := by decide +kernel
theorem dX3_asFloat_59 : decode cX3_asFloat 59 = .ok (.iload_n 1, 1) := by decide +kernel
theorem dX3_asFloat_60 : decode cX3_asFloat 60 = .ok (.daload, 1) := by decide +kernel
theorem dX3_asFloat_61 : decode cX3_asFloat 61 = .ok (.d2f, 1) := by decide +kernel
theorem dX3_asFloat_62 : decode cX3_asFloat 62 = .ok (.freturn, 1) := by decide +kernel
theorem dX3_divide_0 : decode cX3_divide 0 = .ok (.iload_n 2, 1) := by decide +kernel
theorem dX3_divide_1 : decode cX3_divide 1 = .ok (.ifCond .ne 4, 3) := by decide +kernel
theorem dX3_divide_4 : decode cX3_divide 4 = .ok (.return_, 1) := by decide +kernel
theorem dX3_divide_5 : decode cX3_divide 5 = .ok (.aload_n 0, 1) := by decide +kernel
theorem dX3_divide_6 : decode cX3_divide 6 = .ok (.getfield 30, 3) := by decide +kernel
theorem dX3_divide_9 : decode cX3_divide 9 = .ok (.ifCond .ne 20, 3) := by decide +kernel
theorem dX3_divide_12 : decode cX3_divide 12 = .ok (.aload_n 0, 1) := by decide +kernel
theorem dX3_divide_13 : decode cX3_divide 13 = .ok (.getfield 9, 3) := by decide +kernel
theorem dX3_divide_16 : decode cX3_divide 16 = .ok (.iload_n 1, 1) := by decide +kernel
theorem dX3_divide_17 : decode cX3_divide 17 = .ok (.aload_n 0, 1) := by decide +kernel
theorem dX3_divide_18 : decode cX3_divide 18 = .ok (.getfield 9, 3) := by decide +kernel
theorem dX3_divide_21 : decode cX3_divide 21 = .ok (.iload_n 1, 1) := by decide +kernel
theorem dX3_divide_22 : decode cX3_divide 22 = .ok (.iaload, 1) := by decide +kernel
theorem dX3_divide_23 : decode cX3_divide 23 = .ok (.iload_n 2, 1) := by decide +kernel
theorem dX3_divide_24 : decode cX3_divide 24 = .ok (.idiv, 1) := by decide +kernel
theorem dX3_divide_25 : decode cX3_divide 25 = .ok (.iastore, 1) := by decide +kernel
theorem dX3_divide_26 : decode cX3_divide 26 = .ok (.goto 70, 3) := by decide +kernel
theorem dX3_divide_29 : decode cX3_divide 29 = .ok (.aload_n 0, 1) := by decide +kernel
theorem dX3_divide_30 : decode cX3_divide 30 = .ok (.getfield 30, 3) := by decide +kernel
theorem dX3_divide_33 : decode cX3_divide 33 = .ok (.iconst 1, 1) := by decide +kernel
theorem dX3_divide_34 : decode cX3_divide 34 = .ok (.if_icmp .ne 21, 3) := by decide +kernel
theorem dX3_divide_37 : decode cX3_divide 37 = .ok (.aload_n 0, 1) := by decide +kernel
theorem dX3_divide_38 : decode cX3_divide 38 = .ok (.getfield 15, 3) := by decide +kernel
theorem dX3_divide_41 : decode cX3_divide 41 = .ok (.iload_n 1, 1) := by decide +kernel
theorem dX3_divide_42 : decode cX3_divide 42 = .ok (.aload_n 0, 1) := by decide +kernel
theorem dX3_divide_43 : decode cX3_divide 43 = .ok (.getfield 15, 3) := by decide +kernel
theorem dX3_divide_46 : decode cX3_divide 46 = .ok (.iload_n 1, 1) := by decide +kernel
theorem dX3_divide_47 : decode cX3_divide 47 = .ok (.laload, 1) := by decide +kernel
theorem dX3_divide_48 : decode cX3_divide 48 = .ok (.iload_n 2, 1) := by decide +kernel
theorem dX3_divide_49 : decode cX3_divide 49 = .ok (.i2l, 1) := by decide +kernel
theorem dX3_divide_50 : decode cX3_divide 50 = .ok (.ldiv, 1) := by decide +kernel
theorem dX3_divide_51 : decode cX3_divide 51 = .ok (.lastore, 1) := by decide +kernel
theorem dX3_divide_52 : decode cX3_divide 52 = .ok (.goto 44, 3) := by decide +kernel
theorem dX3_divide_55 : decode cX3_divide 55 = .ok (.aload_n 0, 1) := by decide +kernel
theorem dX3_divide_56 : decode cX3_divide 56 = .ok (.getfield 30, 3) := by decide +kernel
theorem dX3_divide_59 : decode cX3_divide 59 = .ok (.iconst 2, 1) := by decide +kernel
theorem dX3_divide_60 : decode cX3_divide 60 = .ok (.if_icmp .ne 21, 3) := by decide +kernel
theorem dX3_divide_63 : decode cX3_divide 63 = .ok (.aload_n 0, 1) := by decide +kernel
theorem dX3_divide_64 : decode cX3_divide 64 = .ok (.getfield 19, 3) := by decide +kernel
theorem dX3_divide_67 : decode cX3_divide 67 = .ok (.iload_n 1, 1) := by decide +kernel
theorem dX3_divide_68 : decode cX3_divide 68 = .ok (.aload_n 0, 1) := by decide +kernel
theorem dX3_divide_69 : decode cX3_divide 69 = .ok (.getfield 19, 3) := by decide +kernel
theorem dX3_divide_72 : decode cX3_divide 72 = .ok (.iload_n 1, 1) := by decide +kernel
theorem dX3_divide_73 : decode cX3_divide 73 = .ok (.faload, 1) := by decide +kernel
theorem dX3_divide_74 : decode cX3_divide 74 = .ok (.iload_n 2, 1) := by decide +kernel
theorem dX3_divide_75 : decode cX3_divide 75 = .ok (.i2f, 1) := by decide +kernel
theorem dX3_divide_76 : decode cX3_divide 76 = .ok (.fdiv, 1) := by decide +kernel
theorem dX3_divide_77 : decode cX3_divide 77 = .ok (.fastore, 1) := by decide +kernel
theorem dX3_divide_78 : decode cX3_divide 78 = .ok (.goto 18, 3) := by decide +kernel
theorem dX3_divide_81 : decode cX3_divide 81 = .ok (.aload_n 0, 1) := by decide +kernel
theorem dX3_divide_82 : decode cX3_divide 82 = .ok (.getfield 23, 3) := by decide +kernel
theorem dX3_divide_85 : decode cX3_divide 85 = .ok (.iload_n 1, 1) := by decide +kernel
theorem dX3_divide_86 : decode cX3_divide 86 = .ok (.aload_n 0, 1) := by decide +kernel
theorem dX3_divide_87 : decode cX3_divide 87 = .ok (.getfield 23, 3) := by decide +kernel
theorem dX3_divide_90 : decode cX3_divide 90 = .ok (.iload_n 1, 1) := by decide +kernel
theorem dX3_divide_91 : decode cX3_divide 91 = .ok (.daload, 1) := by decide +kernel
theorem dX3_divide_92 : decode cX3_divide 92 = .ok (.iload_n 2, 1) := by decide +kernel
theorem dX3_divide_93 : decode cX3_divide 93 = .ok (.i2d, 1) := by decide +kernel
theorem dX3_divide_94 : decode cX3_divide 94 = .ok (.ddiv, 1) := by decide +kernel
theorem dX3_divide_95 : decode cX3_divide 95 = .ok (.dastore, 1) := by decide +kernel
theorem dX3_divide_96 : decode cX3_divide 96 = .ok (.return_, 1) := by decide +kernel
theorem dX3_take_0 : decode cX3_take 0 = .ok (.aload_n 1, 1) := by decide +kernel
theorem dX3_take_1 : decode cX3_take 1 = .ok (.getfield 27, 3) := by decide +kernel
theorem dX3_take_4 : decode cX3_take 4 = .ok (.iload_n 2, 1) := by decide +kernel
theorem dX3_take_5 : decode cX3_take 5 = .ok (.aload_n 0, 1) := by decide +kernel
theorem dX3_take_6 : decode cX3_take 6 = .ok (.getfield 27, 3) := by decide +kernel
theorem dX3_take_9 : decode cX3_take 9 = .ok (.iload_n 3, 1) := by decide +kernel
theorem dX3_take_10 : decode cX3_take 10 = .ok (.iload 4, 2) := by decide +kernel
theorem dX3_take_12 : decode cX3_take 12 = .ok (.invokestatic 79, 3) := by decide +kernel
theorem dX3_take_15 : decode cX3_take 15 = .ok (.aload_n 0, 1) := by decide +kernel
theorem dX3_take_16 : decode cX3_take 16 = .ok (.getfield 30, 3) := by decide +kernel
theorem dX3_take_19 : decode cX3_take 19 = .ok (.ifCond .ne 21, 3) := by decide +kernel
theorem dX3_take_22 : decode cX3_take 22 = .ok (.aload_n 1, 1) := by decide +kernel
theorem dX3_take_23 : decode cX3_take 23 = .ok (.getfield 9, 3) := by decide +kernel
theorem dX3_take_26 : decode cX3_take 26 = .ok (.iload_n 2, 1) := by decide +kernel
theorem dX3_take_27 : decode cX3_take 27 = .ok (.aload_n 0, 1) := by decide +kernel
theorem dX3_take_28 : decode cX3_take 28 = .ok (.getfield 9, 3) := by decide +kernel
theorem dX3_take_31 : decode cX3_take 31 = .ok (.iload_n 3, 1) := by decide +kernel
theorem dX3_take_32 : decode cX3_take 32 = .ok (.iload 4, 2) := by decide +kernel
theorem dX3_take_34 : decode cX3_take 34 = .ok (.invokestatic 79, 3) := by decide +kernel
theorem dX3_take_37 : decode cX3_take 37 = .ok (.goto 70, 3) := by decide +kernel
theorem dX3_take_40 : decode cX3_take 40 = .ok (.aload_n 0, 1) := by decide +kernel
theorem dX3_take_41 : decode cX3_take 41 = .ok (.getfield 30, 3) := by decide +kernel
theorem dX3_take_44 : decode cX3_take 44 = .ok (.iconst 1, 1) := by decide +kernel
theorem dX3_take_45 : decode cX3_take 45 = .ok (.if_icmp .ne 21, 3) := by decide +kernel
theorem dX3_take_48 : decode cX3_take 48 = .ok (.aload_n 1, 1) := by decide +kernel
theorem dX3_take_49 : decode cX3_take 49 = .ok (.getfield 15, 3) := by decide +kernel
theorem dX3_take_52 : decode cX3_take 52 = .ok (.iload_n 2, 1) := by decide +kernel
theorem dX3_take_53 : decode cX3_take 53 = .ok (.aload_n 0, 1) := by decide +kernel
theorem dX3_take_54 : decode cX3_take 54 = .ok (.getfield 15, 3) := by decide +kernel
theorem dX3_take_57 : decode cX3_take 57 = .ok (.iload_n 3, 1) := by decide +kernel
theorem dX3_take_58 : decode cX3_take 58 = .ok (.iload 4, 2) := by decide +kernel
theorem dX3_take_60 : decode cX3_take 60 = .ok (.invokestatic 79, 3) := by decide +kernel
theorem dX3_take_63 : decode cX3_take 63 = .ok (.goto 44, 3) := by decide +kernel
theorem dX3_take_66 : decode cX3_take 66 = .ok (.aload_n 0, 1) := by decide +kernel
theorem dX3_take_67 : decode cX3_take 67 = .ok (.getfield 30, 3) := by decide +kernel
theorem dX3_take_70 : decode cX3_take 70 = .ok (.iconst 2, 1) := by decide +kernel
theorem dX3_take_71 : decode cX3_take 71 = .ok (.if_icmp .ne 21, 3) := by decide +kernel
theorem dX3_take_74 : decode cX3_take 74 = .ok (.aload_n 1, 1) := by decide +kernel
theorem dX3_take_75 : decode cX3_take 75 = .ok (.getfield 19, 3) := by decide +kernel
theorem dX3_take_78 : decode cX3_take 78 = .ok (.iload_n 2, 1) := by decide +kernel
theorem dX3_take_79 : decode cX3_take 79 = .ok (.aload_n 0, 1) := by decide +kernel
theorem dX3_take_80 : decode cX3_take 80 = .ok (.getfield 19, 3) := by decide +kernel
theorem dX3_take_83 : decode cX3_take 83 = .ok (.iload_n 3, 1) := by decide +kernel
theorem dX3_take_84 : decode cX3_take 84 = .ok (.iload 4, 2) := by decide +kernel
theorem dX3_take_86 : decode cX3_take 86 = .ok (.invokestatic 79, 3) := by decide +kernel
theorem dX3_take_89 : decode cX3_take 89 = .ok (.goto 18, 3) := by decide +kernel
theorem dX3_take_92 : decode cX3_take 92 = .ok (.aload_n 1, 1) := by decide +kernel
theorem dX3_take_93 : decode cX3_take 93 = .ok (.getfield 23, 3) := by decide +kernel
theorem dX3_take_96 : decode cX3_take 96 = .ok (.iload_n 2, 1) := by decide +kernel
theorem dX3_take_97 : decode cX3_take 97 = .ok (.aload_n 0, 1) := by decide +kernel
theorem dX3_take_98 : decode cX3_take 98 = .ok (.getfield 23, 3) := by decide +kernel
theorem dX3_take_101 : decode cX3_take 101 = .ok (.iload_n 3, 1) := by decide +kernel
theorem dX3_take_102 : decode cX3_take 102 = .ok (.iload 4, 2) := by decide +kernel
theorem dX3_take_104 : decode cX3_take 104 = .ok (.invokestatic 79, 3) := by decide +kernel
theorem dX3_take_107 : decode cX3_take 107 = .ok (.return_, 1) := by decide +kernel
theorem dX4_init_0 : decode cX4_init 0 = .ok (.aload_n 0, 1) := by decide +kernel
theorem dX4_init_1 : decode cX4_init 1 = .ok (.invokespecial 3, 3) := by decide +kernel
theorem dX4_init_4 : decode cX4_init 4 = .ok (.aload_n 0, 1) := by decide +kernel
theorem dX4_init_5 : decode cX4_init 5 = .ok (.sipush 3605, 3) := by decide +kernel
theorem dX4_init_8 : decode cX4_init 8 = .ok (.newarray .long, 2) := by decide +kernel
theorem dX4_init_10 : decode cX4_init 10 = .ok (.putfield 9, 3) := by decide +kernel
theorem dX4_init_13 : decode cX4_init 13 = .ok (.aload_n 0, 1) := by decide +kernel
theorem dX4_init_14 : decode cX4_init 14 = .ok (.sipush 515, 3) := by decide +kernel
theorem dX4_init_17 : decode cX4_init 17 = .ok (.newarray .int, 2) := by decide +kernel
theorem dX4_init_19 : decode cX4_init 19 = .ok (.putfield 15, 3) := by decide +kernel
theorem dX4_init_22 : decode cX4_init 22 = .ok (.aload_n 0, 1) := by decide +kernel
theorem dX4_init_23 : decode cX4_init 23 = .ok (.sipush 515, 3) := by decide +kernel
theorem dX4_init_26 : decode cX4_init 26 = .ok (.newarray .int, 2) := by decide +kernel
theorem dX4_init_28 : decode cX4_init 28 = .ok (.putfield 19, 3) := by decide +kernel
theorem dX4_init_31 : decode cX4_init 31 = .ok (.aload_n 0, 1) := by decide +kernel
theorem dX4_init_32 : decode cX4_init 32 = .ok (.sipush 515, 3) := by decide +kernel
theorem dX4_init_35 : decode cX4_init 35 = .ok (.newarray .int, 2) := by decide +kernel
theorem dX4_init_37 : decode cX4_init 37 = .ok (.putfield 22, 3) := by decide +kernel
theorem dX4_init_40 : decode cX4_init 40 = .ok (.aload_n 0, 1) := by decide +kernel
theorem dX4_init_41 : decode cX4_init 41 = .ok (.bipush 12, 2) := by decide +kernel
theorem dX4_init_43 : decode cX4_init 43 = .ok (.newarray .int, 2) := by decide +kernel
theorem dX4_init_45 : decode cX4_init 45 = .ok (.putfield 25, 3) := by decide +kernel
theorem dX4_init_48 : decode cX4_init 48 = .ok (.aload_n 0, 1) := by decide +kernel
theorem dX4_init_49 : decode cX4_init 49 = .ok (.sipush 144, 3) := by decide +kernel
theorem dX4_init_52 : decode cX4_init 52 = .ok (.newarray .int, 2) := by decide +kernel
theorem dX4_init_54 : decode cX4_init 54 = .ok (.putfield 28, 3) := by decide +kernel
theorem dX4_init_57 : decode cX4_init 57 = .ok (.aload_n 0, 1) := by decide +kernel
theorem dX4_init_58 : decode cX4_init 58 = .ok (.iconst 0, 1) := by decide +kernel
theorem dX4_init_59 : decode cX4_init 59 = .ok (.putfield 31, 3) := by decide +kernel
theorem dX4_init_62 : decode cX4_init 62 = .ok (.aload_n 0, 1) := by decide +kernel
theorem dX4_init_63 : decode cX4_init 63 = .ok (.iconst (-1), 1) := by decide +kernel
theorem dX4_init_64 : decode cX4_init 64 = .ok (.putfield 35, 3) := by decide +kernel
theorem dX4_init_67 : decode cX4_init 67 = .ok (.aload_n 0, 1) := by decide +kernel
theorem dX4_init_68 : decode cX4_init 68 = .ok (.iconst 0, 1) := by decide +kernel
theorem dX4_init_69 : decode cX4_init 69 = .ok (.putfield 38, 3) := by decide +kernel
theorem dX4_init_72 : decode cX4_init 72 = .ok (.return_, 1) := by decide +kernel
set_option maxRecDepth 20000 in
theorem ggX4_prepare_X1_allPoints : GoodIn wsX4_prepare wsX1_allPoints := goodIn_r _ [12, 13, 46, 47, 48, 49, 50, 51, 52, 53, 54, 55, 56] (by decide +kernel) (by decide +kernel)
set_option maxRecDepth 20000 in
theorem gX4_prepare_X1_allPoints : GoodIn wsX4_prepare (wsV RX4 45 RX1 yX1_allPoints wsX1_allPoints) := goodIn_app (goodIn_of _ (by decide +kernel)) ggX4_prepare_X1_allPoints
set_option maxRecDepth 20000 in
theorem ggX4_prepare_X1_weightBetween : GoodIn wsX4_prepare wsX1_weightBetween := goodIn_r _ [17, 18, 19, 20, 11, 21, 22, 23, 24, 25, 26, 27, 28, 29, 30, 31, 32, 33, 34, 35, 36, 46, 47, 48, 49, 50, 51, 52, 53, 54, 55, 56] (by decide +kernel) (by decide +kernel)
set_option maxRecDepth 20000 in
theorem gX4_prepare_X1_weightBetween : GoodIn wsX4_prepare (wsV RX4 50 RX1 yX1_weightBetween wsX1_weightBetween) := goodIn_app (goodIn_of _ (by decide +kernel)) ggX4_prepare_X1_weightBetween
theorem dX4_prepare_0 : decode cX4_prepare 0 = .ok (.aload_n 0, 1) := by decide +kernel
theorem dX4_prepare_1 : decode cX4_prepare 1 = .ok (.getfield 31, 3) := by decide +kernel
theorem dX4_prepare_4 : decode cX4_prepare 4 = .ok (.ifCond .le 23, 3) := by decide +kernel
theorem dX4_prepare_7 : decode cX4_prepare 7 = .ok (.aload_n 0, 1) := by decide +kernel
theorem dX4_prepare_8 : decode cX4_prepare 8 = .ok (.getfield 35, 3) := by decide +kernel
theorem dX4_prepare_11 : decode cX4_prepare 11 = .ok (.aload_n 1, 1) := by decide +kernel
theorem dX4_prepare_12 : decode cX4_prepare 12 = .ok (.getfield 42, 3) := by decide +kernel
theorem dX4_prepare_15 : decode cX4_prepare 15 = .ok (.if_icmp .ne 12, 3) := by decide +kernel
theorem dX4_prepare_18 : decode cX4_prepare 18 = .ok (.aload_n 0, 1) := by decide +kernel
theorem dX4_prepare_19 : decode cX4_prepare 19 = .ok (.getfield 38, 3) := by decide +kernel
theorem dX4_prepare_22 : decode cX4_prepare 22 = .ok (.iload_n 2, 1) := by decide +kernel
theorem dX4_prepare_23 : decode cX4_prepare 23 = .ok (.if_icmp .ne 4, 3) := by decide +kernel
theorem dX4_prepare_26 : decode cX4_prepare 26 = .ok (.return_, 1) := by decide +kernel
theorem dX4_prepare_27 : decode cX4_prepare 27 = .ok (.aload_n 0, 1) := by decide +kernel
theorem dX4_prepare_28 : decode cX4_prepare 28 = .ok (.dup, 1) := by decide +kernel
theorem dX4_prepare_29 : decode cX4_prepare 29 = .ok (.getfield 31, 3) := by decide +kernel
theorem dX4_prepare_32 : decode cX4_prepare 32 = .ok (.iconst 1, 1) := by decide +kernel
theorem dX4_prepare_33 : decode cX4_prepare 33 = .ok (.iadd, 1) := by decide +kernel
theorem dX4_prepare_34 : decode cX4_prepare 34 = .ok (.putfield 31, 3) := by decide +kernel
theorem dX4_prepare_37 : decode cX4_prepare 37 = .ok (.aload_n 0, 1) := by decide +kernel
theorem dX4_prepare_38 : decode cX4_prepare 38 = .ok (.aload_n 1, 1) := by decide +kernel
theorem dX4_prepare_39 : decode cX4_prepare 39 = .ok (.getfield 42, 3) := by decide +kernel
theorem dX4_prepare_42 : decode cX4_prepare 42 = .ok (.putfield 35, 3) := by decide +kernel
theorem dX4_prepare_45 : decode cX4_prepare 45 = .ok (.aload_n 0, 1) := by decide +kernel
theorem dX4_prepare_46 : decode cX4_prepare 46 = .ok (.iload_n 2, 1) := by decide +kernel
theorem dX4_prepare_47 : decode cX4_prepare 47 = .ok (.putfield 38, 3) := by decide +kernel
theorem dX4_prepare_50 : decode cX4_prepare 50 = .ok (.iconst 0, 1) := by decide +kernel
theorem dX4_prepare_51 : decode cX4_prepare 51 = .ok (.istore_n 3, 1) := by decide +kernel
theorem dX4_prepare_52 : decode cX4_prepare 52 = .ok (.iload_n 3, 1) := by decide +kernel
theorem dX4_prepare_53 : decode cX4_prepare 53 = .ok (.bipush 12, 2) := by decide +kernel
theorem dX4_prepare_55 : decode cX4_prepare 55 = .ok (.if_icmp .ge 90, 3) := by decide +kernel
theorem dX4_prepare_58 : decode cX4_prepare 58 = .ok (.aload_n 0, 1) := by decide +kernel
theorem dX4_prepare_59 : decode cX4_prepare 59 = .ok (.getfield 25, 3) := by decide +kernel
theorem dX4_prepare_62 : decode cX4_prepare 62 = .ok (.iload_n 3, 1) := by decide +kernel
theorem dX4_prepare_63 : decode cX4_prepare 63 = .ok (.iload_n 2, 1) := by decide +kernel
theorem dX4_prepare_64 : decode cX4_prepare 64 = .ok (.ifCond .eq 25, 3) := by decide +kernel
theorem dX4_prepare_67 : decode cX4_prepare 67 = .ok (.aload_n 1, 1) := by decide +kernel
theorem dX4_prepare_68 : decode cX4_prepare 68 = .ok (.invokevirtual 45, 3) := by decide +kernel
theorem dX4_prepare_71 : decode cX4_prepare 71 = .ok (.aload_n 1, 1) := by decide +kernel
theorem dX4_prepare_72 : decode cX4_prepare 72 = .ok (.getfield 49, 3) := by decide +kernel
theorem dX4_prepare_75 : decode cX4_prepare 75 = .ok (.iload_n 3, 1) := by decide +kernel
theorem dX4_prepare_76 : decode cX4_prepare 76 = .ok (.iaload, 1) := by decide +kernel
theorem dX4_prepare_77 : decode cX4_prepare 77 = .ok (.iconst (-1), 1) := by decide +kernel
theorem dX4_prepare_78 : decode cX4_prepare 78 = .ok (.ixor, 1) := by decide +kernel
theorem dX4_prepare_79 : decode cX4_prepare 79 = .ok (.iand, 1) := by decide +kernel
theorem dX4_prepare_80 : decode cX4_prepare 80 = .ok (.iconst 1, 1) := by decide +kernel
theorem dX4_prepare_81 : decode cX4_prepare 81 = .ok (.iload_n 3, 1) := by decide +kernel
theorem dX4_prepare_82 : decode cX4_prepare 82 = .ok (.ishl, 1) := by decide +kernel
theorem dX4_prepare_83 : decode cX4_prepare 83 = .ok (.iconst (-1), 1) := by decide +kernel
theorem dX4_prepare_84 : decode cX4_prepare 84 = .ok (.ixor, 1) := by decide +kernel
theorem dX4_prepare_85 : decode cX4_prepare 85 = .ok (.iand, 1) := by decide +kernel
theorem dX4_prepare_86 : decode cX4_prepare 86 = .ok (.goto 9, 3) := by decide +kernel
theorem dX4_prepare_89 : decode cX4_prepare 89 = .ok (.aload_n 1, 1) := by decide +kernel
theorem dX4_prepare_90 : decode cX4_prepare 90 = .ok (.getfield 49, 3) := by decide +kernel
theorem dX4_prepare_93 : decode cX4_prepare 93 = .ok (.iload_n 3, 1) := by decide +kernel
theorem dX4_prepare_94 : decode cX4_prepare 94 = .ok (.iaload, 1) := by decide +kernel
theorem dX4_prepare_95 : decode cX4_prepare 95 = .ok (.iastore, 1) := by decide +kernel
theorem dX4_prepare_96 : decode cX4_prepare 96 = .ok (.iconst 0, 1) := by decide +kernel
theorem dX4_prepare_97 : decode cX4_prepare 97 = .ok (.istore 4, 2) := by decide +kernel
theorem dX4_prepare_99 : decode cX4_prepare 99 = .ok (.iload 4, 2) := by decide +kernel
theorem dX4_prepare_101 : decode cX4_prepare 101 = .ok (.bipush 12, 2) := by decide +kernel
theorem dX4_prepare_103 : decode cX4_prepare 103 = .ok (.if_icmp .ge 36, 3) := by decide +kernel
theorem dX4_prepare_106 : decode cX4_prepare 106 = .ok (.aload_n 0, 1) := by decide +kernel
theorem dX4_prepare_107 : decode cX4_prepare 107 = .ok (.getfield 28, 3) := by decide +kernel
theorem dX4_prepare_110 : decode cX4_prepare 110 = .ok (.iload_n 3, 1) := by decide +kernel
theorem dX4_prepare_111 : decode cX4_prepare 111 = .ok (.bipush 12, 2) := by decide +kernel
theorem dX4_prepare_113 : decode cX4_prepare 113 = .ok (.imul, 1) := by decide +kernel
theorem dX4_prepare_114 : decode cX4_prepare 114 = .ok (.iload 4, 2) := by decide +kernel
theorem dX4_prepare_116 : decode cX4_prepare 116 = .ok (.iadd, 1) := by decide +kernel
theorem dX4_prepare_117 : decode cX4_prepare 117 = .ok (.iload_n 2, 1) := by decide +kernel
theorem dX4_prepare_118 : decode cX4_prepare 118 = .ok (.ifCond .eq 7, 3) := by decide +kernel
theorem dX4_prepare_121 : decode cX4_prepare 121 = .ok (.iconst 1, 1) := by decide +kernel
theorem dX4_prepare_122 : decode cX4_prepare 122 = .ok (.goto 10, 3) := by decide +kernel
theorem dX4_prepare_125 : decode cX4_prepare 125 = .ok (.aload_n 1, 1) := by decide +kernel
theorem dX4_prepare_126 : decode cX4_prepare 126 = .ok (.iload_n 3, 1) := by decide +kernel
theorem dX4_prepare_127 : decode cX4_prepare 127 = .ok (.iload 4, 2) := by decide +kernel
theorem dX4_prepare_129 : decode cX4_prepare 129 = .ok (.invokevirtual 50, 3) := by decide +kernel
theorem dX4_prepare_132 : decode cX4_prepare 132 = .ok (.iastore, 1) := by decide +kernel
theorem dX4_prepare_133 : decode cX4_prepare 133 = .ok (.iinc 4 1, 3) := by decide +kernel
theorem dX4_prepare_136 : decode cX4_prepare 136 = .ok (.goto (-37), 3) := by decide +kernel
theorem dX4_prepare_139 : decode cX4_prepare 139 = .ok (.iinc 3 1, 3) := by decide +kernel
theorem dX4_prepare_142 : decode cX4_prepare 142 = .ok (.goto (-90), 3) := by decide +kernel
theorem dX4_prepare_145 : decode cX4_prepare 145 = .ok (.return_, 1) := by decide +kernel
set_option maxRecDepth 20000 in
theorem ggX4_rowFor_X4_placeFor : GoodIn wsX4_rowFor wsX4_placeFor := goodIn_r _ [5, 6, 7, 8, 9, 10, 11, 12, 13, 14, 15, 16, 17, 18, 4, 19, 20, 21, 22, 23, 24, 25, 26, 27, 28, 29, 1, 2, 3, 30, 31, 32, 33, 34, 35, 36, 37, 38, 39, 40, 41, 42, 43, 44, 45, 46, 47, 48, 49, 50, 51, 52, 53, 54, 55, 56, 57, 58] (by decide +kernel) (by decide +kernel)
set_option maxRecDepth 20000 in
theorem gX4_rowFor_X4_placeFor : GoodIn wsX4_rowFor (wsV RX4 54 RX4 yX4_placeFor wsX4_placeFor) := goodIn_app (goodIn_of _ (by decide +kernel)) ggX4_rowFor_X4_placeFor
theorem dX4_rowFor_0 : decode cX4_rowFor 0 = .ok (.aload_n 0, 1) := by decide +kernel
theorem dX4_rowFor_1 : decode cX4_rowFor 1 = .ok (.iload_n 1, 1) := by decide +kernel
theorem dX4_rowFor_2 : decode cX4_rowFor 2 = .ok (.iconst 0, 1) := by decide +kernel
theorem dX4_rowFor_3 : decode cX4_rowFor 3 = .ok (.invokevirtual 54, 3) := by decide +kernel
theorem dX4_rowFor_6 : decode cX4_rowFor 6 = .ok (.bipush 7, 2) := by decide +kernel
theorem dX4_rowFor_8 : decode cX4_rowFor 8 = .ok (.imul, 1) := by decide +kernel
theorem dX4_rowFor_9 : decode cX4_rowFor 9 = .ok (.ireturn, 1) := by decide +kernel
set_option maxRecDepth 20000 in
theorem ggX4_placeOf_X4_leastOf : GoodIn wsX4_placeOf wsX4_leastOf := goodIn_r _ [4, 5, 6, 7, 8, 9, 10, 11] (by decide +kernel) (by decide +kernel)
set_option maxRecDepth 20000 in
theorem gX4_placeOf_X4_leastOf : GoodIn wsX4_placeOf (va_wsS RX4 57 yX4_leastOf wsX4_leastOf) := goodIn_app (goodIn_of _ (by decide +kernel)) ggX4_placeOf_X4_leastOf
theorem dX4_placeOf_0 : decode cX4_placeOf 0 = .ok (.iload_n 0, 1) := by decide +kernel
theorem dX4_placeOf_1 : decode cX4_placeOf 1 = .ok (.bipush 7, 2) := by decide +kernel
theorem dX4_placeOf_3 : decode cX4_placeOf 3 = .ok (.iand, 1) := by decide +kernel
theorem dX4_placeOf_4 : decode cX4_placeOf 4 = .ok (.istore_n 1, 1) := by decide +kernel
theorem dX4_placeOf_5 : decode cX4_placeOf 5 = .ok (.iload_n 1, 1) := by decide +kernel
theorem dX4_placeOf_6 : decode cX4_placeOf 6 = .ok (.ifCond .ne 11, 3) := by decide +kernel
theorem dX4_placeOf_9 : decode cX4_placeOf 9 = .ok (.iconst 3, 1) := by decide +kernel
theorem dX4_placeOf_10 : decode cX4_placeOf 10 = .ok (.iload_n 0, 1) := by decide +kernel
theorem dX4_placeOf_11 : decode cX4_placeOf 11 = .ok (.iconst 3, 1) := by decide +kernel
theorem dX4_placeOf_12 : decode cX4_placeOf 12 = .ok (.ishr, 1) := by decide +kernel
theorem dX4_placeOf_13 : decode cX4_placeOf 13 = .ok (.iadd, 1) := by decide +kernel
theorem dX4_placeOf_14 : decode cX4_placeOf 14 = .ok (.goto 7, 3) := by decide +kernel
theorem dX4_placeOf_17 : decode cX4_placeOf 17 = .ok (.iload_n 1, 1) := by decide +kernel
theorem dX4_placeOf_18 : decode cX4_placeOf 18 = .ok (.invokestatic 57, 3) := by decide +kernel
theorem dX4_placeOf_21 : decode cX4_placeOf 21 = .ok (.ireturn, 1) := by decide +kernel
set_option maxRecDepth 20000 in
theorem ggX4_leastOf_J6_bitCount_0f7a4 : GoodIn wsX4_leastOf wsJ6_bitCount_0f7a4 := goodIn_r _ [4, 5, 6, 7] (by decide +kernel) (by decide +kernel)
set_option maxRecDepth 20000 in
theorem gX4_leastOf_J6_bitCount_0f7a4 : GoodIn wsX4_leastOf (va_wsS RX4 61 yJ6_bitCount_0f7a4 wsJ6_bitCount_0f7a4) := goodIn_app (goodIn_of _ (by decide +kernel)) ggX4_leastOf_J6_bitCount_0f7a4
theorem dX4_leastOf_0 : decode cX4_leastOf 0 = .ok (.iload_n 0, 1) := by decide +kernel
theorem dX4_leastOf_1 : decode cX4_leastOf 1 = .ok (.iload_n 0, 1) := by decide +kernel
theorem dX4_leastOf_2 : decode cX4_leastOf 2 = .ok (.ineg, 1) := by decide +kernel
theorem dX4_leastOf_3 : decode cX4_leastOf 3 = .ok (.iand, 1) := by decide +kernel
theorem dX4_leastOf_4 : decode cX4_leastOf 4 = .ok (.iconst 1, 1) := by decide +kernel
theorem dX4_leastOf_5 : decode cX4_leastOf 5 = .ok (.isub, 1) := by decide +kernel
theorem dX4_leastOf_6 : decode cX4_leastOf 6 = .ok (.invokestatic 61, 3) := by decide +kernel
theorem dX4_leastOf_9 : decode cX4_leastOf 9 = .ok (.ireturn, 1) := by decide +kernel
set_option maxRecDepth 20000 in
theorem ggX4_placeFor_X4_placeOf : GoodIn wsX4_placeFor wsX4_placeOf := goodIn_r _ [15, 16, 17, 14, 18, 19, 20, 21, 22, 23, 24, 25] (by decide +kernel) (by decide +kernel)
set_option maxRecDepth 20000 in
theorem gX4_placeFor_X4_placeOf : GoodIn wsX4_placeFor (va_wsS RX4 66 yX4_placeOf wsX4_placeOf) := goodIn_app (goodIn_of _ (by decide +kernel)) ggX4_placeFor_X4_placeOf
set_option maxRecDepth 20000 in
theorem ggX4_placeFor_X4_leastOf : GoodIn wsX4_placeFor wsX4_leastOf := goodIn_r _ [18, 19, 20, 21, 22, 23, 24, 25] (by decide +kernel) (by decide +kernel)
set_option maxRecDepth 20000 in
theorem gX4_placeFor_X4_leastOf : GoodIn wsX4_placeFor (va_wsS RX4 57 yX4_leastOf wsX4_leastOf) := goodIn_app (goodIn_of _ (by decide +kernel)) ggX4_placeFor_X4_leastOf
set_option maxRecDepth 20000 in
theorem ggX4_placeFor_X4_placeFor : GoodIn wsX4_placeFor wsX4_placeFor := goodIn_r _ [0, 1, 2, 3, 4, 5, 6, 7, 8, 9, 10, 11, 12, 13, 14, 15, 16, 17, 18, 19, 20, 21, 22, 23, 24, 25, 26, 27, 28, 29, 30, 31, 32, 33, 34, 35, 36, 37, 38, 39, 40, 41, 42, 43, 44, 45, 46, 47, 48, 49, 50, 51, 52, 53, 54, 55, 56, 57] (by decide +kernel) (by decide +kernel)
set_option maxRecDepth 20000 in
theorem gX4_placeFor_X4_placeFor : GoodIn wsX4_placeFor (wsV RX4 54 RX4 yX4_placeFor wsX4_placeFor) := goodIn_app (goodIn_of _ (by decide +kernel)) ggX4_placeFor_X4_placeFor
set_option maxRecDepth 20000 in
theorem ggX4_placeFor_X4_addPaired : GoodIn wsX4_placeFor wsX4_addPaired := goodIn_r _ [32, 9, 33, 34, 35, 36, 37, 38, 39, 4, 40, 41, 42, 43, 44, 45, 46, 47, 48, 49, 50, 51, 52, 53, 54, 55, 56, 57] (by decide +kernel) (by decide +kernel)
set_option maxRecDepth 20000 in
theorem gX4_placeFor_X4_addPaired : GoodIn wsX4_placeFor (wsV RX4 75 RX4 yX4_addPaired wsX4_addPaired) := goodIn_app (goodIn_of _ (by decide +kernel)) ggX4_placeFor_X4_addPaired
theorem dX4_placeFor_0 : decode cX4_placeFor 0 = .ok (.iload_n 1, 1) := by decide +kernel
theorem dX4_placeFor_1 : decode cX4_placeFor 1 = .ok (.invokestatic 66, 3) := by decide +kernel
theorem dX4_placeFor_4 : decode cX4_placeFor 4 = .ok (.istore_n 3, 1) := by decide +kernel
theorem dX4_placeFor_5 : decode cX4_placeFor 5 = .ok (.aload_n 0, 1) := by decide +kernel
theorem dX4_placeFor_6 : decode cX4_placeFor 6 = .ok (.getfield 22, 3) := by decide +kernel
theorem dX4_placeFor_9 : decode cX4_placeFor 9 = .ok (.iload_n 3, 1) := by decide +kernel
theorem dX4_placeFor_10 : decode cX4_placeFor 10 = .ok (.iaload, 1) := by decide +kernel
theorem dX4_placeFor_11 : decode cX4_placeFor 11 = .ok (.aload_n 0, 1) := by decide +kernel
theorem dX4_placeFor_12 : decode cX4_placeFor 12 = .ok (.getfield 31, 3) := by decide +kernel
theorem dX4_placeFor_15 : decode cX4_placeFor 15 = .ok (.if_icmp .ne 13, 3) := by decide +kernel
theorem dX4_placeFor_18 : decode cX4_placeFor 18 = .ok (.aload_n 0, 1) := by decide +kernel
theorem dX4_placeFor_19 : decode cX4_placeFor 19 = .ok (.getfield 19, 3) := by decide +kernel
theorem dX4_placeFor_22 : decode cX4_placeFor 22 = .ok (.iload_n 3, 1) := by decide +kernel
theorem dX4_placeFor_23 : decode cX4_placeFor 23 = .ok (.iaload, 1) := by decide +kernel
theorem dX4_placeFor_24 : decode cX4_placeFor 24 = .ok (.iload_n 1, 1) := by decide +kernel
theorem dX4_placeFor_25 : decode cX4_placeFor 25 = .ok (.if_icmp .eq 9, 3) := by decide +kernel
theorem dX4_placeFor_28 : decode cX4_placeFor 28 = .ok (.iload_n 2, 1) := by decide +kernel
theorem dX4_placeFor_29 : decode cX4_placeFor 29 = .ok (.bipush 12, 2) := by decide +kernel
theorem dX4_placeFor_31 : decode cX4_placeFor 31 = .ok (.if_icmp .le 5, 3) := by decide +kernel
theorem dX4_placeFor_34 : decode cX4_placeFor 34 = .ok (.iload_n 3, 1) := by decide +kernel
theorem dX4_placeFor_35 : decode cX4_placeFor 35 = .ok (.ireturn, 1) := by decide +kernel
theorem dX4_placeFor_36 : decode cX4_placeFor 36 = .ok (.aload_n 0, 1) := by decide +kernel
theorem dX4_placeFor_37 : decode cX4_placeFor 37 = .ok (.getfield 22, 3) := by decide +kernel
theorem dX4_placeFor_40 : decode cX4_placeFor 40 = .ok (.iload_n 3, 1) := by decide +kernel
theorem dX4_placeFor_41 : decode cX4_placeFor 41 = .ok (.aload_n 0, 1) := by decide +kernel
theorem dX4_placeFor_42 : decode cX4_placeFor 42 = .ok (.getfield 31, 3) := by decide +kernel
theorem dX4_placeFor_45 : decode cX4_placeFor 45 = .ok (.iastore, 1) := by decide +kernel
theorem dX4_placeFor_46 : decode cX4_placeFor 46 = .ok (.aload_n 0, 1) := by decide +kernel
theorem dX4_placeFor_47 : decode cX4_placeFor 47 = .ok (.getfield 19, 3) := by decide +kernel
theorem dX4_placeFor_50 : decode cX4_placeFor 50 = .ok (.iload_n 3, 1) := by decide +kernel
theorem dX4_placeFor_51 : decode cX4_placeFor 51 = .ok (.iload_n 1, 1) := by decide +kernel
theorem dX4_placeFor_52 : decode cX4_placeFor 52 = .ok (.iastore, 1) := by decide +kernel
theorem dX4_placeFor_53 : decode cX4_placeFor 53 = .ok (.iload_n 1, 1) := by decide +kernel
theorem dX4_placeFor_54 : decode cX4_placeFor 54 = .ok (.ifCond .ne 15, 3) := by decide +kernel
theorem dX4_placeFor_57 : decode cX4_placeFor 57 = .ok (.aload_n 0, 1) := by decide +kernel
theorem dX4_placeFor_58 : decode cX4_placeFor 58 = .ok (.getfield 9, 3) := by decide +kernel
theorem dX4_placeFor_61 : decode cX4_placeFor 61 = .ok (.iload_n 3, 1) := by decide +kernel
theorem dX4_placeFor_62 : decode cX4_placeFor 62 = .ok (.bipush 7, 2) := by decide +kernel
theorem dX4_placeFor_64 : decode cX4_placeFor 64 = .ok (.imul, 1) := by decide +kernel
theorem dX4_placeFor_65 : decode cX4_placeFor 65 = .ok (.lconst 1, 1) := by decide +kernel
theorem dX4_placeFor_66 : decode cX4_placeFor 66 = .ok (.lastore, 1) := by decide +kernel
theorem dX4_placeFor_67 : decode cX4_placeFor 67 = .ok (.iload_n 3, 1) := by decide +kernel
theorem dX4_placeFor_68 : decode cX4_placeFor 68 = .ok (.ireturn, 1) := by decide +kernel
theorem dX4_placeFor_69 : decode cX4_placeFor 69 = .ok (.iload_n 1, 1) := by decide +kernel
theorem dX4_placeFor_70 : decode cX4_placeFor 70 = .ok (.invokestatic 57, 3) := by decide +kernel
theorem dX4_placeFor_73 : decode cX4_placeFor 73 = .ok (.istore 4, 2) := by decide +kernel
theorem dX4_placeFor_75 : decode cX4_placeFor 75 = .ok (.iload_n 1, 1) := by decide +kernel
theorem dX4_placeFor_76 : decode cX4_placeFor 76 = .ok (.iconst 1, 1) := by decide +kernel
theorem dX4_placeFor_77 : decode cX4_placeFor 77 = .ok (.iload 4, 2) := by decide +kernel
theorem dX4_placeFor_79 : decode cX4_placeFor 79 = .ok (.ishl, 1) := by decide +kernel
theorem dX4_placeFor_80 : decode cX4_placeFor 80 = .ok (.ixor, 1) := by decide +kernel
theorem dX4_placeFor_81 : decode cX4_placeFor 81 = .ok (.istore 5, 2) := by decide +kernel
theorem dX4_placeFor_83 : decode cX4_placeFor 83 = .ok (.aload_n 0, 1) := by decide +kernel
theorem dX4_placeFor_84 : decode cX4_placeFor 84 = .ok (.iload 5, 2) := by decide +kernel
theorem dX4_placeFor_86 : decode cX4_placeFor 86 = .ok (.iload_n 2, 1) := by decide +kernel
theorem dX4_placeFor_87 : decode cX4_placeFor 87 = .ok (.iconst 1, 1) := by decide +kernel
theorem dX4_placeFor_88 : decode cX4_placeFor 88 = .ok (.iadd, 1) := by decide +kernel
theorem dX4_placeFor_89 : decode cX4_placeFor 89 = .ok (.invokevirtual 54, 3) := by decide +kernel
theorem dX4_placeFor_92 : decode cX4_placeFor 92 = .ok (.istore 6, 2) := by decide +kernel
theorem dX4_placeFor_94 : decode cX4_placeFor 94 = .ok (.aload_n 0, 1) := by decide +kernel
theorem dX4_placeFor_95 : decode cX4_placeFor 95 = .ok (.getfield 9, 3) := by decide +kernel
theorem dX4_placeFor_98 : decode cX4_placeFor 98 = .ok (.iload 6, 2) := by decide +kernel
theorem dX4_placeFor_100 : decode cX4_placeFor 100 = .ok (.bipush 7, 2) := by decide +kernel
theorem dX4_placeFor_102 : decode cX4_placeFor 102 = .ok (.imul, 1) := by decide +kernel
theorem dX4_placeFor_103 : decode cX4_placeFor 103 = .ok (.aload_n 0, 1) := by decide +kernel
theorem dX4_placeFor_104 : decode cX4_placeFor 104 = .ok (.getfield 9, 3) := by decide +kernel
theorem dX4_placeFor_107 : decode cX4_placeFor 107 = .ok (.iload_n 3, 1) := by decide +kernel
theorem dX4_placeFor_108 : decode cX4_placeFor 108 = .ok (.bipush 7, 2) := by decide +kernel
theorem dX4_placeFor_110 : decode cX4_placeFor 110 = .ok (.imul, 1) := by decide +kernel
theorem dX4_placeFor_111 : decode cX4_placeFor 111 = .ok (.bipush 7, 2) := by decide +kernel
theorem dX4_placeFor_113 : decode cX4_placeFor 113 = .ok (.invokestatic 69, 3) := by decide +kernel
theorem dX4_placeFor_116 : decode cX4_placeFor 116 = .ok (.aload_n 0, 1) := by decide +kernel
theorem dX4_placeFor_117 : decode cX4_placeFor 117 = .ok (.getfield 15, 3) := by decide +kernel
theorem dX4_placeFor_120 : decode cX4_placeFor 120 = .ok (.iload_n 3, 1) := by decide +kernel
theorem dX4_placeFor_121 : decode cX4_placeFor 121 = .ok (.aload_n 0, 1) := by decide +kernel
theorem dX4_placeFor_122 : decode cX4_placeFor 122 = .ok (.getfield 15, 3) := by decide +kernel
theorem dX4_placeFor_125 : decode cX4_placeFor 125 = .ok (.iload 6, 2) := by decide +kernel
theorem dX4_placeFor_127 : decode cX4_placeFor 127 = .ok (.iaload, 1) := by decide +kernel
theorem dX4_placeFor_128 : decode cX4_placeFor 128 = .ok (.iastore, 1) := by decide +kernel
theorem dX4_placeFor_129 : decode cX4_placeFor 129 = .ok (.aload_n 0, 1) := by decide +kernel
theorem dX4_placeFor_130 : decode cX4_placeFor 130 = .ok (.getfield 25, 3) := by decide +kernel
theorem dX4_placeFor_133 : decode cX4_placeFor 133 = .ok (.iload 4, 2) := by decide +kernel
theorem dX4_placeFor_135 : decode cX4_placeFor 135 = .ok (.iaload, 1) := by decide +kernel
theorem dX4_placeFor_136 : decode cX4_placeFor 136 = .ok (.iload 5, 2) := by decide +kernel
theorem dX4_placeFor_138 : decode cX4_placeFor 138 = .ok (.iand, 1) := by decide +kernel
theorem dX4_placeFor_139 : decode cX4_placeFor 139 = .ok (.istore 7, 2) := by decide +kernel
theorem dX4_placeFor_141 : decode cX4_placeFor 141 = .ok (.iload 4, 2) := by decide +kernel
theorem dX4_placeFor_143 : decode cX4_placeFor 143 = .ok (.iconst 1, 1) := by decide +kernel
theorem dX4_placeFor_144 : decode cX4_placeFor 144 = .ok (.iadd, 1) := by decide +kernel
theorem dX4_placeFor_145 : decode cX4_placeFor 145 = .ok (.istore 8, 2) := by decide +kernel
theorem dX4_placeFor_147 : decode cX4_placeFor 147 = .ok (.iload 8, 2) := by decide +kernel
theorem dX4_placeFor_149 : decode cX4_placeFor 149 = .ok (.bipush 12, 2) := by decide +kernel
theorem dX4_placeFor_151 : decode cX4_placeFor 151 = .ok (.if_icmp .ge 51, 3) := by decide +kernel
theorem dX4_placeFor_154 : decode cX4_placeFor 154 = .ok (.iload 7, 2) := by decide +kernel
theorem dX4_placeFor_156 : decode cX4_placeFor 156 = .ok (.iload 8, 2) := by decide +kernel
theorem dX4_placeFor_158 : decode cX4_placeFor 158 = .ok (.ishr, 1) := by decide +kernel
theorem dX4_placeFor_159 : decode cX4_placeFor 159 = .ok (.iconst 1, 1) := by decide +kernel
theorem dX4_placeFor_160 : decode cX4_placeFor 160 = .ok (.iand, 1) := by decide +kernel
theorem dX4_placeFor_161 : decode cX4_placeFor 161 = .ok (.ifCond .eq 35, 3) := by decide +kernel
theorem dX4_placeFor_164 : decode cX4_placeFor 164 = .ok (.aload_n 0, 1) := by decide +kernel
theorem dX4_placeFor_165 : decode cX4_placeFor 165 = .ok (.iload_n 3, 1) := by decide +kernel
theorem dX4_placeFor_166 : decode cX4_placeFor 166 = .ok (.aload_n 0, 1) := by decide +kernel
theorem dX4_placeFor_167 : decode cX4_placeFor 167 = .ok (.iload 5, 2) := by decide +kernel
theorem dX4_placeFor_169 : decode cX4_placeFor 169 = .ok (.iconst 1, 1) := by decide +kernel
theorem dX4_placeFor_170 : decode cX4_placeFor 170 = .ok (.iload 8, 2) := by decide +kernel
theorem dX4_placeFor_172 : decode cX4_placeFor 172 = .ok (.ishl, 1) := by decide +kernel
theorem dX4_placeFor_173 : decode cX4_placeFor 173 = .ok (.ixor, 1) := by decide +kernel
theorem dX4_placeFor_174 : decode cX4_placeFor 174 = .ok (.iload_n 2, 1) := by decide +kernel
theorem dX4_placeFor_175 : decode cX4_placeFor 175 = .ok (.iconst 1, 1) := by decide +kernel
theorem dX4_placeFor_176 : decode cX4_placeFor 176 = .ok (.iadd, 1) := by decide +kernel
theorem dX4_placeFor_177 : decode cX4_placeFor 177 = .ok (.invokevirtual 54, 3) := by decide +kernel
theorem dX4_placeFor_180 : decode cX4_placeFor 180 = .ok (.aload_n 0, 1) := by decide +kernel
theorem dX4_placeFor_181 : decode cX4_placeFor 181 = .ok (.getfield 28, 3) := by decide +kernel
theorem dX4_placeFor_184 : decode cX4_placeFor 184 = .ok (.iload 4, 2) := by decide +kernel
theorem dX4_placeFor_186 : decode cX4_placeFor 186 = .ok (.bipush 12, 2) := by decide +kernel
theorem dX4_placeFor_188 : decode cX4_placeFor 188 = .ok (.imul, 1) := by decide +kernel
theorem dX4_placeFor_189 : decode cX4_placeFor 189 = .ok (.iload 8, 2) := by decide +kernel
theorem dX4_placeFor_191 : decode cX4_placeFor 191 = .ok (.iadd, 1) := by decide +kernel
theorem dX4_placeFor_192 : decode cX4_placeFor 192 = .ok (.iaload, 1) := by decide +kernel
theorem dX4_placeFor_193 : decode cX4_placeFor 193 = .ok (.invokevirtual 75, 3) := by decide +kernel
theorem dX4_placeFor_196 : decode cX4_placeFor 196 = .ok (.iinc 8 1, 3) := by decide +kernel
theorem dX4_placeFor_199 : decode cX4_placeFor 199 = .ok (.goto (-52), 3) := by decide +kernel
theorem dX4_placeFor_202 : decode cX4_placeFor 202 = .ok (.iload_n 3, 1) := by decide +kernel
theorem dX4_placeFor_203 : decode cX4_placeFor 203 = .ok (.ireturn, 1) := by decide +kernel
set_option maxRecDepth 20000 in
theorem ggX4_addPaired_X7_times : GoodIn wsX4_addPaired wsX7_times := goodIn_r _ [13, 14, 15] (by decide +kernel) (by decide +kernel)
set_option maxRecDepth 20000 in
theorem gX4_addPaired_X7_times : GoodIn wsX4_addPaired (va_wsS RX4 87 yX7_times wsX7_times) := goodIn_app (goodIn_of _ (by decide +kernel)) ggX4_addPaired_X7_times
set_option maxRecDepth 20000 in
theorem ggX4_addPaired_X7_plus : GoodIn wsX4_addPaired wsX7_plus := goodIn_r _ [18, 15, 14] (by decide +kernel) (by decide +kernel)
set_option maxRecDepth 20000 in
theorem gX4_addPaired_X7_plus : GoodIn wsX4_addPaired (va_wsS RX4 93 yX7_plus wsX7_plus) := goodIn_app (goodIn_of _ (by decide +kernel)) ggX4_addPaired_X7_plus
theorem dX4_addPaired_0 : decode cX4_addPaired 0 = .ok (.aload_n 0, 1) := by decide +kernel
theorem dX4_addPaired_1 : decode cX4_addPaired 1 = .ok (.getfield 15, 3) := by decide +kernel
theorem dX4_addPaired_4 : decode cX4_addPaired 4 = .ok (.iload_n 1, 1) := by decide +kernel
theorem dX4_addPaired_5 : decode cX4_addPaired 5 = .ok (.aload_n 0, 1) := by decide +kernel
theorem dX4_addPaired_6 : decode cX4_addPaired 6 = .ok (.getfield 15, 3) := by decide +kernel
theorem dX4_addPaired_9 : decode cX4_addPaired 9 = .ok (.iload_n 1, 1) := by decide +kernel
theorem dX4_addPaired_10 : decode cX4_addPaired 10 = .ok (.iaload, 1) := by decide +kernel
theorem dX4_addPaired_11 : decode cX4_addPaired 11 = .ok (.aload_n 0, 1) := by decide +kernel
theorem dX4_addPaired_12 : decode cX4_addPaired 12 = .ok (.getfield 15, 3) := by decide +kernel
theorem dX4_addPaired_15 : decode cX4_addPaired 15 = .ok (.iload_n 2, 1) := by decide +kernel
theorem dX4_addPaired_16 : decode cX4_addPaired 16 = .ok (.iaload, 1) := by decide +kernel
theorem dX4_addPaired_17 : decode cX4_addPaired 17 = .ok (.iconst 1, 1) := by decide +kernel
theorem dX4_addPaired_18 : decode cX4_addPaired 18 = .ok (.iadd, 1) := by decide +kernel
theorem dX4_addPaired_19 : decode cX4_addPaired 19 = .ok (.invokestatic 79, 3) := by decide +kernel
theorem dX4_addPaired_22 : decode cX4_addPaired 22 = .ok (.iastore, 1) := by decide +kernel
theorem dX4_addPaired_23 : decode cX4_addPaired 23 = .ok (.iload_n 3, 1) := by decide +kernel
theorem dX4_addPaired_24 : decode cX4_addPaired 24 = .ok (.ifCond .ne 4, 3) := by decide +kernel
theorem dX4_addPaired_27 : decode cX4_addPaired 27 = .ok (.return_, 1) := by decide +kernel
theorem dX4_addPaired_28 : decode cX4_addPaired 28 = .ok (.iload_n 1, 1) := by decide +kernel
theorem dX4_addPaired_29 : decode cX4_addPaired 29 = .ok (.bipush 7, 2) := by decide +kernel
theorem dX4_addPaired_31 : decode cX4_addPaired 31 = .ok (.imul, 1) := by decide +kernel
theorem dX4_addPaired_32 : decode cX4_addPaired 32 = .ok (.istore 4, 2) := by decide +kernel
theorem dX4_addPaired_34 : decode cX4_addPaired 34 = .ok (.iload_n 2, 1) := by decide +kernel
theorem dX4_addPaired_35 : decode cX4_addPaired 35 = .ok (.bipush 7, 2) := by decide +kernel
theorem dX4_addPaired_37 : decode cX4_addPaired 37 = .ok (.imul, 1) := by decide +kernel
theorem dX4_addPaired_38 : decode cX4_addPaired 38 = .ok (.istore 5, 2) := by decide +kernel
theorem dX4_addPaired_40 : decode cX4_addPaired 40 = .ok (.aload_n 0, 1) := by decide +kernel
theorem dX4_addPaired_41 : decode cX4_addPaired 41 = .ok (.getfield 15, 3) := by decide +kernel
theorem dX4_addPaired_44 : decode cX4_addPaired 44 = .ok (.iload_n 2, 1) := by decide +kernel
theorem dX4_addPaired_45 : decode cX4_addPaired 45 = .ok (.iaload, 1) := by decide +kernel
theorem dX4_addPaired_46 : decode cX4_addPaired 46 = .ok (.iconst 1, 1) := by decide +kernel
theorem dX4_addPaired_47 : decode cX4_addPaired 47 = .ok (.iadd, 1) := by decide +kernel
theorem dX4_addPaired_48 : decode cX4_addPaired 48 = .ok (.bipush 6, 2) := by decide +kernel
theorem dX4_addPaired_50 : decode cX4_addPaired 50 = .ok (.invokestatic 84, 3) := by decide +kernel
theorem dX4_addPaired_53 : decode cX4_addPaired 53 = .ok (.istore 6, 2) := by decide +kernel
theorem dX4_addPaired_55 : decode cX4_addPaired 55 = .ok (.iconst 1, 1) := by decide +kernel
theorem dX4_addPaired_56 : decode cX4_addPaired 56 = .ok (.istore 7, 2) := by decide +kernel
theorem dX4_addPaired_58 : decode cX4_addPaired 58 = .ok (.iload 7, 2) := by decide +kernel
theorem dX4_addPaired_60 : decode cX4_addPaired 60 = .ok (.iload 6, 2) := by decide +kernel
theorem dX4_addPaired_62 : decode cX4_addPaired 62 = .ok (.if_icmp .gt 49, 3) := by decide +kernel
theorem dX4_addPaired_65 : decode cX4_addPaired 65 = .ok (.aload_n 0, 1) := by decide +kernel
theorem dX4_addPaired_66 : decode cX4_addPaired 66 = .ok (.getfield 9, 3) := by decide +kernel
theorem dX4_addPaired_69 : decode cX4_addPaired 69 = .ok (.iload 4, 2) := by decide +kernel
theorem dX4_addPaired_71 : decode cX4_addPaired 71 = .ok (.iload 7, 2) := by decide +kernel
theorem dX4_addPaired_73 : decode cX4_addPaired 73 = .ok (.iadd, 1) := by decide +kernel
theorem dX4_addPaired_74 : decode cX4_addPaired 74 = .ok (.aload_n 0, 1) := by decide +kernel
theorem dX4_addPaired_75 : decode cX4_addPaired 75 = .ok (.getfield 9, 3) := by decide +kernel
theorem dX4_addPaired_78 : decode cX4_addPaired 78 = .ok (.iload 4, 2) := by decide +kernel
theorem dX4_addPaired_80 : decode cX4_addPaired 80 = .ok (.iload 7, 2) := by decide +kernel
theorem dX4_addPaired_82 : decode cX4_addPaired 82 = .ok (.iadd, 1) := by decide +kernel
theorem dX4_addPaired_83 : decode cX4_addPaired 83 = .ok (.laload, 1) := by decide +kernel
theorem dX4_addPaired_84 : decode cX4_addPaired 84 = .ok (.iload_n 3, 1) := by decide +kernel
theorem dX4_addPaired_85 : decode cX4_addPaired 85 = .ok (.i2l, 1) := by decide +kernel
theorem dX4_addPaired_86 : decode cX4_addPaired 86 = .ok (.aload_n 0, 1) := by decide +kernel
theorem dX4_addPaired_87 : decode cX4_addPaired 87 = .ok (.getfield 9, 3) := by decide +kernel
theorem dX4_addPaired_90 : decode cX4_addPaired 90 = .ok (.iload 5, 2) := by decide +kernel
theorem dX4_addPaired_92 : decode cX4_addPaired 92 = .ok (.iload 7, 2) := by decide +kernel
theorem dX4_addPaired_94 : decode cX4_addPaired 94 = .ok (.iadd, 1) := by decide +kernel
theorem dX4_addPaired_95 : decode cX4_addPaired 95 = .ok (.iconst 1, 1) := by decide +kernel
theorem dX4_addPaired_96 : decode cX4_addPaired 96 = .ok (.isub, 1) := by decide +kernel
theorem dX4_addPaired_97 : decode cX4_addPaired 97 = .ok (.laload, 1) := by decide +kernel
theorem dX4_addPaired_98 : decode cX4_addPaired 98 = .ok (.invokestatic 87, 3) := by decide +kernel
theorem dX4_addPaired_101 : decode cX4_addPaired 101 = .ok (.invokestatic 93, 3) := by decide +kernel
theorem dX4_addPaired_104 : decode cX4_addPaired 104 = .ok (.lastore, 1) := by decide +kernel
theorem dX4_addPaired_105 : decode cX4_addPaired 105 = .ok (.iinc 7 1, 3) := by decide +kernel
theorem dX4_addPaired_108 : decode cX4_addPaired 108 = .ok (.goto (-50), 3) := by decide +kernel
theorem dX4_addPaired_111 : decode cX4_addPaired 111 = .ok (.return_, 1) := by decide +kernel
theorem dX4_isMuch_0 : decode cX4_isMuch 0 = .ok (.iconst 0, 1) := by decide +kernel
theorem dX4_isMuch_1 : decode cX4_isMuch 1 = .ok (.istore_n 2, 1) := by decide +kernel
theorem dX4_isMuch_2 : decode cX4_isMuch 2 = .ok (.iload_n 2, 1) := by decide +kernel
theorem dX4_isMuch_3 : decode cX4_isMuch 3 = .ok (.bipush 7, 2) := by decide +kernel
theorem dX4_isMuch_5 : decode cX4_isMuch 5 = .ok (.if_icmp .ge 24, 3) := by decide +kernel
theorem dX4_isMuch_8 : decode cX4_isMuch 8 = .ok (.aload_n 0, 1) := by decide +kernel
theorem dX4_isMuch_9 : decode cX4_isMuch 9 = .ok (.getfield 9, 3) := by decide +kernel
theorem dX4_isMuch_12 : decode cX4_isMuch 12 = .ok (.iload_n 1, 1) := by decide +kernel
theorem dX4_isMuch_13 : decode cX4_isMuch 13 = .ok (.iload_n 2, 1) := by decide +kernel
theorem dX4_isMuch_14 : decode cX4_isMuch 14 = .ok (.iadd, 1) := by decide +kernel
theorem dX4_isMuch_15 : decode cX4_isMuch 15 = .ok (.laload, 1) := by decide +kernel
theorem dX4_isMuch_16 : decode cX4_isMuch 16 = .ok (.lconst 0, 1) := by decide +kernel
theorem dX4_isMuch_17 : decode cX4_isMuch 17 = .ok (.lcmp, 1) := by decide +kernel
theorem dX4_isMuch_18 : decode cX4_isMuch 18 = .ok (.ifCond .ge 5, 3) := by decide +kernel
theorem dX4_isMuch_21 : decode cX4_isMuch 21 = .ok (.iconst 1, 1) := by decide +kernel
theorem dX4_isMuch_22 : decode cX4_isMuch 22 = .ok (.ireturn, 1) := by decide +kernel
theorem dX4_isMuch_23 : decode cX4_isMuch 23 = .ok (.iinc 2 1, 3) := by decide +kernel
theorem dX4_isMuch_26 : decode cX4_isMuch 26 = .ok (.goto (-24), 3) := by decide +kernel
theorem dX4_isMuch_29 : decode cX4_isMuch 29 = .ok (.iconst 0, 1) := by decide +kernel
theorem dX4_isMuch_30 : decode cX4_isMuch 30 = .ok (.ireturn, 1) := by decide +kernel
theorem dX4_numberAt_0 : decode cX4_numberAt 0 = .ok (.iload_n 2, 1) := by decide +kernel
theorem dX4_numberAt_1 : decode cX4_numberAt 1 = .ok (.iload_n 3, 1) := by decide +kernel
theorem dX4_numberAt_2 : decode cX4_numberAt 2 = .ok (.isub, 1) := by decide +kernel
theorem dX4_numberAt_3 : decode cX4_numberAt 3 = .ok (.istore 4, 2) := by decide +kernel
theorem dX4_numberAt_5 : decode cX4_numberAt 5 = .ok (.iload 4, 2) := by decide +kernel
theorem dX4_numberAt_7 : decode cX4_numberAt 7 = .ok (.ifCond .lt 10, 3) := by decide +kernel
theorem dX4_numberAt_10 : decode cX4_numberAt 10 = .ok (.iload 4, 2) := by decide +kernel
theorem dX4_numberAt_12 : decode cX4_numberAt 12 = .ok (.iconst 2, 1) := by decide +kernel
theorem dX4_numberAt_13 : decode cX4_numberAt 13 = .ok (.irem, 1) := by decide +kernel
theorem dX4_numberAt_14 : decode cX4_numberAt 14 = .ok (.ifCond .eq 5, 3) := by decide +kernel
theorem dX4_numberAt_17 : decode cX4_numberAt 17 = .ok (.lconst 0, 1) := by decide +kernel
theorem dX4_numberAt_18 : decode cX4_numberAt 18 = .ok (.lreturn, 1) := by decide +kernel
theorem dX4_numberAt_19 : decode cX4_numberAt 19 = .ok (.iload 4, 2) := by decide +kernel
theorem dX4_numberAt_21 : decode cX4_numberAt 21 = .ok (.iconst 2, 1) := by decide +kernel
theorem dX4_numberAt_22 : decode cX4_numberAt 22 = .ok (.idiv, 1) := by decide +kernel
theorem dX4_numberAt_23 : decode cX4_numberAt 23 = .ok (.istore 5, 2) := by decide +kernel
theorem dX4_numberAt_25 : decode cX4_numberAt 25 = .ok (.iload 5, 2) := by decide +kernel
theorem dX4_numberAt_27 : decode cX4_numberAt 27 = .ok (.iconst 2, 1) := by decide +kernel
theorem dX4_numberAt_28 : decode cX4_numberAt 28 = .ok (.irem, 1) := by decide +kernel
theorem dX4_numberAt_29 : decode cX4_numberAt 29 = .ok (.ifCond .ne 15, 3) := by decide +kernel
theorem dX4_numberAt_32 : decode cX4_numberAt 32 = .ok (.aload_n 0, 1) := by decide +kernel
theorem dX4_numberAt_33 : decode cX4_numberAt 33 = .ok (.getfield 9, 3) := by decide +kernel
theorem dX4_numberAt_36 : decode cX4_numberAt 36 = .ok (.iload_n 1, 1) := by decide +kernel
theorem dX4_numberAt_37 : decode cX4_numberAt 37 = .ok (.iload 5, 2) := by decide +kernel
theorem dX4_numberAt_39 : decode cX4_numberAt 39 = .ok (.iadd, 1) := by decide +kernel
theorem dX4_numberAt_40 : decode cX4_numberAt 40 = .ok (.laload, 1) := by decide +kernel
theorem dX4_numberAt_41 : decode cX4_numberAt 41 = .ok (.goto 13, 3) := by decide +kernel
theorem dX4_numberAt_44 : decode cX4_numberAt 44 = .ok (.aload_n 0, 1) := by decide +kernel
theorem dX4_numberAt_45 : decode cX4_numberAt 45 = .ok (.getfield 9, 3) := by decide +kernel
theorem dX4_numberAt_48 : decode cX4_numberAt 48 = .ok (.iload_n 1, 1) := by decide +kernel
theorem dX4_numberAt_49 : decode cX4_numberAt 49 = .ok (.iload 5, 2) := by decide +kernel
theorem dX4_numberAt_51 : decode cX4_numberAt 51 = .ok (.iadd, 1) := by decide +kernel
theorem dX4_numberAt_52 : decode cX4_numberAt 52 = .ok (.laload, 1) := by decide +kernel
theorem dX4_numberAt_53 : decode cX4_numberAt 53 = .ok (.lneg, 1) := by decide +kernel
theorem dX4_numberAt_54 : decode cX4_numberAt 54 = .ok (.lreturn, 1) := by decide +kernel
set_option maxRecDepth 20000 in
theorem ggX4_signAt_X4_isMuch : GoodIn wsX4_signAt wsX4_isMuch := goodIn_r _ [5, 6, 24, 25, 26, 27, 28, 29, 30, 31, 32] (by decide +kernel) (by decide +kernel)
set_option maxRecDepth 20000 in
theorem gX4_signAt_X4_isMuch : GoodIn wsX4_signAt (wsV RX4 96 RX4 yX4_isMuch wsX4_isMuch) := goodIn_app (goodIn_of _ (by decide +kernel)) ggX4_signAt_X4_isMuch
set_option maxRecDepth 20000 in
theorem ggX4_signAt_X4_numberAt : GoodIn wsX4_signAt wsX4_numberAt := goodIn_r _ [10, 6, 24, 25, 26, 27, 28, 29, 30, 31, 32] (by decide +kernel) (by decide +kernel)
set_option maxRecDepth 20000 in
theorem gX4_signAt_X4_numberAt : GoodIn wsX4_signAt (wsV RX4 100 RX4 yX4_numberAt wsX4_numberAt) := goodIn_app (goodIn_of _ (by decide +kernel)) ggX4_signAt_X4_numberAt
set_option maxRecDepth 20000 in
theorem ggX4_signAt_X7_canMultiply : GoodIn wsX4_signAt wsX7_canMultiply := goodIn_r _ [14, 15, 16] (by decide +kernel) (by decide +kernel)
set_option maxRecDepth 20000 in
theorem gX4_signAt_X7_canMultiply : GoodIn wsX4_signAt (va_wsS RX4 104 yX7_canMultiply wsX7_canMultiply) := goodIn_app (goodIn_of _ (by decide +kernel)) ggX4_signAt_X7_canMultiply
set_option maxRecDepth 20000 in
theorem ggX4_signAt_X7_canAdd : GoodIn wsX4_signAt wsX7_canAdd := goodIn_r _ [19] (by decide +kernel) (by decide +kernel)
set_option maxRecDepth 20000 in
theorem gX4_signAt_X7_canAdd : GoodIn wsX4_signAt (va_wsS RX4 108 yX7_canAdd wsX7_canAdd) := goodIn_app (goodIn_of _ (by decide +kernel)) ggX4_signAt_X7_canAdd
set_option maxRecDepth 20000 in
theorem ggX4_signAt_J13_compare_74951 : GoodIn wsX4_signAt wsJ13_compare_74951 := goodIn_r _ [23] (by decide +kernel) (by decide +kernel)
set_option maxRecDepth 20000 in
theorem gX4_signAt_J13_compare_74951 : GoodIn wsX4_signAt (va_wsS RX4 111 yJ13_compare_74951 wsJ13_compare_74951) := goodIn_app (goodIn_of _ (by decide +kernel)) ggX4_signAt_J13_compare_74951
theorem dX4_signAt_0 : decode cX4_signAt 0 = .ok (.aload_n 0, 1) := by decide +kernel
theorem dX4_signAt_1 : decode cX4_signAt 1 = .ok (.iload_n 1, 1) := by decide +kernel
theorem dX4_signAt_2 : decode cX4_signAt 2 = .ok (.invokevirtual 96, 3) := by decide +kernel
theorem dX4_signAt_5 : decode cX4_signAt 5 = .ok (.ifCond .eq 6, 3) := by decide +kernel
theorem dX4_signAt_8 : decode cX4_signAt 8 = .ok (.bipush (-5), 2) := by decide +kernel
theorem dX4_signAt_10 : decode cX4_signAt 10 = .ok (.ireturn, 1) := by decide +kernel
theorem dX4_signAt_11 : decode cX4_signAt 11 = .ok (.aload_n 0, 1) := by decide +kernel
theorem dX4_signAt_12 : decode cX4_signAt 12 = .ok (.iload_n 1, 1) := by decide +kernel
theorem dX4_signAt_13 : decode cX4_signAt 13 = .ok (.iload_n 2, 1) := by decide +kernel
theorem dX4_signAt_14 : decode cX4_signAt 14 = .ok (.iload_n 2, 1) := by decide +kernel
theorem dX4_signAt_15 : decode cX4_signAt 15 = .ok (.invokevirtual 100, 3) := by decide +kernel
theorem dX4_signAt_18 : decode cX4_signAt 18 = .ok (.lstore 5, 2) := by decide +kernel
theorem dX4_signAt_20 : decode cX4_signAt 20 = .ok (.lconst 1, 1) := by decide +kernel
theorem dX4_signAt_21 : decode cX4_signAt 21 = .ok (.lstore 7, 2) := by decide +kernel
theorem dX4_signAt_23 : decode cX4_signAt 23 = .ok (.iconst 1, 1) := by decide +kernel
theorem dX4_signAt_24 : decode cX4_signAt 24 = .ok (.istore 9, 2) := by decide +kernel
theorem dX4_signAt_26 : decode cX4_signAt 26 = .ok (.iload 9, 2) := by decide +kernel
theorem dX4_signAt_28 : decode cX4_signAt 28 = .ok (.iload_n 2, 1) := by decide +kernel
theorem dX4_signAt_29 : decode cX4_signAt 29 = .ok (.if_icmp .gt 84, 3) := by decide +kernel
theorem dX4_signAt_32 : decode cX4_signAt 32 = .ok (.lload 7, 2) := by decide +kernel
theorem dX4_signAt_34 : decode cX4_signAt 34 = .ok (.iload 4, 2) := by decide +kernel
theorem dX4_signAt_36 : decode cX4_signAt 36 = .ok (.i2l, 1) := by decide +kernel
theorem dX4_signAt_37 : decode cX4_signAt 37 = .ok (.lmul, 1) := by decide +kernel
theorem dX4_signAt_38 : decode cX4_signAt 38 = .ok (.lstore 7, 2) := by decide +kernel
theorem dX4_signAt_40 : decode cX4_signAt 40 = .ok (.aload_n 0, 1) := by decide +kernel
theorem dX4_signAt_41 : decode cX4_signAt 41 = .ok (.iload_n 1, 1) := by decide +kernel
theorem dX4_signAt_42 : decode cX4_signAt 42 = .ok (.iload_n 2, 1) := by decide +kernel
theorem dX4_signAt_43 : decode cX4_signAt 43 = .ok (.iload_n 2, 1) := by decide +kernel
theorem dX4_signAt_44 : decode cX4_signAt 44 = .ok (.iload 9, 2) := by decide +kernel
theorem dX4_signAt_46 : decode cX4_signAt 46 = .ok (.isub, 1) := by decide +kernel
theorem dX4_signAt_47 : decode cX4_signAt 47 = .ok (.invokevirtual 100, 3) := by decide +kernel
theorem dX4_signAt_50 : decode cX4_signAt 50 = .ok (.lstore 10, 2) := by decide +kernel
theorem dX4_signAt_52 : decode cX4_signAt 52 = .ok (.lload 5, 2) := by decide +kernel
theorem dX4_signAt_54 : decode cX4_signAt 54 = .ok (.iload_n 3, 1) := by decide +kernel
theorem dX4_signAt_55 : decode cX4_signAt 55 = .ok (.i2l, 1) := by decide +kernel
theorem dX4_signAt_56 : decode cX4_signAt 56 = .ok (.invokestatic 104, 3) := by decide +kernel
theorem dX4_signAt_59 : decode cX4_signAt 59 = .ok (.ifCond .eq 13, 3) := by decide +kernel
theorem dX4_signAt_62 : decode cX4_signAt 62 = .ok (.lload 10, 2) := by decide +kernel
theorem dX4_signAt_64 : decode cX4_signAt 64 = .ok (.lload 7, 2) := by decide +kernel
theorem dX4_signAt_66 : decode cX4_signAt 66 = .ok (.invokestatic 104, 3) := by decide +kernel
theorem dX4_signAt_69 : decode cX4_signAt 69 = .ok (.ifCond .ne 6, 3) := by decide +kernel
theorem dX4_signAt_72 : decode cX4_signAt 72 = .ok (.bipush (-5), 2) := by decide +kernel
theorem dX4_signAt_74 : decode cX4_signAt 74 = .ok (.ireturn, 1) := by decide +kernel
theorem dX4_signAt_75 : decode cX4_signAt 75 = .ok (.lload 5, 2) := by decide +kernel
theorem dX4_signAt_77 : decode cX4_signAt 77 = .ok (.iload_n 3, 1) := by decide +kernel
theorem dX4_signAt_78 : decode cX4_signAt 78 = .ok (.i2l, 1) := by decide +kernel
theorem dX4_signAt_79 : decode cX4_signAt 79 = .ok (.lmul, 1) := by decide +kernel
theorem dX4_signAt_80 : decode cX4_signAt 80 = .ok (.lload 10, 2) := by decide +kernel
theorem dX4_signAt_82 : decode cX4_signAt 82 = .ok (.lload 7, 2) := by decide +kernel
theorem dX4_signAt_84 : decode cX4_signAt 84 = .ok (.lmul, 1) := by decide +kernel
theorem dX4_signAt_85 : decode cX4_signAt 85 = .ok (.invokestatic 108, 3) := by decide +kernel
theorem dX4_signAt_88 : decode cX4_signAt 88 = .ok (.ifCond .ne 6, 3) := by decide +kernel
theorem dX4_signAt_91 : decode cX4_signAt 91 = .ok (.bipush (-5), 2) := by decide +kernel
theorem dX4_signAt_93 : decode cX4_signAt 93 = .ok (.ireturn, 1) := by decide +kernel
theorem dX4_signAt_94 : decode cX4_signAt 94 = .ok (.lload 5, 2) := by decide +kernel
theorem dX4_signAt_96 : decode cX4_signAt 96 = .ok (.iload_n 3, 1) := by decide +kernel
theorem dX4_signAt_97 : decode cX4_signAt 97 = .ok (.i2l, 1) := by decide +kernel
theorem dX4_signAt_98 : decode cX4_signAt 98 = .ok (.lmul, 1) := by decide +kernel
theorem dX4_signAt_99 : decode cX4_signAt 99 = .ok (.lload 10, 2) := by decide +kernel
theorem dX4_signAt_101 : decode cX4_signAt 101 = .ok (.lload 7, 2) := by decide +kernel
theorem dX4_signAt_103 : decode cX4_signAt 103 = .ok (.lmul, 1) := by decide +kernel
theorem dX4_signAt_104 : decode cX4_signAt 104 = .ok (.ladd, 1) := by decide +kernel
theorem dX4_signAt_105 : decode cX4_signAt 105 = .ok (.lstore 5, 2) := by decide +kernel
theorem dX4_signAt_107 : decode cX4_signAt 107 = .ok (.iinc 9 1, 3) := by decide +kernel
theorem dX4_signAt_110 : decode cX4_signAt 110 = .ok (.goto (-84), 3) := by decide +kernel
theorem dX4_signAt_113 : decode cX4_signAt 113 = .ok (.lload 5, 2) := by decide +kernel
theorem dX4_signAt_115 : decode cX4_signAt 115 = .ok (.lconst 0, 1) := by decide +kernel
theorem dX4_signAt_116 : decode cX4_signAt 116 = .ok (.invokestatic 111, 3) := by decide +kernel
theorem dX4_signAt_119 : decode cX4_signAt 119 = .ok (.ireturn, 1) := by decide +kernel
theorem dX5_init_0 : decode cX5_init 0 = .ok (.aload_n 0, 1) := by decide +kernel
theorem dX5_init_1 : decode cX5_init 1 = .ok (.invokespecial 3, 3) := by decide +kernel
theorem dX5_init_4 : decode cX5_init 4 = .ok (.aload_n 0, 1) := by decide +kernel
theorem dX5_init_5 : decode cX5_init 5 = .ok (.bipush 7, 2) := by decide +kernel
theorem dX5_init_7 : decode cX5_init 7 = .ok (.newarray .long, 2) := by decide +kernel
theorem dX5_init_9 : decode cX5_init 9 = .ok (.putfield 9, 3) := by decide +kernel
theorem dX5_init_12 : decode cX5_init 12 = .ok (.aload_n 0, 1) := by decide +kernel
theorem dX5_init_13 : decode cX5_init 13 = .ok (.lconst 0, 1) := by decide +kernel
theorem dX5_init_14 : decode cX5_init 14 = .ok (.putfield 15, 3) := by decide +kernel
theorem dX5_init_17 : decode cX5_init 17 = .ok (.aload_n 0, 1) := by decide +kernel
theorem dX5_init_18 : decode cX5_init 18 = .ok (.lconst 0, 1) := by decide +kernel
theorem dX5_init_19 : decode cX5_init 19 = .ok (.putfield 19, 3) := by decide +kernel
theorem dX5_init_22 : decode cX5_init 22 = .ok (.aload_n 0, 1) := by decide +kernel
theorem dX5_init_23 : decode cX5_init 23 = .ok (.lconst 0, 1) := by decide +kernel
theorem dX5_init_24 : decode cX5_init 24 = .ok (.putfield 22, 3) := by decide +kernel
theorem dX5_init_27 : decode cX5_init 27 = .ok (.return_, 1) := by decide +kernel
set_option maxRecDepth 20000 in
theorem ggX5_load_X4_isMuch : GoodIn wsX5_load wsX4_isMuch := goodIn_r _ [11, 12, 26, 27, 28, 29, 30, 31, 32, 33, 34] (by decide +kernel) (by decide +kernel)
set_option maxRecDepth 20000 in
theorem gX5_load_X4_isMuch : GoodIn wsX5_load (wsV RX5 25 RX4 yX4_isMuch wsX4_isMuch) := goodIn_app (goodIn_of _ (by decide +kernel)) ggX5_load_X4_isMuch
set_option maxRecDepth 20000 in
theorem ggX5_load_X7_times : GoodIn wsX5_load wsX7_times := goodIn_r _ [16, 17, 18] (by decide +kernel) (by decide +kernel)
set_option maxRecDepth 20000 in
theorem gX5_load_X7_times : GoodIn wsX5_load (va_wsS RX5 36 yX7_times wsX7_times) := goodIn_app (goodIn_of _ (by decide +kernel)) ggX5_load_X7_times
set_option maxRecDepth 20000 in
theorem ggX5_load_X7_plus : GoodIn wsX5_load wsX7_plus := goodIn_r _ [21, 18, 17] (by decide +kernel) (by decide +kernel)
set_option maxRecDepth 20000 in
theorem gX5_load_X7_plus : GoodIn wsX5_load (va_wsS RX5 42 yX7_plus wsX7_plus) := goodIn_app (goodIn_of _ (by decide +kernel)) ggX5_load_X7_plus
theorem dX5_load_0 : decode cX5_load 0 = .ok (.aload_n 1, 1) := by decide +kernel
theorem dX5_load_1 : decode cX5_load 1 = .ok (.iload_n 2, 1) := by decide +kernel
theorem dX5_load_2 : decode cX5_load 2 = .ok (.invokevirtual 25, 3) := by decide +kernel
theorem dX5_load_5 : decode cX5_load 5 = .ok (.istore 4, 2) := by decide +kernel
theorem dX5_load_7 : decode cX5_load 7 = .ok (.aload_n 0, 1) := by decide +kernel
theorem dX5_load_8 : decode cX5_load 8 = .ok (.iload 4, 2) := by decide +kernel
theorem dX5_load_10 : decode cX5_load 10 = .ok (.ifCond .eq 9, 3) := by decide +kernel
theorem dX5_load_13 : decode cX5_load 13 = .ok (.ldc2_w 31, 3) := by decide +kernel
theorem dX5_load_16 : decode cX5_load 16 = .ok (.goto 4, 3) := by decide +kernel
theorem dX5_load_19 : decode cX5_load 19 = .ok (.lconst 0, 1) := by decide +kernel
theorem dX5_load_20 : decode cX5_load 20 = .ok (.putfield 15, 3) := by decide +kernel
theorem dX5_load_23 : decode cX5_load 23 = .ok (.aload_n 0, 1) := by decide +kernel
theorem dX5_load_24 : decode cX5_load 24 = .ok (.aload_n 0, 1) := by decide +kernel
theorem dX5_load_25 : decode cX5_load 25 = .ok (.getfield 15, 3) := by decide +kernel
theorem dX5_load_28 : decode cX5_load 28 = .ok (.putfield 19, 3) := by decide +kernel
theorem dX5_load_31 : decode cX5_load 31 = .ok (.aload_n 0, 1) := by decide +kernel
theorem dX5_load_32 : decode cX5_load 32 = .ok (.aload_n 0, 1) := by decide +kernel
theorem dX5_load_33 : decode cX5_load 33 = .ok (.getfield 15, 3) := by decide +kernel
theorem dX5_load_36 : decode cX5_load 36 = .ok (.putfield 22, 3) := by decide +kernel
theorem dX5_load_39 : decode cX5_load 39 = .ok (.lconst 1, 1) := by decide +kernel
theorem dX5_load_40 : decode cX5_load 40 = .ok (.lstore 5, 2) := by decide +kernel
theorem dX5_load_42 : decode cX5_load 42 = .ok (.iconst 0, 1) := by decide +kernel
theorem dX5_load_43 : decode cX5_load 43 = .ok (.istore 7, 2) := by decide +kernel
theorem dX5_load_45 : decode cX5_load 45 = .ok (.iload 7, 2) := by decide +kernel
theorem dX5_load_47 : decode cX5_load 47 = .ok (.bipush 7, 2) := by decide +kernel
theorem dX5_load_49 : decode cX5_load 49 = .ok (.if_icmp .ge 117, 3) := by decide +kernel
theorem dX5_load_52 : decode cX5_load 52 = .ok (.aload_n 0, 1) := by decide +kernel
theorem dX5_load_53 : decode cX5_load 53 = .ok (.getfield 9, 3) := by decide +kernel
theorem dX5_load_56 : decode cX5_load 56 = .ok (.iload 7, 2) := by decide +kernel
theorem dX5_load_58 : decode cX5_load 58 = .ok (.iload 4, 2) := by decide +kernel
theorem dX5_load_60 : decode cX5_load 60 = .ok (.ifCond .eq 9, 3) := by decide +kernel
theorem dX5_load_63 : decode cX5_load 63 = .ok (.ldc2_w 31, 3) := by decide +kernel
theorem dX5_load_66 : decode cX5_load 66 = .ok (.goto 17, 3) := by decide +kernel
theorem dX5_load_69 : decode cX5_load 69 = .ok (.aload_n 1, 1) := by decide +kernel
theorem dX5_load_70 : decode cX5_load 70 = .ok (.getfield 33, 3) := by decide +kernel
theorem dX5_load_73 : decode cX5_load 73 = .ok (.iload_n 2, 1) := by decide +kernel
theorem dX5_load_74 : decode cX5_load 74 = .ok (.iload 7, 2) := by decide +kernel
theorem dX5_load_76 : decode cX5_load 76 = .ok (.iadd, 1) := by decide +kernel
theorem dX5_load_77 : decode cX5_load 77 = .ok (.laload, 1) := by decide +kernel
theorem dX5_load_78 : decode cX5_load 78 = .ok (.lload 5, 2) := by decide +kernel
theorem dX5_load_80 : decode cX5_load 80 = .ok (.invokestatic 36, 3) := by decide +kernel
theorem dX5_load_83 : decode cX5_load 83 = .ok (.lastore, 1) := by decide +kernel
theorem dX5_load_84 : decode cX5_load 84 = .ok (.aload_n 0, 1) := by decide +kernel
theorem dX5_load_85 : decode cX5_load 85 = .ok (.aload_n 0, 1) := by decide +kernel
theorem dX5_load_86 : decode cX5_load 86 = .ok (.getfield 15, 3) := by decide +kernel
theorem dX5_load_89 : decode cX5_load 89 = .ok (.aload_n 0, 1) := by decide +kernel
theorem dX5_load_90 : decode cX5_load 90 = .ok (.getfield 9, 3) := by decide +kernel
theorem dX5_load_93 : decode cX5_load 93 = .ok (.iload 7, 2) := by decide +kernel
theorem dX5_load_95 : decode cX5_load 95 = .ok (.laload, 1) := by decide +kernel
theorem dX5_load_96 : decode cX5_load 96 = .ok (.invokestatic 42, 3) := by decide +kernel
theorem dX5_load_99 : decode cX5_load 99 = .ok (.putfield 15, 3) := by decide +kernel
theorem dX5_load_102 : decode cX5_load 102 = .ok (.aload_n 0, 1) := by decide +kernel
theorem dX5_load_103 : decode cX5_load 103 = .ok (.aload_n 0, 1) := by decide +kernel
theorem dX5_load_104 : decode cX5_load 104 = .ok (.getfield 19, 3) := by decide +kernel
theorem dX5_load_107 : decode cX5_load 107 = .ok (.iload 7, 2) := by decide +kernel
theorem dX5_load_109 : decode cX5_load 109 = .ok (.i2l, 1) := by decide +kernel
theorem dX5_load_110 : decode cX5_load 110 = .ok (.aload_n 0, 1) := by decide +kernel
theorem dX5_load_111 : decode cX5_load 111 = .ok (.getfield 9, 3) := by decide +kernel
theorem dX5_load_114 : decode cX5_load 114 = .ok (.iload 7, 2) := by decide +kernel
theorem dX5_load_116 : decode cX5_load 116 = .ok (.laload, 1) := by decide +kernel
theorem dX5_load_117 : decode cX5_load 117 = .ok (.invokestatic 36, 3) := by decide +kernel
theorem dX5_load_120 : decode cX5_load 120 = .ok (.invokestatic 42, 3) := by decide +kernel
theorem dX5_load_123 : decode cX5_load 123 = .ok (.putfield 19, 3) := by decide +kernel
theorem dX5_load_126 : decode cX5_load 126 = .ok (.aload_n 0, 1) := by decide +kernel
theorem dX5_load_127 : decode cX5_load 127 = .ok (.aload_n 0, 1) := by decide +kernel
theorem dX5_load_128 : decode cX5_load 128 = .ok (.getfield 22, 3) := by decide +kernel
theorem dX5_load_131 : decode cX5_load 131 = .ok (.iload 7, 2) := by decide +kernel
theorem dX5_load_133 : decode cX5_load 133 = .ok (.iload 7, 2) := by decide +kernel
theorem dX5_load_135 : decode cX5_load 135 = .ok (.imul, 1) := by decide +kernel
theorem dX5_load_136 : decode cX5_load 136 = .ok (.i2l, 1) := by decide +kernel
theorem dX5_load_137 : decode cX5_load 137 = .ok (.aload_n 0, 1) := by decide +kernel
theorem dX5_load_138 : decode cX5_load 138 = .ok (.getfield 9, 3) := by decide +kernel
theorem dX5_load_141 : decode cX5_load 141 = .ok (.iload 7, 2) := by decide +kernel
theorem dX5_load_143 : decode cX5_load 143 = .ok (.laload, 1) := by decide +kernel
theorem dX5_load_144 : decode cX5_load 144 = .ok (.invokestatic 36, 3) := by decide +kernel
theorem dX5_load_147 : decode cX5_load 147 = .ok (.invokestatic 42, 3) := by decide +kernel
theorem dX5_load_150 : decode cX5_load 150 = .ok (.putfield 22, 3) := by decide +kernel
theorem dX5_load_153 : decode cX5_load 153 = .ok (.lload 5, 2) := by decide +kernel
theorem dX5_load_155 : decode cX5_load 155 = .ok (.iload_n 3, 1) := by decide +kernel
theorem dX5_load_156 : decode cX5_load 156 = .ok (.i2l, 1) := by decide +kernel
theorem dX5_load_157 : decode cX5_load 157 = .ok (.lmul, 1) := by decide +kernel
theorem dX5_load_158 : decode cX5_load 158 = .ok (.lstore 5, 2) := by decide +kernel
theorem dX5_load_160 : decode cX5_load 160 = .ok (.iinc 7 1, 3) := by decide +kernel
theorem dX5_load_163 : decode cX5_load 163 = .ok (.goto (-118), 3) := by decide +kernel
theorem dX5_load_166 : decode cX5_load 166 = .ok (.return_, 1) := by decide +kernel
theorem dX5_greatest_0 : decode cX5_greatest 0 = .ok (.iconst 0, 1) := by decide +kernel
theorem dX5_greatest_1 : decode cX5_greatest 1 = .ok (.istore_n 1, 1) := by decide +kernel
theorem dX5_greatest_2 : decode cX5_greatest 2 = .ok (.iconst 0, 1) := by decide +kernel
theorem dX5_greatest_3 : decode cX5_greatest 3 = .ok (.istore_n 2, 1) := by decide +kernel
theorem dX5_greatest_4 : decode cX5_greatest 4 = .ok (.iload_n 2, 1) := by decide +kernel
theorem dX5_greatest_5 : decode cX5_greatest 5 = .ok (.bipush 7, 2) := by decide +kernel
theorem dX5_greatest_7 : decode cX5_greatest 7 = .ok (.if_icmp .ge 45, 3) := by decide +kernel
theorem dX5_greatest_10 : decode cX5_greatest 10 = .ok (.aload_n 0, 1) := by decide +kernel
theorem dX5_greatest_11 : decode cX5_greatest 11 = .ok (.getfield 9, 3) := by decide +kernel
theorem dX5_greatest_14 : decode cX5_greatest 14 = .ok (.iload_n 2, 1) := by decide +kernel
theorem dX5_greatest_15 : decode cX5_greatest 15 = .ok (.laload, 1) := by decide +kernel
theorem dX5_greatest_16 : decode cX5_greatest 16 = .ok (.lconst 0, 1) := by decide +kernel
theorem dX5_greatest_17 : decode cX5_greatest 17 = .ok (.lcmp, 1) := by decide +kernel
theorem dX5_greatest_18 : decode cX5_greatest 18 = .ok (.ifCond .ge 6, 3) := by decide +kernel
theorem dX5_greatest_21 : decode cX5_greatest 21 = .ok (.bipush (-5), 2) := by decide +kernel
theorem dX5_greatest_23 : decode cX5_greatest 23 = .ok (.ireturn, 1) := by decide +kernel
theorem dX5_greatest_24 : decode cX5_greatest 24 = .ok (.aload_n 0, 1) := by decide +kernel
theorem dX5_greatest_25 : decode cX5_greatest 25 = .ok (.getfield 9, 3) := by decide +kernel
theorem dX5_greatest_28 : decode cX5_greatest 28 = .ok (.iload_n 2, 1) := by decide +kernel
theorem dX5_greatest_29 : decode cX5_greatest 29 = .ok (.laload, 1) := by decide +kernel
theorem dX5_greatest_30 : decode cX5_greatest 30 = .ok (.aload_n 0, 1) := by decide +kernel
theorem dX5_greatest_31 : decode cX5_greatest 31 = .ok (.getfield 9, 3) := by decide +kernel
theorem dX5_greatest_34 : decode cX5_greatest 34 = .ok (.iload_n 1, 1) := by decide +kernel
theorem dX5_greatest_35 : decode cX5_greatest 35 = .ok (.laload, 1) := by decide +kernel
theorem dX5_greatest_36 : decode cX5_greatest 36 = .ok (.lcmp, 1) := by decide +kernel
theorem dX5_greatest_37 : decode cX5_greatest 37 = .ok (.ifCond .le 7, 3) := by decide +kernel
theorem dX5_greatest_40 : decode cX5_greatest 40 = .ok (.iload_n 2, 1) := by decide +kernel
theorem dX5_greatest_41 : decode cX5_greatest 41 = .ok (.goto 4, 3) := by decide +kernel
theorem dX5_greatest_44 : decode cX5_greatest 44 = .ok (.iload_n 1, 1) := by decide +kernel
theorem dX5_greatest_45 : decode cX5_greatest 45 = .ok (.istore_n 1, 1) := by decide +kernel
theorem dX5_greatest_46 : decode cX5_greatest 46 = .ok (.iinc 2 1, 3) := by decide +kernel
theorem dX5_greatest_49 : decode cX5_greatest 49 = .ok (.goto (-45), 3) := by decide +kernel
theorem dX5_greatest_52 : decode cX5_greatest 52 = .ok (.iload_n 1, 1) := by decide +kernel
theorem dX5_greatest_53 : decode cX5_greatest 53 = .ok (.ireturn, 1) := by decide +kernel
theorem dX6_init_0 : decode cX6_init 0 = .ok (.aload_n 0, 1) := by decide +kernel
theorem dX6_init_1 : decode cX6_init 1 = .ok (.invokespecial 3, 3) := by decide +kernel
theorem dX6_init_4 : decode cX6_init 4 = .ok (.aload_n 0, 1) := by decide +kernel
theorem dX6_init_5 : decode cX6_init 5 = .ok (.sipush 300, 3) := by decide +kernel
theorem dX6_init_8 : decode cX6_init 8 = .ok (.newarray .int, 2) := by decide +kernel
theorem dX6_init_10 : decode cX6_init 10 = .ok (.putfield 9, 3) := by decide +kernel
theorem dX6_init_13 : decode cX6_init 13 = .ok (.aload_n 0, 1) := by decide +kernel
theorem dX6_init_14 : decode cX6_init 14 = .ok (.sipush 300, 3) := by decide +kernel
theorem dX6_init_17 : decode cX6_init 17 = .ok (.newarray .int, 2) := by decide +kernel
theorem dX6_init_19 : decode cX6_init 19 = .ok (.putfield 15, 3) := by decide +kernel
theorem dX6_init_22 : decode cX6_init 22 = .ok (.aload_n 0, 1) := by decide +kernel
theorem dX6_init_23 : decode cX6_init 23 = .ok (.sipush 300, 3) := by decide +kernel
theorem dX6_init_26 : decode cX6_init 26 = .ok (.newarray .int, 2) := by decide +kernel
theorem dX6_init_28 : decode cX6_init 28 = .ok (.putfield 18, 3) := by decide +kernel
theorem dX6_init_31 : decode cX6_init 31 = .ok (.aload_n 0, 1) := by decide +kernel
theorem dX6_init_32 : decode cX6_init 32 = .ok (.sipush 300, 3) := by decide +kernel
theorem dX6_init_35 : decode cX6_init 35 = .ok (.newarray .int, 2) := by decide +kernel
theorem dX6_init_37 : decode cX6_init 37 = .ok (.putfield 21, 3) := by decide +kernel
theorem dX6_init_40 : decode cX6_init 40 = .ok (.aload_n 0, 1) := by decide +kernel
theorem dX6_init_41 : decode cX6_init 41 = .ok (.sipush 300, 3) := by decide +kernel
theorem dX6_init_44 : decode cX6_init 44 = .ok (.newarray .int, 2) := by decide +kernel
theorem dX6_init_46 : decode cX6_init 46 = .ok (.putfield 24, 3) := by decide +kernel
theorem dX6_init_49 : decode cX6_init 49 = .ok (.aload_n 0, 1) := by decide +kernel
theorem dX6_init_50 : decode cX6_init 50 = .ok (.sipush 300, 3) := by decide +kernel
theorem dX6_init_53 : decode cX6_init 53 = .ok (.newarray .long, 2) := by decide +kernel
theorem dX6_init_55 : decode cX6_init 55 = .ok (.putfield 27, 3) := by decide +kernel
theorem dX6_init_58 : decode cX6_init 58 = .ok (.aload_n 0, 1) := by decide +kernel
theorem dX6_init_59 : decode cX6_init 59 = .ok (.sipush 300, 3) := by decide +kernel
theorem dX6_init_62 : decode cX6_init 62 = .ok (.newarray .long, 2) := by decide +kernel
theorem dX6_init_64 : decode cX6_init 64 = .ok (.putfield 31, 3) := by decide +kernel
theorem dX6_init_67 : decode cX6_init 67 = .ok (.aload_n 0, 1) := by decide +kernel
theorem dX6_init_68 : decode cX6_init 68 = .ok (.iconst 0, 1) := by decide +kernel
theorem dX6_init_69 : decode cX6_init 69 = .ok (.putfield 34, 3) := by decide +kernel
theorem dX6_init_72 : decode cX6_init 72 = .ok (.return_, 1) := by decide +kernel
theorem dX6_hasNode_0 : decode cX6_hasNode 0 = .ok (.iload_n 1, 1) := by decide +kernel
theorem dX6_hasNode_1 : decode cX6_hasNode 1 = .ok (.ifCond .lt 15, 3) := by decide +kernel
theorem dX6_hasNode_4 : decode cX6_hasNode 4 = .ok (.iload_n 1, 1) := by decide +kernel
theorem dX6_hasNode_5 : decode cX6_hasNode 5 = .ok (.aload_n 0, 1) := by decide +kernel
theorem dX6_hasNode_6 : decode cX6_hasNode 6 = .ok (.getfield 34, 3) := by decide +kernel
theorem dX6_hasNode_9 : decode cX6_hasNode 9 = .ok (.if_icmp .ge 7, 3) := by decide +kernel
theorem dX6_hasNode_12 : decode cX6_hasNode 12 = .ok (.iconst 1, 1) := by decide +kernel
theorem dX6_hasNode_13 : decode cX6_hasNode 13 = .ok (.goto 4, 3) := by decide +kernel
theorem dX6_hasNode_16 : decode cX6_hasNode 16 = .ok (.iconst 0, 1) := by decide +kernel
theorem dX6_hasNode_17 : decode cX6_hasNode 17 = .ok (.ireturn, 1) := by decide +kernel
set_option maxRecDepth 20000 in
theorem ggX6_grow_X6_growFrom : GoodIn wsX6_grow wsX6_growFrom := goodIn_r _ [6, 1, 7, 8, 9, 10, 11, 12, 2, 3, 4, 5, 13, 14, 15, 16, 17, 18, 19, 20, 21, 22, 23, 24, 25, 26, 27, 28, 29, 30, 31] (by decide +kernel) (by decide +kernel)
set_option maxRecDepth 20000 in
theorem gX6_grow_X6_growFrom : GoodIn wsX6_grow (wsV RX6 38 RX6 yX6_growFrom wsX6_growFrom) := goodIn_app (goodIn_of _ (by decide +kernel)) ggX6_grow_X6_growFrom
theorem dX6_grow_0 : decode cX6_grow 0 = .ok (.aload_n 0, 1) := by decide +kernel
theorem dX6_grow_1 : decode cX6_grow 1 = .ok (.iconst 0, 1) := by decide +kernel
theorem dX6_grow_2 : decode cX6_grow 2 = .ok (.putfield 34, 3) := by decide +kernel
theorem dX6_grow_5 : decode cX6_grow 5 = .ok (.aload_n 0, 1) := by decide +kernel
theorem dX6_grow_6 : decode cX6_grow 6 = .ok (.aload_n 1, 1) := by decide +kernel
theorem dX6_grow_7 : decode cX6_grow 7 = .ok (.iload_n 2, 1) := by decide +kernel
theorem dX6_grow_8 : decode cX6_grow 8 = .ok (.iconst (-1), 1) := by decide +kernel
theorem dX6_grow_9 : decode cX6_grow 9 = .ok (.iload_n 3, 1) := by decide +kernel
theorem dX6_grow_10 : decode cX6_grow 10 = .ok (.iconst 0, 1) := by decide +kernel
theorem dX6_grow_11 : decode cX6_grow 11 = .ok (.invokevirtual 38, 3) := by decide +kernel
theorem dX6_grow_14 : decode cX6_grow 14 = .ok (.ireturn, 1) := by decide +kernel
set_option maxRecDepth 20000 in
theorem ggX6_growFrom_X6_growFrom : GoodIn wsX6_growFrom wsX6_growFrom := goodIn_r _ [0, 1, 2, 3, 4, 5, 6, 7, 8, 9, 10, 11, 12, 13, 14, 15, 16, 17, 18, 19, 20, 21, 22, 23, 24, 25, 26, 27, 28, 29, 30] (by decide +kernel) (by decide +kernel)
set_option maxRecDepth 20000 in
theorem gX6_growFrom_X6_growFrom : GoodIn wsX6_growFrom (wsV RX6 38 RX6 yX6_growFrom wsX6_growFrom) := goodIn_app (goodIn_of _ (by decide +kernel)) ggX6_growFrom_X6_growFrom
theorem dX6_growFrom_0 : decode cX6_growFrom 0 = .ok (.aload_n 0, 1) := by decide +kernel
theorem dX6_growFrom_1 : decode cX6_growFrom 1 = .ok (.getfield 34, 3) := by decide +kernel
theorem dX6_growFrom_4 : decode cX6_growFrom 4 = .ok (.sipush 300, 3) := by decide +kernel
theorem dX6_growFrom_7 : decode cX6_growFrom 7 = .ok (.if_icmp .ge 10, 3) := by decide +kernel
theorem dX6_growFrom_10 : decode cX6_growFrom 10 = .ok (.iload 5, 2) := by decide +kernel
theorem dX6_growFrom_12 : decode cX6_growFrom 12 = .ok (.bipush 12, 2) := by decide +kernel
theorem dX6_growFrom_14 : decode cX6_growFrom 14 = .ok (.if_icmp .lt 5, 3) := by decide +kernel
theorem dX6_growFrom_17 : decode cX6_growFrom 17 = .ok (.iconst 0, 1) := by decide +kernel
theorem dX6_growFrom_18 : decode cX6_growFrom 18 = .ok (.ireturn, 1) := by decide +kernel
theorem dX6_growFrom_19 : decode cX6_growFrom 19 = .ok (.aload_n 0, 1) := by decide +kernel
theorem dX6_growFrom_20 : decode cX6_growFrom 20 = .ok (.getfield 34, 3) := by decide +kernel
theorem dX6_growFrom_23 : decode cX6_growFrom 23 = .ok (.istore 6, 2) := by decide +kernel
theorem dX6_growFrom_25 : decode cX6_growFrom 25 = .ok (.aload_n 0, 1) := by decide +kernel
theorem dX6_growFrom_26 : decode cX6_growFrom 26 = .ok (.dup, 1) := by decide +kernel
theorem dX6_growFrom_27 : decode cX6_growFrom 27 = .ok (.getfield 34, 3) := by decide +kernel
theorem dX6_growFrom_30 : decode cX6_growFrom 30 = .ok (.iconst 1, 1) := by decide +kernel
theorem dX6_growFrom_31 : decode cX6_growFrom 31 = .ok (.iadd, 1) := by decide +kernel
theorem dX6_growFrom_32 : decode cX6_growFrom 32 = .ok (.putfield 34, 3) := by decide +kernel
theorem dX6_growFrom_35 : decode cX6_growFrom 35 = .ok (.aload_n 0, 1) := by decide +kernel
theorem dX6_growFrom_36 : decode cX6_growFrom 36 = .ok (.getfield 9, 3) := by decide +kernel
theorem dX6_growFrom_39 : decode cX6_growFrom 39 = .ok (.iload 6, 2) := by decide +kernel
theorem dX6_growFrom_41 : decode cX6_growFrom 41 = .ok (.iload_n 2, 1) := by decide +kernel
theorem dX6_growFrom_42 : decode cX6_growFrom 42 = .ok (.iastore, 1) := by decide +kernel
theorem dX6_growFrom_43 : decode cX6_growFrom 43 = .ok (.aload_n 0, 1) := by decide +kernel
theorem dX6_growFrom_44 : decode cX6_growFrom 44 = .ok (.getfield 15, 3) := by decide +kernel
theorem dX6_growFrom_47 : decode cX6_growFrom 47 = .ok (.iload 6, 2) := by decide +kernel
theorem dX6_growFrom_49 : decode cX6_growFrom 49 = .ok (.iload_n 3, 1) := by decide +kernel
theorem dX6_growFrom_50 : decode cX6_growFrom 50 = .ok (.iastore, 1) := by decide +kernel
theorem dX6_growFrom_51 : decode cX6_growFrom 51 = .ok (.aload_n 0, 1) := by decide +kernel
theorem dX6_growFrom_52 : decode cX6_growFrom 52 = .ok (.getfield 18, 3) := by decide +kernel
theorem dX6_growFrom_55 : decode cX6_growFrom 55 = .ok (.iload 6, 2) := by decide +kernel
theorem dX6_growFrom_57 : decode cX6_growFrom 57 = .ok (.iconst 0, 1) := by decide +kernel
theorem dX6_growFrom_58 : decode cX6_growFrom 58 = .ok (.iastore, 1) := by decide +kernel
theorem dX6_growFrom_59 : decode cX6_growFrom 59 = .ok (.aload_n 0, 1) := by decide +kernel
theorem dX6_growFrom_60 : decode cX6_growFrom 60 = .ok (.getfield 21, 3) := by decide +kernel
theorem dX6_growFrom_63 : decode cX6_growFrom 63 = .ok (.iload 6, 2) := by decide +kernel
theorem dX6_growFrom_65 : decode cX6_growFrom 65 = .ok (.iload 5, 2) := by decide +kernel
theorem dX6_growFrom_67 : decode cX6_growFrom 67 = .ok (.iastore, 1) := by decide +kernel
theorem dX6_growFrom_68 : decode cX6_growFrom 68 = .ok (.iload 4, 2) := by decide +kernel
theorem dX6_growFrom_70 : decode cX6_growFrom 70 = .ok (.iconst 1, 1) := by decide +kernel
theorem dX6_growFrom_71 : decode cX6_growFrom 71 = .ok (.iload_n 2, 1) := by decide +kernel
theorem dX6_growFrom_72 : decode cX6_growFrom 72 = .ok (.ishl, 1) := by decide +kernel
theorem dX6_growFrom_73 : decode cX6_growFrom 73 = .ok (.ior, 1) := by decide +kernel
theorem dX6_growFrom_74 : decode cX6_growFrom 74 = .ok (.istore 7, 2) := by decide +kernel
theorem dX6_growFrom_76 : decode cX6_growFrom 76 = .ok (.aload_n 1, 1) := by decide +kernel
theorem dX6_growFrom_77 : decode cX6_growFrom 77 = .ok (.getfield 42, 3) := by decide +kernel
theorem dX6_growFrom_80 : decode cX6_growFrom 80 = .ok (.iload_n 2, 1) := by decide +kernel
theorem dX6_growFrom_81 : decode cX6_growFrom 81 = .ok (.iaload, 1) := by decide +kernel
theorem dX6_growFrom_82 : decode cX6_growFrom 82 = .ok (.iload 7, 2) := by decide +kernel
theorem dX6_growFrom_84 : decode cX6_growFrom 84 = .ok (.iconst (-1), 1) := by decide +kernel
theorem dX6_growFrom_85 : decode cX6_growFrom 85 = .ok (.ixor, 1) := by decide +kernel
theorem dX6_growFrom_86 : decode cX6_growFrom 86 = .ok (.iand, 1) := by decide +kernel
theorem dX6_growFrom_87 : decode cX6_growFrom 87 = .ok (.istore 8, 2) := by decide +kernel
theorem dX6_growFrom_89 : decode cX6_growFrom 89 = .ok (.iconst 0, 1) := by decide +kernel
theorem dX6_growFrom_90 : decode cX6_growFrom 90 = .ok (.istore 9, 2) := by decide +kernel
theorem dX6_growFrom_92 : decode cX6_growFrom 92 = .ok (.iload 9, 2) := by decide +kernel
theorem dX6_growFrom_94 : decode cX6_growFrom 94 = .ok (.bipush 12, 2) := by decide +kernel
theorem dX6_growFrom_96 : decode cX6_growFrom 96 = .ok (.if_icmp .ge 50, 3) := by decide +kernel
theorem dX6_growFrom_99 : decode cX6_growFrom 99 = .ok (.iload 8, 2) := by decide +kernel
theorem dX6_growFrom_101 : decode cX6_growFrom 101 = .ok (.iload 9, 2) := by decide +kernel
theorem dX6_growFrom_103 : decode cX6_growFrom 103 = .ok (.ishr, 1) := by decide +kernel
theorem dX6_growFrom_104 : decode cX6_growFrom 104 = .ok (.iconst 1, 1) := by decide +kernel
theorem dX6_growFrom_105 : decode cX6_growFrom 105 = .ok (.iand, 1) := by decide +kernel
theorem dX6_growFrom_106 : decode cX6_growFrom 106 = .ok (.ifCond .eq 34, 3) := by decide +kernel
theorem dX6_growFrom_109 : decode cX6_growFrom 109 = .ok (.aload_n 0, 1) := by decide +kernel
theorem dX6_growFrom_110 : decode cX6_growFrom 110 = .ok (.getfield 18, 3) := by decide +kernel
theorem dX6_growFrom_113 : decode cX6_growFrom 113 = .ok (.iload 6, 2) := by decide +kernel
theorem dX6_growFrom_115 : decode cX6_growFrom 115 = .ok (.dup2, 1) := by decide +kernel
theorem dX6_growFrom_116 : decode cX6_growFrom 116 = .ok (.iaload, 1) := by decide +kernel
theorem dX6_growFrom_117 : decode cX6_growFrom 117 = .ok (.iconst 1, 1) := by decide +kernel
theorem dX6_growFrom_118 : decode cX6_growFrom 118 = .ok (.iadd, 1) := by decide +kernel
theorem dX6_growFrom_119 : decode cX6_growFrom 119 = .ok (.iastore, 1) := by decide +kernel
theorem dX6_growFrom_120 : decode cX6_growFrom 120 = .ok (.aload_n 0, 1) := by decide +kernel
theorem dX6_growFrom_121 : decode cX6_growFrom 121 = .ok (.aload_n 1, 1) := by decide +kernel
theorem dX6_growFrom_122 : decode cX6_growFrom 122 = .ok (.iload 9, 2) := by decide +kernel
theorem dX6_growFrom_124 : decode cX6_growFrom 124 = .ok (.iload 6, 2) := by decide +kernel
theorem dX6_growFrom_126 : decode cX6_growFrom 126 = .ok (.iload 7, 2) := by decide +kernel
theorem dX6_growFrom_128 : decode cX6_growFrom 128 = .ok (.iload 5, 2) := by decide +kernel
theorem dX6_growFrom_130 : decode cX6_growFrom 130 = .ok (.iconst 1, 1) := by decide +kernel
theorem dX6_growFrom_131 : decode cX6_growFrom 131 = .ok (.iadd, 1) := by decide +kernel
theorem dX6_growFrom_132 : decode cX6_growFrom 132 = .ok (.invokevirtual 38, 3) := by decide +kernel
theorem dX6_growFrom_135 : decode cX6_growFrom 135 = .ok (.ifCond .ne 5, 3) := by decide +kernel
theorem dX6_growFrom_138 : decode cX6_growFrom 138 = .ok (.iconst 0, 1) := by decide +kernel
theorem dX6_growFrom_139 : decode cX6_growFrom 139 = .ok (.ireturn, 1) := by decide +kernel
theorem dX6_growFrom_140 : decode cX6_growFrom 140 = .ok (.iinc 9 1, 3) := by decide +kernel
theorem dX6_growFrom_143 : decode cX6_growFrom 143 = .ok (.goto (-51), 3) := by decide +kernel
theorem dX6_growFrom_146 : decode cX6_growFrom 146 = .ok (.aload_n 0, 1) := by decide +kernel
theorem dX6_growFrom_147 : decode cX6_growFrom 147 = .ok (.getfield 24, 3) := by decide +kernel
theorem dX6_growFrom_150 : decode cX6_growFrom 150 = .ok (.iload 6, 2) := by decide +kernel
theorem dX6_growFrom_152 : decode cX6_growFrom 152 = .ok (.aload_n 0, 1) := by decide +kernel
theorem dX6_growFrom_153 : decode cX6_growFrom 153 = .ok (.getfield 34, 3) := by decide +kernel
theorem dX6_growFrom_156 : decode cX6_growFrom 156 = .ok (.iastore, 1) := by decide +kernel
theorem dX6_growFrom_157 : decode cX6_growFrom 157 = .ok (.iconst 1, 1) := by decide +kernel
theorem dX6_growFrom_158 : decode cX6_growFrom 158 = .ok (.ireturn, 1) := by decide +kernel
set_option maxRecDepth 20000 in
theorem ggX6_standsIn_X1_joining : GoodIn wsX6_standsIn wsX1_joining := goodIn_r _ [8, 9, 18, 19, 20, 21, 22, 23, 24, 25, 26, 27, 28] (by decide +kernel) (by decide +kernel)
set_option maxRecDepth 20000 in
theorem gX6_standsIn_X1_joining : GoodIn wsX6_standsIn (wsV RX6 47 RX1 yX1_joining wsX1_joining) := goodIn_app (goodIn_of _ (by decide +kernel)) ggX6_standsIn_X1_joining
theorem dX6_standsIn_0 : decode cX6_standsIn 0 = .ok (.iconst 1, 1) := by decide +kernel
theorem dX6_standsIn_1 : decode cX6_standsIn 1 = .ok (.istore_n 2, 1) := by decide +kernel
theorem dX6_standsIn_2 : decode cX6_standsIn 2 = .ok (.iload_n 2, 1) := by decide +kernel
theorem dX6_standsIn_3 : decode cX6_standsIn 3 = .ok (.aload_n 0, 1) := by decide +kernel
theorem dX6_standsIn_4 : decode cX6_standsIn 4 = .ok (.getfield 34, 3) := by decide +kernel
theorem dX6_standsIn_7 : decode cX6_standsIn 7 = .ok (.if_icmp .ge 36, 3) := by decide +kernel
theorem dX6_standsIn_10 : decode cX6_standsIn 10 = .ok (.aload_n 1, 1) := by decide +kernel
theorem dX6_standsIn_11 : decode cX6_standsIn 11 = .ok (.aload_n 0, 1) := by decide +kernel
theorem dX6_standsIn_12 : decode cX6_standsIn 12 = .ok (.getfield 9, 3) := by decide +kernel
theorem dX6_standsIn_15 : decode cX6_standsIn 15 = .ok (.iload_n 2, 1) := by decide +kernel
theorem dX6_standsIn_16 : decode cX6_standsIn 16 = .ok (.iaload, 1) := by decide +kernel
theorem dX6_standsIn_17 : decode cX6_standsIn 17 = .ok (.aload_n 0, 1) := by decide +kernel
theorem dX6_standsIn_18 : decode cX6_standsIn 18 = .ok (.getfield 9, 3) := by decide +kernel
theorem dX6_standsIn_21 : decode cX6_standsIn 21 = .ok (.aload_n 0, 1) := by decide +kernel
theorem dX6_standsIn_22 : decode cX6_standsIn 22 = .ok (.getfield 15, 3) := by decide +kernel
theorem dX6_standsIn_25 : decode cX6_standsIn 25 = .ok (.iload_n 2, 1) := by decide +kernel
theorem dX6_standsIn_26 : decode cX6_standsIn 26 = .ok (.iaload, 1) := by decide +kernel
theorem dX6_standsIn_27 : decode cX6_standsIn 27 = .ok (.iaload, 1) := by decide +kernel
theorem dX6_standsIn_28 : decode cX6_standsIn 28 = .ok (.invokevirtual 47, 3) := by decide +kernel
theorem dX6_standsIn_31 : decode cX6_standsIn 31 = .ok (.iconst (-1), 1) := by decide +kernel
theorem dX6_standsIn_32 : decode cX6_standsIn 32 = .ok (.if_icmp .ne 5, 3) := by decide +kernel
theorem dX6_standsIn_35 : decode cX6_standsIn 35 = .ok (.iconst 0, 1) := by decide +kernel
theorem dX6_standsIn_36 : decode cX6_standsIn 36 = .ok (.ireturn, 1) := by decide +kernel
theorem dX6_standsIn_37 : decode cX6_standsIn 37 = .ok (.iinc 2 1, 3) := by decide +kernel
theorem dX6_standsIn_40 : decode cX6_standsIn 40 = .ok (.goto (-38), 3) := by decide +kernel
theorem dX6_standsIn_43 : decode cX6_standsIn 43 = .ok (.iconst 1, 1) := by decide +kernel
theorem dX6_standsIn_44 : decode cX6_standsIn 44 = .ok (.ireturn, 1) := by decide +kernel
set_option maxRecDepth 20000 in
theorem ggX6_weighFrom_X6_weigh : GoodIn wsX6_weighFrom wsX6_weigh := goodIn_r _ [6, 7, 8, 9, 10, 11, 12, 1, 13, 14, 15, 16, 17, 18, 19, 20, 21, 22, 23, 24, 25, 26, 27, 28, 29, 30, 31, 32, 33, 34, 35, 36, 37, 38, 39, 40, 41, 42, 43, 44, 45, 46, 47, 48, 49, 50, 51, 52, 53, 54, 55, 56, 57, 58, 59, 60, 61, 62, 63, 64, 65, 66, 67] (by decide +kernel) (by decide +kernel)
set_option maxRecDepth 20000 in
theorem gX6_weighFrom_X6_weigh : GoodIn wsX6_weighFrom (wsV RX6 51 RX6 yX6_weigh wsX6_weigh) := goodIn_app (goodIn_of _ (by decide +kernel)) ggX6_weighFrom_X6_weigh
theorem dX6_weighFrom_0 : decode cX6_weighFrom 0 = .ok (.aload_n 0, 1) := by decide +kernel
theorem dX6_weighFrom_1 : decode cX6_weighFrom 1 = .ok (.getfield 24, 3) := by decide +kernel
theorem dX6_weighFrom_4 : decode cX6_weighFrom 4 = .ok (.iload_n 1, 1) := by decide +kernel
theorem dX6_weighFrom_5 : decode cX6_weighFrom 5 = .ok (.iaload, 1) := by decide +kernel
theorem dX6_weighFrom_6 : decode cX6_weighFrom 6 = .ok (.iconst 1, 1) := by decide +kernel
theorem dX6_weighFrom_7 : decode cX6_weighFrom 7 = .ok (.isub, 1) := by decide +kernel
theorem dX6_weighFrom_8 : decode cX6_weighFrom 8 = .ok (.istore 4, 2) := by decide +kernel
theorem dX6_weighFrom_10 : decode cX6_weighFrom 10 = .ok (.iload 4, 2) := by decide +kernel
theorem dX6_weighFrom_12 : decode cX6_weighFrom 12 = .ok (.iload_n 1, 1) := by decide +kernel
theorem dX6_weighFrom_13 : decode cX6_weighFrom 13 = .ok (.if_icmp .lt 17, 3) := by decide +kernel
theorem dX6_weighFrom_16 : decode cX6_weighFrom 16 = .ok (.aload_n 0, 1) := by decide +kernel
theorem dX6_weighFrom_17 : decode cX6_weighFrom 17 = .ok (.iload 4, 2) := by decide +kernel
theorem dX6_weighFrom_19 : decode cX6_weighFrom 19 = .ok (.aload_n 2, 1) := by decide +kernel
theorem dX6_weighFrom_20 : decode cX6_weighFrom 20 = .ok (.iload_n 3, 1) := by decide +kernel
theorem dX6_weighFrom_21 : decode cX6_weighFrom 21 = .ok (.invokevirtual 51, 3) := by decide +kernel
theorem dX6_weighFrom_24 : decode cX6_weighFrom 24 = .ok (.iinc 4 (-1), 3) := by decide +kernel
theorem dX6_weighFrom_27 : decode cX6_weighFrom 27 = .ok (.goto (-17), 3) := by decide +kernel
theorem dX6_weighFrom_30 : decode cX6_weighFrom 30 = .ok (.return_, 1) := by decide +kernel
set_option maxRecDepth 20000 in
theorem ggX6_weigh_X1_weightBetween : GoodIn wsX6_weigh wsX1_weightBetween := goodIn_r _ [12, 13, 14, 15, 11, 16, 17, 18, 19, 20, 21, 22, 23, 24, 25, 26, 27, 28, 29, 30, 31, 52, 53, 54, 55, 56, 57, 58, 59, 60, 61, 62] (by decide +kernel) (by decide +kernel)
set_option maxRecDepth 20000 in
theorem gX6_weigh_X1_weightBetween : GoodIn wsX6_weigh (wsV RX6 55 RX1 yX1_weightBetween wsX1_weightBetween) := goodIn_app (goodIn_of _ (by decide +kernel)) ggX6_weigh_X1_weightBetween
set_option maxRecDepth 20000 in
theorem ggX6_weigh_X7_times : GoodIn wsX6_weigh wsX7_times := goodIn_r _ [35, 36, 37] (by decide +kernel) (by decide +kernel)
set_option maxRecDepth 20000 in
theorem gX6_weigh_X7_times : GoodIn wsX6_weigh (va_wsS RX6 58 yX7_times wsX7_times) := goodIn_app (goodIn_of _ (by decide +kernel)) ggX6_weigh_X7_times
set_option maxRecDepth 20000 in
theorem ggX6_weigh_X7_plus : GoodIn wsX6_weigh wsX7_plus := goodIn_r _ [40, 37, 36] (by decide +kernel) (by decide +kernel)
set_option maxRecDepth 20000 in
theorem gX6_weigh_X7_plus : GoodIn wsX6_weigh (va_wsS RX6 64 yX7_plus wsX7_plus) := goodIn_app (goodIn_of _ (by decide +kernel)) ggX6_weigh_X7_plus
set_option maxRecDepth 20000 in
theorem ggX6_weigh_X7_commonOf : GoodIn wsX6_weigh wsX7_commonOf := goodIn_r _ [43] (by decide +kernel) (by decide +kernel)
set_option maxRecDepth 20000 in
theorem gX6_weigh_X7_commonOf : GoodIn wsX6_weigh (va_wsS RX6 67 yX7_commonOf wsX7_commonOf) := goodIn_app (goodIn_of _ (by decide +kernel)) ggX6_weigh_X7_commonOf
theorem dX6_weigh_0 : decode cX6_weigh 0 = .ok (.lconst 1, 1) := by decide +kernel
theorem dX6_weigh_1 : decode cX6_weigh 1 = .ok (.lstore 4, 2) := by decide +kernel
theorem dX6_weigh_3 : decode cX6_weigh 3 = .ok (.lconst 1, 1) := by decide +kernel
theorem dX6_weigh_4 : decode cX6_weigh 4 = .ok (.lstore 6, 2) := by decide +kernel
theorem dX6_weigh_6 : decode cX6_weigh 6 = .ok (.iload_n 1, 1) := by decide +kernel
theorem dX6_weigh_7 : decode cX6_weigh 7 = .ok (.iconst 1, 1) := by decide +kernel
theorem dX6_weigh_8 : decode cX6_weigh 8 = .ok (.iadd, 1) := by decide +kernel
theorem dX6_weigh_9 : decode cX6_weigh 9 = .ok (.istore 8, 2) := by decide +kernel
theorem dX6_weigh_11 : decode cX6_weigh 11 = .ok (.iconst 0, 1) := by decide +kernel
theorem dX6_weigh_12 : decode cX6_weigh 12 = .ok (.istore 9, 2) := by decide +kernel
theorem dX6_weigh_14 : decode cX6_weigh 14 = .ok (.iload 9, 2) := by decide +kernel
theorem dX6_weigh_16 : decode cX6_weigh 16 = .ok (.aload_n 0, 1) := by decide +kernel
theorem dX6_weigh_17 : decode cX6_weigh 17 = .ok (.getfield 18, 3) := by decide +kernel
theorem dX6_weigh_20 : decode cX6_weigh 20 = .ok (.iload_n 1, 1) := by decide +kernel
theorem dX6_weigh_21 : decode cX6_weigh 21 = .ok (.iaload, 1) := by decide +kernel
theorem dX6_weigh_22 : decode cX6_weigh 22 = .ok (.if_icmp .ge 182, 3) := by decide +kernel
theorem dX6_weigh_25 : decode cX6_weigh 25 = .ok (.iload 8, 2) := by decide +kernel
theorem dX6_weigh_27 : decode cX6_weigh 27 = .ok (.aload_n 0, 1) := by decide +kernel
theorem dX6_weigh_28 : decode cX6_weigh 28 = .ok (.getfield 34, 3) := by decide +kernel
theorem dX6_weigh_31 : decode cX6_weigh 31 = .ok (.if_icmp .ge 173, 3) := by decide +kernel
theorem dX6_weigh_34 : decode cX6_weigh 34 = .ok (.lload 4, 2) := by decide +kernel
theorem dX6_weigh_36 : decode cX6_weigh 36 = .ok (.lconst 0, 1) := by decide +kernel
theorem dX6_weigh_37 : decode cX6_weigh 37 = .ok (.lcmp, 1) := by decide +kernel
theorem dX6_weigh_38 : decode cX6_weigh 38 = .ok (.ifCond .le 166, 3) := by decide +kernel
theorem dX6_weigh_41 : decode cX6_weigh 41 = .ok (.iload_n 3, 1) := by decide +kernel
theorem dX6_weigh_42 : decode cX6_weigh 42 = .ok (.aload_n 2, 1) := by decide +kernel
theorem dX6_weigh_43 : decode cX6_weigh 43 = .ok (.aload_n 0, 1) := by decide +kernel
theorem dX6_weigh_44 : decode cX6_weigh 44 = .ok (.getfield 9, 3) := by decide +kernel
theorem dX6_weigh_47 : decode cX6_weigh 47 = .ok (.iload_n 1, 1) := by decide +kernel
theorem dX6_weigh_48 : decode cX6_weigh 48 = .ok (.iaload, 1) := by decide +kernel
theorem dX6_weigh_49 : decode cX6_weigh 49 = .ok (.aload_n 0, 1) := by decide +kernel
theorem dX6_weigh_50 : decode cX6_weigh 50 = .ok (.getfield 9, 3) := by decide +kernel
theorem dX6_weigh_53 : decode cX6_weigh 53 = .ok (.iload 8, 2) := by decide +kernel
theorem dX6_weigh_55 : decode cX6_weigh 55 = .ok (.iaload, 1) := by decide +kernel
theorem dX6_weigh_56 : decode cX6_weigh 56 = .ok (.invokevirtual 55, 3) := by decide +kernel
theorem dX6_weigh_59 : decode cX6_weigh 59 = .ok (.imul, 1) := by decide +kernel
theorem dX6_weigh_60 : decode cX6_weigh 60 = .ok (.i2l, 1) := by decide +kernel
theorem dX6_weigh_61 : decode cX6_weigh 61 = .ok (.lstore 10, 2) := by decide +kernel
theorem dX6_weigh_63 : decode cX6_weigh 63 = .ok (.aload_n 0, 1) := by decide +kernel
theorem dX6_weigh_64 : decode cX6_weigh 64 = .ok (.getfield 31, 3) := by decide +kernel
theorem dX6_weigh_67 : decode cX6_weigh 67 = .ok (.iload 8, 2) := by decide +kernel
theorem dX6_weigh_69 : decode cX6_weigh 69 = .ok (.laload, 1) := by decide +kernel
theorem dX6_weigh_70 : decode cX6_weigh 70 = .ok (.lstore 12, 2) := by decide +kernel
theorem dX6_weigh_72 : decode cX6_weigh 72 = .ok (.aload_n 0, 1) := by decide +kernel
theorem dX6_weigh_73 : decode cX6_weigh 73 = .ok (.getfield 27, 3) := by decide +kernel
theorem dX6_weigh_76 : decode cX6_weigh 76 = .ok (.iload 8, 2) := by decide +kernel
theorem dX6_weigh_78 : decode cX6_weigh 78 = .ok (.laload, 1) := by decide +kernel
theorem dX6_weigh_79 : decode cX6_weigh 79 = .ok (.lstore 14, 2) := by decide +kernel
theorem dX6_weigh_81 : decode cX6_weigh 81 = .ok (.lload 4, 2) := by decide +kernel
theorem dX6_weigh_83 : decode cX6_weigh 83 = .ok (.lload 14, 2) := by decide +kernel
theorem dX6_weigh_85 : decode cX6_weigh 85 = .ok (.invokestatic 58, 3) := by decide +kernel
theorem dX6_weigh_88 : decode cX6_weigh 88 = .ok (.lload 10, 2) := by decide +kernel
theorem dX6_weigh_90 : decode cX6_weigh 90 = .ok (.lload 12, 2) := by decide +kernel
theorem dX6_weigh_92 : decode cX6_weigh 92 = .ok (.invokestatic 58, 3) := by decide +kernel
theorem dX6_weigh_95 : decode cX6_weigh 95 = .ok (.lload 6, 2) := by decide +kernel
theorem dX6_weigh_97 : decode cX6_weigh 97 = .ok (.invokestatic 58, 3) := by decide +kernel
theorem dX6_weigh_100 : decode cX6_weigh 100 = .ok (.invokestatic 64, 3) := by decide +kernel
theorem dX6_weigh_103 : decode cX6_weigh 103 = .ok (.lstore 16, 2) := by decide +kernel
theorem dX6_weigh_105 : decode cX6_weigh 105 = .ok (.lload 6, 2) := by decide +kernel
theorem dX6_weigh_107 : decode cX6_weigh 107 = .ok (.lload 14, 2) := by decide +kernel
theorem dX6_weigh_109 : decode cX6_weigh 109 = .ok (.invokestatic 58, 3) := by decide +kernel
theorem dX6_weigh_112 : decode cX6_weigh 112 = .ok (.lstore 18, 2) := by decide +kernel
