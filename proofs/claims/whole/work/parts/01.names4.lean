set_option maxRecDepth 20000 in
theorem ggX9_changes_X9_findsCounts : GoodIn wsX9_changes wsX9_findsCounts := goodIn_r _ [16, 17, 18, 19, 7, 20, 21, 22, 23, 24, 25, 26, 27, 28, 29, 30, 31, 32, 33, 34, 35, 36, 37, 38, 39, 40, 41, 42, 43, 44, 45, 4, 46, 47, 48, 49, 50, 51, 52, 53, 54, 55, 56, 57, 58, 59, 60, 61, 83, 84, 85, 86, 87, 88, 89, 90, 91, 92, 93, 94, 95, 96, 97, 98, 99, 100, 101, 102, 103, 104, 105, 106, 107, 108, 109, 110, 111, 112, 113, 114, 115, 116, 117, 118, 119] (by decide +kernel) (by decide +kernel)
set_option maxRecDepth 20000 in
theorem gX9_changes_X9_findsCounts : GoodIn wsX9_changes (wsV RX9 178 RX9 yX9_findsCounts wsX9_findsCounts) := goodIn_app (goodIn_of _ (by decide +kernel)) ggX9_changes_X9_findsCounts
set_option maxRecDepth 20000 in
theorem ggX9_changes_X9_free : GoodIn wsX9_changes wsX9_free := goodIn_r _ [39, 40, 83, 84, 85, 86, 87, 88, 89, 90, 91, 92, 93, 94, 95, 96, 97, 98, 99, 100, 101, 102, 103, 104, 105, 106, 107, 108, 109, 110, 111, 112, 113, 114, 115, 116, 117, 118, 119] (by decide +kernel) (by decide +kernel)
set_option maxRecDepth 20000 in
theorem gX9_changes_X9_free : GoodIn wsX9_changes (wsV RX9 166 RX9 yX9_free wsX9_free) := goodIn_app (goodIn_of _ (by decide +kernel)) ggX9_changes_X9_free
set_option maxRecDepth 20000 in
theorem ggX9_changes_X9_many : GoodIn wsX9_changes wsX9_many := goodIn_r _ [64] (by decide +kernel) (by decide +kernel)
set_option maxRecDepth 20000 in
theorem gX9_changes_X9_many : GoodIn wsX9_changes (va_wsS RX9 181 yX9_many wsX9_many) := goodIn_app (goodIn_of _ (by decide +kernel)) ggX9_changes_X9_many
set_option maxRecDepth 20000 in
theorem ggX9_changes_X9_signAt : GoodIn wsX9_changes wsX9_signAt := goodIn_r _ [68, 69, 70, 71, 72, 7, 73, 46, 74, 75, 76, 77, 58, 78, 79, 80, 81, 82, 83, 84, 85, 86, 87, 88, 89, 90, 91, 92, 93, 94, 95, 96, 97, 98, 99, 100, 101, 102, 103, 104, 105, 106, 107, 108, 109, 110, 111, 112, 113, 114, 115, 116, 117, 118, 119] (by decide +kernel) (by decide +kernel)
set_option maxRecDepth 20000 in
theorem gX9_changes_X9_signAt : GoodIn wsX9_changes (wsV RX9 278 RX9 yX9_signAt wsX9_signAt) := goodIn_app (goodIn_of _ (by decide +kernel)) ggX9_changes_X9_signAt
theorem dX9_changes_0 : decode cX9_changes 0 = .ok (.iload_n 1, 1) := by decide +kernel
theorem dX9_changes_1 : decode cX9_changes 1 = .ok (.invokestatic 138, 3) := by decide +kernel
theorem dX9_changes_4 : decode cX9_changes 4 = .ok (.ifCond .eq 50, 3) := by decide +kernel
theorem dX9_changes_7 : decode cX9_changes 7 = .ok (.iload_n 2, 1) := by decide +kernel
theorem dX9_changes_8 : decode cX9_changes 8 = .ok (.i2l, 1) := by decide +kernel
theorem dX9_changes_9 : decode cX9_changes 9 = .ok (.lconst 1, 1) := by decide +kernel
theorem dX9_changes_10 : decode cX9_changes 10 = .ok (.ldc2_w 172, 3) := by decide +kernel
theorem dX9_changes_13 : decode cX9_changes 13 = .ok (.invokestatic 96, 3) := by decide +kernel
theorem dX9_changes_16 : decode cX9_changes 16 = .ok (.ifCond .eq 38, 3) := by decide +kernel
theorem dX9_changes_19 : decode cX9_changes 19 = .ok (.iload_n 3, 1) := by decide +kernel
theorem dX9_changes_20 : decode cX9_changes 20 = .ok (.iload 4, 2) := by decide +kernel
theorem dX9_changes_22 : decode cX9_changes 22 = .ok (.if_icmp .gt 32, 3) := by decide +kernel
theorem dX9_changes_25 : decode cX9_changes 25 = .ok (.iload_n 3, 1) := by decide +kernel
theorem dX9_changes_26 : decode cX9_changes 26 = .ok (.i2l, 1) := by decide +kernel
theorem dX9_changes_27 : decode cX9_changes 27 = .ok (.ldc2_w 274, 3) := by decide +kernel
theorem dX9_changes_30 : decode cX9_changes 30 = .ok (.ldc2_w 276, 3) := by decide +kernel
theorem dX9_changes_33 : decode cX9_changes 33 = .ok (.invokestatic 96, 3) := by decide +kernel
theorem dX9_changes_36 : decode cX9_changes 36 = .ok (.ifCond .eq 18, 3) := by decide +kernel
theorem dX9_changes_39 : decode cX9_changes 39 = .ok (.iload 4, 2) := by decide +kernel
theorem dX9_changes_41 : decode cX9_changes 41 = .ok (.i2l, 1) := by decide +kernel
theorem dX9_changes_42 : decode cX9_changes 42 = .ok (.ldc2_w 274, 3) := by decide +kernel
theorem dX9_changes_45 : decode cX9_changes 45 = .ok (.ldc2_w 276, 3) := by decide +kernel
theorem dX9_changes_48 : decode cX9_changes 48 = .ok (.invokestatic 96, 3) := by decide +kernel
theorem dX9_changes_51 : decode cX9_changes 51 = .ok (.ifCond .ne 6, 3) := by decide +kernel
theorem dX9_changes_54 : decode cX9_changes 54 = .ok (.bipush (-2), 2) := by decide +kernel
theorem dX9_changes_56 : decode cX9_changes 56 = .ok (.ireturn, 1) := by decide +kernel
theorem dX9_changes_57 : decode cX9_changes 57 = .ok (.aload_n 0, 1) := by decide +kernel
theorem dX9_changes_58 : decode cX9_changes 58 = .ok (.iload_n 1, 1) := by decide +kernel
theorem dX9_changes_59 : decode cX9_changes 59 = .ok (.invokevirtual 178, 3) := by decide +kernel
theorem dX9_changes_62 : decode cX9_changes 62 = .ok (.iconst 0, 1) := by decide +kernel
theorem dX9_changes_63 : decode cX9_changes 63 = .ok (.istore 5, 2) := by decide +kernel
theorem dX9_changes_65 : decode cX9_changes 65 = .ok (.iconst 0, 1) := by decide +kernel
theorem dX9_changes_66 : decode cX9_changes 66 = .ok (.istore 6, 2) := by decide +kernel
theorem dX9_changes_68 : decode cX9_changes 68 = .ok (.aload_n 0, 1) := by decide +kernel
theorem dX9_changes_69 : decode cX9_changes 69 = .ok (.getfield 148, 3) := by decide +kernel
theorem dX9_changes_72 : decode cX9_changes 72 = .ok (.istore 7, 2) := by decide +kernel
theorem dX9_changes_74 : decode cX9_changes 74 = .ok (.iload_n 3, 1) := by decide +kernel
theorem dX9_changes_75 : decode cX9_changes 75 = .ok (.istore 8, 2) := by decide +kernel
theorem dX9_changes_77 : decode cX9_changes 77 = .ok (.iload 8, 2) := by decide +kernel
theorem dX9_changes_79 : decode cX9_changes 79 = .ok (.iload 4, 2) := by decide +kernel
theorem dX9_changes_81 : decode cX9_changes 81 = .ok (.if_icmp .gt 82, 3) := by decide +kernel
theorem dX9_changes_84 : decode cX9_changes 84 = .ok (.iload 7, 2) := by decide +kernel
theorem dX9_changes_86 : decode cX9_changes 86 = .ok (.ifCond .ne 77, 3) := by decide +kernel
theorem dX9_changes_89 : decode cX9_changes 89 = .ok (.aload_n 0, 1) := by decide +kernel
theorem dX9_changes_90 : decode cX9_changes 90 = .ok (.aload_n 0, 1) := by decide +kernel
theorem dX9_changes_91 : decode cX9_changes 91 = .ok (.iload_n 1, 1) := by decide +kernel
theorem dX9_changes_92 : decode cX9_changes 92 = .ok (.invokevirtual 166, 3) := by decide +kernel
theorem dX9_changes_95 : decode cX9_changes 95 = .ok (.invokestatic 181, 3) := by decide +kernel
theorem dX9_changes_98 : decode cX9_changes 98 = .ok (.iload 8, 2) := by decide +kernel
theorem dX9_changes_100 : decode cX9_changes 100 = .ok (.iload_n 2, 1) := by decide +kernel
theorem dX9_changes_101 : decode cX9_changes 101 = .ok (.invokevirtual 278, 3) := by decide +kernel
theorem dX9_changes_104 : decode cX9_changes 104 = .ok (.istore 9, 2) := by decide +kernel
theorem dX9_changes_106 : decode cX9_changes 106 = .ok (.iload 9, 2) := by decide +kernel
theorem dX9_changes_108 : decode cX9_changes 108 = .ok (.bipush (-5), 2) := by decide +kernel
theorem dX9_changes_110 : decode cX9_changes 110 = .ok (.if_icmp .ne 7, 3) := by decide +kernel
theorem dX9_changes_113 : decode cX9_changes 113 = .ok (.iconst 1, 1) := by decide +kernel
theorem dX9_changes_114 : decode cX9_changes 114 = .ok (.goto 4, 3) := by decide +kernel
theorem dX9_changes_117 : decode cX9_changes 117 = .ok (.iconst 0, 1) := by decide +kernel
theorem dX9_changes_118 : decode cX9_changes 118 = .ok (.istore 7, 2) := by decide +kernel
theorem dX9_changes_120 : decode cX9_changes 120 = .ok (.iload 5, 2) := by decide +kernel
theorem dX9_changes_122 : decode cX9_changes 122 = .ok (.iload 9, 2) := by decide +kernel
theorem dX9_changes_124 : decode cX9_changes 124 = .ok (.iload 6, 2) := by decide +kernel
theorem dX9_changes_126 : decode cX9_changes 126 = .ok (.imul, 1) := by decide +kernel
theorem dX9_changes_127 : decode cX9_changes 127 = .ok (.ifCond .ge 12, 3) := by decide +kernel
theorem dX9_changes_130 : decode cX9_changes 130 = .ok (.iload 7, 2) := by decide +kernel
theorem dX9_changes_132 : decode cX9_changes 132 = .ok (.ifCond .ne 7, 3) := by decide +kernel
theorem dX9_changes_135 : decode cX9_changes 135 = .ok (.iconst 1, 1) := by decide +kernel
theorem dX9_changes_136 : decode cX9_changes 136 = .ok (.goto 4, 3) := by decide +kernel
theorem dX9_changes_139 : decode cX9_changes 139 = .ok (.iconst 0, 1) := by decide +kernel
theorem dX9_changes_140 : decode cX9_changes 140 = .ok (.iadd, 1) := by decide +kernel
theorem dX9_changes_141 : decode cX9_changes 141 = .ok (.istore 5, 2) := by decide +kernel
theorem dX9_changes_143 : decode cX9_changes 143 = .ok (.iload 9, 2) := by decide +kernel
theorem dX9_changes_145 : decode cX9_changes 145 = .ok (.ifCond .ne 8, 3) := by decide +kernel
theorem dX9_changes_148 : decode cX9_changes 148 = .ok (.iload 6, 2) := by decide +kernel
theorem dX9_changes_150 : decode cX9_changes 150 = .ok (.goto 5, 3) := by decide +kernel
theorem dX9_changes_153 : decode cX9_changes 153 = .ok (.iload 9, 2) := by decide +kernel
theorem dX9_changes_155 : decode cX9_changes 155 = .ok (.istore 6, 2) := by decide +kernel
theorem dX9_changes_157 : decode cX9_changes 157 = .ok (.iinc 8 1, 3) := by decide +kernel
theorem dX9_changes_160 : decode cX9_changes 160 = .ok (.goto (-83), 3) := by decide +kernel
theorem dX9_changes_163 : decode cX9_changes 163 = .ok (.iload 7, 2) := by decide +kernel
theorem dX9_changes_165 : decode cX9_changes 165 = .ok (.ifCond .eq 8, 3) := by decide +kernel
theorem dX9_changes_168 : decode cX9_changes 168 = .ok (.bipush (-5), 2) := by decide +kernel
theorem dX9_changes_170 : decode cX9_changes 170 = .ok (.goto 5, 3) := by decide +kernel
theorem dX9_changes_173 : decode cX9_changes 173 = .ok (.iload 5, 2) := by decide +kernel
theorem dX9_changes_175 : decode cX9_changes 175 = .ok (.ireturn, 1) := by decide +kernel
theorem dX9_areLines_0 : decode cX9_areLines 0 = .ok (.lload_n 1, 1) := by decide +kernel
theorem dX9_areLines_1 : decode cX9_areLines 1 = .ok (.aload_n 0, 1) := by decide +kernel
theorem dX9_areLines_2 : decode cX9_areLines 2 = .ok (.getfield 100, 3) := by decide +kernel
theorem dX9_areLines_5 : decode cX9_areLines 5 = .ok (.lushr, 1) := by decide +kernel
theorem dX9_areLines_6 : decode cX9_areLines 6 = .ok (.lconst 0, 1) := by decide +kernel
theorem dX9_areLines_7 : decode cX9_areLines 7 = .ok (.lcmp, 1) := by decide +kernel
theorem dX9_areLines_8 : decode cX9_areLines 8 = .ok (.ifCond .ne 7, 3) := by decide +kernel
theorem dX9_areLines_11 : decode cX9_areLines 11 = .ok (.iconst 1, 1) := by decide +kernel
theorem dX9_areLines_12 : decode cX9_areLines 12 = .ok (.goto 4, 3) := by decide +kernel
theorem dX9_areLines_15 : decode cX9_areLines 15 = .ok (.iconst 0, 1) := by decide +kernel
theorem dX9_areLines_16 : decode cX9_areLines 16 = .ok (.ireturn, 1) := by decide +kernel
set_option maxRecDepth 20000 in
theorem ggX9_arePaired_X9_has : GoodIn wsX9_arePaired wsX9_has := goodIn_r _ [7] (by decide +kernel) (by decide +kernel)
set_option maxRecDepth 20000 in
theorem gX9_arePaired_X9_has : GoodIn wsX9_arePaired (va_wsS RX9 152 yX9_has wsX9_has) := goodIn_app (goodIn_of _ (by decide +kernel)) ggX9_arePaired_X9_has
theorem dX9_arePaired_0 : decode cX9_arePaired 0 = .ok (.iconst 0, 1) := by decide +kernel
theorem dX9_arePaired_1 : decode cX9_arePaired 1 = .ok (.istore_n 3, 1) := by decide +kernel
theorem dX9_arePaired_2 : decode cX9_arePaired 2 = .ok (.iconst 0, 1) := by decide +kernel
theorem dX9_arePaired_3 : decode cX9_arePaired 3 = .ok (.istore 4, 2) := by decide +kernel
theorem dX9_arePaired_5 : decode cX9_arePaired 5 = .ok (.iload 4, 2) := by decide +kernel
theorem dX9_arePaired_7 : decode cX9_arePaired 7 = .ok (.aload_n 0, 1) := by decide +kernel
theorem dX9_arePaired_8 : decode cX9_arePaired 8 = .ok (.getfield 100, 3) := by decide +kernel
theorem dX9_arePaired_11 : decode cX9_arePaired 11 = .ok (.if_icmp .ge 66, 3) := by decide +kernel
theorem dX9_arePaired_14 : decode cX9_arePaired 14 = .ok (.iconst 1, 1) := by decide +kernel
theorem dX9_arePaired_15 : decode cX9_arePaired 15 = .ok (.aload_n 0, 1) := by decide +kernel
theorem dX9_arePaired_16 : decode cX9_arePaired 16 = .ok (.getfield 16, 3) := by decide +kernel
theorem dX9_arePaired_19 : decode cX9_arePaired 19 = .ok (.iload 4, 2) := by decide +kernel
theorem dX9_arePaired_21 : decode cX9_arePaired 21 = .ok (.iaload, 1) := by decide +kernel
theorem dX9_arePaired_22 : decode cX9_arePaired 22 = .ok (.ishl, 1) := by decide +kernel
theorem dX9_arePaired_23 : decode cX9_arePaired 23 = .ok (.iconst 1, 1) := by decide +kernel
theorem dX9_arePaired_24 : decode cX9_arePaired 24 = .ok (.aload_n 0, 1) := by decide +kernel
theorem dX9_arePaired_25 : decode cX9_arePaired 25 = .ok (.getfield 19, 3) := by decide +kernel
theorem dX9_arePaired_28 : decode cX9_arePaired 28 = .ok (.iload 4, 2) := by decide +kernel
theorem dX9_arePaired_30 : decode cX9_arePaired 30 = .ok (.iaload, 1) := by decide +kernel
theorem dX9_arePaired_31 : decode cX9_arePaired 31 = .ok (.ishl, 1) := by decide +kernel
theorem dX9_arePaired_32 : decode cX9_arePaired 32 = .ok (.ior, 1) := by decide +kernel
theorem dX9_arePaired_33 : decode cX9_arePaired 33 = .ok (.istore 5, 2) := by decide +kernel
theorem dX9_arePaired_35 : decode cX9_arePaired 35 = .ok (.lload_n 1, 1) := by decide +kernel
theorem dX9_arePaired_36 : decode cX9_arePaired 36 = .ok (.iload 4, 2) := by decide +kernel
theorem dX9_arePaired_38 : decode cX9_arePaired 38 = .ok (.invokestatic 152, 3) := by decide +kernel
theorem dX9_arePaired_41 : decode cX9_arePaired 41 = .ok (.ifCond .eq 12, 3) := by decide +kernel
theorem dX9_arePaired_44 : decode cX9_arePaired 44 = .ok (.iload_n 3, 1) := by decide +kernel
theorem dX9_arePaired_45 : decode cX9_arePaired 45 = .ok (.iload 5, 2) := by decide +kernel
theorem dX9_arePaired_47 : decode cX9_arePaired 47 = .ok (.iand, 1) := by decide +kernel
theorem dX9_arePaired_48 : decode cX9_arePaired 48 = .ok (.ifCond .eq 5, 3) := by decide +kernel
theorem dX9_arePaired_51 : decode cX9_arePaired 51 = .ok (.iconst 0, 1) := by decide +kernel
theorem dX9_arePaired_52 : decode cX9_arePaired 52 = .ok (.ireturn, 1) := by decide +kernel
theorem dX9_arePaired_53 : decode cX9_arePaired 53 = .ok (.iload_n 3, 1) := by decide +kernel
theorem dX9_arePaired_54 : decode cX9_arePaired 54 = .ok (.lload_n 1, 1) := by decide +kernel
theorem dX9_arePaired_55 : decode cX9_arePaired 55 = .ok (.iload 4, 2) := by decide +kernel
theorem dX9_arePaired_57 : decode cX9_arePaired 57 = .ok (.invokestatic 152, 3) := by decide +kernel
theorem dX9_arePaired_60 : decode cX9_arePaired 60 = .ok (.ifCond .eq 8, 3) := by decide +kernel
theorem dX9_arePaired_63 : decode cX9_arePaired 63 = .ok (.iload 5, 2) := by decide +kernel
theorem dX9_arePaired_65 : decode cX9_arePaired 65 = .ok (.goto 4, 3) := by decide +kernel
theorem dX9_arePaired_68 : decode cX9_arePaired 68 = .ok (.iconst 0, 1) := by decide +kernel
theorem dX9_arePaired_69 : decode cX9_arePaired 69 = .ok (.ior, 1) := by decide +kernel
theorem dX9_arePaired_70 : decode cX9_arePaired 70 = .ok (.istore_n 3, 1) := by decide +kernel
theorem dX9_arePaired_71 : decode cX9_arePaired 71 = .ok (.iinc 4 1, 3) := by decide +kernel
theorem dX9_arePaired_74 : decode cX9_arePaired 74 = .ok (.goto (-69), 3) := by decide +kernel
theorem dX9_arePaired_77 : decode cX9_arePaired 77 = .ok (.iconst 1, 1) := by decide +kernel
theorem dX9_arePaired_78 : decode cX9_arePaired 78 = .ok (.ireturn, 1) := by decide +kernel
set_option maxRecDepth 20000 in
theorem ggX9_isPairing_X9_areLines : GoodIn wsX9_isPairing wsX9_areLines := goodIn_r _ [5, 6, 16, 17, 18, 19, 20, 21, 22, 23, 24, 25, 26, 27, 28, 29, 30, 31, 32, 33, 34, 35, 36, 37, 38, 39, 40, 41, 42, 43, 44, 45, 46, 47, 48, 49, 50, 51, 52] (by decide +kernel) (by decide +kernel)
set_option maxRecDepth 20000 in
theorem gX9_isPairing_X9_areLines : GoodIn wsX9_isPairing (wsV RX9 282 RX9 yX9_areLines wsX9_areLines) := goodIn_app (goodIn_of _ (by decide +kernel)) ggX9_isPairing_X9_areLines
set_option maxRecDepth 20000 in
theorem ggX9_isPairing_X9_arePaired : GoodIn wsX9_isPairing wsX9_arePaired := goodIn_r _ [10, 6, 11, 12, 13, 14, 4, 15, 16, 17, 18, 19, 20, 21, 22, 23, 24, 25, 26, 27, 28, 29, 30, 31, 32, 33, 34, 35, 36, 37, 38, 39, 40, 41, 42, 43, 44, 45, 46, 47, 48, 49, 50, 51, 52] (by decide +kernel) (by decide +kernel)
set_option maxRecDepth 20000 in
theorem gX9_isPairing_X9_arePaired : GoodIn wsX9_isPairing (wsV RX9 286 RX9 yX9_arePaired wsX9_arePaired) := goodIn_app (goodIn_of _ (by decide +kernel)) ggX9_isPairing_X9_arePaired
theorem dX9_isPairing_0 : decode cX9_isPairing 0 = .ok (.aload_n 0, 1) := by decide +kernel
theorem dX9_isPairing_1 : decode cX9_isPairing 1 = .ok (.lload_n 1, 1) := by decide +kernel
theorem dX9_isPairing_2 : decode cX9_isPairing 2 = .ok (.invokevirtual 282, 3) := by decide +kernel
theorem dX9_isPairing_5 : decode cX9_isPairing 5 = .ok (.ifCond .ne 8, 3) := by decide +kernel
theorem dX9_isPairing_8 : decode cX9_isPairing 8 = .ok (.bipush (-2), 2) := by decide +kernel
theorem dX9_isPairing_10 : decode cX9_isPairing 10 = .ok (.goto 16, 3) := by decide +kernel
theorem dX9_isPairing_13 : decode cX9_isPairing 13 = .ok (.aload_n 0, 1) := by decide +kernel
theorem dX9_isPairing_14 : decode cX9_isPairing 14 = .ok (.lload_n 1, 1) := by decide +kernel
theorem dX9_isPairing_15 : decode cX9_isPairing 15 = .ok (.invokevirtual 286, 3) := by decide +kernel
theorem dX9_isPairing_18 : decode cX9_isPairing 18 = .ok (.ifCond .eq 7, 3) := by decide +kernel
theorem dX9_isPairing_21 : decode cX9_isPairing 21 = .ok (.iconst 1, 1) := by decide +kernel
theorem dX9_isPairing_22 : decode cX9_isPairing 22 = .ok (.goto 4, 3) := by decide +kernel
theorem dX9_isPairing_25 : decode cX9_isPairing 25 = .ok (.iconst 0, 1) := by decide +kernel
theorem dX9_isPairing_26 : decode cX9_isPairing 26 = .ok (.ireturn, 1) := by decide +kernel
set_option maxRecDepth 20000 in
theorem ggX9_worth_X9_areLines : GoodIn wsX9_worth wsX9_areLines := goodIn_r _ [6, 1, 36, 37, 38, 39, 40, 41, 42, 43, 44, 45, 46, 47, 48, 49, 50, 51, 52, 53, 54, 55, 56, 57, 58, 59, 60, 61, 62, 63, 64, 65, 66, 67, 68, 69, 70, 71, 72] (by decide +kernel) (by decide +kernel)
set_option maxRecDepth 20000 in
theorem gX9_worth_X9_areLines : GoodIn wsX9_worth (wsV RX9 282 RX9 yX9_areLines wsX9_areLines) := goodIn_app (goodIn_of _ (by decide +kernel)) ggX9_worth_X9_areLines
set_option maxRecDepth 20000 in
theorem ggX9_worth_X9_told : GoodIn wsX9_worth wsX9_told := goodIn_r _ [9, 10] (by decide +kernel) (by decide +kernel)
set_option maxRecDepth 20000 in
theorem gX9_worth_X9_told : GoodIn wsX9_worth (va_wsS RX9 174 yX9_told wsX9_told) := goodIn_app (goodIn_of _ (by decide +kernel)) ggX9_worth_X9_told
set_option maxRecDepth 20000 in
theorem ggX9_worth_X9_arePaired : GoodIn wsX9_worth wsX9_arePaired := goodIn_r _ [14, 1, 15, 16, 17, 18, 5, 19, 36, 37, 38, 39, 40, 41, 42, 43, 44, 45, 46, 47, 48, 49, 50, 51, 52, 53, 54, 55, 56, 57, 58, 59, 60, 61, 62, 63, 64, 65, 66, 67, 68, 69, 70, 71, 72] (by decide +kernel) (by decide +kernel)
set_option maxRecDepth 20000 in
theorem gX9_worth_X9_arePaired : GoodIn wsX9_worth (wsV RX9 286 RX9 yX9_arePaired wsX9_arePaired) := goodIn_app (goodIn_of _ (by decide +kernel)) ggX9_worth_X9_arePaired
set_option maxRecDepth 20000 in
theorem ggX9_worth_X9_has : GoodIn wsX9_worth wsX9_has := goodIn_r _ [19] (by decide +kernel) (by decide +kernel)
set_option maxRecDepth 20000 in
theorem gX9_worth_X9_has : GoodIn wsX9_worth (va_wsS RX9 152 yX9_has wsX9_has) := goodIn_app (goodIn_of _ (by decide +kernel)) ggX9_worth_X9_has
set_option maxRecDepth 20000 in
theorem ggX9_worth_X9_weight : GoodIn wsX9_worth wsX9_weight := goodIn_r _ [23, 24, 25, 26, 27, 28, 5, 29, 30, 36, 37, 38, 39, 40, 41, 42, 43, 44, 45, 46, 47, 48, 49, 50, 51, 52, 53, 54, 55, 56, 57, 58, 59, 60, 61, 62, 63, 64, 65, 66, 67, 68, 69, 70, 71, 72] (by decide +kernel) (by decide +kernel)
set_option maxRecDepth 20000 in
theorem gX9_worth_X9_weight : GoodIn wsX9_worth (wsV RX9 134 RX9 yX9_weight wsX9_weight) := goodIn_app (goodIn_of _ (by decide +kernel)) ggX9_worth_X9_weight
set_option maxRecDepth 20000 in
theorem ggX9_worth_X9_times : GoodIn wsX9_worth wsX9_times := goodIn_r _ [33, 34, 35] (by decide +kernel) (by decide +kernel)
set_option maxRecDepth 20000 in
theorem gX9_worth_X9_times : GoodIn wsX9_worth (va_wsS RX9 156 yX9_times wsX9_times) := goodIn_app (goodIn_of _ (by decide +kernel)) ggX9_worth_X9_times
theorem dX9_worth_0 : decode cX9_worth 0 = .ok (.aload_n 0, 1) := by decide +kernel
theorem dX9_worth_1 : decode cX9_worth 1 = .ok (.lload_n 1, 1) := by decide +kernel
theorem dX9_worth_2 : decode cX9_worth 2 = .ok (.invokevirtual 282, 3) := by decide +kernel
theorem dX9_worth_5 : decode cX9_worth 5 = .ok (.ifCond .ne 9, 3) := by decide +kernel
theorem dX9_worth_8 : decode cX9_worth 8 = .ok (.bipush (-2), 2) := by decide +kernel
theorem dX9_worth_10 : decode cX9_worth 10 = .ok (.invokestatic 174, 3) := by decide +kernel
theorem dX9_worth_13 : decode cX9_worth 13 = .ok (.lreturn, 1) := by decide +kernel
theorem dX9_worth_14 : decode cX9_worth 14 = .ok (.aload_n 0, 1) := by decide +kernel
theorem dX9_worth_15 : decode cX9_worth 15 = .ok (.lload_n 1, 1) := by decide +kernel
theorem dX9_worth_16 : decode cX9_worth 16 = .ok (.invokevirtual 286, 3) := by decide +kernel
theorem dX9_worth_19 : decode cX9_worth 19 = .ok (.ifCond .ne 9, 3) := by decide +kernel
theorem dX9_worth_22 : decode cX9_worth 22 = .ok (.bipush (-3), 2) := by decide +kernel
theorem dX9_worth_24 : decode cX9_worth 24 = .ok (.invokestatic 174, 3) := by decide +kernel
theorem dX9_worth_27 : decode cX9_worth 27 = .ok (.lreturn, 1) := by decide +kernel
theorem dX9_worth_28 : decode cX9_worth 28 = .ok (.lconst 1, 1) := by decide +kernel
theorem dX9_worth_29 : decode cX9_worth 29 = .ok (.lstore_n 3, 1) := by decide +kernel
theorem dX9_worth_30 : decode cX9_worth 30 = .ok (.iconst 0, 1) := by decide +kernel
theorem dX9_worth_31 : decode cX9_worth 31 = .ok (.istore 5, 2) := by decide +kernel
theorem dX9_worth_33 : decode cX9_worth 33 = .ok (.iconst 0, 1) := by decide +kernel
theorem dX9_worth_34 : decode cX9_worth 34 = .ok (.istore 6, 2) := by decide +kernel
theorem dX9_worth_36 : decode cX9_worth 36 = .ok (.iload 6, 2) := by decide +kernel
theorem dX9_worth_38 : decode cX9_worth 38 = .ok (.aload_n 0, 1) := by decide +kernel
theorem dX9_worth_39 : decode cX9_worth 39 = .ok (.getfield 100, 3) := by decide +kernel
theorem dX9_worth_42 : decode cX9_worth 42 = .ok (.if_icmp .ge 62, 3) := by decide +kernel
theorem dX9_worth_45 : decode cX9_worth 45 = .ok (.lload_n 1, 1) := by decide +kernel
theorem dX9_worth_46 : decode cX9_worth 46 = .ok (.iload 6, 2) := by decide +kernel
theorem dX9_worth_48 : decode cX9_worth 48 = .ok (.invokestatic 152, 3) := by decide +kernel
theorem dX9_worth_51 : decode cX9_worth 51 = .ok (.ifCond .eq 17, 3) := by decide +kernel
theorem dX9_worth_54 : decode cX9_worth 54 = .ok (.lload_n 3, 1) := by decide +kernel
theorem dX9_worth_55 : decode cX9_worth 55 = .ok (.aload_n 0, 1) := by decide +kernel
theorem dX9_worth_56 : decode cX9_worth 56 = .ok (.iload 6, 2) := by decide +kernel
theorem dX9_worth_58 : decode cX9_worth 58 = .ok (.invokevirtual 134, 3) := by decide +kernel
theorem dX9_worth_61 : decode cX9_worth 61 = .ok (.i2l, 1) := by decide +kernel
theorem dX9_worth_62 : decode cX9_worth 62 = .ok (.invokestatic 156, 3) := by decide +kernel
theorem dX9_worth_65 : decode cX9_worth 65 = .ok (.goto 4, 3) := by decide +kernel
theorem dX9_worth_68 : decode cX9_worth 68 = .ok (.lload_n 3, 1) := by decide +kernel
theorem dX9_worth_69 : decode cX9_worth 69 = .ok (.lstore_n 3, 1) := by decide +kernel
theorem dX9_worth_70 : decode cX9_worth 70 = .ok (.iload 5, 2) := by decide +kernel
theorem dX9_worth_72 : decode cX9_worth 72 = .ok (.lload_n 1, 1) := by decide +kernel
theorem dX9_worth_73 : decode cX9_worth 73 = .ok (.iload 6, 2) := by decide +kernel
theorem dX9_worth_75 : decode cX9_worth 75 = .ok (.invokestatic 152, 3) := by decide +kernel
theorem dX9_worth_78 : decode cX9_worth 78 = .ok (.ifCond .eq 16, 3) := by decide +kernel
theorem dX9_worth_81 : decode cX9_worth 81 = .ok (.aload_n 0, 1) := by decide +kernel
theorem dX9_worth_82 : decode cX9_worth 82 = .ok (.iload 6, 2) := by decide +kernel
theorem dX9_worth_84 : decode cX9_worth 84 = .ok (.invokevirtual 134, 3) := by decide +kernel
theorem dX9_worth_87 : decode cX9_worth 87 = .ok (.ifCond .ne 7, 3) := by decide +kernel
theorem dX9_worth_90 : decode cX9_worth 90 = .ok (.iconst 1, 1) := by decide +kernel
theorem dX9_worth_91 : decode cX9_worth 91 = .ok (.goto 4, 3) := by decide +kernel
theorem dX9_worth_94 : decode cX9_worth 94 = .ok (.iconst 0, 1) := by decide +kernel
theorem dX9_worth_95 : decode cX9_worth 95 = .ok (.ior, 1) := by decide +kernel
theorem dX9_worth_96 : decode cX9_worth 96 = .ok (.istore 5, 2) := by decide +kernel
theorem dX9_worth_98 : decode cX9_worth 98 = .ok (.iinc 6 1, 3) := by decide +kernel
theorem dX9_worth_101 : decode cX9_worth 101 = .ok (.goto (-65), 3) := by decide +kernel
theorem dX9_worth_104 : decode cX9_worth 104 = .ok (.iload 5, 2) := by decide +kernel
theorem dX9_worth_106 : decode cX9_worth 106 = .ok (.ifCond .eq 7, 3) := by decide +kernel
theorem dX9_worth_109 : decode cX9_worth 109 = .ok (.lconst 0, 1) := by decide +kernel
theorem dX9_worth_110 : decode cX9_worth 110 = .ok (.goto 18, 3) := by decide +kernel
theorem dX9_worth_113 : decode cX9_worth 113 = .ok (.lload_n 3, 1) := by decide +kernel
theorem dX9_worth_114 : decode cX9_worth 114 = .ok (.lconst 0, 1) := by decide +kernel
theorem dX9_worth_115 : decode cX9_worth 115 = .ok (.lcmp, 1) := by decide +kernel
theorem dX9_worth_116 : decode cX9_worth 116 = .ok (.ifCond .ge 11, 3) := by decide +kernel
theorem dX9_worth_119 : decode cX9_worth 119 = .ok (.bipush (-5), 2) := by decide +kernel
theorem dX9_worth_121 : decode cX9_worth 121 = .ok (.invokestatic 174, 3) := by decide +kernel
theorem dX9_worth_124 : decode cX9_worth 124 = .ok (.goto 4, 3) := by decide +kernel
theorem dX9_worth_127 : decode cX9_worth 127 = .ok (.lload_n 3, 1) := by decide +kernel
theorem dX9_worth_128 : decode cX9_worth 128 = .ok (.lreturn, 1) := by decide +kernel
set_option maxRecDepth 20000 in
theorem ggX9_lists_X9_lists : GoodIn wsX9_lists wsX9_lists := goodIn_r _ [0, 1, 2, 3, 4, 5, 6, 7, 8, 9, 10, 11, 12, 13, 14, 15, 16, 17, 18, 19, 20, 21, 22, 23, 24, 25, 26, 27, 28, 29, 30, 31, 32, 33, 34, 35, 36, 37, 38, 39, 40, 41, 42, 43, 44, 45] (by decide +kernel) (by decide +kernel)
set_option maxRecDepth 20000 in
theorem gX9_lists_X9_lists : GoodIn wsX9_lists (wsV RX9 295 RX9 yX9_lists wsX9_lists) := goodIn_app (goodIn_of _ (by decide +kernel)) ggX9_lists_X9_lists
theorem dX9_lists_0 : decode cX9_lists 0 = .ok (.iload_n 1, 1) := by decide +kernel
theorem dX9_lists_1 : decode cX9_lists 1 = .ok (.ifCond .ne 36, 3) := by decide +kernel
theorem dX9_lists_4 : decode cX9_lists 4 = .ok (.aload_n 0, 1) := by decide +kernel
theorem dX9_lists_5 : decode cX9_lists 5 = .ok (.aload_n 0, 1) := by decide +kernel
theorem dX9_lists_6 : decode cX9_lists 6 = .ok (.getfield 289, 3) := by decide +kernel
theorem dX9_lists_9 : decode cX9_lists 9 = .ok (.iload 6, 2) := by decide +kernel
theorem dX9_lists_11 : decode cX9_lists 11 = .ok (.if_icmp .ne 8, 3) := by decide +kernel
theorem dX9_lists_14 : decode cX9_lists 14 = .ok (.lload 4, 2) := by decide +kernel
theorem dX9_lists_16 : decode cX9_lists 16 = .ok (.goto 7, 3) := by decide +kernel
theorem dX9_lists_19 : decode cX9_lists 19 = .ok (.aload_n 0, 1) := by decide +kernel
theorem dX9_lists_20 : decode cX9_lists 20 = .ok (.getfield 292, 3) := by decide +kernel
theorem dX9_lists_23 : decode cX9_lists 23 = .ok (.putfield 292, 3) := by decide +kernel
theorem dX9_lists_26 : decode cX9_lists 26 = .ok (.aload_n 0, 1) := by decide +kernel
theorem dX9_lists_27 : decode cX9_lists 27 = .ok (.dup, 1) := by decide +kernel
theorem dX9_lists_28 : decode cX9_lists 28 = .ok (.getfield 289, 3) := by decide +kernel
theorem dX9_lists_31 : decode cX9_lists 31 = .ok (.iconst 1, 1) := by decide +kernel
theorem dX9_lists_32 : decode cX9_lists 32 = .ok (.iadd, 1) := by decide +kernel
theorem dX9_lists_33 : decode cX9_lists 33 = .ok (.putfield 289, 3) := by decide +kernel
theorem dX9_lists_36 : decode cX9_lists 36 = .ok (.return_, 1) := by decide +kernel
theorem dX9_lists_37 : decode cX9_lists 37 = .ok (.iload_n 1, 1) := by decide +kernel
theorem dX9_lists_38 : decode cX9_lists 38 = .ok (.iconst 1, 1) := by decide +kernel
theorem dX9_lists_39 : decode cX9_lists 39 = .ok (.isub, 1) := by decide +kernel
theorem dX9_lists_40 : decode cX9_lists 40 = .ok (.istore 7, 2) := by decide +kernel
theorem dX9_lists_42 : decode cX9_lists 42 = .ok (.iload 7, 2) := by decide +kernel
theorem dX9_lists_44 : decode cX9_lists 44 = .ok (.iload_n 2, 1) := by decide +kernel
theorem dX9_lists_45 : decode cX9_lists 45 = .ok (.if_icmp .ge 59, 3) := by decide +kernel
theorem dX9_lists_48 : decode cX9_lists 48 = .ok (.iconst 1, 1) := by decide +kernel
theorem dX9_lists_49 : decode cX9_lists 49 = .ok (.aload_n 0, 1) := by decide +kernel
theorem dX9_lists_50 : decode cX9_lists 50 = .ok (.getfield 16, 3) := by decide +kernel
theorem dX9_lists_53 : decode cX9_lists 53 = .ok (.iload 7, 2) := by decide +kernel
theorem dX9_lists_55 : decode cX9_lists 55 = .ok (.iaload, 1) := by decide +kernel
theorem dX9_lists_56 : decode cX9_lists 56 = .ok (.ishl, 1) := by decide +kernel
theorem dX9_lists_57 : decode cX9_lists 57 = .ok (.iconst 1, 1) := by decide +kernel
theorem dX9_lists_58 : decode cX9_lists 58 = .ok (.aload_n 0, 1) := by decide +kernel
theorem dX9_lists_59 : decode cX9_lists 59 = .ok (.getfield 19, 3) := by decide +kernel
theorem dX9_lists_62 : decode cX9_lists 62 = .ok (.iload 7, 2) := by decide +kernel
theorem dX9_lists_64 : decode cX9_lists 64 = .ok (.iaload, 1) := by decide +kernel
theorem dX9_lists_65 : decode cX9_lists 65 = .ok (.ishl, 1) := by decide +kernel
theorem dX9_lists_66 : decode cX9_lists 66 = .ok (.ior, 1) := by decide +kernel
theorem dX9_lists_67 : decode cX9_lists 67 = .ok (.istore 8, 2) := by decide +kernel
theorem dX9_lists_69 : decode cX9_lists 69 = .ok (.iload_n 3, 1) := by decide +kernel
theorem dX9_lists_70 : decode cX9_lists 70 = .ok (.iload 8, 2) := by decide +kernel
theorem dX9_lists_72 : decode cX9_lists 72 = .ok (.iand, 1) := by decide +kernel
theorem dX9_lists_73 : decode cX9_lists 73 = .ok (.ifCond .ne 25, 3) := by decide +kernel
theorem dX9_lists_76 : decode cX9_lists 76 = .ok (.aload_n 0, 1) := by decide +kernel
theorem dX9_lists_77 : decode cX9_lists 77 = .ok (.iload_n 1, 1) := by decide +kernel
theorem dX9_lists_78 : decode cX9_lists 78 = .ok (.iconst 1, 1) := by decide +kernel
theorem dX9_lists_79 : decode cX9_lists 79 = .ok (.isub, 1) := by decide +kernel
theorem dX9_lists_80 : decode cX9_lists 80 = .ok (.iload 7, 2) := by decide +kernel
theorem dX9_lists_82 : decode cX9_lists 82 = .ok (.iload_n 3, 1) := by decide +kernel
theorem dX9_lists_83 : decode cX9_lists 83 = .ok (.iload 8, 2) := by decide +kernel
theorem dX9_lists_85 : decode cX9_lists 85 = .ok (.ior, 1) := by decide +kernel
theorem dX9_lists_86 : decode cX9_lists 86 = .ok (.lload 4, 2) := by decide +kernel
theorem dX9_lists_88 : decode cX9_lists 88 = .ok (.lconst 1, 1) := by decide +kernel
theorem dX9_lists_89 : decode cX9_lists 89 = .ok (.iload 7, 2) := by decide +kernel
theorem dX9_lists_91 : decode cX9_lists 91 = .ok (.lshl, 1) := by decide +kernel
theorem dX9_lists_92 : decode cX9_lists 92 = .ok (.lor, 1) := by decide +kernel
theorem dX9_lists_93 : decode cX9_lists 93 = .ok (.iload 6, 2) := by decide +kernel
theorem dX9_lists_95 : decode cX9_lists 95 = .ok (.invokevirtual 295, 3) := by decide +kernel
theorem dX9_lists_98 : decode cX9_lists 98 = .ok (.iinc 7 1, 3) := by decide +kernel
theorem dX9_lists_101 : decode cX9_lists 101 = .ok (.goto (-59), 3) := by decide +kernel
theorem dX9_lists_104 : decode cX9_lists 104 = .ok (.return_, 1) := by decide +kernel
set_option maxRecDepth 20000 in
theorem ggX9_listed_X9_in : GoodIn wsX9_listed wsX9_in := goodIn_r _ [9] (by decide +kernel) (by decide +kernel)
set_option maxRecDepth 20000 in
theorem gX9_listed_X9_in : GoodIn wsX9_listed (va_wsS RX9 96 yX9_in wsX9_in) := goodIn_app (goodIn_of _ (by decide +kernel)) ggX9_listed_X9_in
set_option maxRecDepth 20000 in
theorem ggX9_listed_X9_told : GoodIn wsX9_listed wsX9_told := goodIn_r _ [12, 13] (by decide +kernel) (by decide +kernel)
set_option maxRecDepth 20000 in
theorem gX9_listed_X9_told : GoodIn wsX9_listed (va_wsS RX9 174 yX9_told wsX9_told) := goodIn_app (goodIn_of _ (by decide +kernel)) ggX9_listed_X9_told
set_option maxRecDepth 20000 in
theorem ggX9_listed_X9_lists : GoodIn wsX9_listed wsX9_lists := goodIn_r _ [17, 2, 4, 18, 19, 14, 15, 16, 8, 20, 21, 22, 23, 24, 25, 26, 27, 28, 29, 30, 31, 32, 33, 34, 35, 36, 37, 38, 39, 40, 41, 42, 43, 44, 45, 46, 47, 48, 49, 50, 51, 52, 53, 54, 55, 56] (by decide +kernel) (by decide +kernel)
set_option maxRecDepth 20000 in
theorem gX9_listed_X9_lists : GoodIn wsX9_listed (wsV RX9 295 RX9 yX9_lists wsX9_lists) := goodIn_app (goodIn_of _ (by decide +kernel)) ggX9_listed_X9_lists
theorem dX9_listed_0 : decode cX9_listed 0 = .ok (.iload_n 1, 1) := by decide +kernel
theorem dX9_listed_1 : decode cX9_listed 1 = .ok (.i2l, 1) := by decide +kernel
theorem dX9_listed_2 : decode cX9_listed 2 = .ok (.lconst 0, 1) := by decide +kernel
theorem dX9_listed_3 : decode cX9_listed 3 = .ok (.ldc2_w 172, 3) := by decide +kernel
theorem dX9_listed_6 : decode cX9_listed 6 = .ok (.invokestatic 96, 3) := by decide +kernel
theorem dX9_listed_9 : decode cX9_listed 9 = .ok (.ifCond .ne 9, 3) := by decide +kernel
theorem dX9_listed_12 : decode cX9_listed 12 = .ok (.bipush (-2), 2) := by decide +kernel
theorem dX9_listed_14 : decode cX9_listed 14 = .ok (.invokestatic 174, 3) := by decide +kernel
theorem dX9_listed_17 : decode cX9_listed 17 = .ok (.lreturn, 1) := by decide +kernel
theorem dX9_listed_18 : decode cX9_listed 18 = .ok (.aload_n 0, 1) := by decide +kernel
theorem dX9_listed_19 : decode cX9_listed 19 = .ok (.iconst 0, 1) := by decide +kernel
theorem dX9_listed_20 : decode cX9_listed 20 = .ok (.putfield 289, 3) := by decide +kernel
theorem dX9_listed_23 : decode cX9_listed 23 = .ok (.aload_n 0, 1) := by decide +kernel
theorem dX9_listed_24 : decode cX9_listed 24 = .ok (.ldc2_w 84, 3) := by decide +kernel
theorem dX9_listed_27 : decode cX9_listed 27 = .ok (.putfield 292, 3) := by decide +kernel
theorem dX9_listed_30 : decode cX9_listed 30 = .ok (.aload_n 0, 1) := by decide +kernel
theorem dX9_listed_31 : decode cX9_listed 31 = .ok (.iload_n 1, 1) := by decide +kernel
theorem dX9_listed_32 : decode cX9_listed 32 = .ok (.aload_n 0, 1) := by decide +kernel
theorem dX9_listed_33 : decode cX9_listed 33 = .ok (.getfield 100, 3) := by decide +kernel
theorem dX9_listed_36 : decode cX9_listed 36 = .ok (.iconst 0, 1) := by decide +kernel
theorem dX9_listed_37 : decode cX9_listed 37 = .ok (.lconst 0, 1) := by decide +kernel
theorem dX9_listed_38 : decode cX9_listed 38 = .ok (.iload_n 2, 1) := by decide +kernel
theorem dX9_listed_39 : decode cX9_listed 39 = .ok (.invokevirtual 295, 3) := by decide +kernel
theorem dX9_listed_42 : decode cX9_listed 42 = .ok (.iload_n 2, 1) := by decide +kernel
theorem dX9_listed_43 : decode cX9_listed 43 = .ok (.iconst (-1), 1) := by decide +kernel
theorem dX9_listed_44 : decode cX9_listed 44 = .ok (.if_icmp .ne 11, 3) := by decide +kernel
theorem dX9_listed_47 : decode cX9_listed 47 = .ok (.aload_n 0, 1) := by decide +kernel
theorem dX9_listed_48 : decode cX9_listed 48 = .ok (.getfield 289, 3) := by decide +kernel
theorem dX9_listed_51 : decode cX9_listed 51 = .ok (.i2l, 1) := by decide +kernel
theorem dX9_listed_52 : decode cX9_listed 52 = .ok (.goto 24, 3) := by decide +kernel
theorem dX9_listed_55 : decode cX9_listed 55 = .ok (.aload_n 0, 1) := by decide +kernel
theorem dX9_listed_56 : decode cX9_listed 56 = .ok (.getfield 292, 3) := by decide +kernel
theorem dX9_listed_59 : decode cX9_listed 59 = .ok (.lconst 0, 1) := by decide +kernel
theorem dX9_listed_60 : decode cX9_listed 60 = .ok (.lcmp, 1) := by decide +kernel
theorem dX9_listed_61 : decode cX9_listed 61 = .ok (.ifCond .ge 11, 3) := by decide +kernel
theorem dX9_listed_64 : decode cX9_listed 64 = .ok (.bipush (-12), 2) := by decide +kernel
theorem dX9_listed_66 : decode cX9_listed 66 = .ok (.invokestatic 174, 3) := by decide +kernel
theorem dX9_listed_69 : decode cX9_listed 69 = .ok (.goto 7, 3) := by decide +kernel
theorem dX9_listed_72 : decode cX9_listed 72 = .ok (.aload_n 0, 1) := by decide +kernel
theorem dX9_listed_73 : decode cX9_listed 73 = .ok (.getfield 292, 3) := by decide +kernel
theorem dX9_listed_76 : decode cX9_listed 76 = .ok (.lreturn, 1) := by decide +kernel
set_option maxRecDepth 20000 in
theorem ggX9_lot_X9_in : GoodIn wsX9_lot wsX9_in := goodIn_r _ [9] (by decide +kernel) (by decide +kernel)
set_option maxRecDepth 20000 in
theorem gX9_lot_X9_in : GoodIn wsX9_lot (va_wsS RX9 96 yX9_in wsX9_in) := goodIn_app (goodIn_of _ (by decide +kernel)) ggX9_lot_X9_in
set_option maxRecDepth 20000 in
theorem ggX9_lot_X9_told : GoodIn wsX9_lot wsX9_told := goodIn_r _ [12, 13] (by decide +kernel) (by decide +kernel)
set_option maxRecDepth 20000 in
theorem gX9_lot_X9_told : GoodIn wsX9_lot (va_wsS RX9 174 yX9_told wsX9_told) := goodIn_app (goodIn_of _ (by decide +kernel)) ggX9_lot_X9_told
theorem dX9_lot_0 : decode cX9_lot 0 = .ok (.iload_n 2, 1) := by decide +kernel
theorem dX9_lot_1 : decode cX9_lot 1 = .ok (.i2l, 1) := by decide +kernel
theorem dX9_lot_2 : decode cX9_lot 2 = .ok (.lconst 0, 1) := by decide +kernel
theorem dX9_lot_3 : decode cX9_lot 3 = .ok (.ldc2_w 299, 3) := by decide +kernel
theorem dX9_lot_6 : decode cX9_lot 6 = .ok (.invokestatic 96, 3) := by decide +kernel
theorem dX9_lot_9 : decode cX9_lot 9 = .ok (.ifCond .ne 9, 3) := by decide +kernel
theorem dX9_lot_12 : decode cX9_lot 12 = .ok (.bipush (-2), 2) := by decide +kernel
theorem dX9_lot_14 : decode cX9_lot 14 = .ok (.invokestatic 174, 3) := by decide +kernel
theorem dX9_lot_17 : decode cX9_lot 17 = .ok (.lreturn, 1) := by decide +kernel
theorem dX9_lot_18 : decode cX9_lot 18 = .ok (.iload_n 1, 1) := by decide +kernel
theorem dX9_lot_19 : decode cX9_lot 19 = .ok (.istore_n 3, 1) := by decide +kernel
theorem dX9_lot_20 : decode cX9_lot 20 = .ok (.iconst 0, 1) := by decide +kernel
theorem dX9_lot_21 : decode cX9_lot 21 = .ok (.istore 4, 2) := by decide +kernel
theorem dX9_lot_23 : decode cX9_lot 23 = .ok (.lconst 0, 1) := by decide +kernel
theorem dX9_lot_24 : decode cX9_lot 24 = .ok (.lstore 5, 2) := by decide +kernel
theorem dX9_lot_26 : decode cX9_lot 26 = .ok (.iconst 0, 1) := by decide +kernel
theorem dX9_lot_27 : decode cX9_lot 27 = .ok (.istore 7, 2) := by decide +kernel
theorem dX9_lot_29 : decode cX9_lot 29 = .ok (.iload 7, 2) := by decide +kernel
theorem dX9_lot_31 : decode cX9_lot 31 = .ok (.aload_n 0, 1) := by decide +kernel
theorem dX9_lot_32 : decode cX9_lot 32 = .ok (.getfield 100, 3) := by decide +kernel
theorem dX9_lot_35 : decode cX9_lot 35 = .ok (.if_icmp .ge 100, 3) := by decide +kernel
theorem dX9_lot_38 : decode cX9_lot 38 = .ok (.iconst 1, 1) := by decide +kernel
theorem dX9_lot_39 : decode cX9_lot 39 = .ok (.aload_n 0, 1) := by decide +kernel
theorem dX9_lot_40 : decode cX9_lot 40 = .ok (.getfield 16, 3) := by decide +kernel
theorem dX9_lot_43 : decode cX9_lot 43 = .ok (.iload 7, 2) := by decide +kernel
theorem dX9_lot_45 : decode cX9_lot 45 = .ok (.iaload, 1) := by decide +kernel
theorem dX9_lot_46 : decode cX9_lot 46 = .ok (.ishl, 1) := by decide +kernel
theorem dX9_lot_47 : decode cX9_lot 47 = .ok (.iconst 1, 1) := by decide +kernel
theorem dX9_lot_48 : decode cX9_lot 48 = .ok (.aload_n 0, 1) := by decide +kernel
theorem dX9_lot_49 : decode cX9_lot 49 = .ok (.getfield 19, 3) := by decide +kernel
theorem dX9_lot_52 : decode cX9_lot 52 = .ok (.iload 7, 2) := by decide +kernel
theorem dX9_lot_54 : decode cX9_lot 54 = .ok (.iaload, 1) := by decide +kernel
theorem dX9_lot_55 : decode cX9_lot 55 = .ok (.ishl, 1) := by decide +kernel
theorem dX9_lot_56 : decode cX9_lot 56 = .ok (.ior, 1) := by decide +kernel
theorem dX9_lot_57 : decode cX9_lot 57 = .ok (.istore 8, 2) := by decide +kernel
theorem dX9_lot_59 : decode cX9_lot 59 = .ok (.iload 4, 2) := by decide +kernel
theorem dX9_lot_61 : decode cX9_lot 61 = .ok (.iload 8, 2) := by decide +kernel
theorem dX9_lot_63 : decode cX9_lot 63 = .ok (.iand, 1) := by decide +kernel
theorem dX9_lot_64 : decode cX9_lot 64 = .ok (.ifCond .ne 65, 3) := by decide +kernel
theorem dX9_lot_67 : decode cX9_lot 67 = .ok (.iload_n 3, 1) := by decide +kernel
theorem dX9_lot_68 : decode cX9_lot 68 = .ok (.ldc_w 301, 3) := by decide +kernel
theorem dX9_lot_71 : decode cX9_lot 71 = .ok (.imul, 1) := by decide +kernel
theorem dX9_lot_72 : decode cX9_lot 72 = .ok (.sipush 12345, 3) := by decide +kernel
theorem dX9_lot_75 : decode cX9_lot 75 = .ok (.iadd, 1) := by decide +kernel
theorem dX9_lot_76 : decode cX9_lot 76 = .ok (.istore_n 3, 1) := by decide +kernel
theorem dX9_lot_77 : decode cX9_lot 77 = .ok (.iload_n 3, 1) := by decide +kernel
theorem dX9_lot_78 : decode cX9_lot 78 = .ok (.bipush 8, 2) := by decide +kernel
theorem dX9_lot_80 : decode cX9_lot 80 = .ok (.iushr, 1) := by decide +kernel
theorem dX9_lot_81 : decode cX9_lot 81 = .ok (.bipush 10, 2) := by decide +kernel
theorem dX9_lot_83 : decode cX9_lot 83 = .ok (.irem, 1) := by decide +kernel
theorem dX9_lot_84 : decode cX9_lot 84 = .ok (.iload_n 2, 1) := by decide +kernel
theorem dX9_lot_85 : decode cX9_lot 85 = .ok (.if_icmp .ge 7, 3) := by decide +kernel
theorem dX9_lot_88 : decode cX9_lot 88 = .ok (.iconst 1, 1) := by decide +kernel
theorem dX9_lot_89 : decode cX9_lot 89 = .ok (.goto 4, 3) := by decide +kernel
theorem dX9_lot_92 : decode cX9_lot 92 = .ok (.iconst 0, 1) := by decide +kernel
theorem dX9_lot_93 : decode cX9_lot 93 = .ok (.istore 9, 2) := by decide +kernel
theorem dX9_lot_95 : decode cX9_lot 95 = .ok (.lload 5, 2) := by decide +kernel
theorem dX9_lot_97 : decode cX9_lot 97 = .ok (.iload 9, 2) := by decide +kernel
theorem dX9_lot_99 : decode cX9_lot 99 = .ok (.ifCond .eq 10, 3) := by decide +kernel
theorem dX9_lot_102 : decode cX9_lot 102 = .ok (.lconst 1, 1) := by decide +kernel
theorem dX9_lot_103 : decode cX9_lot 103 = .ok (.iload 7, 2) := by decide +kernel
theorem dX9_lot_105 : decode cX9_lot 105 = .ok (.lshl, 1) := by decide +kernel
theorem dX9_lot_106 : decode cX9_lot 106 = .ok (.goto 4, 3) := by decide +kernel
theorem dX9_lot_109 : decode cX9_lot 109 = .ok (.lconst 0, 1) := by decide +kernel
theorem dX9_lot_110 : decode cX9_lot 110 = .ok (.lor, 1) := by decide +kernel
theorem dX9_lot_111 : decode cX9_lot 111 = .ok (.lstore 5, 2) := by decide +kernel
theorem dX9_lot_113 : decode cX9_lot 113 = .ok (.iload 4, 2) := by decide +kernel
theorem dX9_lot_115 : decode cX9_lot 115 = .ok (.iload 9, 2) := by decide +kernel
theorem dX9_lot_117 : decode cX9_lot 117 = .ok (.ifCond .eq 8, 3) := by decide +kernel
theorem dX9_lot_120 : decode cX9_lot 120 = .ok (.iload 8, 2) := by decide +kernel
theorem dX9_lot_122 : decode cX9_lot 122 = .ok (.goto 4, 3) := by decide +kernel
theorem dX9_lot_125 : decode cX9_lot 125 = .ok (.iconst 0, 1) := by decide +kernel
theorem dX9_lot_126 : decode cX9_lot 126 = .ok (.ior, 1) := by decide +kernel
theorem dX9_lot_127 : decode cX9_lot 127 = .ok (.istore 4, 2) := by decide +kernel
theorem dX9_lot_129 : decode cX9_lot 129 = .ok (.iinc 7 1, 3) := by decide +kernel
theorem dX9_lot_132 : decode cX9_lot 132 = .ok (.goto (-103), 3) := by decide +kernel
theorem dX9_lot_135 : decode cX9_lot 135 = .ok (.lload 5, 2) := by decide +kernel
theorem dX9_lot_137 : decode cX9_lot 137 = .ok (.lreturn, 1) := by decide +kernel
theorem dX9_isUnder_0 : decode cX9_isUnder 0 = .ok (.iload_n 1, 1) := by decide +kernel
theorem dX9_isUnder_1 : decode cX9_isUnder 1 = .ok (.ifCond .eq 28, 3) := by decide +kernel
theorem dX9_isUnder_4 : decode cX9_isUnder 4 = .ok (.iload_n 0, 1) := by decide +kernel
theorem dX9_isUnder_5 : decode cX9_isUnder 5 = .ok (.iload_n 1, 1) := by decide +kernel
theorem dX9_isUnder_6 : decode cX9_isUnder 6 = .ok (.if_icmp .eq 23, 3) := by decide +kernel
theorem dX9_isUnder_9 : decode cX9_isUnder 9 = .ok (.iload_n 1, 1) := by decide +kernel
theorem dX9_isUnder_10 : decode cX9_isUnder 10 = .ok (.iconst 1, 1) := by decide +kernel
theorem dX9_isUnder_11 : decode cX9_isUnder 11 = .ok (.if_icmp .ne 8, 3) := by decide +kernel
theorem dX9_isUnder_14 : decode cX9_isUnder 14 = .ok (.iload_n 0, 1) := by decide +kernel
theorem dX9_isUnder_15 : decode cX9_isUnder 15 = .ok (.iconst 3, 1) := by decide +kernel
theorem dX9_isUnder_16 : decode cX9_isUnder 16 = .ok (.if_icmp .eq 13, 3) := by decide +kernel
theorem dX9_isUnder_19 : decode cX9_isUnder 19 = .ok (.iload_n 1, 1) := by decide +kernel
theorem dX9_isUnder_20 : decode cX9_isUnder 20 = .ok (.iconst 2, 1) := by decide +kernel
theorem dX9_isUnder_21 : decode cX9_isUnder 21 = .ok (.if_icmp .ne 12, 3) := by decide +kernel
theorem dX9_isUnder_24 : decode cX9_isUnder 24 = .ok (.iload_n 0, 1) := by decide +kernel
theorem dX9_isUnder_25 : decode cX9_isUnder 25 = .ok (.iconst 4, 1) := by decide +kernel
theorem dX9_isUnder_26 : decode cX9_isUnder 26 = .ok (.if_icmp .ne 7, 3) := by decide +kernel
theorem dX9_isUnder_29 : decode cX9_isUnder 29 = .ok (.iconst 1, 1) := by decide +kernel
theorem dX9_isUnder_30 : decode cX9_isUnder 30 = .ok (.goto 4, 3) := by decide +kernel
theorem dX9_isUnder_33 : decode cX9_isUnder 33 = .ok (.iconst 0, 1) := by decide +kernel
theorem dX9_isUnder_34 : decode cX9_isUnder 34 = .ok (.ireturn, 1) := by decide +kernel
set_option maxRecDepth 20000 in
theorem ggX9_rack_X9_in : GoodIn wsX9_rack wsX9_in := goodIn_r _ [10] (by decide +kernel) (by decide +kernel)
set_option maxRecDepth 20000 in
theorem gX9_rack_X9_in : GoodIn wsX9_rack (va_wsS RX9 96 yX9_in wsX9_in) := goodIn_app (goodIn_of _ (by decide +kernel)) ggX9_rack_X9_in
theorem dX9_rack_0 : decode cX9_rack 0 = .ok (.iload_n 1, 1) := by decide +kernel
theorem dX9_rack_1 : decode cX9_rack 1 = .ok (.i2l, 1) := by decide +kernel
theorem dX9_rack_2 : decode cX9_rack 2 = .ok (.lconst 0, 1) := by decide +kernel
theorem dX9_rack_3 : decode cX9_rack 3 = .ok (.ldc2_w 302, 3) := by decide +kernel
theorem dX9_rack_6 : decode cX9_rack 6 = .ok (.invokestatic 96, 3) := by decide +kernel
theorem dX9_rack_9 : decode cX9_rack 9 = .ok (.ifCond .eq 27, 3) := by decide +kernel
theorem dX9_rack_12 : decode cX9_rack 12 = .ok (.iload_n 2, 1) := by decide +kernel
theorem dX9_rack_13 : decode cX9_rack 13 = .ok (.i2l, 1) := by decide +kernel
theorem dX9_rack_14 : decode cX9_rack 14 = .ok (.ldc2_w 84, 3) := by decide +kernel
theorem dX9_rack_17 : decode cX9_rack 17 = .ok (.ldc2_w 120, 3) := by decide +kernel
theorem dX9_rack_20 : decode cX9_rack 20 = .ok (.invokestatic 96, 3) := by decide +kernel
theorem dX9_rack_23 : decode cX9_rack 23 = .ok (.ifCond .eq 13, 3) := by decide +kernel
theorem dX9_rack_26 : decode cX9_rack 26 = .ok (.iload_n 2, 1) := by decide +kernel
theorem dX9_rack_27 : decode cX9_rack 27 = .ok (.ifCond .lt 12, 3) := by decide +kernel
theorem dX9_rack_30 : decode cX9_rack 30 = .ok (.iload_n 3, 1) := by decide +kernel
theorem dX9_rack_31 : decode cX9_rack 31 = .ok (.bipush 20, 2) := by decide +kernel
theorem dX9_rack_33 : decode cX9_rack 33 = .ok (.if_icmp .le 6, 3) := by decide +kernel
theorem dX9_rack_36 : decode cX9_rack 36 = .ok (.bipush (-2), 2) := by decide +kernel
theorem dX9_rack_38 : decode cX9_rack 38 = .ok (.ireturn, 1) := by decide +kernel
theorem dX9_rack_39 : decode cX9_rack 39 = .ok (.iload_n 2, 1) := by decide +kernel
theorem dX9_rack_40 : decode cX9_rack 40 = .ok (.ifCond .lt 10, 3) := by decide +kernel
theorem dX9_rack_43 : decode cX9_rack 43 = .ok (.iload_n 3, 1) := by decide +kernel
theorem dX9_rack_44 : decode cX9_rack 44 = .ok (.ifCond .ge 6, 3) := by decide +kernel
theorem dX9_rack_47 : decode cX9_rack 47 = .ok (.bipush (-14), 2) := by decide +kernel
theorem dX9_rack_49 : decode cX9_rack 49 = .ok (.ireturn, 1) := by decide +kernel
theorem dX9_rack_50 : decode cX9_rack 50 = .ok (.aload_n 0, 1) := by decide +kernel
theorem dX9_rack_51 : decode cX9_rack 51 = .ok (.getfield 56, 3) := by decide +kernel
theorem dX9_rack_54 : decode cX9_rack 54 = .ok (.iload_n 1, 1) := by decide +kernel
theorem dX9_rack_55 : decode cX9_rack 55 = .ok (.iload_n 2, 1) := by decide +kernel
theorem dX9_rack_56 : decode cX9_rack 56 = .ok (.iastore, 1) := by decide +kernel
theorem dX9_rack_57 : decode cX9_rack 57 = .ok (.aload_n 0, 1) := by decide +kernel
theorem dX9_rack_58 : decode cX9_rack 58 = .ok (.getfield 59, 3) := by decide +kernel
theorem dX9_rack_61 : decode cX9_rack 61 = .ok (.iload_n 1, 1) := by decide +kernel
theorem dX9_rack_62 : decode cX9_rack 62 = .ok (.iload_n 2, 1) := by decide +kernel
theorem dX9_rack_63 : decode cX9_rack 63 = .ok (.ifCond .ge 7, 3) := by decide +kernel
theorem dX9_rack_66 : decode cX9_rack 66 = .ok (.iconst 0, 1) := by decide +kernel
theorem dX9_rack_67 : decode cX9_rack 67 = .ok (.goto 4, 3) := by decide +kernel
theorem dX9_rack_70 : decode cX9_rack 70 = .ok (.iload_n 3, 1) := by decide +kernel
theorem dX9_rack_71 : decode cX9_rack 71 = .ok (.iastore, 1) := by decide +kernel
theorem dX9_rack_72 : decode cX9_rack 72 = .ok (.iconst 0, 1) := by decide +kernel
theorem dX9_rack_73 : decode cX9_rack 73 = .ok (.istore 4, 2) := by decide +kernel
theorem dX9_rack_75 : decode cX9_rack 75 = .ok (.iload 4, 2) := by decide +kernel
theorem dX9_rack_77 : decode cX9_rack 77 = .ok (.bipush 20, 2) := by decide +kernel
theorem dX9_rack_79 : decode cX9_rack 79 = .ok (.if_icmp .ge 22, 3) := by decide +kernel
theorem dX9_rack_82 : decode cX9_rack 82 = .ok (.aload_n 0, 1) := by decide +kernel
theorem dX9_rack_83 : decode cX9_rack 83 = .ok (.getfield 62, 3) := by decide +kernel
theorem dX9_rack_86 : decode cX9_rack 86 = .ok (.bipush 20, 2) := by decide +kernel
theorem dX9_rack_88 : decode cX9_rack 88 = .ok (.iload_n 1, 1) := by decide +kernel
theorem dX9_rack_89 : decode cX9_rack 89 = .ok (.imul, 1) := by decide +kernel
theorem dX9_rack_90 : decode cX9_rack 90 = .ok (.iload 4, 2) := by decide +kernel
theorem dX9_rack_92 : decode cX9_rack 92 = .ok (.iadd, 1) := by decide +kernel
theorem dX9_rack_93 : decode cX9_rack 93 = .ok (.iconst (-1), 1) := by decide +kernel
theorem dX9_rack_94 : decode cX9_rack 94 = .ok (.iastore, 1) := by decide +kernel
theorem dX9_rack_95 : decode cX9_rack 95 = .ok (.iinc 4 1, 3) := by decide +kernel
theorem dX9_rack_98 : decode cX9_rack 98 = .ok (.goto (-23), 3) := by decide +kernel
theorem dX9_rack_101 : decode cX9_rack 101 = .ok (.iconst 1, 1) := by decide +kernel
theorem dX9_rack_102 : decode cX9_rack 102 = .ok (.ireturn, 1) := by decide +kernel
set_option maxRecDepth 20000 in
theorem ggX9_lay_X9_in : GoodIn wsX9_lay wsX9_in := goodIn_r _ [10] (by decide +kernel) (by decide +kernel)
set_option maxRecDepth 20000 in
theorem gX9_lay_X9_in : GoodIn wsX9_lay (va_wsS RX9 96 yX9_in wsX9_in) := goodIn_app (goodIn_of _ (by decide +kernel)) ggX9_lay_X9_in
set_option maxRecDepth 20000 in
theorem ggX9_lay_X9_isLine : GoodIn wsX9_lay wsX9_isLine := goodIn_r _ [14, 15, 7, 8, 9, 10, 19, 20, 21, 22, 23, 24, 25, 26, 27, 28, 29, 30, 31, 32, 33, 34, 35, 36, 37, 38, 39, 40, 41, 42, 43, 44, 45, 46, 47, 48, 49, 50, 51, 52, 53, 54, 55] (by decide +kernel) (by decide +kernel)
set_option maxRecDepth 20000 in
theorem gX9_lay_X9_isLine : GoodIn wsX9_lay (wsV RX9 131 RX9 yX9_isLine wsX9_isLine) := goodIn_app (goodIn_of _ (by decide +kernel)) ggX9_lay_X9_isLine
set_option maxRecDepth 20000 in
theorem ggX9_lay_X9_isUnder : GoodIn wsX9_lay wsX9_isUnder := goodIn_r _ [18] (by decide +kernel) (by decide +kernel)
set_option maxRecDepth 20000 in
theorem gX9_lay_X9_isUnder : GoodIn wsX9_lay (va_wsS RX9 304 yX9_isUnder wsX9_isUnder) := goodIn_app (goodIn_of _ (by decide +kernel)) ggX9_lay_X9_isUnder
theorem dX9_lay_0 : decode cX9_lay 0 = .ok (.iload_n 1, 1) := by decide +kernel
theorem dX9_lay_1 : decode cX9_lay 1 = .ok (.i2l, 1) := by decide +kernel
theorem dX9_lay_2 : decode cX9_lay 2 = .ok (.lconst 0, 1) := by decide +kernel
theorem dX9_lay_3 : decode cX9_lay 3 = .ok (.ldc2_w 302, 3) := by decide +kernel
theorem dX9_lay_6 : decode cX9_lay 6 = .ok (.invokestatic 96, 3) := by decide +kernel
theorem dX9_lay_9 : decode cX9_lay 9 = .ok (.ifCond .eq 11, 3) := by decide +kernel
theorem dX9_lay_12 : decode cX9_lay 12 = .ok (.aload_n 0, 1) := by decide +kernel
theorem dX9_lay_13 : decode cX9_lay 13 = .ok (.iload_n 3, 1) := by decide +kernel
theorem dX9_lay_14 : decode cX9_lay 14 = .ok (.invokevirtual 131, 3) := by decide +kernel
theorem dX9_lay_17 : decode cX9_lay 17 = .ok (.ifCond .ne 6, 3) := by decide +kernel
theorem dX9_lay_20 : decode cX9_lay 20 = .ok (.bipush (-2), 2) := by decide +kernel
theorem dX9_lay_22 : decode cX9_lay 22 = .ok (.ireturn, 1) := by decide +kernel
theorem dX9_lay_23 : decode cX9_lay 23 = .ok (.aload_n 0, 1) := by decide +kernel
theorem dX9_lay_24 : decode cX9_lay 24 = .ok (.getfield 56, 3) := by decide +kernel
theorem dX9_lay_27 : decode cX9_lay 27 = .ok (.iload_n 1, 1) := by decide +kernel
theorem dX9_lay_28 : decode cX9_lay 28 = .ok (.iaload, 1) := by decide +kernel
theorem dX9_lay_29 : decode cX9_lay 29 = .ok (.ifCond .ge 6, 3) := by decide +kernel
theorem dX9_lay_32 : decode cX9_lay 32 = .ok (.bipush (-11), 2) := by decide +kernel
theorem dX9_lay_34 : decode cX9_lay 34 = .ok (.ireturn, 1) := by decide +kernel
theorem dX9_lay_35 : decode cX9_lay 35 = .ok (.iload_n 2, 1) := by decide +kernel
theorem dX9_lay_36 : decode cX9_lay 36 = .ok (.i2l, 1) := by decide +kernel
theorem dX9_lay_37 : decode cX9_lay 37 = .ok (.lconst 0, 1) := by decide +kernel
theorem dX9_lay_38 : decode cX9_lay 38 = .ok (.aload_n 0, 1) := by decide +kernel
theorem dX9_lay_39 : decode cX9_lay 39 = .ok (.getfield 59, 3) := by decide +kernel
theorem dX9_lay_42 : decode cX9_lay 42 = .ok (.iload_n 1, 1) := by decide +kernel
theorem dX9_lay_43 : decode cX9_lay 43 = .ok (.iaload, 1) := by decide +kernel
theorem dX9_lay_44 : decode cX9_lay 44 = .ok (.iconst 1, 1) := by decide +kernel
theorem dX9_lay_45 : decode cX9_lay 45 = .ok (.isub, 1) := by decide +kernel
theorem dX9_lay_46 : decode cX9_lay 46 = .ok (.i2l, 1) := by decide +kernel
theorem dX9_lay_47 : decode cX9_lay 47 = .ok (.invokestatic 96, 3) := by decide +kernel
theorem dX9_lay_50 : decode cX9_lay 50 = .ok (.ifCond .ne 6, 3) := by decide +kernel
theorem dX9_lay_53 : decode cX9_lay 53 = .ok (.bipush (-12), 2) := by decide +kernel
theorem dX9_lay_55 : decode cX9_lay 55 = .ok (.ireturn, 1) := by decide +kernel
theorem dX9_lay_56 : decode cX9_lay 56 = .ok (.aload_n 0, 1) := by decide +kernel
theorem dX9_lay_57 : decode cX9_lay 57 = .ok (.getfield 9, 3) := by decide +kernel
theorem dX9_lay_60 : decode cX9_lay 60 = .ok (.iload_n 3, 1) := by decide +kernel
theorem dX9_lay_61 : decode cX9_lay 61 = .ok (.iaload, 1) := by decide +kernel
theorem dX9_lay_62 : decode cX9_lay 62 = .ok (.aload_n 0, 1) := by decide +kernel
theorem dX9_lay_63 : decode cX9_lay 63 = .ok (.getfield 56, 3) := by decide +kernel
theorem dX9_lay_66 : decode cX9_lay 66 = .ok (.iload_n 1, 1) := by decide +kernel
theorem dX9_lay_67 : decode cX9_lay 67 = .ok (.iaload, 1) := by decide +kernel
theorem dX9_lay_68 : decode cX9_lay 68 = .ok (.invokestatic 304, 3) := by decide +kernel
theorem dX9_lay_71 : decode cX9_lay 71 = .ok (.ifCond .ne 6, 3) := by decide +kernel
theorem dX9_lay_74 : decode cX9_lay 74 = .ok (.bipush (-13), 2) := by decide +kernel
theorem dX9_lay_76 : decode cX9_lay 76 = .ok (.ireturn, 1) := by decide +kernel
theorem dX9_lay_77 : decode cX9_lay 77 = .ok (.aload_n 0, 1) := by decide +kernel
theorem dX9_lay_78 : decode cX9_lay 78 = .ok (.getfield 62, 3) := by decide +kernel
theorem dX9_lay_81 : decode cX9_lay 81 = .ok (.bipush 20, 2) := by decide +kernel
theorem dX9_lay_83 : decode cX9_lay 83 = .ok (.iload_n 1, 1) := by decide +kernel
theorem dX9_lay_84 : decode cX9_lay 84 = .ok (.imul, 1) := by decide +kernel
theorem dX9_lay_85 : decode cX9_lay 85 = .ok (.iload_n 2, 1) := by decide +kernel
theorem dX9_lay_86 : decode cX9_lay 86 = .ok (.iadd, 1) := by decide +kernel
theorem dX9_lay_87 : decode cX9_lay 87 = .ok (.bipush 10, 2) := by decide +kernel
theorem dX9_lay_89 : decode cX9_lay 89 = .ok (.aload_n 0, 1) := by decide +kernel
theorem dX9_lay_90 : decode cX9_lay 90 = .ok (.getfield 13, 3) := by decide +kernel
theorem dX9_lay_93 : decode cX9_lay 93 = .ok (.iload_n 3, 1) := by decide +kernel
theorem dX9_lay_94 : decode cX9_lay 94 = .ok (.iaload, 1) := by decide +kernel
theorem dX9_lay_95 : decode cX9_lay 95 = .ok (.imul, 1) := by decide +kernel
theorem dX9_lay_96 : decode cX9_lay 96 = .ok (.aload_n 0, 1) := by decide +kernel
theorem dX9_lay_97 : decode cX9_lay 97 = .ok (.getfield 9, 3) := by decide +kernel
theorem dX9_lay_100 : decode cX9_lay 100 = .ok (.iload_n 3, 1) := by decide +kernel
theorem dX9_lay_101 : decode cX9_lay 101 = .ok (.iaload, 1) := by decide +kernel
theorem dX9_lay_102 : decode cX9_lay 102 = .ok (.iadd, 1) := by decide +kernel
theorem dX9_lay_103 : decode cX9_lay 103 = .ok (.iastore, 1) := by decide +kernel
theorem dX9_lay_104 : decode cX9_lay 104 = .ok (.aload_n 0, 1) := by decide +kernel
theorem dX9_lay_105 : decode cX9_lay 105 = .ok (.getfield 9, 3) := by decide +kernel
theorem dX9_lay_108 : decode cX9_lay 108 = .ok (.iload_n 3, 1) := by decide +kernel
theorem dX9_lay_109 : decode cX9_lay 109 = .ok (.iaload, 1) := by decide +kernel
theorem dX9_lay_110 : decode cX9_lay 110 = .ok (.ireturn, 1) := by decide +kernel
set_option maxRecDepth 20000 in
theorem ggX9_of_X9_in : GoodIn wsX9_of wsX9_in := goodIn_r _ [8] (by decide +kernel) (by decide +kernel)
set_option maxRecDepth 20000 in
theorem gX9_of_X9_in : GoodIn wsX9_of (va_wsS RX9 96 yX9_in wsX9_in) := goodIn_app (goodIn_of _ (by decide +kernel)) ggX9_of_X9_in
set_option maxRecDepth 20000 in
theorem ggX9_of_X9_weighs : GoodIn wsX9_of wsX9_weighs := goodIn_r _ [12, 13, 14, 15, 16, 17, 18, 19, 20, 21, 22, 23, 24, 25, 26, 27, 28, 29, 30, 31, 32, 33, 34, 35, 36, 37, 38, 39, 40, 41, 42, 43, 44, 45, 46, 47, 48, 49, 50] (by decide +kernel) (by decide +kernel)
set_option maxRecDepth 20000 in
theorem gX9_of_X9_weighs : GoodIn wsX9_of (wsV RX9 114 RX9 yX9_weighs wsX9_weighs) := goodIn_app (goodIn_of _ (by decide +kernel)) ggX9_of_X9_weighs
theorem dX9_of_0 : decode cX9_of 0 = .ok (.iload_n 1, 1) := by decide +kernel
theorem dX9_of_1 : decode cX9_of 1 = .ok (.i2l, 1) := by decide +kernel
theorem dX9_of_2 : decode cX9_of 2 = .ok (.lconst 0, 1) := by decide +kernel
theorem dX9_of_3 : decode cX9_of 3 = .ok (.ldc2_w 302, 3) := by decide +kernel
theorem dX9_of_6 : decode cX9_of 6 = .ok (.invokestatic 96, 3) := by decide +kernel
theorem dX9_of_9 : decode cX9_of 9 = .ok (.ifCond .ne 6, 3) := by decide +kernel
theorem dX9_of_12 : decode cX9_of 12 = .ok (.bipush (-2), 2) := by decide +kernel
theorem dX9_of_14 : decode cX9_of 14 = .ok (.ireturn, 1) := by decide +kernel
theorem dX9_of_15 : decode cX9_of 15 = .ok (.aload_n 0, 1) := by decide +kernel
theorem dX9_of_16 : decode cX9_of 16 = .ok (.getfield 56, 3) := by decide +kernel
theorem dX9_of_19 : decode cX9_of 19 = .ok (.iload_n 1, 1) := by decide +kernel
theorem dX9_of_20 : decode cX9_of 20 = .ok (.iaload, 1) := by decide +kernel
theorem dX9_of_21 : decode cX9_of 21 = .ok (.ifCond .ge 6, 3) := by decide +kernel
theorem dX9_of_24 : decode cX9_of 24 = .ok (.bipush (-11), 2) := by decide +kernel
theorem dX9_of_26 : decode cX9_of 26 = .ok (.ireturn, 1) := by decide +kernel
theorem dX9_of_27 : decode cX9_of 27 = .ok (.iload_n 2, 1) := by decide +kernel
theorem dX9_of_28 : decode cX9_of 28 = .ok (.i2l, 1) := by decide +kernel
theorem dX9_of_29 : decode cX9_of 29 = .ok (.lconst 0, 1) := by decide +kernel
theorem dX9_of_30 : decode cX9_of 30 = .ok (.aload_n 0, 1) := by decide +kernel
theorem dX9_of_31 : decode cX9_of 31 = .ok (.getfield 59, 3) := by decide +kernel
theorem dX9_of_34 : decode cX9_of 34 = .ok (.iload_n 1, 1) := by decide +kernel
theorem dX9_of_35 : decode cX9_of 35 = .ok (.iaload, 1) := by decide +kernel
theorem dX9_of_36 : decode cX9_of 36 = .ok (.iconst 1, 1) := by decide +kernel
theorem dX9_of_37 : decode cX9_of 37 = .ok (.isub, 1) := by decide +kernel
theorem dX9_of_38 : decode cX9_of 38 = .ok (.i2l, 1) := by decide +kernel
theorem dX9_of_39 : decode cX9_of 39 = .ok (.invokestatic 96, 3) := by decide +kernel
theorem dX9_of_42 : decode cX9_of 42 = .ok (.ifCond .ne 6, 3) := by decide +kernel
theorem dX9_of_45 : decode cX9_of 45 = .ok (.bipush (-12), 2) := by decide +kernel
theorem dX9_of_47 : decode cX9_of 47 = .ok (.ireturn, 1) := by decide +kernel
theorem dX9_of_48 : decode cX9_of 48 = .ok (.aload_n 0, 1) := by decide +kernel
theorem dX9_of_49 : decode cX9_of 49 = .ok (.getfield 62, 3) := by decide +kernel
theorem dX9_of_52 : decode cX9_of 52 = .ok (.bipush 20, 2) := by decide +kernel
theorem dX9_of_54 : decode cX9_of 54 = .ok (.iload_n 1, 1) := by decide +kernel
theorem dX9_of_55 : decode cX9_of 55 = .ok (.imul, 1) := by decide +kernel
theorem dX9_of_56 : decode cX9_of 56 = .ok (.iload_n 2, 1) := by decide +kernel
theorem dX9_of_57 : decode cX9_of 57 = .ok (.iadd, 1) := by decide +kernel
theorem dX9_of_58 : decode cX9_of 58 = .ok (.iaload, 1) := by decide +kernel
theorem dX9_of_59 : decode cX9_of 59 = .ok (.istore_n 3, 1) := by decide +kernel
theorem dX9_of_60 : decode cX9_of 60 = .ok (.iload_n 3, 1) := by decide +kernel
theorem dX9_of_61 : decode cX9_of 61 = .ok (.ifCond .ge 8, 3) := by decide +kernel
theorem dX9_of_64 : decode cX9_of 64 = .ok (.bipush (-3), 2) := by decide +kernel
theorem dX9_of_66 : decode cX9_of 66 = .ok (.goto 15, 3) := by decide +kernel
theorem dX9_of_69 : decode cX9_of 69 = .ok (.aload_n 0, 1) := by decide +kernel
theorem dX9_of_70 : decode cX9_of 70 = .ok (.iload_n 3, 1) := by decide +kernel
theorem dX9_of_71 : decode cX9_of 71 = .ok (.bipush 10, 2) := by decide +kernel
theorem dX9_of_73 : decode cX9_of 73 = .ok (.irem, 1) := by decide +kernel
theorem dX9_of_74 : decode cX9_of 74 = .ok (.iload_n 3, 1) := by decide +kernel
theorem dX9_of_75 : decode cX9_of 75 = .ok (.bipush 10, 2) := by decide +kernel
theorem dX9_of_77 : decode cX9_of 77 = .ok (.idiv, 1) := by decide +kernel
theorem dX9_of_78 : decode cX9_of 78 = .ok (.invokevirtual 114, 3) := by decide +kernel
theorem dX9_of_81 : decode cX9_of 81 = .ok (.ireturn, 1) := by decide +kernel
set_option maxRecDepth 20000 in
theorem ggX9_isSheet_X9_in : GoodIn wsX9_isSheet wsX9_in := goodIn_r _ [5] (by decide +kernel) (by decide +kernel)
set_option maxRecDepth 20000 in
theorem gX9_isSheet_X9_in : GoodIn wsX9_isSheet (va_wsS RX9 96 yX9_in wsX9_in) := goodIn_app (goodIn_of _ (by decide +kernel)) ggX9_isSheet_X9_in
theorem dX9_isSheet_0 : decode cX9_isSheet 0 = .ok (.iload_n 0, 1) := by decide +kernel
theorem dX9_isSheet_1 : decode cX9_isSheet 1 = .ok (.i2l, 1) := by decide +kernel
theorem dX9_isSheet_2 : decode cX9_isSheet 2 = .ok (.lconst 0, 1) := by decide +kernel
theorem dX9_isSheet_3 : decode cX9_isSheet 3 = .ok (.ldc2_w 307, 3) := by decide +kernel
theorem dX9_isSheet_6 : decode cX9_isSheet 6 = .ok (.invokestatic 96, 3) := by decide +kernel
theorem dX9_isSheet_9 : decode cX9_isSheet 9 = .ok (.ireturn, 1) := by decide +kernel
theorem dX9_isInt_0 : decode cX9_isInt 0 = .ok (.lload_n 0, 1) := by decide +kernel
theorem dX9_isInt_1 : decode cX9_isInt 1 = .ok (.lload_n 0, 1) := by decide +kernel
theorem dX9_isInt_2 : decode cX9_isInt 2 = .ok (.l2i, 1) := by decide +kernel
theorem dX9_isInt_3 : decode cX9_isInt 3 = .ok (.i2l, 1) := by decide +kernel
theorem dX9_isInt_4 : decode cX9_isInt 4 = .ok (.lcmp, 1) := by decide +kernel
theorem dX9_isInt_5 : decode cX9_isInt 5 = .ok (.ifCond .ne 7, 3) := by decide +kernel
theorem dX9_isInt_8 : decode cX9_isInt 8 = .ok (.iconst 1, 1) := by decide +kernel
theorem dX9_isInt_9 : decode cX9_isInt 9 = .ok (.goto 4, 3) := by decide +kernel
theorem dX9_isInt_12 : decode cX9_isInt 12 = .ok (.iconst 0, 1) := by decide +kernel
theorem dX9_isInt_13 : decode cX9_isInt 13 = .ok (.ireturn, 1) := by decide +kernel
set_option maxRecDepth 20000 in
theorem ggX9_sheet_X9_isSheet : GoodIn wsX9_sheet wsX9_isSheet := goodIn_r _ [8, 2, 9, 10, 7, 11] (by decide +kernel) (by decide +kernel)
set_option maxRecDepth 20000 in
theorem gX9_sheet_X9_isSheet : GoodIn wsX9_sheet (va_wsS RX9 309 yX9_isSheet wsX9_isSheet) := goodIn_app (goodIn_of _ (by decide +kernel)) ggX9_sheet_X9_isSheet
set_option maxRecDepth 20000 in
theorem ggX9_sheet_X9_in : GoodIn wsX9_sheet wsX9_in := goodIn_r _ [11] (by decide +kernel) (by decide +kernel)
set_option maxRecDepth 20000 in
theorem gX9_sheet_X9_in : GoodIn wsX9_sheet (va_wsS RX9 96 yX9_in wsX9_in) := goodIn_app (goodIn_of _ (by decide +kernel)) ggX9_sheet_X9_in
set_option maxRecDepth 20000 in
theorem ggX9_sheet_X9_puts : GoodIn wsX9_sheet wsX9_puts := goodIn_r _ [15, 16, 17, 18, 19, 20, 21, 22, 23, 24, 25, 26, 27, 28, 29, 30, 31, 32, 33, 34, 35, 36, 37, 38, 39, 40, 41, 42, 43, 44, 45, 46, 47, 48, 49, 50, 51, 52, 53, 54, 55] (by decide +kernel) (by decide +kernel)
set_option maxRecDepth 20000 in
theorem gX9_sheet_X9_puts : GoodIn wsX9_sheet (wsV RX9 312 RX9 yX9_puts wsX9_puts) := goodIn_app (goodIn_of _ (by decide +kernel)) ggX9_sheet_X9_puts
theorem dX9_sheet_0 : decode cX9_sheet 0 = .ok (.iload_n 1, 1) := by decide +kernel
theorem dX9_sheet_1 : decode cX9_sheet 1 = .ok (.invokestatic 309, 3) := by decide +kernel
theorem dX9_sheet_4 : decode cX9_sheet 4 = .ok (.ifCond .eq 27, 3) := by decide +kernel
theorem dX9_sheet_7 : decode cX9_sheet 7 = .ok (.iload_n 2, 1) := by decide +kernel
theorem dX9_sheet_8 : decode cX9_sheet 8 = .ok (.i2l, 1) := by decide +kernel
theorem dX9_sheet_9 : decode cX9_sheet 9 = .ok (.ldc2_w 84, 3) := by decide +kernel
theorem dX9_sheet_12 : decode cX9_sheet 12 = .ok (.ldc2_w 307, 3) := by decide +kernel
theorem dX9_sheet_15 : decode cX9_sheet 15 = .ok (.invokestatic 96, 3) := by decide +kernel
theorem dX9_sheet_18 : decode cX9_sheet 18 = .ok (.ifCond .eq 13, 3) := by decide +kernel
theorem dX9_sheet_21 : decode cX9_sheet 21 = .ok (.iload_n 2, 1) := by decide +kernel
theorem dX9_sheet_22 : decode cX9_sheet 22 = .ok (.ifCond .lt 12, 3) := by decide +kernel
theorem dX9_sheet_25 : decode cX9_sheet 25 = .ok (.iload_n 3, 1) := by decide +kernel
theorem dX9_sheet_26 : decode cX9_sheet 26 = .ok (.bipush 60, 2) := by decide +kernel
theorem dX9_sheet_28 : decode cX9_sheet 28 = .ok (.if_icmp .le 6, 3) := by decide +kernel
theorem dX9_sheet_31 : decode cX9_sheet 31 = .ok (.bipush (-2), 2) := by decide +kernel
theorem dX9_sheet_33 : decode cX9_sheet 33 = .ok (.ireturn, 1) := by decide +kernel
theorem dX9_sheet_34 : decode cX9_sheet 34 = .ok (.iload_n 2, 1) := by decide +kernel
theorem dX9_sheet_35 : decode cX9_sheet 35 = .ok (.ifCond .lt 10, 3) := by decide +kernel
theorem dX9_sheet_38 : decode cX9_sheet 38 = .ok (.iload_n 3, 1) := by decide +kernel
theorem dX9_sheet_39 : decode cX9_sheet 39 = .ok (.ifCond .ge 6, 3) := by decide +kernel
theorem dX9_sheet_42 : decode cX9_sheet 42 = .ok (.bipush (-14), 2) := by decide +kernel
theorem dX9_sheet_44 : decode cX9_sheet 44 = .ok (.ireturn, 1) := by decide +kernel
theorem dX9_sheet_45 : decode cX9_sheet 45 = .ok (.aload_n 0, 1) := by decide +kernel
theorem dX9_sheet_46 : decode cX9_sheet 46 = .ok (.getfield 65, 3) := by decide +kernel
theorem dX9_sheet_49 : decode cX9_sheet 49 = .ok (.iload_n 1, 1) := by decide +kernel
theorem dX9_sheet_50 : decode cX9_sheet 50 = .ok (.iload_n 2, 1) := by decide +kernel
theorem dX9_sheet_51 : decode cX9_sheet 51 = .ok (.iastore, 1) := by decide +kernel
theorem dX9_sheet_52 : decode cX9_sheet 52 = .ok (.aload_n 0, 1) := by decide +kernel
theorem dX9_sheet_53 : decode cX9_sheet 53 = .ok (.getfield 68, 3) := by decide +kernel
theorem dX9_sheet_56 : decode cX9_sheet 56 = .ok (.iload_n 1, 1) := by decide +kernel
theorem dX9_sheet_57 : decode cX9_sheet 57 = .ok (.iload_n 2, 1) := by decide +kernel
theorem dX9_sheet_58 : decode cX9_sheet 58 = .ok (.ifCond .ge 7, 3) := by decide +kernel
theorem dX9_sheet_61 : decode cX9_sheet 61 = .ok (.iconst 0, 1) := by decide +kernel
theorem dX9_sheet_62 : decode cX9_sheet 62 = .ok (.goto 4, 3) := by decide +kernel
theorem dX9_sheet_65 : decode cX9_sheet 65 = .ok (.iload_n 3, 1) := by decide +kernel
theorem dX9_sheet_66 : decode cX9_sheet 66 = .ok (.iastore, 1) := by decide +kernel
theorem dX9_sheet_67 : decode cX9_sheet 67 = .ok (.iconst 0, 1) := by decide +kernel
theorem dX9_sheet_68 : decode cX9_sheet 68 = .ok (.istore 4, 2) := by decide +kernel
theorem dX9_sheet_70 : decode cX9_sheet 70 = .ok (.iload 4, 2) := by decide +kernel
theorem dX9_sheet_72 : decode cX9_sheet 72 = .ok (.bipush 60, 2) := by decide +kernel
theorem dX9_sheet_74 : decode cX9_sheet 74 = .ok (.if_icmp .ge 17, 3) := by decide +kernel
theorem dX9_sheet_77 : decode cX9_sheet 77 = .ok (.aload_n 0, 1) := by decide +kernel
theorem dX9_sheet_78 : decode cX9_sheet 78 = .ok (.iload_n 1, 1) := by decide +kernel
theorem dX9_sheet_79 : decode cX9_sheet 79 = .ok (.iload 4, 2) := by decide +kernel
theorem dX9_sheet_81 : decode cX9_sheet 81 = .ok (.lconst 0, 1) := by decide +kernel
theorem dX9_sheet_82 : decode cX9_sheet 82 = .ok (.invokevirtual 312, 3) := by decide +kernel
theorem dX9_sheet_85 : decode cX9_sheet 85 = .ok (.iinc 4 1, 3) := by decide +kernel
theorem dX9_sheet_88 : decode cX9_sheet 88 = .ok (.goto (-18), 3) := by decide +kernel
theorem dX9_sheet_91 : decode cX9_sheet 91 = .ok (.iconst 1, 1) := by decide +kernel
theorem dX9_sheet_92 : decode cX9_sheet 92 = .ok (.ireturn, 1) := by decide +kernel
theorem dX9_puts_0 : decode cX9_puts 0 = .ok (.aload_n 0, 1) := by decide +kernel
theorem dX9_puts_1 : decode cX9_puts 1 = .ok (.getfield 71, 3) := by decide +kernel
theorem dX9_puts_4 : decode cX9_puts 4 = .ok (.bipush 60, 2) := by decide +kernel
theorem dX9_puts_6 : decode cX9_puts 6 = .ok (.iload_n 1, 1) := by decide +kernel
theorem dX9_puts_7 : decode cX9_puts 7 = .ok (.imul, 1) := by decide +kernel
theorem dX9_puts_8 : decode cX9_puts 8 = .ok (.iload_n 2, 1) := by decide +kernel
theorem dX9_puts_9 : decode cX9_puts 9 = .ok (.iadd, 1) := by decide +kernel
theorem dX9_puts_10 : decode cX9_puts 10 = .ok (.lload_n 3, 1) := by decide +kernel
theorem dX9_puts_11 : decode cX9_puts 11 = .ok (.lastore, 1) := by decide +kernel
theorem dX9_puts_12 : decode cX9_puts 12 = .ok (.aload_n 0, 1) := by decide +kernel
theorem dX9_puts_13 : decode cX9_puts 13 = .ok (.getfield 74, 3) := by decide +kernel
theorem dX9_puts_16 : decode cX9_puts 16 = .ok (.bipush 60, 2) := by decide +kernel
theorem dX9_puts_18 : decode cX9_puts 18 = .ok (.iload_n 1, 1) := by decide +kernel
theorem dX9_puts_19 : decode cX9_puts 19 = .ok (.imul, 1) := by decide +kernel
theorem dX9_puts_20 : decode cX9_puts 20 = .ok (.iload_n 2, 1) := by decide +kernel
theorem dX9_puts_21 : decode cX9_puts 21 = .ok (.iadd, 1) := by decide +kernel
theorem dX9_puts_22 : decode cX9_puts 22 = .ok (.lload_n 3, 1) := by decide +kernel
theorem dX9_puts_23 : decode cX9_puts 23 = .ok (.l2f, 1) := by decide +kernel
theorem dX9_puts_24 : decode cX9_puts 24 = .ok (.fastore, 1) := by decide +kernel
theorem dX9_puts_25 : decode cX9_puts 25 = .ok (.aload_n 0, 1) := by decide +kernel
theorem dX9_puts_26 : decode cX9_puts 26 = .ok (.getfield 78, 3) := by decide +kernel
theorem dX9_puts_29 : decode cX9_puts 29 = .ok (.bipush 60, 2) := by decide +kernel
theorem dX9_puts_31 : decode cX9_puts 31 = .ok (.iload_n 1, 1) := by decide +kernel
theorem dX9_puts_32 : decode cX9_puts 32 = .ok (.imul, 1) := by decide +kernel
theorem dX9_puts_33 : decode cX9_puts 33 = .ok (.iload_n 2, 1) := by decide +kernel
theorem dX9_puts_34 : decode cX9_puts 34 = .ok (.iadd, 1) := by decide +kernel
theorem dX9_puts_35 : decode cX9_puts 35 = .ok (.lload_n 3, 1) := by decide +kernel
theorem dX9_puts_36 : decode cX9_puts 36 = .ok (.l2d, 1) := by decide +kernel
theorem dX9_puts_37 : decode cX9_puts 37 = .ok (.dastore, 1) := by decide +kernel
theorem dX9_puts_38 : decode cX9_puts 38 = .ok (.return_, 1) := by decide +kernel
set_option maxRecDepth 20000 in
theorem ggX9_wrong_X9_isSheet : GoodIn wsX9_wrong wsX9_isSheet := goodIn_r _ [6, 7, 8, 9, 5, 10] (by decide +kernel) (by decide +kernel)
set_option maxRecDepth 20000 in
theorem gX9_wrong_X9_isSheet : GoodIn wsX9_wrong (va_wsS RX9 309 yX9_isSheet wsX9_isSheet) := goodIn_app (goodIn_of _ (by decide +kernel)) ggX9_wrong_X9_isSheet
set_option maxRecDepth 20000 in
theorem ggX9_wrong_X9_in : GoodIn wsX9_wrong wsX9_in := goodIn_r _ [10] (by decide +kernel) (by decide +kernel)
set_option maxRecDepth 20000 in
theorem gX9_wrong_X9_in : GoodIn wsX9_wrong (va_wsS RX9 96 yX9_in wsX9_in) := goodIn_app (goodIn_of _ (by decide +kernel)) ggX9_wrong_X9_in
theorem dX9_wrong_0 : decode cX9_wrong 0 = .ok (.iload_n 1, 1) := by decide +kernel
theorem dX9_wrong_1 : decode cX9_wrong 1 = .ok (.invokestatic 309, 3) := by decide +kernel
theorem dX9_wrong_4 : decode cX9_wrong 4 = .ok (.ifCond .ne 8, 3) := by decide +kernel
theorem dX9_wrong_7 : decode cX9_wrong 7 = .ok (.bipush (-2), 2) := by decide +kernel
theorem dX9_wrong_9 : decode cX9_wrong 9 = .ok (.goto 41, 3) := by decide +kernel
theorem dX9_wrong_12 : decode cX9_wrong 12 = .ok (.aload_n 0, 1) := by decide +kernel
theorem dX9_wrong_13 : decode cX9_wrong 13 = .ok (.getfield 65, 3) := by decide +kernel
theorem dX9_wrong_16 : decode cX9_wrong 16 = .ok (.iload_n 1, 1) := by decide +kernel
theorem dX9_wrong_17 : decode cX9_wrong 17 = .ok (.iaload, 1) := by decide +kernel
theorem dX9_wrong_18 : decode cX9_wrong 18 = .ok (.ifCond .ge 8, 3) := by decide +kernel
theorem dX9_wrong_21 : decode cX9_wrong 21 = .ok (.bipush (-11), 2) := by decide +kernel
theorem dX9_wrong_23 : decode cX9_wrong 23 = .ok (.goto 27, 3) := by decide +kernel
theorem dX9_wrong_26 : decode cX9_wrong 26 = .ok (.iload_n 2, 1) := by decide +kernel
theorem dX9_wrong_27 : decode cX9_wrong 27 = .ok (.i2l, 1) := by decide +kernel
theorem dX9_wrong_28 : decode cX9_wrong 28 = .ok (.lconst 0, 1) := by decide +kernel
theorem dX9_wrong_29 : decode cX9_wrong 29 = .ok (.aload_n 0, 1) := by decide +kernel
theorem dX9_wrong_30 : decode cX9_wrong 30 = .ok (.getfield 68, 3) := by decide +kernel
theorem dX9_wrong_33 : decode cX9_wrong 33 = .ok (.iload_n 1, 1) := by decide +kernel
theorem dX9_wrong_34 : decode cX9_wrong 34 = .ok (.iaload, 1) := by decide +kernel
theorem dX9_wrong_35 : decode cX9_wrong 35 = .ok (.iconst 1, 1) := by decide +kernel
theorem dX9_wrong_36 : decode cX9_wrong 36 = .ok (.isub, 1) := by decide +kernel
theorem dX9_wrong_37 : decode cX9_wrong 37 = .ok (.i2l, 1) := by decide +kernel
theorem dX9_wrong_38 : decode cX9_wrong 38 = .ok (.invokestatic 96, 3) := by decide +kernel
theorem dX9_wrong_41 : decode cX9_wrong 41 = .ok (.ifCond .eq 7, 3) := by decide +kernel
theorem dX9_wrong_44 : decode cX9_wrong 44 = .ok (.iconst 0, 1) := by decide +kernel
theorem dX9_wrong_45 : decode cX9_wrong 45 = .ok (.goto 5, 3) := by decide +kernel
theorem dX9_wrong_48 : decode cX9_wrong 48 = .ok (.bipush (-12), 2) := by decide +kernel
theorem dX9_wrong_50 : decode cX9_wrong 50 = .ok (.ireturn, 1) := by decide +kernel
set_option maxRecDepth 20000 in
theorem ggX9_cell_X9_wrong : GoodIn wsX9_cell wsX9_wrong := goodIn_r _ [6, 1, 7, 8, 9, 5, 10, 11, 12, 13, 14, 25, 26, 27, 28, 29, 30, 31, 32, 33, 34, 35, 36, 37, 38, 39, 40, 41, 42, 43, 44, 45, 46, 47, 48, 49, 50, 51, 52, 53, 54, 55, 56, 57, 58, 59, 60, 61] (by decide +kernel) (by decide +kernel)
set_option maxRecDepth 20000 in
theorem gX9_cell_X9_wrong : GoodIn wsX9_cell (wsV RX9 315 RX9 yX9_wrong wsX9_wrong) := goodIn_app (goodIn_of _ (by decide +kernel)) ggX9_cell_X9_wrong
set_option maxRecDepth 20000 in
theorem ggX9_cell_X9_isInt : GoodIn wsX9_cell wsX9_isInt := goodIn_r _ [17] (by decide +kernel) (by decide +kernel)
set_option maxRecDepth 20000 in
theorem gX9_cell_X9_isInt : GoodIn wsX9_cell (va_wsS RX9 318 yX9_isInt wsX9_isInt) := goodIn_app (goodIn_of _ (by decide +kernel)) ggX9_cell_X9_isInt
set_option maxRecDepth 20000 in
theorem ggX9_cell_X9_puts : GoodIn wsX9_cell wsX9_puts := goodIn_r _ [21, 22, 23, 24, 25, 26, 27, 28, 29, 30, 31, 32, 33, 34, 35, 36, 37, 38, 39, 40, 41, 42, 43, 44, 45, 46, 47, 48, 49, 50, 51, 52, 53, 54, 55, 56, 57, 58, 59, 60, 61] (by decide +kernel) (by decide +kernel)
set_option maxRecDepth 20000 in
theorem gX9_cell_X9_puts : GoodIn wsX9_cell (wsV RX9 312 RX9 yX9_puts wsX9_puts) := goodIn_app (goodIn_of _ (by decide +kernel)) ggX9_cell_X9_puts
theorem dX9_cell_0 : decode cX9_cell 0 = .ok (.aload_n 0, 1) := by decide +kernel
theorem dX9_cell_1 : decode cX9_cell 1 = .ok (.iload_n 1, 1) := by decide +kernel
theorem dX9_cell_2 : decode cX9_cell 2 = .ok (.iload_n 2, 1) := by decide +kernel
theorem dX9_cell_3 : decode cX9_cell 3 = .ok (.invokevirtual 315, 3) := by decide +kernel
theorem dX9_cell_6 : decode cX9_cell 6 = .ok (.istore 5, 2) := by decide +kernel
theorem dX9_cell_8 : decode cX9_cell 8 = .ok (.iload 5, 2) := by decide +kernel
theorem dX9_cell_10 : decode cX9_cell 10 = .ok (.ifCond .eq 6, 3) := by decide +kernel
theorem dX9_cell_13 : decode cX9_cell 13 = .ok (.iload 5, 2) := by decide +kernel
theorem dX9_cell_15 : decode cX9_cell 15 = .ok (.ireturn, 1) := by decide +kernel
theorem dX9_cell_16 : decode cX9_cell 16 = .ok (.aload_n 0, 1) := by decide +kernel
theorem dX9_cell_17 : decode cX9_cell 17 = .ok (.getfield 65, 3) := by decide +kernel
theorem dX9_cell_20 : decode cX9_cell 20 = .ok (.iload_n 1, 1) := by decide +kernel
theorem dX9_cell_21 : decode cX9_cell 21 = .ok (.iaload, 1) := by decide +kernel
theorem dX9_cell_22 : decode cX9_cell 22 = .ok (.ifCond .ne 13, 3) := by decide +kernel
theorem dX9_cell_25 : decode cX9_cell 25 = .ok (.lload_n 3, 1) := by decide +kernel
theorem dX9_cell_26 : decode cX9_cell 26 = .ok (.invokestatic 318, 3) := by decide +kernel
theorem dX9_cell_29 : decode cX9_cell 29 = .ok (.ifCond .ne 6, 3) := by decide +kernel
theorem dX9_cell_32 : decode cX9_cell 32 = .ok (.bipush (-5), 2) := by decide +kernel
theorem dX9_cell_34 : decode cX9_cell 34 = .ok (.ireturn, 1) := by decide +kernel
theorem dX9_cell_35 : decode cX9_cell 35 = .ok (.aload_n 0, 1) := by decide +kernel
theorem dX9_cell_36 : decode cX9_cell 36 = .ok (.iload_n 1, 1) := by decide +kernel
theorem dX9_cell_37 : decode cX9_cell 37 = .ok (.iload_n 2, 1) := by decide +kernel
theorem dX9_cell_38 : decode cX9_cell 38 = .ok (.lload_n 3, 1) := by decide +kernel
theorem dX9_cell_39 : decode cX9_cell 39 = .ok (.invokevirtual 312, 3) := by decide +kernel
theorem dX9_cell_42 : decode cX9_cell 42 = .ok (.iconst 1, 1) := by decide +kernel
theorem dX9_cell_43 : decode cX9_cell 43 = .ok (.ireturn, 1) := by decide +kernel
set_option maxRecDepth 20000 in
theorem ggX9_readFloat_Jxf58ca_floatToIntBits_5c35a : GoodIn wsX9_readFloat wsJxf58ca_floatToIntBits_5c35a := goodIn_r _ [4, 5, 6, 7, 8, 9, 10, 11, 3, 12] (by decide +kernel) (by decide +kernel)
set_option maxRecDepth 20000 in
theorem gX9_readFloat_Jxf58ca_floatToIntBits_5c35a : GoodIn wsX9_readFloat (va_wsS RX9 221 yJxf58ca_floatToIntBits_5c35a wsJxf58ca_floatToIntBits_5c35a) := goodIn_app (goodIn_of _ (by decide +kernel)) ggX9_readFloat_Jxf58ca_floatToIntBits_5c35a
theorem dX9_readFloat_0 : decode cX9_readFloat 0 = .ok (.iload_n 2, 1) := by decide +kernel
theorem dX9_readFloat_1 : decode cX9_readFloat 1 = .ok (.tableswitch 43 1 4 #[31, 35, 43, 38], 31) := by decide +kernel
theorem dX9_readFloat_32 : decode cX9_readFloat 32 = .ok (.fload_n 1, 1) := by decide +kernel
theorem dX9_readFloat_33 : decode cX9_readFloat 33 = .ok (.f2i, 1) := by decide +kernel
theorem dX9_readFloat_34 : decode cX9_readFloat 34 = .ok (.i2l, 1) := by decide +kernel
theorem dX9_readFloat_35 : decode cX9_readFloat 35 = .ok (.lreturn, 1) := by decide +kernel
theorem dX9_readFloat_36 : decode cX9_readFloat 36 = .ok (.fload_n 1, 1) := by decide +kernel
theorem dX9_readFloat_37 : decode cX9_readFloat 37 = .ok (.f2l, 1) := by decide +kernel
theorem dX9_readFloat_38 : decode cX9_readFloat 38 = .ok (.lreturn, 1) := by decide +kernel
theorem dX9_readFloat_39 : decode cX9_readFloat 39 = .ok (.fload_n 1, 1) := by decide +kernel
theorem dX9_readFloat_40 : decode cX9_readFloat 40 = .ok (.f2i, 1) := by decide +kernel
theorem dX9_readFloat_41 : decode cX9_readFloat 41 = .ok (.i2b, 1) := by decide +kernel
theorem dX9_readFloat_42 : decode cX9_readFloat 42 = .ok (.i2l, 1) := by decide +kernel
theorem dX9_readFloat_43 : decode cX9_readFloat 43 = .ok (.lreturn, 1) := by decide +kernel
theorem dX9_readFloat_44 : decode cX9_readFloat 44 = .ok (.fload_n 1, 1) := by decide +kernel
theorem dX9_readFloat_45 : decode cX9_readFloat 45 = .ok (.invokestatic 221, 3) := by decide +kernel
theorem dX9_readFloat_48 : decode cX9_readFloat 48 = .ok (.i2l, 1) := by decide +kernel
theorem dX9_readFloat_49 : decode cX9_readFloat 49 = .ok (.lreturn, 1) := by decide +kernel
set_option maxRecDepth 20000 in
theorem ggX9_readDouble_Jxf58ca_floatToIntBits_5c35a : GoodIn wsX9_readDouble wsJxf58ca_floatToIntBits_5c35a := goodIn_r _ [4, 5, 6, 7, 8, 9, 10, 11, 3, 12] (by decide +kernel) (by decide +kernel)
set_option maxRecDepth 20000 in
theorem gX9_readDouble_Jxf58ca_floatToIntBits_5c35a : GoodIn wsX9_readDouble (va_wsS RX9 221 yJxf58ca_floatToIntBits_5c35a wsJxf58ca_floatToIntBits_5c35a) := goodIn_app (goodIn_of _ (by decide +kernel)) ggX9_readDouble_Jxf58ca_floatToIntBits_5c35a
set_option maxRecDepth 20000 in
theorem ggX9_readDouble_Jxe99ae_doubleToLongBits_ccdee : GoodIn wsX9_readDouble wsJxe99ae_doubleToLongBits_ccdee := goodIn_r _ [16, 17, 18, 19, 20, 21, 22, 23, 15, 24] (by decide +kernel) (by decide +kernel)
set_option maxRecDepth 20000 in
theorem gX9_readDouble_Jxe99ae_doubleToLongBits_ccdee : GoodIn wsX9_readDouble (va_wsS RX9 227 yJxe99ae_doubleToLongBits_ccdee wsJxe99ae_doubleToLongBits_ccdee) := goodIn_app (goodIn_of _ (by decide +kernel)) ggX9_readDouble_Jxe99ae_doubleToLongBits_ccdee
theorem dX9_readDouble_0 : decode cX9_readDouble 0 = .ok (.iload_n 3, 1) := by decide +kernel
theorem dX9_readDouble_1 : decode cX9_readDouble 1 = .ok (.tableswitch 50 1 4 #[31, 35, 38, 45], 31) := by decide +kernel
theorem dX9_readDouble_32 : decode cX9_readDouble 32 = .ok (.dload_n 1, 1) := by decide +kernel
theorem dX9_readDouble_33 : decode cX9_readDouble 33 = .ok (.d2i, 1) := by decide +kernel
theorem dX9_readDouble_34 : decode cX9_readDouble 34 = .ok (.i2l, 1) := by decide +kernel
theorem dX9_readDouble_35 : decode cX9_readDouble 35 = .ok (.lreturn, 1) := by decide +kernel
theorem dX9_readDouble_36 : decode cX9_readDouble 36 = .ok (.dload_n 1, 1) := by decide +kernel
theorem dX9_readDouble_37 : decode cX9_readDouble 37 = .ok (.d2l, 1) := by decide +kernel
theorem dX9_readDouble_38 : decode cX9_readDouble 38 = .ok (.lreturn, 1) := by decide +kernel
theorem dX9_readDouble_39 : decode cX9_readDouble 39 = .ok (.dload_n 1, 1) := by decide +kernel
theorem dX9_readDouble_40 : decode cX9_readDouble 40 = .ok (.d2f, 1) := by decide +kernel
theorem dX9_readDouble_41 : decode cX9_readDouble 41 = .ok (.invokestatic 221, 3) := by decide +kernel
theorem dX9_readDouble_44 : decode cX9_readDouble 44 = .ok (.i2l, 1) := by decide +kernel
theorem dX9_readDouble_45 : decode cX9_readDouble 45 = .ok (.lreturn, 1) := by decide +kernel
theorem dX9_readDouble_46 : decode cX9_readDouble 46 = .ok (.dload_n 1, 1) := by decide +kernel
theorem dX9_readDouble_47 : decode cX9_readDouble 47 = .ok (.d2i, 1) := by decide +kernel
theorem dX9_readDouble_48 : decode cX9_readDouble 48 = .ok (.i2b, 1) := by decide +kernel
theorem dX9_readDouble_49 : decode cX9_readDouble 49 = .ok (.i2l, 1) := by decide +kernel
theorem dX9_readDouble_50 : decode cX9_readDouble 50 = .ok (.lreturn, 1) := by decide +kernel
theorem dX9_readDouble_51 : decode cX9_readDouble 51 = .ok (.dload_n 1, 1) := by decide +kernel
theorem dX9_readDouble_52 : decode cX9_readDouble 52 = .ok (.invokestatic 227, 3) := by decide +kernel
theorem dX9_readDouble_55 : decode cX9_readDouble 55 = .ok (.lreturn, 1) := by decide +kernel
set_option maxRecDepth 20000 in
theorem ggX9_readWhole_Jxf58ca_floatToIntBits_5c35a : GoodIn wsX9_readWhole wsJxf58ca_floatToIntBits_5c35a := goodIn_r _ [4, 5, 6, 7, 8, 9, 10, 11, 3, 12] (by decide +kernel) (by decide +kernel)
set_option maxRecDepth 20000 in
theorem gX9_readWhole_Jxf58ca_floatToIntBits_5c35a : GoodIn wsX9_readWhole (va_wsS RX9 221 yJxf58ca_floatToIntBits_5c35a wsJxf58ca_floatToIntBits_5c35a) := goodIn_app (goodIn_of _ (by decide +kernel)) ggX9_readWhole_Jxf58ca_floatToIntBits_5c35a
theorem dX9_readWhole_0 : decode cX9_readWhole 0 = .ok (.iload_n 3, 1) := by decide +kernel
theorem dX9_readWhole_1 : decode cX9_readWhole 1 = .ok (.tableswitch 47 1 4 #[31, 47, 35, 42], 31) := by decide +kernel
theorem dX9_readWhole_32 : decode cX9_readWhole 32 = .ok (.lload_n 1, 1) := by decide +kernel
theorem dX9_readWhole_33 : decode cX9_readWhole 33 = .ok (.l2i, 1) := by decide +kernel
theorem dX9_readWhole_34 : decode cX9_readWhole 34 = .ok (.i2l, 1) := by decide +kernel
theorem dX9_readWhole_35 : decode cX9_readWhole 35 = .ok (.lreturn, 1) := by decide +kernel
theorem dX9_readWhole_36 : decode cX9_readWhole 36 = .ok (.lload_n 1, 1) := by decide +kernel
theorem dX9_readWhole_37 : decode cX9_readWhole 37 = .ok (.l2f, 1) := by decide +kernel
theorem dX9_readWhole_38 : decode cX9_readWhole 38 = .ok (.invokestatic 221, 3) := by decide +kernel
theorem dX9_readWhole_41 : decode cX9_readWhole 41 = .ok (.i2l, 1) := by decide +kernel
theorem dX9_readWhole_42 : decode cX9_readWhole 42 = .ok (.lreturn, 1) := by decide +kernel
theorem dX9_readWhole_43 : decode cX9_readWhole 43 = .ok (.lload_n 1, 1) := by decide +kernel
theorem dX9_readWhole_44 : decode cX9_readWhole 44 = .ok (.l2i, 1) := by decide +kernel
theorem dX9_readWhole_45 : decode cX9_readWhole 45 = .ok (.i2b, 1) := by decide +kernel
theorem dX9_readWhole_46 : decode cX9_readWhole 46 = .ok (.i2l, 1) := by decide +kernel
theorem dX9_readWhole_47 : decode cX9_readWhole 47 = .ok (.lreturn, 1) := by decide +kernel
theorem dX9_readWhole_48 : decode cX9_readWhole 48 = .ok (.lload_n 1, 1) := by decide +kernel
theorem dX9_readWhole_49 : decode cX9_readWhole 49 = .ok (.lreturn, 1) := by decide +kernel
set_option maxRecDepth 20000 in
theorem ggX9_read_X9_isSheet : GoodIn wsX9_read wsX9_isSheet := goodIn_r _ [9, 10, 11, 12, 8, 13] (by decide +kernel) (by decide +kernel)
set_option maxRecDepth 20000 in
theorem gX9_read_X9_isSheet : GoodIn wsX9_read (va_wsS RX9 309 yX9_isSheet wsX9_isSheet) := goodIn_app (goodIn_of _ (by decide +kernel)) ggX9_read_X9_isSheet
set_option maxRecDepth 20000 in
theorem ggX9_read_X9_in : GoodIn wsX9_read wsX9_in := goodIn_r _ [13] (by decide +kernel) (by decide +kernel)
set_option maxRecDepth 20000 in
theorem gX9_read_X9_in : GoodIn wsX9_read (va_wsS RX9 96 yX9_in wsX9_in) := goodIn_app (goodIn_of _ (by decide +kernel)) ggX9_read_X9_in
set_option maxRecDepth 20000 in
theorem ggX9_read_X9_told : GoodIn wsX9_read wsX9_told := goodIn_r _ [16, 17] (by decide +kernel) (by decide +kernel)
set_option maxRecDepth 20000 in
theorem gX9_read_X9_told : GoodIn wsX9_read (va_wsS RX9 174 yX9_told wsX9_told) := goodIn_app (goodIn_of _ (by decide +kernel)) ggX9_read_X9_told
set_option maxRecDepth 20000 in
theorem ggX9_read_X9_wrong : GoodIn wsX9_read wsX9_wrong := goodIn_r _ [21, 2, 22, 6, 7, 8, 9, 10, 11, 12, 13, 59, 60, 61, 62, 63, 64, 65, 66, 67, 68, 69, 70, 71, 72, 73, 74, 75, 76, 77, 78, 79, 80, 81, 82, 83, 84, 85, 86, 87, 88, 89, 90, 91, 92, 93, 94, 95] (by decide +kernel) (by decide +kernel)
set_option maxRecDepth 20000 in
theorem gX9_read_X9_wrong : GoodIn wsX9_read (wsV RX9 315 RX9 yX9_wrong wsX9_wrong) := goodIn_app (goodIn_of _ (by decide +kernel)) ggX9_read_X9_wrong
set_option maxRecDepth 20000 in
theorem ggX9_read_X9_readWhole : GoodIn wsX9_read wsX9_readWhole := goodIn_r _ [26, 27, 28, 29, 30, 31, 32, 33, 34, 35, 36, 37, 38] (by decide +kernel) (by decide +kernel)
set_option maxRecDepth 20000 in
theorem gX9_read_X9_readWhole : GoodIn wsX9_read (wsV RX9 323 RX9 yX9_readWhole wsX9_readWhole) := goodIn_app (goodIn_of _ (by decide +kernel)) ggX9_read_X9_readWhole
set_option maxRecDepth 20000 in
theorem ggX9_read_X9_readFloat : GoodIn wsX9_read wsX9_readFloat := goodIn_r _ [42, 27, 28, 29, 30, 31, 32, 33, 34, 35, 36, 37, 38] (by decide +kernel) (by decide +kernel)
set_option maxRecDepth 20000 in
theorem gX9_read_X9_readFloat : GoodIn wsX9_read (wsV RX9 327 RX9 yX9_readFloat wsX9_readFloat) := goodIn_app (goodIn_of _ (by decide +kernel)) ggX9_read_X9_readFloat
set_option maxRecDepth 20000 in
theorem ggX9_read_X9_readDouble : GoodIn wsX9_read wsX9_readDouble := goodIn_r _ [46, 27, 28, 29, 30, 31, 32, 33, 34, 35, 36, 37, 38, 47, 48, 49, 50, 51, 52, 53, 54, 55, 56, 57, 58] (by decide +kernel) (by decide +kernel)
set_option maxRecDepth 20000 in
theorem gX9_read_X9_readDouble : GoodIn wsX9_read (wsV RX9 331 RX9 yX9_readDouble wsX9_readDouble) := goodIn_app (goodIn_of _ (by decide +kernel)) ggX9_read_X9_readDouble
theorem dX9_read_0 : decode cX9_read 0 = .ok (.iload_n 1, 1) := by decide +kernel
theorem dX9_read_1 : decode cX9_read 1 = .ok (.invokestatic 309, 3) := by decide +kernel
theorem dX9_read_4 : decode cX9_read 4 = .ok (.ifCond .eq 15, 3) := by decide +kernel
theorem dX9_read_7 : decode cX9_read 7 = .ok (.iload_n 3, 1) := by decide +kernel
theorem dX9_read_8 : decode cX9_read 8 = .ok (.i2l, 1) := by decide +kernel
theorem dX9_read_9 : decode cX9_read 9 = .ok (.lconst 0, 1) := by decide +kernel
theorem dX9_read_10 : decode cX9_read 10 = .ok (.ldc2_w 321, 3) := by decide +kernel
theorem dX9_read_13 : decode cX9_read 13 = .ok (.invokestatic 96, 3) := by decide +kernel
theorem dX9_read_16 : decode cX9_read 16 = .ok (.ifCond .ne 9, 3) := by decide +kernel
theorem dX9_read_19 : decode cX9_read 19 = .ok (.bipush (-2), 2) := by decide +kernel
theorem dX9_read_21 : decode cX9_read 21 = .ok (.invokestatic 174, 3) := by decide +kernel
theorem dX9_read_24 : decode cX9_read 24 = .ok (.lreturn, 1) := by decide +kernel
theorem dX9_read_25 : decode cX9_read 25 = .ok (.aload_n 0, 1) := by decide +kernel
theorem dX9_read_26 : decode cX9_read 26 = .ok (.iload_n 1, 1) := by decide +kernel
theorem dX9_read_27 : decode cX9_read 27 = .ok (.iload_n 2, 1) := by decide +kernel
theorem dX9_read_28 : decode cX9_read 28 = .ok (.invokevirtual 315, 3) := by decide +kernel
theorem dX9_read_31 : decode cX9_read 31 = .ok (.istore 4, 2) := by decide +kernel
theorem dX9_read_33 : decode cX9_read 33 = .ok (.iload 4, 2) := by decide +kernel
theorem dX9_read_35 : decode cX9_read 35 = .ok (.ifCond .eq 9, 3) := by decide +kernel
theorem dX9_read_38 : decode cX9_read 38 = .ok (.iload 4, 2) := by decide +kernel
theorem dX9_read_40 : decode cX9_read 40 = .ok (.invokestatic 174, 3) := by decide +kernel
theorem dX9_read_43 : decode cX9_read 43 = .ok (.lreturn, 1) := by decide +kernel
theorem dX9_read_44 : decode cX9_read 44 = .ok (.bipush 60, 2) := by decide +kernel
theorem dX9_read_46 : decode cX9_read 46 = .ok (.iload_n 1, 1) := by decide +kernel
theorem dX9_read_47 : decode cX9_read 47 = .ok (.imul, 1) := by decide +kernel
theorem dX9_read_48 : decode cX9_read 48 = .ok (.iload_n 2, 1) := by decide +kernel
theorem dX9_read_49 : decode cX9_read 49 = .ok (.iadd, 1) := by decide +kernel
theorem dX9_read_50 : decode cX9_read 50 = .ok (.istore 5, 2) := by decide +kernel
theorem dX9_read_52 : decode cX9_read 52 = .ok (.aload_n 0, 1) := by decide +kernel
theorem dX9_read_53 : decode cX9_read 53 = .ok (.getfield 65, 3) := by decide +kernel
theorem dX9_read_56 : decode cX9_read 56 = .ok (.iload_n 1, 1) := by decide +kernel
theorem dX9_read_57 : decode cX9_read 57 = .ok (.iaload, 1) := by decide +kernel
theorem dX9_read_58 : decode cX9_read 58 = .ok (.iconst 2, 1) := by decide +kernel
theorem dX9_read_59 : decode cX9_read 59 = .ok (.if_icmp .ge 18, 3) := by decide +kernel
theorem dX9_read_62 : decode cX9_read 62 = .ok (.aload_n 0, 1) := by decide +kernel
theorem dX9_read_63 : decode cX9_read 63 = .ok (.aload_n 0, 1) := by decide +kernel
theorem dX9_read_64 : decode cX9_read 64 = .ok (.getfield 71, 3) := by decide +kernel
theorem dX9_read_67 : decode cX9_read 67 = .ok (.iload 5, 2) := by decide +kernel
theorem dX9_read_69 : decode cX9_read 69 = .ok (.laload, 1) := by decide +kernel
theorem dX9_read_70 : decode cX9_read 70 = .ok (.iload_n 3, 1) := by decide +kernel
theorem dX9_read_71 : decode cX9_read 71 = .ok (.invokevirtual 323, 3) := by decide +kernel
theorem dX9_read_74 : decode cX9_read 74 = .ok (.goto 40, 3) := by decide +kernel
theorem dX9_read_77 : decode cX9_read 77 = .ok (.aload_n 0, 1) := by decide +kernel
theorem dX9_read_78 : decode cX9_read 78 = .ok (.getfield 65, 3) := by decide +kernel
theorem dX9_read_81 : decode cX9_read 81 = .ok (.iload_n 1, 1) := by decide +kernel
theorem dX9_read_82 : decode cX9_read 82 = .ok (.iaload, 1) := by decide +kernel
theorem dX9_read_83 : decode cX9_read 83 = .ok (.iconst 2, 1) := by decide +kernel
theorem dX9_read_84 : decode cX9_read 84 = .ok (.if_icmp .ne 18, 3) := by decide +kernel
theorem dX9_read_87 : decode cX9_read 87 = .ok (.aload_n 0, 1) := by decide +kernel
theorem dX9_read_88 : decode cX9_read 88 = .ok (.aload_n 0, 1) := by decide +kernel
theorem dX9_read_89 : decode cX9_read 89 = .ok (.getfield 74, 3) := by decide +kernel
theorem dX9_read_92 : decode cX9_read 92 = .ok (.iload 5, 2) := by decide +kernel
theorem dX9_read_94 : decode cX9_read 94 = .ok (.faload, 1) := by decide +kernel
theorem dX9_read_95 : decode cX9_read 95 = .ok (.iload_n 3, 1) := by decide +kernel
theorem dX9_read_96 : decode cX9_read 96 = .ok (.invokevirtual 327, 3) := by decide +kernel
theorem dX9_read_99 : decode cX9_read 99 = .ok (.goto 15, 3) := by decide +kernel
theorem dX9_read_102 : decode cX9_read 102 = .ok (.aload_n 0, 1) := by decide +kernel
theorem dX9_read_103 : decode cX9_read 103 = .ok (.aload_n 0, 1) := by decide +kernel
theorem dX9_read_104 : decode cX9_read 104 = .ok (.getfield 78, 3) := by decide +kernel
theorem dX9_read_107 : decode cX9_read 107 = .ok (.iload 5, 2) := by decide +kernel
theorem dX9_read_109 : decode cX9_read 109 = .ok (.daload, 1) := by decide +kernel
theorem dX9_read_110 : decode cX9_read 110 = .ok (.iload_n 3, 1) := by decide +kernel
theorem dX9_read_111 : decode cX9_read 111 = .ok (.invokevirtual 331, 3) := by decide +kernel
theorem dX9_read_114 : decode cX9_read 114 = .ok (.lreturn, 1) := by decide +kernel
set_option maxRecDepth 20000 in
theorem ggX9_parts_X9_isSheet : GoodIn wsX9_parts wsX9_isSheet := goodIn_r _ [8, 9, 10, 11, 7, 12] (by decide +kernel) (by decide +kernel)
set_option maxRecDepth 20000 in
theorem gX9_parts_X9_isSheet : GoodIn wsX9_parts (va_wsS RX9 309 yX9_isSheet wsX9_isSheet) := goodIn_app (goodIn_of _ (by decide +kernel)) ggX9_parts_X9_isSheet
set_option maxRecDepth 20000 in
theorem ggX9_parts_X9_in : GoodIn wsX9_parts wsX9_in := goodIn_r _ [12] (by decide +kernel) (by decide +kernel)
set_option maxRecDepth 20000 in
theorem gX9_parts_X9_in : GoodIn wsX9_parts (va_wsS RX9 96 yX9_in wsX9_in) := goodIn_app (goodIn_of _ (by decide +kernel)) ggX9_parts_X9_in
set_option maxRecDepth 20000 in
theorem ggX9_parts_X9_wrong : GoodIn wsX9_parts wsX9_wrong := goodIn_r _ [16, 17, 18, 5, 6, 7, 8, 9, 10, 11, 12, 19, 20, 21, 22, 23, 24, 25, 26, 27, 28, 29, 30, 31, 32, 33, 34, 35, 36, 37, 38, 39, 40, 41, 42, 43, 44, 45, 46, 47, 48, 49, 50, 51, 52, 53, 54, 55] (by decide +kernel) (by decide +kernel)
set_option maxRecDepth 20000 in
theorem gX9_parts_X9_wrong : GoodIn wsX9_parts (wsV RX9 315 RX9 yX9_wrong wsX9_wrong) := goodIn_app (goodIn_of _ (by decide +kernel)) ggX9_parts_X9_wrong
theorem dX9_parts_0 : decode cX9_parts 0 = .ok (.iload_n 1, 1) := by decide +kernel
theorem dX9_parts_1 : decode cX9_parts 1 = .ok (.invokestatic 309, 3) := by decide +kernel
theorem dX9_parts_4 : decode cX9_parts 4 = .ok (.ifCond .eq 15, 3) := by decide +kernel
theorem dX9_parts_7 : decode cX9_parts 7 = .ok (.iload_n 3, 1) := by decide +kernel
theorem dX9_parts_8 : decode cX9_parts 8 = .ok (.i2l, 1) := by decide +kernel
theorem dX9_parts_9 : decode cX9_parts 9 = .ok (.lconst 1, 1) := by decide +kernel
theorem dX9_parts_10 : decode cX9_parts 10 = .ok (.ldc2_w 335, 3) := by decide +kernel
theorem dX9_parts_13 : decode cX9_parts 13 = .ok (.invokestatic 96, 3) := by decide +kernel
theorem dX9_parts_16 : decode cX9_parts 16 = .ok (.ifCond .ne 6, 3) := by decide +kernel
theorem dX9_parts_19 : decode cX9_parts 19 = .ok (.bipush (-2), 2) := by decide +kernel
theorem dX9_parts_21 : decode cX9_parts 21 = .ok (.ireturn, 1) := by decide +kernel
theorem dX9_parts_22 : decode cX9_parts 22 = .ok (.aload_n 0, 1) := by decide +kernel
theorem dX9_parts_23 : decode cX9_parts 23 = .ok (.iload_n 1, 1) := by decide +kernel
theorem dX9_parts_24 : decode cX9_parts 24 = .ok (.iload_n 2, 1) := by decide +kernel
theorem dX9_parts_25 : decode cX9_parts 25 = .ok (.invokevirtual 315, 3) := by decide +kernel
theorem dX9_parts_28 : decode cX9_parts 28 = .ok (.istore 4, 2) := by decide +kernel
theorem dX9_parts_30 : decode cX9_parts 30 = .ok (.iload 4, 2) := by decide +kernel
theorem dX9_parts_32 : decode cX9_parts 32 = .ok (.ifCond .eq 6, 3) := by decide +kernel
theorem dX9_parts_35 : decode cX9_parts 35 = .ok (.iload 4, 2) := by decide +kernel
theorem dX9_parts_37 : decode cX9_parts 37 = .ok (.ireturn, 1) := by decide +kernel
theorem dX9_parts_38 : decode cX9_parts 38 = .ok (.bipush 60, 2) := by decide +kernel
theorem dX9_parts_40 : decode cX9_parts 40 = .ok (.iload_n 1, 1) := by decide +kernel
theorem dX9_parts_41 : decode cX9_parts 41 = .ok (.imul, 1) := by decide +kernel
theorem dX9_parts_42 : decode cX9_parts 42 = .ok (.iload_n 2, 1) := by decide +kernel
theorem dX9_parts_43 : decode cX9_parts 43 = .ok (.iadd, 1) := by decide +kernel
theorem dX9_parts_44 : decode cX9_parts 44 = .ok (.istore 5, 2) := by decide +kernel
theorem dX9_parts_46 : decode cX9_parts 46 = .ok (.aload_n 0, 1) := by decide +kernel
theorem dX9_parts_47 : decode cX9_parts 47 = .ok (.getfield 71, 3) := by decide +kernel
theorem dX9_parts_50 : decode cX9_parts 50 = .ok (.iload 5, 2) := by decide +kernel
theorem dX9_parts_52 : decode cX9_parts 52 = .ok (.aload_n 0, 1) := by decide +kernel
theorem dX9_parts_53 : decode cX9_parts 53 = .ok (.getfield 71, 3) := by decide +kernel
theorem dX9_parts_56 : decode cX9_parts 56 = .ok (.iload 5, 2) := by decide +kernel
theorem dX9_parts_58 : decode cX9_parts 58 = .ok (.laload, 1) := by decide +kernel
theorem dX9_parts_59 : decode cX9_parts 59 = .ok (.iload_n 3, 1) := by decide +kernel
theorem dX9_parts_60 : decode cX9_parts 60 = .ok (.i2l, 1) := by decide +kernel
theorem dX9_parts_61 : decode cX9_parts 61 = .ok (.ldiv, 1) := by decide +kernel
theorem dX9_parts_62 : decode cX9_parts 62 = .ok (.lastore, 1) := by decide +kernel
theorem dX9_parts_63 : decode cX9_parts 63 = .ok (.aload_n 0, 1) := by decide +kernel
theorem dX9_parts_64 : decode cX9_parts 64 = .ok (.getfield 74, 3) := by decide +kernel
theorem dX9_parts_67 : decode cX9_parts 67 = .ok (.iload 5, 2) := by decide +kernel
theorem dX9_parts_69 : decode cX9_parts 69 = .ok (.aload_n 0, 1) := by decide +kernel
theorem dX9_parts_70 : decode cX9_parts 70 = .ok (.getfield 74, 3) := by decide +kernel
theorem dX9_parts_73 : decode cX9_parts 73 = .ok (.iload 5, 2) := by decide +kernel
theorem dX9_parts_75 : decode cX9_parts 75 = .ok (.faload, 1) := by decide +kernel
theorem dX9_parts_76 : decode cX9_parts 76 = .ok (.iload_n 3, 1) := by decide +kernel
theorem dX9_parts_77 : decode cX9_parts 77 = .ok (.i2f, 1) := by decide +kernel
theorem dX9_parts_78 : decode cX9_parts 78 = .ok (.fdiv, 1) := by decide +kernel
theorem dX9_parts_79 : decode cX9_parts 79 = .ok (.fastore, 1) := by decide +kernel
theorem dX9_parts_80 : decode cX9_parts 80 = .ok (.aload_n 0, 1) := by decide +kernel
theorem dX9_parts_81 : decode cX9_parts 81 = .ok (.getfield 78, 3) := by decide +kernel
theorem dX9_parts_84 : decode cX9_parts 84 = .ok (.iload 5, 2) := by decide +kernel
theorem dX9_parts_86 : decode cX9_parts 86 = .ok (.aload_n 0, 1) := by decide +kernel
theorem dX9_parts_87 : decode cX9_parts 87 = .ok (.getfield 78, 3) := by decide +kernel
theorem dX9_parts_90 : decode cX9_parts 90 = .ok (.iload 5, 2) := by decide +kernel
theorem dX9_parts_92 : decode cX9_parts 92 = .ok (.daload, 1) := by decide +kernel
theorem dX9_parts_93 : decode cX9_parts 93 = .ok (.iload_n 3, 1) := by decide +kernel
theorem dX9_parts_94 : decode cX9_parts 94 = .ok (.i2d, 1) := by decide +kernel
theorem dX9_parts_95 : decode cX9_parts 95 = .ok (.ddiv, 1) := by decide +kernel
theorem dX9_parts_96 : decode cX9_parts 96 = .ok (.dastore, 1) := by decide +kernel
theorem dX9_parts_97 : decode cX9_parts 97 = .ok (.iconst 1, 1) := by decide +kernel
theorem dX9_parts_98 : decode cX9_parts 98 = .ok (.ireturn, 1) := by decide +kernel
set_option maxRecDepth 20000 in
theorem ggX9_writes_X9_isSheet : GoodIn wsX9_writes wsX9_isSheet := goodIn_r _ [6, 7, 8, 9, 5, 10] (by decide +kernel) (by decide +kernel)
set_option maxRecDepth 20000 in
theorem gX9_writes_X9_isSheet : GoodIn wsX9_writes (va_wsS RX9 309 yX9_isSheet wsX9_isSheet) := goodIn_app (goodIn_of _ (by decide +kernel)) ggX9_writes_X9_isSheet
set_option maxRecDepth 20000 in
theorem ggX9_writes_X9_isOut : GoodIn wsX9_writes wsX9_isOut := goodIn_r _ [13, 14, 8, 9, 5, 10] (by decide +kernel) (by decide +kernel)
set_option maxRecDepth 20000 in
theorem gX9_writes_X9_isOut : GoodIn wsX9_writes (va_wsS RX9 138 yX9_isOut wsX9_isOut) := goodIn_app (goodIn_of _ (by decide +kernel)) ggX9_writes_X9_isOut
set_option maxRecDepth 20000 in
theorem ggX9_writes_X9_findsCounts : GoodIn wsX9_writes wsX9_findsCounts := goodIn_r _ [18, 19, 20, 21, 5, 22, 23, 24, 25, 26, 27, 28, 29, 30, 31, 32, 33, 34, 35, 36, 37, 38, 39, 40, 41, 42, 43, 44, 45, 46, 47, 2, 48, 49, 50, 51, 52, 53, 54, 55, 56, 57, 58, 59, 60, 61, 62, 63, 90, 91, 92, 93, 94, 95, 96, 97, 98, 99, 100, 101, 102, 103, 104, 105, 106, 107, 108, 109, 110, 111, 112, 113, 114, 115, 116, 117, 118, 119, 120, 121, 122, 123, 124, 125, 126] (by decide +kernel) (by decide +kernel)
set_option maxRecDepth 20000 in
theorem gX9_writes_X9_findsCounts : GoodIn wsX9_writes (wsV RX9 178 RX9 yX9_findsCounts wsX9_findsCounts) := goodIn_app (goodIn_of _ (by decide +kernel)) ggX9_writes_X9_findsCounts
set_option maxRecDepth 20000 in
theorem ggX9_writes_X9_free : GoodIn wsX9_writes wsX9_free := goodIn_r _ [41, 42, 90, 91, 92, 93, 94, 95, 96, 97, 98, 99, 100, 101, 102, 103, 104, 105, 106, 107, 108, 109, 110, 111, 112, 113, 114, 115, 116, 117, 118, 119, 120, 121, 122, 123, 124, 125, 126] (by decide +kernel) (by decide +kernel)
set_option maxRecDepth 20000 in
theorem gX9_writes_X9_free : GoodIn wsX9_writes (wsV RX9 166 RX9 yX9_free wsX9_free) := goodIn_app (goodIn_of _ (by decide +kernel)) ggX9_writes_X9_free
set_option maxRecDepth 20000 in
theorem ggX9_writes_X9_many : GoodIn wsX9_writes wsX9_many := goodIn_r _ [66] (by decide +kernel) (by decide +kernel)
set_option maxRecDepth 20000 in
theorem gX9_writes_X9_many : GoodIn wsX9_writes (va_wsS RX9 181 yX9_many wsX9_many) := goodIn_app (goodIn_of _ (by decide +kernel)) ggX9_writes_X9_many
set_option maxRecDepth 20000 in
theorem ggX9_writes_X9_at : GoodIn wsX9_writes wsX9_at := goodIn_r _ [70, 48, 90, 91, 92, 93, 94, 95, 96, 97, 98, 99, 100, 101, 102, 103, 104, 105, 106, 107, 108, 109, 110, 111, 112, 113, 114, 115, 116, 117, 118, 119, 120, 121, 122, 123, 124, 125, 126] (by decide +kernel) (by decide +kernel)
set_option maxRecDepth 20000 in
theorem gX9_writes_X9_at : GoodIn wsX9_writes (wsV RX9 184 RX9 yX9_at wsX9_at) := goodIn_app (goodIn_of _ (by decide +kernel)) ggX9_writes_X9_at
set_option maxRecDepth 20000 in
theorem ggX9_writes_X9_cell : GoodIn wsX9_writes wsX9_cell := goodIn_r _ [74, 1, 75, 76, 77, 5, 78, 79, 3, 4, 6, 7, 8, 9, 10, 80, 81, 82, 83, 84, 85, 86, 87, 88, 89, 90, 91, 92, 93, 94, 95, 96, 97, 98, 99, 100, 101, 102, 103, 104, 105, 106, 107, 108, 109, 110, 111, 112, 113, 114, 115, 116, 117, 118, 119, 120, 121, 122, 123, 124, 125, 126] (by decide +kernel) (by decide +kernel)
set_option maxRecDepth 20000 in
theorem gX9_writes_X9_cell : GoodIn wsX9_writes (wsV RX9 337 RX9 yX9_cell wsX9_cell) := goodIn_app (goodIn_of _ (by decide +kernel)) ggX9_writes_X9_cell
theorem dX9_writes_0 : decode cX9_writes 0 = .ok (.iload_n 1, 1) := by decide +kernel
theorem dX9_writes_1 : decode cX9_writes 1 = .ok (.invokestatic 309, 3) := by decide +kernel
theorem dX9_writes_4 : decode cX9_writes 4 = .ok (.ifCond .eq 10, 3) := by decide +kernel
theorem dX9_writes_7 : decode cX9_writes 7 = .ok (.iload_n 2, 1) := by decide +kernel
theorem dX9_writes_8 : decode cX9_writes 8 = .ok (.invokestatic 138, 3) := by decide +kernel
theorem dX9_writes_11 : decode cX9_writes 11 = .ok (.ifCond .ne 6, 3) := by decide +kernel
theorem dX9_writes_14 : decode cX9_writes 14 = .ok (.bipush (-2), 2) := by decide +kernel
theorem dX9_writes_16 : decode cX9_writes 16 = .ok (.ireturn, 1) := by decide +kernel
theorem dX9_writes_17 : decode cX9_writes 17 = .ok (.aload_n 0, 1) := by decide +kernel
theorem dX9_writes_18 : decode cX9_writes 18 = .ok (.getfield 65, 3) := by decide +kernel
theorem dX9_writes_21 : decode cX9_writes 21 = .ok (.iload_n 1, 1) := by decide +kernel
theorem dX9_writes_22 : decode cX9_writes 22 = .ok (.iaload, 1) := by decide +kernel
theorem dX9_writes_23 : decode cX9_writes 23 = .ok (.ifCond .ge 6, 3) := by decide +kernel
theorem dX9_writes_26 : decode cX9_writes 26 = .ok (.bipush (-11), 2) := by decide +kernel
theorem dX9_writes_28 : decode cX9_writes 28 = .ok (.ireturn, 1) := by decide +kernel
theorem dX9_writes_29 : decode cX9_writes 29 = .ok (.aload_n 0, 1) := by decide +kernel
theorem dX9_writes_30 : decode cX9_writes 30 = .ok (.iload_n 2, 1) := by decide +kernel
theorem dX9_writes_31 : decode cX9_writes 31 = .ok (.invokevirtual 178, 3) := by decide +kernel
theorem dX9_writes_34 : decode cX9_writes 34 = .ok (.aload_n 0, 1) := by decide +kernel
theorem dX9_writes_35 : decode cX9_writes 35 = .ok (.getfield 148, 3) := by decide +kernel
theorem dX9_writes_38 : decode cX9_writes 38 = .ok (.ifCond .eq 6, 3) := by decide +kernel
theorem dX9_writes_41 : decode cX9_writes 41 = .ok (.bipush (-5), 2) := by decide +kernel
theorem dX9_writes_43 : decode cX9_writes 43 = .ok (.ireturn, 1) := by decide +kernel
theorem dX9_writes_44 : decode cX9_writes 44 = .ok (.aload_n 0, 1) := by decide +kernel
theorem dX9_writes_45 : decode cX9_writes 45 = .ok (.iload_n 2, 1) := by decide +kernel
theorem dX9_writes_46 : decode cX9_writes 46 = .ok (.invokevirtual 166, 3) := by decide +kernel
theorem dX9_writes_49 : decode cX9_writes 49 = .ok (.invokestatic 181, 3) := by decide +kernel
theorem dX9_writes_52 : decode cX9_writes 52 = .ok (.istore_n 3, 1) := by decide +kernel
theorem dX9_writes_53 : decode cX9_writes 53 = .ok (.iconst 0, 1) := by decide +kernel
theorem dX9_writes_54 : decode cX9_writes 54 = .ok (.istore 4, 2) := by decide +kernel
theorem dX9_writes_56 : decode cX9_writes 56 = .ok (.iload 4, 2) := by decide +kernel
theorem dX9_writes_58 : decode cX9_writes 58 = .ok (.iload_n 3, 1) := by decide +kernel
theorem dX9_writes_59 : decode cX9_writes 59 = .ok (.if_icmp .gt 34, 3) := by decide +kernel
theorem dX9_writes_62 : decode cX9_writes 62 = .ok (.aload_n 0, 1) := by decide +kernel
theorem dX9_writes_63 : decode cX9_writes 63 = .ok (.iload_n 1, 1) := by decide +kernel
theorem dX9_writes_64 : decode cX9_writes 64 = .ok (.iload 4, 2) := by decide +kernel
theorem dX9_writes_66 : decode cX9_writes 66 = .ok (.aload_n 0, 1) := by decide +kernel
theorem dX9_writes_67 : decode cX9_writes 67 = .ok (.iload_n 3, 1) := by decide +kernel
theorem dX9_writes_68 : decode cX9_writes 68 = .ok (.iload 4, 2) := by decide +kernel
theorem dX9_writes_70 : decode cX9_writes 70 = .ok (.invokevirtual 184, 3) := by decide +kernel
theorem dX9_writes_73 : decode cX9_writes 73 = .ok (.invokevirtual 337, 3) := by decide +kernel
theorem dX9_writes_76 : decode cX9_writes 76 = .ok (.istore 5, 2) := by decide +kernel
theorem dX9_writes_78 : decode cX9_writes 78 = .ok (.iload 5, 2) := by decide +kernel
theorem dX9_writes_80 : decode cX9_writes 80 = .ok (.iconst 1, 1) := by decide +kernel
theorem dX9_writes_81 : decode cX9_writes 81 = .ok (.if_icmp .eq 6, 3) := by decide +kernel
theorem dX9_writes_84 : decode cX9_writes 84 = .ok (.iload 5, 2) := by decide +kernel
theorem dX9_writes_86 : decode cX9_writes 86 = .ok (.ireturn, 1) := by decide +kernel
theorem dX9_writes_87 : decode cX9_writes 87 = .ok (.iinc 4 1, 3) := by decide +kernel
theorem dX9_writes_90 : decode cX9_writes 90 = .ok (.goto (-34), 3) := by decide +kernel
theorem dX9_writes_93 : decode cX9_writes 93 = .ok (.iload_n 3, 1) := by decide +kernel
theorem dX9_writes_94 : decode cX9_writes 94 = .ok (.iconst 1, 1) := by decide +kernel
theorem dX9_writes_95 : decode cX9_writes 95 = .ok (.iadd, 1) := by decide +kernel
theorem dX9_writes_96 : decode cX9_writes 96 = .ok (.ireturn, 1) := by decide +kernel
theorem dX9_isLike_0 : decode cX9_isLike 0 = .ok (.bipush 60, 2) := by decide +kernel
theorem dX9_isLike_2 : decode cX9_isLike 2 = .ok (.iload_n 1, 1) := by decide +kernel
theorem dX9_isLike_3 : decode cX9_isLike 3 = .ok (.imul, 1) := by decide +kernel
theorem dX9_isLike_4 : decode cX9_isLike 4 = .ok (.iload_n 2, 1) := by decide +kernel
theorem dX9_isLike_5 : decode cX9_isLike 5 = .ok (.iadd, 1) := by decide +kernel
theorem dX9_isLike_6 : decode cX9_isLike 6 = .ok (.istore 5, 2) := by decide +kernel
theorem dX9_isLike_8 : decode cX9_isLike 8 = .ok (.aload_n 0, 1) := by decide +kernel
theorem dX9_isLike_9 : decode cX9_isLike 9 = .ok (.getfield 65, 3) := by decide +kernel
theorem dX9_isLike_12 : decode cX9_isLike 12 = .ok (.iload_n 1, 1) := by decide +kernel
theorem dX9_isLike_13 : decode cX9_isLike 13 = .ok (.iaload, 1) := by decide +kernel
theorem dX9_isLike_14 : decode cX9_isLike 14 = .ok (.lookupswitch 64 #[(2, 26), (3, 45)], 26) := by decide +kernel
theorem dX9_isLike_40 : decode cX9_isLike 40 = .ok (.aload_n 0, 1) := by decide +kernel
theorem dX9_isLike_41 : decode cX9_isLike 41 = .ok (.getfield 74, 3) := by decide +kernel
theorem dX9_isLike_44 : decode cX9_isLike 44 = .ok (.iload 5, 2) := by decide +kernel
theorem dX9_isLike_46 : decode cX9_isLike 46 = .ok (.faload, 1) := by decide +kernel
theorem dX9_isLike_47 : decode cX9_isLike 47 = .ok (.lload_n 3, 1) := by decide +kernel
theorem dX9_isLike_48 : decode cX9_isLike 48 = .ok (.l2f, 1) := by decide +kernel
theorem dX9_isLike_49 : decode cX9_isLike 49 = .ok (.fcmp .l, 1) := by decide +kernel
theorem dX9_isLike_50 : decode cX9_isLike 50 = .ok (.ifCond .ne 7, 3) := by decide +kernel
theorem dX9_isLike_53 : decode cX9_isLike 53 = .ok (.iconst 1, 1) := by decide +kernel
theorem dX9_isLike_54 : decode cX9_isLike 54 = .ok (.goto 4, 3) := by decide +kernel
theorem dX9_isLike_57 : decode cX9_isLike 57 = .ok (.iconst 0, 1) := by decide +kernel
theorem dX9_isLike_58 : decode cX9_isLike 58 = .ok (.ireturn, 1) := by decide +kernel
theorem dX9_isLike_59 : decode cX9_isLike 59 = .ok (.aload_n 0, 1) := by decide +kernel
theorem dX9_isLike_60 : decode cX9_isLike 60 = .ok (.getfield 78, 3) := by decide +kernel
theorem dX9_isLike_63 : decode cX9_isLike 63 = .ok (.iload 5, 2) := by decide +kernel
theorem dX9_isLike_65 : decode cX9_isLike 65 = .ok (.daload, 1) := by decide +kernel
theorem dX9_isLike_66 : decode cX9_isLike 66 = .ok (.lload_n 3, 1) := by decide +kernel
theorem dX9_isLike_67 : decode cX9_isLike 67 = .ok (.l2d, 1) := by decide +kernel
theorem dX9_isLike_68 : decode cX9_isLike 68 = .ok (.dcmp .l, 1) := by decide +kernel
theorem dX9_isLike_69 : decode cX9_isLike 69 = .ok (.ifCond .ne 7, 3) := by decide +kernel
theorem dX9_isLike_72 : decode cX9_isLike 72 = .ok (.iconst 1, 1) := by decide +kernel
theorem dX9_isLike_73 : decode cX9_isLike 73 = .ok (.goto 4, 3) := by decide +kernel
theorem dX9_isLike_76 : decode cX9_isLike 76 = .ok (.iconst 0, 1) := by decide +kernel
theorem dX9_isLike_77 : decode cX9_isLike 77 = .ok (.ireturn, 1) := by decide +kernel
theorem dX9_isLike_78 : decode cX9_isLike 78 = .ok (.aload_n 0, 1) := by decide +kernel
theorem dX9_isLike_79 : decode cX9_isLike 79 = .ok (.getfield 71, 3) := by decide +kernel
theorem dX9_isLike_82 : decode cX9_isLike 82 = .ok (.iload 5, 2) := by decide +kernel
theorem dX9_isLike_84 : decode cX9_isLike 84 = .ok (.laload, 1) := by decide +kernel
theorem dX9_isLike_85 : decode cX9_isLike 85 = .ok (.lload_n 3, 1) := by decide +kernel
theorem dX9_isLike_86 : decode cX9_isLike 86 = .ok (.lcmp, 1) := by decide +kernel
theorem dX9_isLike_87 : decode cX9_isLike 87 = .ok (.ifCond .ne 7, 3) := by decide +kernel
theorem dX9_isLike_90 : decode cX9_isLike 90 = .ok (.iconst 1, 1) := by decide +kernel
theorem dX9_isLike_91 : decode cX9_isLike 91 = .ok (.goto 4, 3) := by decide +kernel
theorem dX9_isLike_94 : decode cX9_isLike 94 = .ok (.iconst 0, 1) := by decide +kernel
theorem dX9_isLike_95 : decode cX9_isLike 95 = .ok (.ireturn, 1) := by decide +kernel
set_option maxRecDepth 20000 in
theorem ggX9_same_X9_isSheet : GoodIn wsX9_same wsX9_isSheet := goodIn_r _ [8, 9, 10, 11, 7, 12] (by decide +kernel) (by decide +kernel)
set_option maxRecDepth 20000 in
theorem gX9_same_X9_isSheet : GoodIn wsX9_same (va_wsS RX9 309 yX9_isSheet wsX9_isSheet) := goodIn_app (goodIn_of _ (by decide +kernel)) ggX9_same_X9_isSheet
set_option maxRecDepth 20000 in
theorem ggX9_same_X9_isOut : GoodIn wsX9_same wsX9_isOut := goodIn_r _ [15, 16, 10, 11, 7, 12] (by decide +kernel) (by decide +kernel)
set_option maxRecDepth 20000 in
theorem gX9_same_X9_isOut : GoodIn wsX9_same (va_wsS RX9 138 yX9_isOut wsX9_isOut) := goodIn_app (goodIn_of _ (by decide +kernel)) ggX9_same_X9_isOut
set_option maxRecDepth 20000 in
theorem ggX9_same_X9_findsCounts : GoodIn wsX9_same wsX9_findsCounts := goodIn_r _ [20, 21, 22, 23, 7, 24, 25, 26, 27, 28, 29, 30, 31, 32, 33, 34, 35, 36, 37, 38, 39, 40, 41, 42, 43, 44, 45, 46, 47, 48, 49, 2, 4, 50, 51, 52, 53, 54, 55, 56, 57, 58, 59, 60, 61, 62, 63, 64, 72, 73, 74, 75, 76, 77, 78, 79, 80, 81, 82, 83, 84, 85, 86, 87, 88, 89, 90, 91, 92, 93, 94, 95, 96, 97, 98, 99, 100, 101, 102, 103, 104, 105, 106, 107, 108] (by decide +kernel) (by decide +kernel)
set_option maxRecDepth 20000 in
theorem gX9_same_X9_findsCounts : GoodIn wsX9_same (wsV RX9 178 RX9 yX9_findsCounts wsX9_findsCounts) := goodIn_app (goodIn_of _ (by decide +kernel)) ggX9_same_X9_findsCounts
set_option maxRecDepth 20000 in
theorem ggX9_same_X9_isLike : GoodIn wsX9_same wsX9_isLike := goodIn_r _ [68, 1, 69, 70, 71, 72, 73, 74, 75, 76, 77, 78, 79, 80, 81, 82, 83, 84, 85, 86, 87, 88, 89, 90, 91, 92, 93, 94, 95, 96, 97, 98, 99, 100, 101, 102, 103, 104, 105, 106, 107, 108] (by decide +kernel) (by decide +kernel)
set_option maxRecDepth 20000 in
theorem gX9_same_X9_isLike : GoodIn wsX9_same (wsV RX9 341 RX9 yX9_isLike wsX9_isLike) := goodIn_app (goodIn_of _ (by decide +kernel)) ggX9_same_X9_isLike
theorem dX9_same_0 : decode cX9_same 0 = .ok (.iload_n 1, 1) := by decide +kernel
theorem dX9_same_1 : decode cX9_same 1 = .ok (.invokestatic 309, 3) := by decide +kernel
theorem dX9_same_4 : decode cX9_same 4 = .ok (.ifCond .eq 10, 3) := by decide +kernel
theorem dX9_same_7 : decode cX9_same 7 = .ok (.iload_n 2, 1) := by decide +kernel
theorem dX9_same_8 : decode cX9_same 8 = .ok (.invokestatic 138, 3) := by decide +kernel
theorem dX9_same_11 : decode cX9_same 11 = .ok (.ifCond .ne 6, 3) := by decide +kernel
theorem dX9_same_14 : decode cX9_same 14 = .ok (.bipush (-2), 2) := by decide +kernel
theorem dX9_same_16 : decode cX9_same 16 = .ok (.ireturn, 1) := by decide +kernel
theorem dX9_same_17 : decode cX9_same 17 = .ok (.aload_n 0, 1) := by decide +kernel
theorem dX9_same_18 : decode cX9_same 18 = .ok (.getfield 65, 3) := by decide +kernel
theorem dX9_same_21 : decode cX9_same 21 = .ok (.iload_n 1, 1) := by decide +kernel
theorem dX9_same_22 : decode cX9_same 22 = .ok (.iaload, 1) := by decide +kernel
theorem dX9_same_23 : decode cX9_same 23 = .ok (.ifCond .ge 6, 3) := by decide +kernel
theorem dX9_same_26 : decode cX9_same 26 = .ok (.bipush (-11), 2) := by decide +kernel
theorem dX9_same_28 : decode cX9_same 28 = .ok (.ireturn, 1) := by decide +kernel
theorem dX9_same_29 : decode cX9_same 29 = .ok (.aload_n 0, 1) := by decide +kernel
theorem dX9_same_30 : decode cX9_same 30 = .ok (.iload_n 2, 1) := by decide +kernel
theorem dX9_same_31 : decode cX9_same 31 = .ok (.invokevirtual 178, 3) := by decide +kernel
theorem dX9_same_34 : decode cX9_same 34 = .ok (.aload_n 0, 1) := by decide +kernel
theorem dX9_same_35 : decode cX9_same 35 = .ok (.getfield 148, 3) := by decide +kernel
theorem dX9_same_38 : decode cX9_same 38 = .ok (.ifCond .eq 6, 3) := by decide +kernel
theorem dX9_same_41 : decode cX9_same 41 = .ok (.bipush (-5), 2) := by decide +kernel
theorem dX9_same_43 : decode cX9_same 43 = .ok (.ireturn, 1) := by decide +kernel
theorem dX9_same_44 : decode cX9_same 44 = .ok (.iconst 0, 1) := by decide +kernel
theorem dX9_same_45 : decode cX9_same 45 = .ok (.istore_n 3, 1) := by decide +kernel
theorem dX9_same_46 : decode cX9_same 46 = .ok (.iload_n 3, 1) := by decide +kernel
theorem dX9_same_47 : decode cX9_same 47 = .ok (.aload_n 0, 1) := by decide +kernel
theorem dX9_same_48 : decode cX9_same 48 = .ok (.getfield 68, 3) := by decide +kernel
theorem dX9_same_51 : decode cX9_same 51 = .ok (.iload_n 1, 1) := by decide +kernel
theorem dX9_same_52 : decode cX9_same 52 = .ok (.iaload, 1) := by decide +kernel
theorem dX9_same_53 : decode cX9_same 53 = .ok (.if_icmp .ge 36, 3) := by decide +kernel
theorem dX9_same_56 : decode cX9_same 56 = .ok (.aload_n 0, 1) := by decide +kernel
theorem dX9_same_57 : decode cX9_same 57 = .ok (.iload_n 1, 1) := by decide +kernel
theorem dX9_same_58 : decode cX9_same 58 = .ok (.iload_n 3, 1) := by decide +kernel
theorem dX9_same_59 : decode cX9_same 59 = .ok (.iload_n 3, 1) := by decide +kernel
theorem dX9_same_60 : decode cX9_same 60 = .ok (.bipush 7, 2) := by decide +kernel
theorem dX9_same_62 : decode cX9_same 62 = .ok (.if_icmp .ge 12, 3) := by decide +kernel
theorem dX9_same_65 : decode cX9_same 65 = .ok (.aload_n 0, 1) := by decide +kernel
theorem dX9_same_66 : decode cX9_same 66 = .ok (.getfield 29, 3) := by decide +kernel
theorem dX9_same_69 : decode cX9_same 69 = .ok (.iload_n 3, 1) := by decide +kernel
theorem dX9_same_70 : decode cX9_same 70 = .ok (.laload, 1) := by decide +kernel
theorem dX9_same_71 : decode cX9_same 71 = .ok (.goto 4, 3) := by decide +kernel
theorem dX9_same_74 : decode cX9_same 74 = .ok (.lconst 0, 1) := by decide +kernel
theorem dX9_same_75 : decode cX9_same 75 = .ok (.invokevirtual 341, 3) := by decide +kernel
theorem dX9_same_78 : decode cX9_same 78 = .ok (.ifCond .ne 5, 3) := by decide +kernel
theorem dX9_same_81 : decode cX9_same 81 = .ok (.iload_n 3, 1) := by decide +kernel
theorem dX9_same_82 : decode cX9_same 82 = .ok (.ireturn, 1) := by decide +kernel
theorem dX9_same_83 : decode cX9_same 83 = .ok (.iinc 3 1, 3) := by decide +kernel
theorem dX9_same_86 : decode cX9_same 86 = .ok (.goto (-40), 3) := by decide +kernel
theorem dX9_same_89 : decode cX9_same 89 = .ok (.iconst (-1), 1) := by decide +kernel
theorem dX9_same_90 : decode cX9_same 90 = .ok (.ireturn, 1) := by decide +kernel
set_option maxRecDepth 20000 in
theorem ggX9_copy_X9_isSheet : GoodIn wsX9_copy wsX9_isSheet := goodIn_r _ [9, 10, 11, 12, 8, 13] (by decide +kernel) (by decide +kernel)
set_option maxRecDepth 20000 in
theorem gX9_copy_X9_isSheet : GoodIn wsX9_copy (va_wsS RX9 309 yX9_isSheet wsX9_isSheet) := goodIn_app (goodIn_of _ (by decide +kernel)) ggX9_copy_X9_isSheet
theorem dX9_copy_0 : decode cX9_copy 0 = .ok (.iload_n 1, 1) := by decide +kernel
theorem dX9_copy_1 : decode cX9_copy 1 = .ok (.invokestatic 309, 3) := by decide +kernel
theorem dX9_copy_4 : decode cX9_copy 4 = .ok (.ifCond .eq 10, 3) := by decide +kernel
theorem dX9_copy_7 : decode cX9_copy 7 = .ok (.iload_n 3, 1) := by decide +kernel
theorem dX9_copy_8 : decode cX9_copy 8 = .ok (.invokestatic 309, 3) := by decide +kernel
theorem dX9_copy_11 : decode cX9_copy 11 = .ok (.ifCond .ne 6, 3) := by decide +kernel
theorem dX9_copy_14 : decode cX9_copy 14 = .ok (.bipush (-2), 2) := by decide +kernel
theorem dX9_copy_16 : decode cX9_copy 16 = .ok (.ireturn, 1) := by decide +kernel
theorem dX9_copy_17 : decode cX9_copy 17 = .ok (.aload_n 0, 1) := by decide +kernel
theorem dX9_copy_18 : decode cX9_copy 18 = .ok (.getfield 65, 3) := by decide +kernel
theorem dX9_copy_21 : decode cX9_copy 21 = .ok (.iload_n 1, 1) := by decide +kernel
theorem dX9_copy_22 : decode cX9_copy 22 = .ok (.iaload, 1) := by decide +kernel
theorem dX9_copy_23 : decode cX9_copy 23 = .ok (.ifCond .lt 12, 3) := by decide +kernel
theorem dX9_copy_26 : decode cX9_copy 26 = .ok (.aload_n 0, 1) := by decide +kernel
theorem dX9_copy_27 : decode cX9_copy 27 = .ok (.getfield 65, 3) := by decide +kernel
theorem dX9_copy_30 : decode cX9_copy 30 = .ok (.iload_n 3, 1) := by decide +kernel
theorem dX9_copy_31 : decode cX9_copy 31 = .ok (.iaload, 1) := by decide +kernel
theorem dX9_copy_32 : decode cX9_copy 32 = .ok (.ifCond .ge 6, 3) := by decide +kernel
theorem dX9_copy_35 : decode cX9_copy 35 = .ok (.bipush (-11), 2) := by decide +kernel
theorem dX9_copy_37 : decode cX9_copy 37 = .ok (.ireturn, 1) := by decide +kernel
theorem dX9_copy_38 : decode cX9_copy 38 = .ok (.aload_n 0, 1) := by decide +kernel
theorem dX9_copy_39 : decode cX9_copy 39 = .ok (.getfield 65, 3) := by decide +kernel
theorem dX9_copy_42 : decode cX9_copy 42 = .ok (.iload_n 1, 1) := by decide +kernel
theorem dX9_copy_43 : decode cX9_copy 43 = .ok (.iaload, 1) := by decide +kernel
theorem dX9_copy_44 : decode cX9_copy 44 = .ok (.aload_n 0, 1) := by decide +kernel
theorem dX9_copy_45 : decode cX9_copy 45 = .ok (.getfield 65, 3) := by decide +kernel
theorem dX9_copy_48 : decode cX9_copy 48 = .ok (.iload_n 3, 1) := by decide +kernel
theorem dX9_copy_49 : decode cX9_copy 49 = .ok (.iaload, 1) := by decide +kernel
theorem dX9_copy_50 : decode cX9_copy 50 = .ok (.if_icmp .eq 6, 3) := by decide +kernel
theorem dX9_copy_53 : decode cX9_copy 53 = .ok (.bipush (-13), 2) := by decide +kernel
theorem dX9_copy_55 : decode cX9_copy 55 = .ok (.ireturn, 1) := by decide +kernel
theorem dX9_copy_56 : decode cX9_copy 56 = .ok (.iload 5, 2) := by decide +kernel
theorem dX9_copy_58 : decode cX9_copy 58 = .ok (.ifCond .lt 39, 3) := by decide +kernel
theorem dX9_copy_61 : decode cX9_copy 61 = .ok (.iload_n 2, 1) := by decide +kernel
theorem dX9_copy_62 : decode cX9_copy 62 = .ok (.ifCond .lt 35, 3) := by decide +kernel
theorem dX9_copy_65 : decode cX9_copy 65 = .ok (.iload 4, 2) := by decide +kernel
theorem dX9_copy_67 : decode cX9_copy 67 = .ok (.ifCond .lt 30, 3) := by decide +kernel
theorem dX9_copy_70 : decode cX9_copy 70 = .ok (.iload 5, 2) := by decide +kernel
theorem dX9_copy_72 : decode cX9_copy 72 = .ok (.aload_n 0, 1) := by decide +kernel
theorem dX9_copy_73 : decode cX9_copy 73 = .ok (.getfield 68, 3) := by decide +kernel
theorem dX9_copy_76 : decode cX9_copy 76 = .ok (.iload_n 1, 1) := by decide +kernel
theorem dX9_copy_77 : decode cX9_copy 77 = .ok (.iaload, 1) := by decide +kernel
theorem dX9_copy_78 : decode cX9_copy 78 = .ok (.iload_n 2, 1) := by decide +kernel
theorem dX9_copy_79 : decode cX9_copy 79 = .ok (.isub, 1) := by decide +kernel
theorem dX9_copy_80 : decode cX9_copy 80 = .ok (.if_icmp .gt 17, 3) := by decide +kernel
theorem dX9_copy_83 : decode cX9_copy 83 = .ok (.iload 5, 2) := by decide +kernel
theorem dX9_copy_85 : decode cX9_copy 85 = .ok (.aload_n 0, 1) := by decide +kernel
theorem dX9_copy_86 : decode cX9_copy 86 = .ok (.getfield 68, 3) := by decide +kernel
theorem dX9_copy_89 : decode cX9_copy 89 = .ok (.iload_n 3, 1) := by decide +kernel
theorem dX9_copy_90 : decode cX9_copy 90 = .ok (.iaload, 1) := by decide +kernel
theorem dX9_copy_91 : decode cX9_copy 91 = .ok (.iload 4, 2) := by decide +kernel
theorem dX9_copy_93 : decode cX9_copy 93 = .ok (.isub, 1) := by decide +kernel
theorem dX9_copy_94 : decode cX9_copy 94 = .ok (.if_icmp .le 6, 3) := by decide +kernel
theorem dX9_copy_97 : decode cX9_copy 97 = .ok (.bipush (-12), 2) := by decide +kernel
theorem dX9_copy_99 : decode cX9_copy 99 = .ok (.ireturn, 1) := by decide +kernel
theorem dX9_copy_100 : decode cX9_copy 100 = .ok (.iconst 0, 1) := by decide +kernel
theorem dX9_copy_101 : decode cX9_copy 101 = .ok (.istore 6, 2) := by decide +kernel
theorem dX9_copy_103 : decode cX9_copy 103 = .ok (.iload 6, 2) := by decide +kernel
theorem dX9_copy_105 : decode cX9_copy 105 = .ok (.iload 5, 2) := by decide +kernel
theorem dX9_copy_107 : decode cX9_copy 107 = .ok (.if_icmp .ge 94, 3) := by decide +kernel
theorem dX9_copy_110 : decode cX9_copy 110 = .ok (.iload_n 2, 1) := by decide +kernel
theorem dX9_copy_111 : decode cX9_copy 111 = .ok (.iload 4, 2) := by decide +kernel
theorem dX9_copy_113 : decode cX9_copy 113 = .ok (.if_icmp .le 8, 3) := by decide +kernel
theorem dX9_copy_116 : decode cX9_copy 116 = .ok (.iload 6, 2) := by decide +kernel
theorem dX9_copy_118 : decode cX9_copy 118 = .ok (.goto 10, 3) := by decide +kernel
theorem dX9_copy_121 : decode cX9_copy 121 = .ok (.iload 5, 2) := by decide +kernel
theorem dX9_copy_123 : decode cX9_copy 123 = .ok (.iconst 1, 1) := by decide +kernel
theorem dX9_copy_124 : decode cX9_copy 124 = .ok (.isub, 1) := by decide +kernel
theorem dX9_copy_125 : decode cX9_copy 125 = .ok (.iload 6, 2) := by decide +kernel
theorem dX9_copy_127 : decode cX9_copy 127 = .ok (.isub, 1) := by decide +kernel
theorem dX9_copy_128 : decode cX9_copy 128 = .ok (.istore 7, 2) := by decide +kernel
theorem dX9_copy_130 : decode cX9_copy 130 = .ok (.bipush 60, 2) := by decide +kernel
theorem dX9_copy_132 : decode cX9_copy 132 = .ok (.iload_n 1, 1) := by decide +kernel
theorem dX9_copy_133 : decode cX9_copy 133 = .ok (.imul, 1) := by decide +kernel
theorem dX9_copy_134 : decode cX9_copy 134 = .ok (.iload_n 2, 1) := by decide +kernel
theorem dX9_copy_135 : decode cX9_copy 135 = .ok (.iadd, 1) := by decide +kernel
theorem dX9_copy_136 : decode cX9_copy 136 = .ok (.iload 7, 2) := by decide +kernel
theorem dX9_copy_138 : decode cX9_copy 138 = .ok (.iadd, 1) := by decide +kernel
theorem dX9_copy_139 : decode cX9_copy 139 = .ok (.istore 8, 2) := by decide +kernel
theorem dX9_copy_141 : decode cX9_copy 141 = .ok (.bipush 60, 2) := by decide +kernel
theorem dX9_copy_143 : decode cX9_copy 143 = .ok (.iload_n 3, 1) := by decide +kernel
theorem dX9_copy_144 : decode cX9_copy 144 = .ok (.imul, 1) := by decide +kernel
theorem dX9_copy_145 : decode cX9_copy 145 = .ok (.iload 4, 2) := by decide +kernel
theorem dX9_copy_147 : decode cX9_copy 147 = .ok (.iadd, 1) := by decide +kernel
theorem dX9_copy_148 : decode cX9_copy 148 = .ok (.iload 7, 2) := by decide +kernel
theorem dX9_copy_150 : decode cX9_copy 150 = .ok (.iadd, 1) := by decide +kernel
theorem dX9_copy_151 : decode cX9_copy 151 = .ok (.istore 9, 2) := by decide +kernel
theorem dX9_copy_153 : decode cX9_copy 153 = .ok (.aload_n 0, 1) := by decide +kernel
theorem dX9_copy_154 : decode cX9_copy 154 = .ok (.getfield 71, 3) := by decide +kernel
theorem dX9_copy_157 : decode cX9_copy 157 = .ok (.iload 9, 2) := by decide +kernel
theorem dX9_copy_159 : decode cX9_copy 159 = .ok (.aload_n 0, 1) := by decide +kernel
theorem dX9_copy_160 : decode cX9_copy 160 = .ok (.getfield 71, 3) := by decide +kernel
theorem dX9_copy_163 : decode cX9_copy 163 = .ok (.iload 8, 2) := by decide +kernel
theorem dX9_copy_165 : decode cX9_copy 165 = .ok (.laload, 1) := by decide +kernel
theorem dX9_copy_166 : decode cX9_copy 166 = .ok (.lastore, 1) := by decide +kernel
theorem dX9_copy_167 : decode cX9_copy 167 = .ok (.aload_n 0, 1) := by decide +kernel
theorem dX9_copy_168 : decode cX9_copy 168 = .ok (.getfield 74, 3) := by decide +kernel
theorem dX9_copy_171 : decode cX9_copy 171 = .ok (.iload 9, 2) := by decide +kernel
theorem dX9_copy_173 : decode cX9_copy 173 = .ok (.aload_n 0, 1) := by decide +kernel
theorem dX9_copy_174 : decode cX9_copy 174 = .ok (.getfield 74, 3) := by decide +kernel
theorem dX9_copy_177 : decode cX9_copy 177 = .ok (.iload 8, 2) := by decide +kernel
theorem dX9_copy_179 : decode cX9_copy 179 = .ok (.faload, 1) := by decide +kernel
theorem dX9_copy_180 : decode cX9_copy 180 = .ok (.fastore, 1) := by decide +kernel
theorem dX9_copy_181 : decode cX9_copy 181 = .ok (.aload_n 0, 1) := by decide +kernel
theorem dX9_copy_182 : decode cX9_copy 182 = .ok (.getfield 78, 3) := by decide +kernel
theorem dX9_copy_185 : decode cX9_copy 185 = .ok (.iload 9, 2) := by decide +kernel
theorem dX9_copy_187 : decode cX9_copy 187 = .ok (.aload_n 0, 1) := by decide +kernel
theorem dX9_copy_188 : decode cX9_copy 188 = .ok (.getfield 78, 3) := by decide +kernel
theorem dX9_copy_191 : decode cX9_copy 191 = .ok (.iload 8, 2) := by decide +kernel
theorem dX9_copy_193 : decode cX9_copy 193 = .ok (.daload, 1) := by decide +kernel
theorem dX9_copy_194 : decode cX9_copy 194 = .ok (.dastore, 1) := by decide +kernel
theorem dX9_copy_195 : decode cX9_copy 195 = .ok (.iinc 6 1, 3) := by decide +kernel
theorem dX9_copy_198 : decode cX9_copy 198 = .ok (.goto (-95), 3) := by decide +kernel
theorem dX9_copy_201 : decode cX9_copy 201 = .ok (.iload 5, 2) := by decide +kernel
theorem dX9_copy_203 : decode cX9_copy 203 = .ok (.ireturn, 1) := by decide +kernel
set_option maxRecDepth 20000 in
theorem ggX9_build_X9_isSheet : GoodIn wsX9_build wsX9_isSheet := goodIn_r _ [9, 10, 11, 12, 8, 13] (by decide +kernel) (by decide +kernel)
set_option maxRecDepth 20000 in
theorem gX9_build_X9_isSheet : GoodIn wsX9_build (va_wsS RX9 309 yX9_isSheet wsX9_isSheet) := goodIn_app (goodIn_of _ (by decide +kernel)) ggX9_build_X9_isSheet
set_option maxRecDepth 20000 in
theorem ggX9_build_X9_in : GoodIn wsX9_build wsX9_in := goodIn_r _ [13] (by decide +kernel) (by decide +kernel)
set_option maxRecDepth 20000 in
theorem gX9_build_X9_in : GoodIn wsX9_build (va_wsS RX9 96 yX9_in wsX9_in) := goodIn_app (goodIn_of _ (by decide +kernel)) ggX9_build_X9_in
set_option maxRecDepth 20000 in
theorem ggX9_build_X9_line : GoodIn wsX9_build wsX9_line := goodIn_r _ [17, 18, 19, 20, 21, 22, 23, 24, 11, 12, 8, 13, 25, 26, 27, 28, 29, 30, 31, 32, 33, 34, 35, 36, 37, 38, 39, 40, 41, 42, 43, 44, 45, 46, 47, 48, 49, 50, 51, 52, 53, 54, 55, 56, 57, 58, 59, 60, 61, 62, 63, 64, 65, 66, 67, 68, 69, 70, 71, 72, 73, 74] (by decide +kernel) (by decide +kernel)
set_option maxRecDepth 20000 in
theorem gX9_build_X9_line : GoodIn wsX9_build (wsV RX9 347 RX9 yX9_line wsX9_line) := goodIn_app (goodIn_of _ (by decide +kernel)) ggX9_build_X9_line
theorem dX9_build_0 : decode cX9_build 0 = .ok (.iload_n 1, 1) := by decide +kernel
theorem dX9_build_1 : decode cX9_build 1 = .ok (.invokestatic 309, 3) := by decide +kernel
theorem dX9_build_4 : decode cX9_build 4 = .ok (.ifCond .eq 15, 3) := by decide +kernel
theorem dX9_build_7 : decode cX9_build 7 = .ok (.iload_n 3, 1) := by decide +kernel
theorem dX9_build_8 : decode cX9_build 8 = .ok (.i2l, 1) := by decide +kernel
theorem dX9_build_9 : decode cX9_build 9 = .ok (.lconst 0, 1) := by decide +kernel
theorem dX9_build_10 : decode cX9_build 10 = .ok (.ldc2_w 345, 3) := by decide +kernel
theorem dX9_build_13 : decode cX9_build 13 = .ok (.invokestatic 96, 3) := by decide +kernel
theorem dX9_build_16 : decode cX9_build 16 = .ok (.ifCond .ne 6, 3) := by decide +kernel
theorem dX9_build_19 : decode cX9_build 19 = .ok (.bipush (-2), 2) := by decide +kernel
theorem dX9_build_21 : decode cX9_build 21 = .ok (.ireturn, 1) := by decide +kernel
theorem dX9_build_22 : decode cX9_build 22 = .ok (.aload_n 0, 1) := by decide +kernel
theorem dX9_build_23 : decode cX9_build 23 = .ok (.getfield 65, 3) := by decide +kernel
theorem dX9_build_26 : decode cX9_build 26 = .ok (.iload_n 1, 1) := by decide +kernel
theorem dX9_build_27 : decode cX9_build 27 = .ok (.iaload, 1) := by decide +kernel
theorem dX9_build_28 : decode cX9_build 28 = .ok (.ifCond .ge 6, 3) := by decide +kernel
theorem dX9_build_31 : decode cX9_build 31 = .ok (.bipush (-11), 2) := by decide +kernel
theorem dX9_build_33 : decode cX9_build 33 = .ok (.ireturn, 1) := by decide +kernel
theorem dX9_build_34 : decode cX9_build 34 = .ok (.aload_n 0, 1) := by decide +kernel
theorem dX9_build_35 : decode cX9_build 35 = .ok (.getfield 65, 3) := by decide +kernel
theorem dX9_build_38 : decode cX9_build 38 = .ok (.iload_n 1, 1) := by decide +kernel
theorem dX9_build_39 : decode cX9_build 39 = .ok (.iaload, 1) := by decide +kernel
theorem dX9_build_40 : decode cX9_build 40 = .ok (.ifCond .eq 6, 3) := by decide +kernel
theorem dX9_build_43 : decode cX9_build 43 = .ok (.bipush (-13), 2) := by decide +kernel
theorem dX9_build_45 : decode cX9_build 45 = .ok (.ireturn, 1) := by decide +kernel
theorem dX9_build_46 : decode cX9_build 46 = .ok (.iconst 0, 1) := by decide +kernel
theorem dX9_build_47 : decode cX9_build 47 = .ok (.istore 4, 2) := by decide +kernel
theorem dX9_build_49 : decode cX9_build 49 = .ok (.iconst 0, 1) := by decide +kernel
theorem dX9_build_50 : decode cX9_build 50 = .ok (.istore 5, 2) := by decide +kernel
theorem dX9_build_52 : decode cX9_build 52 = .ok (.iload 5, 2) := by decide +kernel
theorem dX9_build_54 : decode cX9_build 54 = .ok (.iload_n 3, 1) := by decide +kernel
theorem dX9_build_55 : decode cX9_build 55 = .ok (.if_icmp .ge 107, 3) := by decide +kernel
theorem dX9_build_58 : decode cX9_build 58 = .ok (.iload_n 2, 1) := by decide +kernel
theorem dX9_build_59 : decode cX9_build 59 = .ok (.i2l, 1) := by decide +kernel
theorem dX9_build_60 : decode cX9_build 60 = .ok (.ldc2_w 321, 3) := by decide +kernel
theorem dX9_build_63 : decode cX9_build 63 = .ok (.iload 5, 2) := by decide +kernel
theorem dX9_build_65 : decode cX9_build 65 = .ok (.i2l, 1) := by decide +kernel
theorem dX9_build_66 : decode cX9_build 66 = .ok (.lmul, 1) := by decide +kernel
theorem dX9_build_67 : decode cX9_build 67 = .ok (.ladd, 1) := by decide +kernel
theorem dX9_build_68 : decode cX9_build 68 = .ok (.lstore 6, 2) := by decide +kernel
theorem dX9_build_70 : decode cX9_build 70 = .ok (.lload 6, 2) := by decide +kernel
theorem dX9_build_72 : decode cX9_build 72 = .ok (.lconst 0, 1) := by decide +kernel
theorem dX9_build_73 : decode cX9_build 73 = .ok (.aload_n 0, 1) := by decide +kernel
theorem dX9_build_74 : decode cX9_build 74 = .ok (.getfield 68, 3) := by decide +kernel
theorem dX9_build_77 : decode cX9_build 77 = .ok (.iload_n 1, 1) := by decide +kernel
theorem dX9_build_78 : decode cX9_build 78 = .ok (.iaload, 1) := by decide +kernel
theorem dX9_build_79 : decode cX9_build 79 = .ok (.iconst 4, 1) := by decide +kernel
theorem dX9_build_80 : decode cX9_build 80 = .ok (.isub, 1) := by decide +kernel
theorem dX9_build_81 : decode cX9_build 81 = .ok (.i2l, 1) := by decide +kernel
theorem dX9_build_82 : decode cX9_build 82 = .ok (.invokestatic 96, 3) := by decide +kernel
theorem dX9_build_85 : decode cX9_build 85 = .ok (.ifCond .ne 6, 3) := by decide +kernel
theorem dX9_build_88 : decode cX9_build 88 = .ok (.bipush (-12), 2) := by decide +kernel
theorem dX9_build_90 : decode cX9_build 90 = .ok (.ireturn, 1) := by decide +kernel
theorem dX9_build_91 : decode cX9_build 91 = .ok (.bipush 60, 2) := by decide +kernel
theorem dX9_build_93 : decode cX9_build 93 = .ok (.iload_n 1, 1) := by decide +kernel
theorem dX9_build_94 : decode cX9_build 94 = .ok (.imul, 1) := by decide +kernel
theorem dX9_build_95 : decode cX9_build 95 = .ok (.lload 6, 2) := by decide +kernel
theorem dX9_build_97 : decode cX9_build 97 = .ok (.l2i, 1) := by decide +kernel
theorem dX9_build_98 : decode cX9_build 98 = .ok (.iadd, 1) := by decide +kernel
theorem dX9_build_99 : decode cX9_build 99 = .ok (.istore 8, 2) := by decide +kernel
theorem dX9_build_101 : decode cX9_build 101 = .ok (.iload 4, 2) := by decide +kernel
theorem dX9_build_103 : decode cX9_build 103 = .ok (.aload_n 0, 1) := by decide +kernel
theorem dX9_build_104 : decode cX9_build 104 = .ok (.aload_n 0, 1) := by decide +kernel
theorem dX9_build_105 : decode cX9_build 105 = .ok (.getfield 71, 3) := by decide +kernel
theorem dX9_build_108 : decode cX9_build 108 = .ok (.iload 8, 2) := by decide +kernel
theorem dX9_build_110 : decode cX9_build 110 = .ok (.laload, 1) := by decide +kernel
theorem dX9_build_111 : decode cX9_build 111 = .ok (.l2i, 1) := by decide +kernel
theorem dX9_build_112 : decode cX9_build 112 = .ok (.aload_n 0, 1) := by decide +kernel
theorem dX9_build_113 : decode cX9_build 113 = .ok (.getfield 71, 3) := by decide +kernel
theorem dX9_build_116 : decode cX9_build 116 = .ok (.iload 8, 2) := by decide +kernel
theorem dX9_build_118 : decode cX9_build 118 = .ok (.iconst 1, 1) := by decide +kernel
theorem dX9_build_119 : decode cX9_build 119 = .ok (.iadd, 1) := by decide +kernel
theorem dX9_build_120 : decode cX9_build 120 = .ok (.laload, 1) := by decide +kernel
theorem dX9_build_121 : decode cX9_build 121 = .ok (.l2i, 1) := by decide +kernel
theorem dX9_build_122 : decode cX9_build 122 = .ok (.aload_n 0, 1) := by decide +kernel
theorem dX9_build_123 : decode cX9_build 123 = .ok (.getfield 71, 3) := by decide +kernel
theorem dX9_build_126 : decode cX9_build 126 = .ok (.iload 8, 2) := by decide +kernel
theorem dX9_build_128 : decode cX9_build 128 = .ok (.iconst 2, 1) := by decide +kernel
theorem dX9_build_129 : decode cX9_build 129 = .ok (.iadd, 1) := by decide +kernel
theorem dX9_build_130 : decode cX9_build 130 = .ok (.laload, 1) := by decide +kernel
theorem dX9_build_131 : decode cX9_build 131 = .ok (.l2i, 1) := by decide +kernel
theorem dX9_build_132 : decode cX9_build 132 = .ok (.aload_n 0, 1) := by decide +kernel
theorem dX9_build_133 : decode cX9_build 133 = .ok (.getfield 71, 3) := by decide +kernel
theorem dX9_build_136 : decode cX9_build 136 = .ok (.iload 8, 2) := by decide +kernel
theorem dX9_build_138 : decode cX9_build 138 = .ok (.iconst 3, 1) := by decide +kernel
theorem dX9_build_139 : decode cX9_build 139 = .ok (.iadd, 1) := by decide +kernel
theorem dX9_build_140 : decode cX9_build 140 = .ok (.laload, 1) := by decide +kernel
theorem dX9_build_141 : decode cX9_build 141 = .ok (.l2i, 1) := by decide +kernel
theorem dX9_build_142 : decode cX9_build 142 = .ok (.invokevirtual 347, 3) := by decide +kernel
theorem dX9_build_145 : decode cX9_build 145 = .ok (.ifCond .ge 7, 3) := by decide +kernel
theorem dX9_build_148 : decode cX9_build 148 = .ok (.iconst 0, 1) := by decide +kernel
theorem dX9_build_149 : decode cX9_build 149 = .ok (.goto 4, 3) := by decide +kernel
theorem dX9_build_152 : decode cX9_build 152 = .ok (.iconst 1, 1) := by decide +kernel
theorem dX9_build_153 : decode cX9_build 153 = .ok (.iadd, 1) := by decide +kernel
theorem dX9_build_154 : decode cX9_build 154 = .ok (.istore 4, 2) := by decide +kernel
theorem dX9_build_156 : decode cX9_build 156 = .ok (.iinc 5 1, 3) := by decide +kernel
theorem dX9_build_159 : decode cX9_build 159 = .ok (.goto (-107), 3) := by decide +kernel
theorem dX9_build_162 : decode cX9_build 162 = .ok (.iload 4, 2) := by decide +kernel
theorem dX9_build_164 : decode cX9_build 164 = .ok (.ireturn, 1) := by decide +kernel
theorem dX9_image_0 : decode cX9_image 0 = .ok (.aload_n 0, 1) := by decide +kernel
theorem dX9_image_1 : decode cX9_image 1 = .ok (.iconst 1, 1) := by decide +kernel
theorem dX9_image_2 : decode cX9_image 2 = .ok (.putfield 351, 3) := by decide +kernel
theorem dX9_image_5 : decode cX9_image 5 = .ok (.aload_n 0, 1) := by decide +kernel
theorem dX9_image_6 : decode cX9_image 6 = .ok (.getfield 22, 3) := by decide +kernel
theorem dX9_image_9 : decode cX9_image 9 = .ok (.iconst 0, 1) := by decide +kernel
theorem dX9_image_10 : decode cX9_image 10 = .ok (.aload_n 0, 1) := by decide +kernel
theorem dX9_image_11 : decode cX9_image 11 = .ok (.getfield 92, 3) := by decide +kernel
theorem dX9_image_14 : decode cX9_image 14 = .ok (.iastore, 1) := by decide +kernel
theorem dX9_image_15 : decode cX9_image 15 = .ok (.aload_n 0, 1) := by decide +kernel
theorem dX9_image_16 : decode cX9_image 16 = .ok (.getfield 22, 3) := by decide +kernel
theorem dX9_image_19 : decode cX9_image 19 = .ok (.iconst 1, 1) := by decide +kernel
theorem dX9_image_20 : decode cX9_image 20 = .ok (.aload_n 0, 1) := by decide +kernel
theorem dX9_image_21 : decode cX9_image 21 = .ok (.getfield 111, 3) := by decide +kernel
theorem dX9_image_24 : decode cX9_image 24 = .ok (.iastore, 1) := by decide +kernel
theorem dX9_image_25 : decode cX9_image 25 = .ok (.aload_n 0, 1) := by decide +kernel
theorem dX9_image_26 : decode cX9_image 26 = .ok (.getfield 22, 3) := by decide +kernel
theorem dX9_image_29 : decode cX9_image 29 = .ok (.iconst 2, 1) := by decide +kernel
theorem dX9_image_30 : decode cX9_image 30 = .ok (.aload_n 0, 1) := by decide +kernel
theorem dX9_image_31 : decode cX9_image 31 = .ok (.getfield 100, 3) := by decide +kernel
theorem dX9_image_34 : decode cX9_image 34 = .ok (.iastore, 1) := by decide +kernel
theorem dX9_image_35 : decode cX9_image 35 = .ok (.iconst 0, 1) := by decide +kernel
theorem dX9_image_36 : decode cX9_image 36 = .ok (.istore_n 1, 1) := by decide +kernel
theorem dX9_image_37 : decode cX9_image 37 = .ok (.iload_n 1, 1) := by decide +kernel
theorem dX9_image_38 : decode cX9_image 38 = .ok (.bipush 40, 2) := by decide +kernel
theorem dX9_image_40 : decode cX9_image 40 = .ok (.if_icmp .ge 74, 3) := by decide +kernel
theorem dX9_image_43 : decode cX9_image 43 = .ok (.aload_n 0, 1) := by decide +kernel
theorem dX9_image_44 : decode cX9_image 44 = .ok (.getfield 22, 3) := by decide +kernel
theorem dX9_image_47 : decode cX9_image 47 = .ok (.iconst 3, 1) := by decide +kernel
theorem dX9_image_48 : decode cX9_image 48 = .ok (.iconst 4, 1) := by decide +kernel
theorem dX9_image_49 : decode cX9_image 49 = .ok (.iload_n 1, 1) := by decide +kernel
theorem dX9_image_50 : decode cX9_image 50 = .ok (.imul, 1) := by decide +kernel
theorem dX9_image_51 : decode cX9_image 51 = .ok (.iadd, 1) := by decide +kernel
theorem dX9_image_52 : decode cX9_image 52 = .ok (.aload_n 0, 1) := by decide +kernel
theorem dX9_image_53 : decode cX9_image 53 = .ok (.getfield 9, 3) := by decide +kernel
theorem dX9_image_56 : decode cX9_image 56 = .ok (.iload_n 1, 1) := by decide +kernel
theorem dX9_image_57 : decode cX9_image 57 = .ok (.iaload, 1) := by decide +kernel
theorem dX9_image_58 : decode cX9_image 58 = .ok (.iastore, 1) := by decide +kernel
theorem dX9_image_59 : decode cX9_image 59 = .ok (.aload_n 0, 1) := by decide +kernel
theorem dX9_image_60 : decode cX9_image 60 = .ok (.getfield 22, 3) := by decide +kernel
theorem dX9_image_63 : decode cX9_image 63 = .ok (.iconst 4, 1) := by decide +kernel
theorem dX9_image_64 : decode cX9_image 64 = .ok (.iconst 4, 1) := by decide +kernel
theorem dX9_image_65 : decode cX9_image 65 = .ok (.iload_n 1, 1) := by decide +kernel
theorem dX9_image_66 : decode cX9_image 66 = .ok (.imul, 1) := by decide +kernel
theorem dX9_image_67 : decode cX9_image 67 = .ok (.iadd, 1) := by decide +kernel
theorem dX9_image_68 : decode cX9_image 68 = .ok (.aload_n 0, 1) := by decide +kernel
theorem dX9_image_69 : decode cX9_image 69 = .ok (.getfield 13, 3) := by decide +kernel
theorem dX9_image_72 : decode cX9_image 72 = .ok (.iload_n 1, 1) := by decide +kernel
theorem dX9_image_73 : decode cX9_image 73 = .ok (.iaload, 1) := by decide +kernel
theorem dX9_image_74 : decode cX9_image 74 = .ok (.iastore, 1) := by decide +kernel
theorem dX9_image_75 : decode cX9_image 75 = .ok (.aload_n 0, 1) := by decide +kernel
theorem dX9_image_76 : decode cX9_image 76 = .ok (.getfield 22, 3) := by decide +kernel
theorem dX9_image_79 : decode cX9_image 79 = .ok (.iconst 5, 1) := by decide +kernel
theorem dX9_image_80 : decode cX9_image 80 = .ok (.iconst 4, 1) := by decide +kernel
theorem dX9_image_81 : decode cX9_image 81 = .ok (.iload_n 1, 1) := by decide +kernel
theorem dX9_image_82 : decode cX9_image 82 = .ok (.imul, 1) := by decide +kernel
theorem dX9_image_83 : decode cX9_image 83 = .ok (.iadd, 1) := by decide +kernel
theorem dX9_image_84 : decode cX9_image 84 = .ok (.aload_n 0, 1) := by decide +kernel
theorem dX9_image_85 : decode cX9_image 85 = .ok (.getfield 16, 3) := by decide +kernel
theorem dX9_image_88 : decode cX9_image 88 = .ok (.iload_n 1, 1) := by decide +kernel
theorem dX9_image_89 : decode cX9_image 89 = .ok (.iaload, 1) := by decide +kernel
theorem dX9_image_90 : decode cX9_image 90 = .ok (.iastore, 1) := by decide +kernel
theorem dX9_image_91 : decode cX9_image 91 = .ok (.aload_n 0, 1) := by decide +kernel
theorem dX9_image_92 : decode cX9_image 92 = .ok (.getfield 22, 3) := by decide +kernel
theorem dX9_image_95 : decode cX9_image 95 = .ok (.bipush 6, 2) := by decide +kernel
theorem dX9_image_97 : decode cX9_image 97 = .ok (.iconst 4, 1) := by decide +kernel
theorem dX9_image_98 : decode cX9_image 98 = .ok (.iload_n 1, 1) := by decide +kernel
theorem dX9_image_99 : decode cX9_image 99 = .ok (.imul, 1) := by decide +kernel
theorem dX9_image_100 : decode cX9_image 100 = .ok (.iadd, 1) := by decide +kernel
theorem dX9_image_101 : decode cX9_image 101 = .ok (.aload_n 0, 1) := by decide +kernel
theorem dX9_image_102 : decode cX9_image 102 = .ok (.getfield 19, 3) := by decide +kernel
theorem dX9_image_105 : decode cX9_image 105 = .ok (.iload_n 1, 1) := by decide +kernel
theorem dX9_image_106 : decode cX9_image 106 = .ok (.iaload, 1) := by decide +kernel
theorem dX9_image_107 : decode cX9_image 107 = .ok (.iastore, 1) := by decide +kernel
theorem dX9_image_108 : decode cX9_image 108 = .ok (.iinc 1 1, 3) := by decide +kernel
theorem dX9_image_111 : decode cX9_image 111 = .ok (.goto (-74), 3) := by decide +kernel
theorem dX9_image_114 : decode cX9_image 114 = .ok (.aload_n 0, 1) := by decide +kernel
theorem dX9_image_115 : decode cX9_image 115 = .ok (.getfield 100, 3) := by decide +kernel
theorem dX9_image_118 : decode cX9_image 118 = .ok (.ireturn, 1) := by decide +kernel
theorem dX9_back_0 : decode cX9_back 0 = .ok (.aload_n 0, 1) := by decide +kernel
theorem dX9_back_1 : decode cX9_back 1 = .ok (.getfield 351, 3) := by decide +kernel
theorem dX9_back_4 : decode cX9_back 4 = .ok (.ifCond .ne 6, 3) := by decide +kernel
theorem dX9_back_7 : decode cX9_back 7 = .ok (.bipush (-3), 2) := by decide +kernel
theorem dX9_back_9 : decode cX9_back 9 = .ok (.ireturn, 1) := by decide +kernel
theorem dX9_back_10 : decode cX9_back 10 = .ok (.aload_n 0, 1) := by decide +kernel
theorem dX9_back_11 : decode cX9_back 11 = .ok (.aload_n 0, 1) := by decide +kernel
theorem dX9_back_12 : decode cX9_back 12 = .ok (.getfield 22, 3) := by decide +kernel
theorem dX9_back_15 : decode cX9_back 15 = .ok (.iconst 0, 1) := by decide +kernel
theorem dX9_back_16 : decode cX9_back 16 = .ok (.iaload, 1) := by decide +kernel
theorem dX9_back_17 : decode cX9_back 17 = .ok (.putfield 92, 3) := by decide +kernel
theorem dX9_back_20 : decode cX9_back 20 = .ok (.aload_n 0, 1) := by decide +kernel
theorem dX9_back_21 : decode cX9_back 21 = .ok (.aload_n 0, 1) := by decide +kernel
theorem dX9_back_22 : decode cX9_back 22 = .ok (.getfield 22, 3) := by decide +kernel
theorem dX9_back_25 : decode cX9_back 25 = .ok (.iconst 1, 1) := by decide +kernel
theorem dX9_back_26 : decode cX9_back 26 = .ok (.iaload, 1) := by decide +kernel
theorem dX9_back_27 : decode cX9_back 27 = .ok (.putfield 111, 3) := by decide +kernel
theorem dX9_back_30 : decode cX9_back 30 = .ok (.aload_n 0, 1) := by decide +kernel
theorem dX9_back_31 : decode cX9_back 31 = .ok (.aload_n 0, 1) := by decide +kernel
theorem dX9_back_32 : decode cX9_back 32 = .ok (.getfield 22, 3) := by decide +kernel
theorem dX9_back_35 : decode cX9_back 35 = .ok (.iconst 2, 1) := by decide +kernel
theorem dX9_back_36 : decode cX9_back 36 = .ok (.iaload, 1) := by decide +kernel
theorem dX9_back_37 : decode cX9_back 37 = .ok (.putfield 100, 3) := by decide +kernel
theorem dX9_back_40 : decode cX9_back 40 = .ok (.iconst 0, 1) := by decide +kernel
theorem dX9_back_41 : decode cX9_back 41 = .ok (.istore_n 1, 1) := by decide +kernel
theorem dX9_back_42 : decode cX9_back 42 = .ok (.iload_n 1, 1) := by decide +kernel
theorem dX9_back_43 : decode cX9_back 43 = .ok (.bipush 40, 2) := by decide +kernel
theorem dX9_back_45 : decode cX9_back 45 = .ok (.if_icmp .ge 74, 3) := by decide +kernel
theorem dX9_back_48 : decode cX9_back 48 = .ok (.aload_n 0, 1) := by decide +kernel
theorem dX9_back_49 : decode cX9_back 49 = .ok (.getfield 9, 3) := by decide +kernel
theorem dX9_back_52 : decode cX9_back 52 = .ok (.iload_n 1, 1) := by decide +kernel
theorem dX9_back_53 : decode cX9_back 53 = .ok (.aload_n 0, 1) := by decide +kernel
theorem dX9_back_54 : decode cX9_back 54 = .ok (.getfield 22, 3) := by decide +kernel
theorem dX9_back_57 : decode cX9_back 57 = .ok (.iconst 3, 1) := by decide +kernel
theorem dX9_back_58 : decode cX9_back 58 = .ok (.iconst 4, 1) := by decide +kernel
theorem dX9_back_59 : decode cX9_back 59 = .ok (.iload_n 1, 1) := by decide +kernel
theorem dX9_back_60 : decode cX9_back 60 = .ok (.imul, 1) := by decide +kernel
theorem dX9_back_61 : decode cX9_back 61 = .ok (.iadd, 1) := by decide +kernel
theorem dX9_back_62 : decode cX9_back 62 = .ok (.iaload, 1) := by decide +kernel
theorem dX9_back_63 : decode cX9_back 63 = .ok (.iastore, 1) := by decide +kernel
theorem dX9_back_64 : decode cX9_back 64 = .ok (.aload_n 0, 1) := by decide +kernel
theorem dX9_back_65 : decode cX9_back 65 = .ok (.getfield 13, 3) := by decide +kernel
theorem dX9_back_68 : decode cX9_back 68 = .ok (.iload_n 1, 1) := by decide +kernel
theorem dX9_back_69 : decode cX9_back 69 = .ok (.aload_n 0, 1) := by decide +kernel
theorem dX9_back_70 : decode cX9_back 70 = .ok (.getfield 22, 3) := by decide +kernel
theorem dX9_back_73 : decode cX9_back 73 = .ok (.iconst 4, 1) := by decide +kernel
theorem dX9_back_74 : decode cX9_back 74 = .ok (.iconst 4, 1) := by decide +kernel
theorem dX9_back_75 : decode cX9_back 75 = .ok (.iload_n 1, 1) := by decide +kernel
theorem dX9_back_76 : decode cX9_back 76 = .ok (.imul, 1) := by decide +kernel
theorem dX9_back_77 : decode cX9_back 77 = .ok (.iadd, 1) := by decide +kernel
theorem dX9_back_78 : decode cX9_back 78 = .ok (.iaload, 1) := by decide +kernel
theorem dX9_back_79 : decode cX9_back 79 = .ok (.iastore, 1) := by decide +kernel
theorem dX9_back_80 : decode cX9_back 80 = .ok (.aload_n 0, 1) := by decide +kernel
theorem dX9_back_81 : decode cX9_back 81 = .ok (.getfield 16, 3) := by decide +kernel
theorem dX9_back_84 : decode cX9_back 84 = .ok (.iload_n 1, 1) := by decide +kernel
theorem dX9_back_85 : decode cX9_back 85 = .ok (.aload_n 0, 1) := by decide +kernel
theorem dX9_back_86 : decode cX9_back 86 = .ok (.getfield 22, 3) := by decide +kernel
theorem dX9_back_89 : decode cX9_back 89 = .ok (.iconst 5, 1) := by decide +kernel
theorem dX9_back_90 : decode cX9_back 90 = .ok (.iconst 4, 1) := by decide +kernel
theorem dX9_back_91 : decode cX9_back 91 = .ok (.iload_n 1, 1) := by decide +kernel
theorem dX9_back_92 : decode cX9_back 92 = .ok (.imul, 1) := by decide +kernel
theorem dX9_back_93 : decode cX9_back 93 = .ok (.iadd, 1) := by decide +kernel
theorem dX9_back_94 : decode cX9_back 94 = .ok (.iaload, 1) := by decide +kernel
theorem dX9_back_95 : decode cX9_back 95 = .ok (.iastore, 1) := by decide +kernel
theorem dX9_back_96 : decode cX9_back 96 = .ok (.aload_n 0, 1) := by decide +kernel
theorem dX9_back_97 : decode cX9_back 97 = .ok (.getfield 19, 3) := by decide +kernel
theorem dX9_back_100 : decode cX9_back 100 = .ok (.iload_n 1, 1) := by decide +kernel
theorem dX9_back_101 : decode cX9_back 101 = .ok (.aload_n 0, 1) := by decide +kernel
theorem dX9_back_102 : decode cX9_back 102 = .ok (.getfield 22, 3) := by decide +kernel
theorem dX9_back_105 : decode cX9_back 105 = .ok (.bipush 6, 2) := by decide +kernel
theorem dX9_back_107 : decode cX9_back 107 = .ok (.iconst 4, 1) := by decide +kernel
theorem dX9_back_108 : decode cX9_back 108 = .ok (.iload_n 1, 1) := by decide +kernel
theorem dX9_back_109 : decode cX9_back 109 = .ok (.imul, 1) := by decide +kernel
theorem dX9_back_110 : decode cX9_back 110 = .ok (.iadd, 1) := by decide +kernel
theorem dX9_back_111 : decode cX9_back 111 = .ok (.iaload, 1) := by decide +kernel
theorem dX9_back_112 : decode cX9_back 112 = .ok (.iastore, 1) := by decide +kernel
theorem dX9_back_113 : decode cX9_back 113 = .ok (.iinc 1 1, 3) := by decide +kernel
theorem dX9_back_116 : decode cX9_back 116 = .ok (.goto (-74), 3) := by decide +kernel
theorem dX9_back_119 : decode cX9_back 119 = .ok (.aload_n 0, 1) := by decide +kernel
theorem dX9_back_120 : decode cX9_back 120 = .ok (.getfield 100, 3) := by decide +kernel
theorem dX9_back_123 : decode cX9_back 123 = .ok (.ireturn, 1) := by decide +kernel
theorem dX9_count_0 : decode cX9_count 0 = .ok (.iload_n 1, 1) := by decide +kernel
theorem dX9_count_1 : decode cX9_count 1 = .ok (.tableswitch 51 0 3 #[31, 36, 41, 46], 31) := by decide +kernel
theorem dX9_count_32 : decode cX9_count 32 = .ok (.aload_n 0, 1) := by decide +kernel
theorem dX9_count_33 : decode cX9_count 33 = .ok (.getfield 92, 3) := by decide +kernel
theorem dX9_count_36 : decode cX9_count 36 = .ok (.ireturn, 1) := by decide +kernel
theorem dX9_count_37 : decode cX9_count 37 = .ok (.aload_n 0, 1) := by decide +kernel
theorem dX9_count_38 : decode cX9_count 38 = .ok (.getfield 100, 3) := by decide +kernel
theorem dX9_count_41 : decode cX9_count 41 = .ok (.ireturn, 1) := by decide +kernel
theorem dX9_count_42 : decode cX9_count 42 = .ok (.aload_n 0, 1) := by decide +kernel
theorem dX9_count_43 : decode cX9_count 43 = .ok (.getfield 111, 3) := by decide +kernel
theorem dX9_count_46 : decode cX9_count 46 = .ok (.ireturn, 1) := by decide +kernel
theorem dX9_count_47 : decode cX9_count 47 = .ok (.aload_n 0, 1) := by decide +kernel
theorem dX9_count_48 : decode cX9_count 48 = .ok (.getfield 246, 3) := by decide +kernel
theorem dX9_count_51 : decode cX9_count 51 = .ok (.ireturn, 1) := by decide +kernel
theorem dX9_count_52 : decode cX9_count 52 = .ok (.bipush (-2), 2) := by decide +kernel
theorem dX9_count_54 : decode cX9_count 54 = .ok (.ireturn, 1) := by decide +kernel
theorem dJxe99ae_isNaN_b9ae7_0 : decode cJxe99ae_isNaN_b9ae7 0 = .ok (.dload_n 0, 1) := by decide +kernel
theorem dJxe99ae_isNaN_b9ae7_1 : decode cJxe99ae_isNaN_b9ae7 1 = .ok (.dload_n 0, 1) := by decide +kernel
theorem dJxe99ae_isNaN_b9ae7_2 : decode cJxe99ae_isNaN_b9ae7 2 = .ok (.dcmp .l, 1) := by decide +kernel
theorem dJxe99ae_isNaN_b9ae7_3 : decode cJxe99ae_isNaN_b9ae7 3 = .ok (.ifCond .eq 7, 3) := by decide +kernel
theorem dJxe99ae_isNaN_b9ae7_6 : decode cJxe99ae_isNaN_b9ae7 6 = .ok (.iconst 1, 1) := by decide +kernel
theorem dJxe99ae_isNaN_b9ae7_7 : decode cJxe99ae_isNaN_b9ae7 7 = .ok (.goto 4, 3) := by decide +kernel
theorem dJxe99ae_isNaN_b9ae7_10 : decode cJxe99ae_isNaN_b9ae7 10 = .ok (.iconst 0, 1) := by decide +kernel
theorem dJxe99ae_isNaN_b9ae7_11 : decode cJxe99ae_isNaN_b9ae7 11 = .ok (.ireturn, 1) := by decide +kernel
set_option maxRecDepth 20000 in
theorem ggJxe99ae_doubleToLongBits_ccdee_Jxe99ae_isNaN_b9ae7 : GoodIn wsJxe99ae_doubleToLongBits_ccdee wsJxe99ae_isNaN_b9ae7 := goodIn_r _ [9] (by decide +kernel) (by decide +kernel)
set_option maxRecDepth 20000 in
theorem gJxe99ae_doubleToLongBits_ccdee_Jxe99ae_isNaN_b9ae7 : GoodIn wsJxe99ae_doubleToLongBits_ccdee (va_wsS RJxe99ae 122 yJxe99ae_isNaN_b9ae7 wsJxe99ae_isNaN_b9ae7) := goodIn_app (goodIn_of _ (by decide +kernel)) ggJxe99ae_doubleToLongBits_ccdee_Jxe99ae_isNaN_b9ae7
theorem dJxe99ae_doubleToLongBits_ccdee_0 : decode cJxe99ae_doubleToLongBits_ccdee 0 = .ok (.dload_n 0, 1) := by decide +kernel
theorem dJxe99ae_doubleToLongBits_ccdee_1 : decode cJxe99ae_doubleToLongBits_ccdee 1 = .ok (.invokestatic 122, 3) := by decide +kernel
theorem dJxe99ae_doubleToLongBits_ccdee_4 : decode cJxe99ae_doubleToLongBits_ccdee 4 = .ok (.ifCond .ne 8, 3) := by decide +kernel
theorem dJxe99ae_doubleToLongBits_ccdee_7 : decode cJxe99ae_doubleToLongBits_ccdee 7 = .ok (.dload_n 0, 1) := by decide +kernel
theorem dJxe99ae_doubleToLongBits_ccdee_8 : decode cJxe99ae_doubleToLongBits_ccdee 8 = .ok (.invokestatic 134, 3) := by decide +kernel
theorem dJxe99ae_doubleToLongBits_ccdee_11 : decode cJxe99ae_doubleToLongBits_ccdee 11 = .ok (.lreturn, 1) := by decide +kernel
theorem dJxe99ae_doubleToLongBits_ccdee_12 : decode cJxe99ae_doubleToLongBits_ccdee 12 = .ok (.ldc2_w 137, 3) := by decide +kernel
theorem dJxe99ae_doubleToLongBits_ccdee_15 : decode cJxe99ae_doubleToLongBits_ccdee 15 = .ok (.lreturn, 1) := by decide +kernel
theorem dJxf58ca_isNaN_12338_0 : decode cJxf58ca_isNaN_12338 0 = .ok (.fload_n 0, 1) := by decide +kernel
theorem dJxf58ca_isNaN_12338_1 : decode cJxf58ca_isNaN_12338 1 = .ok (.fload_n 0, 1) := by decide +kernel
theorem dJxf58ca_isNaN_12338_2 : decode cJxf58ca_isNaN_12338 2 = .ok (.fcmp .l, 1) := by decide +kernel
theorem dJxf58ca_isNaN_12338_3 : decode cJxf58ca_isNaN_12338 3 = .ok (.ifCond .eq 7, 3) := by decide +kernel
theorem dJxf58ca_isNaN_12338_6 : decode cJxf58ca_isNaN_12338 6 = .ok (.iconst 1, 1) := by decide +kernel
theorem dJxf58ca_isNaN_12338_7 : decode cJxf58ca_isNaN_12338 7 = .ok (.goto 4, 3) := by decide +kernel
theorem dJxf58ca_isNaN_12338_10 : decode cJxf58ca_isNaN_12338 10 = .ok (.iconst 0, 1) := by decide +kernel
theorem dJxf58ca_isNaN_12338_11 : decode cJxf58ca_isNaN_12338 11 = .ok (.ireturn, 1) := by decide +kernel
set_option maxRecDepth 20000 in
theorem ggJxf58ca_floatToIntBits_5c35a_Jxf58ca_isNaN_12338 : GoodIn wsJxf58ca_floatToIntBits_5c35a wsJxf58ca_isNaN_12338 := goodIn_r _ [9] (by decide +kernel) (by decide +kernel)
set_option maxRecDepth 20000 in
theorem gJxf58ca_floatToIntBits_5c35a_Jxf58ca_isNaN_12338 : GoodIn wsJxf58ca_floatToIntBits_5c35a (va_wsS RJxf58ca 59 yJxf58ca_isNaN_12338 wsJxf58ca_isNaN_12338) := goodIn_app (goodIn_of _ (by decide +kernel)) ggJxf58ca_floatToIntBits_5c35a_Jxf58ca_isNaN_12338
theorem dJxf58ca_floatToIntBits_5c35a_0 : decode cJxf58ca_floatToIntBits_5c35a 0 = .ok (.fload_n 0, 1) := by decide +kernel
theorem dJxf58ca_floatToIntBits_5c35a_1 : decode cJxf58ca_floatToIntBits_5c35a 1 = .ok (.invokestatic 59, 3) := by decide +kernel
theorem dJxf58ca_floatToIntBits_5c35a_4 : decode cJxf58ca_floatToIntBits_5c35a 4 = .ok (.ifCond .ne 8, 3) := by decide +kernel
theorem dJxf58ca_floatToIntBits_5c35a_7 : decode cJxf58ca_floatToIntBits_5c35a 7 = .ok (.fload_n 0, 1) := by decide +kernel
theorem dJxf58ca_floatToIntBits_5c35a_8 : decode cJxf58ca_floatToIntBits_5c35a 8 = .ok (.invokestatic 74, 3) := by decide +kernel
theorem dJxf58ca_floatToIntBits_5c35a_11 : decode cJxf58ca_floatToIntBits_5c35a 11 = .ok (.ireturn, 1) := by decide +kernel
theorem dJxf58ca_floatToIntBits_5c35a_12 : decode cJxf58ca_floatToIntBits_5c35a 12 = .ok (.ldc 77, 2) := by decide +kernel
theorem dJxf58ca_floatToIntBits_5c35a_14 : decode cJxf58ca_floatToIntBits_5c35a 14 = .ok (.ireturn, 1) := by decide +kernel
theorem dJ6_bitCount_0f7a4_0 : decode cJ6_bitCount_0f7a4 0 = .ok (.iload_n 0, 1) := by decide +kernel
theorem dJ6_bitCount_0f7a4_1 : decode cJ6_bitCount_0f7a4 1 = .ok (.iload_n 0, 1) := by decide +kernel
theorem dJ6_bitCount_0f7a4_2 : decode cJ6_bitCount_0f7a4 2 = .ok (.iconst 1, 1) := by decide +kernel
theorem dJ6_bitCount_0f7a4_3 : decode cJ6_bitCount_0f7a4 3 = .ok (.iushr, 1) := by decide +kernel
theorem dJ6_bitCount_0f7a4_4 : decode cJ6_bitCount_0f7a4 4 = .ok (.ldc_w 265, 3) := by decide +kernel
theorem dJ6_bitCount_0f7a4_7 : decode cJ6_bitCount_0f7a4 7 = .ok (.iand, 1) := by decide +kernel
theorem dJ6_bitCount_0f7a4_8 : decode cJ6_bitCount_0f7a4 8 = .ok (.isub, 1) := by decide +kernel
theorem dJ6_bitCount_0f7a4_9 : decode cJ6_bitCount_0f7a4 9 = .ok (.istore_n 0, 1) := by decide +kernel
theorem dJ6_bitCount_0f7a4_10 : decode cJ6_bitCount_0f7a4 10 = .ok (.iload_n 0, 1) := by decide +kernel
theorem dJ6_bitCount_0f7a4_11 : decode cJ6_bitCount_0f7a4 11 = .ok (.ldc_w 266, 3) := by decide +kernel
theorem dJ6_bitCount_0f7a4_14 : decode cJ6_bitCount_0f7a4 14 = .ok (.iand, 1) := by decide +kernel
theorem dJ6_bitCount_0f7a4_15 : decode cJ6_bitCount_0f7a4 15 = .ok (.iload_n 0, 1) := by decide +kernel
theorem dJ6_bitCount_0f7a4_16 : decode cJ6_bitCount_0f7a4 16 = .ok (.iconst 2, 1) := by decide +kernel
theorem dJ6_bitCount_0f7a4_17 : decode cJ6_bitCount_0f7a4 17 = .ok (.iushr, 1) := by decide +kernel
theorem dJ6_bitCount_0f7a4_18 : decode cJ6_bitCount_0f7a4 18 = .ok (.ldc_w 266, 3) := by decide +kernel
theorem dJ6_bitCount_0f7a4_21 : decode cJ6_bitCount_0f7a4 21 = .ok (.iand, 1) := by decide +kernel
theorem dJ6_bitCount_0f7a4_22 : decode cJ6_bitCount_0f7a4 22 = .ok (.iadd, 1) := by decide +kernel
theorem dJ6_bitCount_0f7a4_23 : decode cJ6_bitCount_0f7a4 23 = .ok (.istore_n 0, 1) := by decide +kernel
theorem dJ6_bitCount_0f7a4_24 : decode cJ6_bitCount_0f7a4 24 = .ok (.iload_n 0, 1) := by decide +kernel
theorem dJ6_bitCount_0f7a4_25 : decode cJ6_bitCount_0f7a4 25 = .ok (.iload_n 0, 1) := by decide +kernel
theorem dJ6_bitCount_0f7a4_26 : decode cJ6_bitCount_0f7a4 26 = .ok (.iconst 4, 1) := by decide +kernel
theorem dJ6_bitCount_0f7a4_27 : decode cJ6_bitCount_0f7a4 27 = .ok (.iushr, 1) := by decide +kernel
theorem dJ6_bitCount_0f7a4_28 : decode cJ6_bitCount_0f7a4 28 = .ok (.iadd, 1) := by decide +kernel
theorem dJ6_bitCount_0f7a4_29 : decode cJ6_bitCount_0f7a4 29 = .ok (.ldc_w 267, 3) := by decide +kernel
theorem dJ6_bitCount_0f7a4_32 : decode cJ6_bitCount_0f7a4 32 = .ok (.iand, 1) := by decide +kernel
theorem dJ6_bitCount_0f7a4_33 : decode cJ6_bitCount_0f7a4 33 = .ok (.istore_n 0, 1) := by decide +kernel
theorem dJ6_bitCount_0f7a4_34 : decode cJ6_bitCount_0f7a4 34 = .ok (.iload_n 0, 1) := by decide +kernel
theorem dJ6_bitCount_0f7a4_35 : decode cJ6_bitCount_0f7a4 35 = .ok (.iload_n 0, 1) := by decide +kernel
theorem dJ6_bitCount_0f7a4_36 : decode cJ6_bitCount_0f7a4 36 = .ok (.bipush 8, 2) := by decide +kernel
theorem dJ6_bitCount_0f7a4_38 : decode cJ6_bitCount_0f7a4 38 = .ok (.iushr, 1) := by decide +kernel
theorem dJ6_bitCount_0f7a4_39 : decode cJ6_bitCount_0f7a4 39 = .ok (.iadd, 1) := by decide +kernel
theorem dJ6_bitCount_0f7a4_40 : decode cJ6_bitCount_0f7a4 40 = .ok (.istore_n 0, 1) := by decide +kernel
theorem dJ6_bitCount_0f7a4_41 : decode cJ6_bitCount_0f7a4 41 = .ok (.iload_n 0, 1) := by decide +kernel
theorem dJ6_bitCount_0f7a4_42 : decode cJ6_bitCount_0f7a4 42 = .ok (.iload_n 0, 1) := by decide +kernel
theorem dJ6_bitCount_0f7a4_43 : decode cJ6_bitCount_0f7a4 43 = .ok (.bipush 16, 2) := by decide +kernel
theorem dJ6_bitCount_0f7a4_45 : decode cJ6_bitCount_0f7a4 45 = .ok (.iushr, 1) := by decide +kernel
theorem dJ6_bitCount_0f7a4_46 : decode cJ6_bitCount_0f7a4 46 = .ok (.iadd, 1) := by decide +kernel
theorem dJ6_bitCount_0f7a4_47 : decode cJ6_bitCount_0f7a4 47 = .ok (.istore_n 0, 1) := by decide +kernel
theorem dJ6_bitCount_0f7a4_48 : decode cJ6_bitCount_0f7a4 48 = .ok (.iload_n 0, 1) := by decide +kernel
theorem dJ6_bitCount_0f7a4_49 : decode cJ6_bitCount_0f7a4 49 = .ok (.bipush 63, 2) := by decide +kernel
theorem dJ6_bitCount_0f7a4_51 : decode cJ6_bitCount_0f7a4 51 = .ok (.iand, 1) := by decide +kernel
theorem dJ6_bitCount_0f7a4_52 : decode cJ6_bitCount_0f7a4 52 = .ok (.ireturn, 1) := by decide +kernel
theorem dJ13_compare_74951_0 : decode cJ13_compare_74951 0 = .ok (.lload_n 0, 1) := by decide +kernel
theorem dJ13_compare_74951_1 : decode cJ13_compare_74951 1 = .ok (.lload_n 2, 1) := by decide +kernel
theorem dJ13_compare_74951_2 : decode cJ13_compare_74951 2 = .ok (.lcmp, 1) := by decide +kernel
theorem dJ13_compare_74951_3 : decode cJ13_compare_74951 3 = .ok (.ifCond .ge 7, 3) := by decide +kernel
theorem dJ13_compare_74951_6 : decode cJ13_compare_74951 6 = .ok (.iconst (-1), 1) := by decide +kernel
theorem dJ13_compare_74951_7 : decode cJ13_compare_74951 7 = .ok (.goto 14, 3) := by decide +kernel
theorem dJ13_compare_74951_10 : decode cJ13_compare_74951 10 = .ok (.lload_n 0, 1) := by decide +kernel
theorem dJ13_compare_74951_11 : decode cJ13_compare_74951 11 = .ok (.lload_n 2, 1) := by decide +kernel
theorem dJ13_compare_74951_12 : decode cJ13_compare_74951 12 = .ok (.lcmp, 1) := by decide +kernel
theorem dJ13_compare_74951_13 : decode cJ13_compare_74951 13 = .ok (.ifCond .ne 7, 3) := by decide +kernel
theorem dJ13_compare_74951_16 : decode cJ13_compare_74951 16 = .ok (.iconst 0, 1) := by decide +kernel
theorem dJ13_compare_74951_17 : decode cJ13_compare_74951 17 = .ok (.goto 4, 3) := by decide +kernel
theorem dJ13_compare_74951_20 : decode cJ13_compare_74951 20 = .ok (.iconst 1, 1) := by decide +kernel
theorem dJ13_compare_74951_21 : decode cJ13_compare_74951 21 = .ok (.ireturn, 1) := by decide +kernel
theorem dJ13_bitCount_95d88_0 : decode cJ13_bitCount_95d88 0 = .ok (.lload_n 0, 1) := by decide +kernel
theorem dJ13_bitCount_95d88_1 : decode cJ13_bitCount_95d88 1 = .ok (.lload_n 0, 1) := by decide +kernel
theorem dJ13_bitCount_95d88_2 : decode cJ13_bitCount_95d88 2 = .ok (.iconst 1, 1) := by decide +kernel
theorem dJ13_bitCount_95d88_3 : decode cJ13_bitCount_95d88 3 = .ok (.lushr, 1) := by decide +kernel
theorem dJ13_bitCount_95d88_4 : decode cJ13_bitCount_95d88 4 = .ok (.ldc2_w 314, 3) := by decide +kernel
theorem dJ13_bitCount_95d88_7 : decode cJ13_bitCount_95d88 7 = .ok (.land, 1) := by decide +kernel
theorem dJ13_bitCount_95d88_8 : decode cJ13_bitCount_95d88 8 = .ok (.lsub, 1) := by decide +kernel
theorem dJ13_bitCount_95d88_9 : decode cJ13_bitCount_95d88 9 = .ok (.lstore_n 0, 1) := by decide +kernel
theorem dJ13_bitCount_95d88_10 : decode cJ13_bitCount_95d88 10 = .ok (.lload_n 0, 1) := by decide +kernel
theorem dJ13_bitCount_95d88_11 : decode cJ13_bitCount_95d88 11 = .ok (.ldc2_w 316, 3) := by decide +kernel
theorem dJ13_bitCount_95d88_14 : decode cJ13_bitCount_95d88 14 = .ok (.land, 1) := by decide +kernel
theorem dJ13_bitCount_95d88_15 : decode cJ13_bitCount_95d88 15 = .ok (.lload_n 0, 1) := by decide +kernel
theorem dJ13_bitCount_95d88_16 : decode cJ13_bitCount_95d88 16 = .ok (.iconst 2, 1) := by decide +kernel
theorem dJ13_bitCount_95d88_17 : decode cJ13_bitCount_95d88 17 = .ok (.lushr, 1) := by decide +kernel
theorem dJ13_bitCount_95d88_18 : decode cJ13_bitCount_95d88 18 = .ok (.ldc2_w 316, 3) := by decide +kernel
theorem dJ13_bitCount_95d88_21 : decode cJ13_bitCount_95d88 21 = .ok (.land, 1) := by decide +kernel
theorem dJ13_bitCount_95d88_22 : decode cJ13_bitCount_95d88 22 = .ok (.ladd, 1) := by decide +kernel
theorem dJ13_bitCount_95d88_23 : decode cJ13_bitCount_95d88 23 = .ok (.lstore_n 0, 1) := by decide +kernel
theorem dJ13_bitCount_95d88_24 : decode cJ13_bitCount_95d88 24 = .ok (.lload_n 0, 1) := by decide +kernel
theorem dJ13_bitCount_95d88_25 : decode cJ13_bitCount_95d88 25 = .ok (.lload_n 0, 1) := by decide +kernel
theorem dJ13_bitCount_95d88_26 : decode cJ13_bitCount_95d88 26 = .ok (.iconst 4, 1) := by decide +kernel
theorem dJ13_bitCount_95d88_27 : decode cJ13_bitCount_95d88 27 = .ok (.lushr, 1) := by decide +kernel
theorem dJ13_bitCount_95d88_28 : decode cJ13_bitCount_95d88 28 = .ok (.ladd, 1) := by decide +kernel
theorem dJ13_bitCount_95d88_29 : decode cJ13_bitCount_95d88 29 = .ok (.ldc2_w 318, 3) := by decide +kernel
theorem dJ13_bitCount_95d88_32 : decode cJ13_bitCount_95d88 32 = .ok (.land, 1) := by decide +kernel
theorem dJ13_bitCount_95d88_33 : decode cJ13_bitCount_95d88 33 = .ok (.lstore_n 0, 1) := by decide +kernel
theorem dJ13_bitCount_95d88_34 : decode cJ13_bitCount_95d88 34 = .ok (.lload_n 0, 1) := by decide +kernel
theorem dJ13_bitCount_95d88_35 : decode cJ13_bitCount_95d88 35 = .ok (.lload_n 0, 1) := by decide +kernel
theorem dJ13_bitCount_95d88_36 : decode cJ13_bitCount_95d88 36 = .ok (.bipush 8, 2) := by decide +kernel
theorem dJ13_bitCount_95d88_38 : decode cJ13_bitCount_95d88 38 = .ok (.lushr, 1) := by decide +kernel
theorem dJ13_bitCount_95d88_39 : decode cJ13_bitCount_95d88 39 = .ok (.ladd, 1) := by decide +kernel
theorem dJ13_bitCount_95d88_40 : decode cJ13_bitCount_95d88 40 = .ok (.lstore_n 0, 1) := by decide +kernel
theorem dJ13_bitCount_95d88_41 : decode cJ13_bitCount_95d88 41 = .ok (.lload_n 0, 1) := by decide +kernel
theorem dJ13_bitCount_95d88_42 : decode cJ13_bitCount_95d88 42 = .ok (.lload_n 0, 1) := by decide +kernel
theorem dJ13_bitCount_95d88_43 : decode cJ13_bitCount_95d88 43 = .ok (.bipush 16, 2) := by decide +kernel
theorem dJ13_bitCount_95d88_45 : decode cJ13_bitCount_95d88 45 = .ok (.lushr, 1) := by decide +kernel
theorem dJ13_bitCount_95d88_46 : decode cJ13_bitCount_95d88 46 = .ok (.ladd, 1) := by decide +kernel
theorem dJ13_bitCount_95d88_47 : decode cJ13_bitCount_95d88 47 = .ok (.lstore_n 0, 1) := by decide +kernel
theorem dJ13_bitCount_95d88_48 : decode cJ13_bitCount_95d88 48 = .ok (.lload_n 0, 1) := by decide +kernel
theorem dJ13_bitCount_95d88_49 : decode cJ13_bitCount_95d88 49 = .ok (.lload_n 0, 1) := by decide +kernel
theorem dJ13_bitCount_95d88_50 : decode cJ13_bitCount_95d88 50 = .ok (.bipush 32, 2) := by decide +kernel
theorem dJ13_bitCount_95d88_52 : decode cJ13_bitCount_95d88 52 = .ok (.lushr, 1) := by decide +kernel
theorem dJ13_bitCount_95d88_53 : decode cJ13_bitCount_95d88 53 = .ok (.ladd, 1) := by decide +kernel
theorem dJ13_bitCount_95d88_54 : decode cJ13_bitCount_95d88 54 = .ok (.lstore_n 0, 1) := by decide +kernel
theorem dJ13_bitCount_95d88_55 : decode cJ13_bitCount_95d88 55 = .ok (.lload_n 0, 1) := by decide +kernel
theorem dJ13_bitCount_95d88_56 : decode cJ13_bitCount_95d88 56 = .ok (.l2i, 1) := by decide +kernel
theorem dJ13_bitCount_95d88_57 : decode cJ13_bitCount_95d88 57 = .ok (.bipush 127, 2) := by decide +kernel
theorem dJ13_bitCount_95d88_59 : decode cJ13_bitCount_95d88 59 = .ok (.iand, 1) := by decide +kernel
theorem dJ13_bitCount_95d88_60 : decode cJ13_bitCount_95d88 60 = .ok (.ireturn, 1) := by decide +kernel
theorem dJ9_max_7cf53_0 : decode cJ9_max_7cf53 0 = .ok (.iload_n 0, 1) := by decide +kernel
theorem dJ9_max_7cf53_1 : decode cJ9_max_7cf53 1 = .ok (.iload_n 1, 1) := by decide +kernel
theorem dJ9_max_7cf53_2 : decode cJ9_max_7cf53 2 = .ok (.if_icmp .lt 7, 3) := by decide +kernel
theorem dJ9_max_7cf53_5 : decode cJ9_max_7cf53 5 = .ok (.iload_n 0, 1) := by decide +kernel
theorem dJ9_max_7cf53_6 : decode cJ9_max_7cf53 6 = .ok (.goto 4, 3) := by decide +kernel
theorem dJ9_max_7cf53_9 : decode cJ9_max_7cf53 9 = .ok (.iload_n 1, 1) := by decide +kernel
theorem dJ9_max_7cf53_10 : decode cJ9_max_7cf53 10 = .ok (.ireturn, 1) := by decide +kernel
theorem dJ9_min_7cf53_0 : decode cJ9_min_7cf53 0 = .ok (.iload_n 0, 1) := by decide +kernel
theorem dJ9_min_7cf53_1 : decode cJ9_min_7cf53 1 = .ok (.iload_n 1, 1) := by decide +kernel
theorem dJ9_min_7cf53_2 : decode cJ9_min_7cf53 2 = .ok (.if_icmp .gt 7, 3) := by decide +kernel
theorem dJ9_min_7cf53_5 : decode cJ9_min_7cf53 5 = .ok (.iload_n 0, 1) := by decide +kernel
theorem dJ9_min_7cf53_6 : decode cJ9_min_7cf53 6 = .ok (.goto 4, 3) := by decide +kernel
theorem dJ9_min_7cf53_9 : decode cJ9_min_7cf53 9 = .ok (.iload_n 1, 1) := by decide +kernel
theorem dJ9_min_7cf53_10 : decode cJ9_min_7cf53 10 = .ok (.ireturn, 1) := by decide +kernel
theorem dJ7_fill_d0a16_0 : decode cJ7_fill_d0a16 0 = .ok (.iconst 0, 1) := by decide +kernel
theorem dJ7_fill_d0a16_1 : decode cJ7_fill_d0a16 1 = .ok (.istore_n 3, 1) := by decide +kernel
theorem dJ7_fill_d0a16_2 : decode cJ7_fill_d0a16 2 = .ok (.aload_n 0, 1) := by decide +kernel
theorem dJ7_fill_d0a16_3 : decode cJ7_fill_d0a16 3 = .ok (.arraylength, 1) := by decide +kernel
theorem dJ7_fill_d0a16_4 : decode cJ7_fill_d0a16 4 = .ok (.istore 4, 2) := by decide +kernel
theorem dJ7_fill_d0a16_6 : decode cJ7_fill_d0a16 6 = .ok (.iload_n 3, 1) := by decide +kernel
theorem dJ7_fill_d0a16_7 : decode cJ7_fill_d0a16 7 = .ok (.iload 4, 2) := by decide +kernel
theorem dJ7_fill_d0a16_9 : decode cJ7_fill_d0a16 9 = .ok (.if_icmp .ge 13, 3) := by decide +kernel
theorem dJ7_fill_d0a16_12 : decode cJ7_fill_d0a16 12 = .ok (.aload_n 0, 1) := by decide +kernel
theorem dJ7_fill_d0a16_13 : decode cJ7_fill_d0a16 13 = .ok (.iload_n 3, 1) := by decide +kernel
theorem dJ7_fill_d0a16_14 : decode cJ7_fill_d0a16 14 = .ok (.lload_n 1, 1) := by decide +kernel
theorem dJ7_fill_d0a16_15 : decode cJ7_fill_d0a16 15 = .ok (.lastore, 1) := by decide +kernel
theorem dJ7_fill_d0a16_16 : decode cJ7_fill_d0a16 16 = .ok (.iinc 3 1, 3) := by decide +kernel
theorem dJ7_fill_d0a16_19 : decode cJ7_fill_d0a16 19 = .ok (.goto (-13), 3) := by decide +kernel
theorem dJ7_fill_d0a16_22 : decode cJ7_fill_d0a16 22 = .ok (.return_, 1) := by decide +kernel
theorem dJ7_fill_53178_0 : decode cJ7_fill_53178 0 = .ok (.iconst 0, 1) := by decide +kernel
theorem dJ7_fill_53178_1 : decode cJ7_fill_53178 1 = .ok (.istore_n 2, 1) := by decide +kernel
theorem dJ7_fill_53178_2 : decode cJ7_fill_53178 2 = .ok (.aload_n 0, 1) := by decide +kernel
theorem dJ7_fill_53178_3 : decode cJ7_fill_53178 3 = .ok (.arraylength, 1) := by decide +kernel
theorem dJ7_fill_53178_4 : decode cJ7_fill_53178 4 = .ok (.istore_n 3, 1) := by decide +kernel
theorem dJ7_fill_53178_5 : decode cJ7_fill_53178 5 = .ok (.iload_n 2, 1) := by decide +kernel
theorem dJ7_fill_53178_6 : decode cJ7_fill_53178 6 = .ok (.iload_n 3, 1) := by decide +kernel
theorem dJ7_fill_53178_7 : decode cJ7_fill_53178 7 = .ok (.if_icmp .ge 13, 3) := by decide +kernel
theorem dJ7_fill_53178_10 : decode cJ7_fill_53178 10 = .ok (.aload_n 0, 1) := by decide +kernel
theorem dJ7_fill_53178_11 : decode cJ7_fill_53178 11 = .ok (.iload_n 2, 1) := by decide +kernel
theorem dJ7_fill_53178_12 : decode cJ7_fill_53178 12 = .ok (.iload_n 1, 1) := by decide +kernel
theorem dJ7_fill_53178_13 : decode cJ7_fill_53178 13 = .ok (.iastore, 1) := by decide +kernel
theorem dJ7_fill_53178_14 : decode cJ7_fill_53178 14 = .ok (.iinc 2 1, 3) := by decide +kernel
theorem dJ7_fill_53178_17 : decode cJ7_fill_53178 17 = .ok (.goto (-12), 3) := by decide +kernel
theorem dJ7_fill_53178_20 : decode cJ7_fill_53178 20 = .ok (.return_, 1) := by decide +kernel
