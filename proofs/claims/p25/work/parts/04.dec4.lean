theorem dL_with_25 : decode cL_with 25 = .ok (.iconst 0, 1) := by decide +kernel
theorem dL_with_26 : decode cL_with 26 = .ok (.istore 6, 2) := by decide +kernel
theorem dL_with_28 : decode cL_with 28 = .ok (.iload 6, 2) := by decide +kernel
theorem dL_with_30 : decode cL_with 30 = .ok (.aload_n 2, 1) := by decide +kernel
theorem dL_with_31 : decode cL_with 31 = .ok (.iconst 0, 1) := by decide +kernel
theorem dL_with_32 : decode cL_with 32 = .ok (.iaload, 1) := by decide +kernel
theorem dL_with_33 : decode cL_with 33 = .ok (.if_icmp .ge 28, 3) := by decide +kernel
theorem dL_with_36 : decode cL_with 36 = .ok (.iload_n 1, 1) := by decide +kernel
theorem dL_with_37 : decode cL_with 37 = .ok (.iload 6, 2) := by decide +kernel
theorem dL_with_39 : decode cL_with 39 = .ok (.ishr, 1) := by decide +kernel
theorem dL_with_40 : decode cL_with 40 = .ok (.iconst 1, 1) := by decide +kernel
theorem dL_with_41 : decode cL_with 41 = .ok (.iand, 1) := by decide +kernel
theorem dL_with_42 : decode cL_with 42 = .ok (.iconst 1, 1) := by decide +kernel
theorem dL_with_43 : decode cL_with 43 = .ok (.if_icmp .ne 12, 3) := by decide +kernel
theorem dL_with_46 : decode cL_with 46 = .ok (.aload 5, 2) := by decide +kernel
theorem dL_with_48 : decode cL_with 48 = .ok (.iload 6, 2) := by decide +kernel
theorem dL_with_50 : decode cL_with 50 = .ok (.iconst 1, 1) := by decide +kernel
theorem dL_with_51 : decode cL_with 51 = .ok (.aload_n 3, 1) := by decide +kernel
theorem dL_with_52 : decode cL_with 52 = .ok (.invokestatic 16, 3) := by decide +kernel
theorem dL_with_55 : decode cL_with 55 = .ok (.iinc 6 1, 3) := by decide +kernel
theorem dL_with_58 : decode cL_with 58 = .ok (.goto (-30), 3) := by decide +kernel
theorem dL_with_61 : decode cL_with 61 = .ok (.aload 5, 2) := by decide +kernel
theorem dL_with_63 : decode cL_with 63 = .ok (.aload 4, 2) := by decide +kernel
theorem dL_with_65 : decode cL_with 65 = .ok (.invokestatic 20, 3) := by decide +kernel
theorem dL_with_68 : decode cL_with 68 = .ok (.invokestatic 24, 3) := by decide +kernel
theorem dL_with_71 : decode cL_with 71 = .ok (.ireturn, 1) := by decide +kernel
theorem dL_bits_0 : decode cL_bits 0 = .ok (.iconst 0, 1) := by decide +kernel
theorem dL_bits_1 : decode cL_bits 1 = .ok (.istore_n 1, 1) := by decide +kernel
theorem dL_bits_2 : decode cL_bits 2 = .ok (.iload_n 0, 1) := by decide +kernel
theorem dL_bits_3 : decode cL_bits 3 = .ok (.istore_n 2, 1) := by decide +kernel
theorem dL_bits_4 : decode cL_bits 4 = .ok (.iload_n 2, 1) := by decide +kernel
theorem dL_bits_5 : decode cL_bits 5 = .ok (.ifCond .eq 15, 3) := by decide +kernel
theorem dL_bits_8 : decode cL_bits 8 = .ok (.iinc 1 1, 3) := by decide +kernel
theorem dL_bits_11 : decode cL_bits 11 = .ok (.iload_n 2, 1) := by decide +kernel
theorem dL_bits_12 : decode cL_bits 12 = .ok (.iload_n 2, 1) := by decide +kernel
theorem dL_bits_13 : decode cL_bits 13 = .ok (.iconst 1, 1) := by decide +kernel
theorem dL_bits_14 : decode cL_bits 14 = .ok (.isub, 1) := by decide +kernel
theorem dL_bits_15 : decode cL_bits 15 = .ok (.iand, 1) := by decide +kernel
theorem dL_bits_16 : decode cL_bits 16 = .ok (.istore_n 2, 1) := by decide +kernel
theorem dL_bits_17 : decode cL_bits 17 = .ok (.goto (-13), 3) := by decide +kernel
theorem dL_bits_20 : decode cL_bits 20 = .ok (.iload_n 1, 1) := by decide +kernel
theorem dL_bits_21 : decode cL_bits 21 = .ok (.ireturn, 1) := by decide +kernel
set_option maxRecDepth 20000 in
theorem ggL_owner_L_wrongs : GoodIn wsL_owner wsL_wrongs := goodIn_r _ [4, 5, 6, 3, 7] (by decide +kernel) (by decide +kernel)
set_option maxRecDepth 20000 in
theorem gL_owner_L_wrongs : GoodIn wsL_owner (va_wsS RL 20 yL_wrongs wsL_wrongs) := goodIn_app (goodIn_of _ (by decide +kernel)) ggL_owner_L_wrongs
set_option maxRecDepth 20000 in
theorem ggL_owner_L_wrong : GoodIn wsL_owner wsL_wrong := goodIn_r _ [7] (by decide +kernel) (by decide +kernel)
set_option maxRecDepth 20000 in
theorem gL_owner_L_wrong : GoodIn wsL_owner (va_wsS RL 10 yL_wrong wsL_wrong) := goodIn_app (goodIn_of _ (by decide +kernel)) ggL_owner_L_wrong
set_option maxRecDepth 20000 in
theorem ggL_owner_X4_leaf : GoodIn wsL_owner wsX4_leaf := goodIn_r _ [12, 13, 14, 15, 16, 17, 18, 19, 20, 21, 11, 22, 23, 24, 25, 26, 27, 28, 29, 30, 31, 32, 33, 34, 35, 36, 37, 38, 39, 40, 41, 42, 43, 44, 45, 46, 47, 48, 49, 50, 51, 52, 53, 54, 55, 56, 57, 58, 59, 60, 61, 62, 63, 64, 65, 66, 67, 68, 178, 179, 180, 181, 182, 183, 184, 185, 186, 187, 188, 189, 190, 191, 192, 193] (by decide +kernel) (by decide +kernel)
set_option maxRecDepth 20000 in
theorem gL_owner_X4_leaf : GoodIn wsL_owner (wsV RL 28 RX4 yX4_leaf wsX4_leaf) := goodIn_app (goodIn_of _ (by decide +kernel)) ggL_owner_X4_leaf
set_option maxRecDepth 20000 in
theorem ggL_owner_X4_of : GoodIn wsL_owner wsX4_of := goodIn_r _ [72, 13, 14, 15, 16, 17, 18, 19, 73, 74, 75, 26, 76, 77, 60, 61, 62, 63, 24, 25, 27, 28, 29, 30, 31, 32, 33, 34, 35, 36, 37, 38, 39, 40, 41, 42, 43, 44, 45, 46, 47, 64, 49, 50, 51, 52, 53, 54, 65, 66, 67, 68, 78, 79, 80, 81, 82, 83, 84, 85, 178, 179, 180, 181, 182, 183, 184, 185, 186, 187, 188, 189, 190, 191, 192, 193] (by decide +kernel) (by decide +kernel)
set_option maxRecDepth 20000 in
theorem gL_owner_X4_of : GoodIn wsL_owner (wsV RL 34 RX4 yX4_of wsX4_of) := goodIn_app (goodIn_of _ (by decide +kernel)) ggL_owner_X4_of
set_option maxRecDepth 20000 in
theorem ggL_owner_L_all : GoodIn wsL_owner wsL_all := goodIn_r _ [88] (by decide +kernel) (by decide +kernel)
set_option maxRecDepth 20000 in
theorem gL_owner_L_all : GoodIn wsL_owner (va_wsS RL 38 yL_all wsL_all) := goodIn_app (goodIn_of _ (by decide +kernel)) ggL_owner_L_all
set_option maxRecDepth 20000 in
theorem ggL_owner_X4_ifAllDone : GoodIn wsL_owner wsX4_ifAllDone := goodIn_r _ [92, 13, 14, 15, 16, 17, 18, 19, 93, 94, 95, 11, 96, 97, 98, 99, 100, 26, 101, 40, 39, 102, 103, 104, 105, 106, 107, 108, 109, 110, 111, 112, 113, 114, 115, 116, 117, 118, 119, 120, 121, 122, 123, 124, 28, 29, 30, 31, 32, 33, 34, 35, 36, 37, 38, 41, 42, 43, 44, 45, 46, 47, 125, 126, 127, 128, 129, 130, 131, 132, 133, 134, 135, 136, 137, 74, 75, 76, 77, 60, 61, 62, 63, 24, 25, 27, 64, 49, 50, 51, 52, 53, 54, 65, 66, 67, 68, 178, 179, 180, 181, 182, 183, 184, 185, 186, 187, 188, 189, 190, 191, 192, 193] (by decide +kernel) (by decide +kernel)
set_option maxRecDepth 20000 in
theorem gL_owner_X4_ifAllDone : GoodIn wsL_owner (wsV RL 42 RX4 yX4_ifAllDone wsX4_ifAllDone) := goodIn_app (goodIn_of _ (by decide +kernel)) ggL_owner_X4_ifAllDone
set_option maxRecDepth 20000 in
theorem ggL_owner_L_with : GoodIn wsL_owner wsL_with := goodIn_r _ [140, 141, 142, 3, 143, 1, 2, 4, 5, 6, 7, 144, 145, 146] (by decide +kernel) (by decide +kernel)
set_option maxRecDepth 20000 in
theorem gL_owner_L_with : GoodIn wsL_owner (va_wsS RL 45 yL_with wsL_with) := goodIn_app (goodIn_of _ (by decide +kernel)) ggL_owner_L_with
set_option maxRecDepth 20000 in
theorem ggL_owner_X4_ifDone : GoodIn wsL_owner wsX4_ifDone := goodIn_r _ [150, 13, 14, 15, 16, 17, 18, 19, 151, 152, 153, 154, 110, 93, 94, 95, 11, 96, 97, 98, 99, 100, 26, 101, 40, 39, 102, 103, 104, 105, 106, 107, 108, 109, 111, 112, 113, 114, 115, 116, 117, 118, 119, 120, 121, 122, 123, 124, 28, 29, 30, 31, 32, 33, 34, 35, 36, 37, 38, 41, 42, 43, 44, 45, 46, 47, 125, 126, 127, 128, 129, 130, 131, 132, 133, 134, 135, 136, 137, 74, 75, 76, 77, 60, 61, 62, 63, 24, 25, 27, 64, 49, 50, 51, 52, 53, 54, 65, 66, 67, 68, 178, 179, 180, 181, 182, 183, 184, 185, 186, 187, 188, 189, 190, 191, 192, 193] (by decide +kernel) (by decide +kernel)
set_option maxRecDepth 20000 in
theorem gL_owner_X4_ifDone : GoodIn wsL_owner (wsV RL 49 RX4 yX4_ifDone wsX4_ifDone) := goodIn_app (goodIn_of _ (by decide +kernel)) ggL_owner_X4_ifDone
set_option maxRecDepth 20000 in
theorem ggL_owner_L_low : GoodIn wsL_owner wsL_low := goodIn_r _ [157, 158] (by decide +kernel) (by decide +kernel)
set_option maxRecDepth 20000 in
theorem gL_owner_L_low : GoodIn wsL_owner (va_wsS RL 52 yL_low wsL_low) := goodIn_app (goodIn_of _ (by decide +kernel)) ggL_owner_L_low
set_option maxRecDepth 20000 in
theorem ggL_owner_L_bits : GoodIn wsL_owner wsL_bits := goodIn_r _ [161] (by decide +kernel) (by decide +kernel)
set_option maxRecDepth 20000 in
theorem gL_owner_L_bits : GoodIn wsL_owner (va_wsS RL 55 yL_bits wsL_bits) := goodIn_app (goodIn_of _ (by decide +kernel)) ggL_owner_L_bits
set_option maxRecDepth 20000 in
theorem ggL_owner_X4_mending : GoodIn wsL_owner wsX4_mending := goodIn_r _ [165, 13, 97, 14, 15, 16, 17, 18, 19, 98, 99, 100, 26, 101, 40, 39, 102, 103, 104, 105, 166, 167, 11, 168, 169, 170, 171, 172, 78, 79, 80, 81, 173, 112, 113, 114, 115, 116, 117, 118, 119, 120, 121, 122, 123, 124, 28, 29, 30, 31, 32, 33, 34, 35, 36, 37, 38, 41, 42, 43, 44, 45, 46, 47, 125, 126, 127, 128, 129, 130, 131, 132, 178, 179, 180, 181, 182, 183, 184, 185, 186, 187, 188, 189, 190, 191, 192, 193] (by decide +kernel) (by decide +kernel)
set_option maxRecDepth 20000 in
theorem gL_owner_X4_mending : GoodIn wsL_owner (wsV RL 58 RX4 yX4_mending wsX4_mending) := goodIn_app (goodIn_of _ (by decide +kernel)) ggL_owner_X4_mending
set_option maxRecDepth 20000 in
theorem ggL_owner_X4_rightFrom : GoodIn wsL_owner wsX4_rightFrom := goodIn_r _ [177, 13, 14, 15, 16, 17, 18, 19, 93, 94, 95, 11, 96, 97, 98, 99, 100, 26, 101, 40, 39, 102, 103, 104, 105, 106, 107, 108, 109, 110, 111, 112, 113, 114, 115, 116, 117, 118, 119, 120, 121, 122, 123, 124, 28, 29, 30, 31, 32, 33, 34, 35, 36, 37, 38, 41, 42, 43, 44, 45, 46, 47, 125, 126, 127, 128, 129, 130, 131, 132, 78, 79, 80, 81, 178, 179, 180, 181, 182, 183, 184, 185, 186, 187, 188, 189, 190, 191, 192, 193] (by decide +kernel) (by decide +kernel)
set_option maxRecDepth 20000 in
theorem gL_owner_X4_rightFrom : GoodIn wsL_owner (wsV RL 61 RX4 yX4_rightFrom wsX4_rightFrom) := goodIn_app (goodIn_of _ (by decide +kernel)) ggL_owner_X4_rightFrom
theorem dL_owner_0 : decode cL_owner 0 = .ok (.aload_n 3, 1) := by decide +kernel
theorem dL_owner_1 : decode cL_owner 1 = .ok (.aload 6, 2) := by decide +kernel
theorem dL_owner_3 : decode cL_owner 3 = .ok (.invokestatic 20, 3) := by decide +kernel
theorem dL_owner_6 : decode cL_owner 6 = .ok (.istore 8, 2) := by decide +kernel
theorem dL_owner_8 : decode cL_owner 8 = .ok (.iconst 0, 1) := by decide +kernel
theorem dL_owner_9 : decode cL_owner 9 = .ok (.istore 9, 2) := by decide +kernel
theorem dL_owner_11 : decode cL_owner 11 = .ok (.iconst 0, 1) := by decide +kernel
theorem dL_owner_12 : decode cL_owner 12 = .ok (.istore 10, 2) := by decide +kernel
theorem dL_owner_14 : decode cL_owner 14 = .ok (.iload 10, 2) := by decide +kernel
theorem dL_owner_16 : decode cL_owner 16 = .ok (.bipush 10, 2) := by decide +kernel
theorem dL_owner_18 : decode cL_owner 18 = .ok (.if_icmp .ge 247, 3) := by decide +kernel
theorem dL_owner_21 : decode cL_owner 21 = .ok (.iconst 0, 1) := by decide +kernel
theorem dL_owner_22 : decode cL_owner 22 = .ok (.istore 11, 2) := by decide +kernel
theorem dL_owner_24 : decode cL_owner 24 = .ok (.bipush (-6), 2) := by decide +kernel
theorem dL_owner_26 : decode cL_owner 26 = .ok (.istore 12, 2) := by decide +kernel
theorem dL_owner_28 : decode cL_owner 28 = .ok (.bipush (-6), 2) := by decide +kernel
theorem dL_owner_30 : decode cL_owner 30 = .ok (.istore 13, 2) := by decide +kernel
theorem dL_owner_32 : decode cL_owner 32 = .ok (.iconst 0, 1) := by decide +kernel
theorem dL_owner_33 : decode cL_owner 33 = .ok (.istore 14, 2) := by decide +kernel
theorem dL_owner_35 : decode cL_owner 35 = .ok (.iload 14, 2) := by decide +kernel
theorem dL_owner_37 : decode cL_owner 37 = .ok (.bipush 6, 2) := by decide +kernel
theorem dL_owner_39 : decode cL_owner 39 = .ok (.if_icmp .ge 99, 3) := by decide +kernel
theorem dL_owner_42 : decode cL_owner 42 = .ok (.iload 11, 2) := by decide +kernel
theorem dL_owner_44 : decode cL_owner 44 = .ok (.aload_n 3, 1) := by decide +kernel
theorem dL_owner_45 : decode cL_owner 45 = .ok (.bipush 6, 2) := by decide +kernel
theorem dL_owner_47 : decode cL_owner 47 = .ok (.iload 10, 2) := by decide +kernel
theorem dL_owner_49 : decode cL_owner 49 = .ok (.imul, 1) := by decide +kernel
theorem dL_owner_50 : decode cL_owner 50 = .ok (.iload 14, 2) := by decide +kernel
theorem dL_owner_52 : decode cL_owner 52 = .ok (.iadd, 1) := by decide +kernel
theorem dL_owner_53 : decode cL_owner 53 = .ok (.iaload, 1) := by decide +kernel
theorem dL_owner_54 : decode cL_owner 54 = .ok (.iadd, 1) := by decide +kernel
theorem dL_owner_55 : decode cL_owner 55 = .ok (.istore 11, 2) := by decide +kernel
theorem dL_owner_57 : decode cL_owner 57 = .ok (.iload 9, 2) := by decide +kernel
theorem dL_owner_59 : decode cL_owner 59 = .ok (.aload_n 3, 1) := by decide +kernel
theorem dL_owner_60 : decode cL_owner 60 = .ok (.bipush 6, 2) := by decide +kernel
theorem dL_owner_62 : decode cL_owner 62 = .ok (.iload 10, 2) := by decide +kernel
theorem dL_owner_64 : decode cL_owner 64 = .ok (.imul, 1) := by decide +kernel
theorem dL_owner_65 : decode cL_owner 65 = .ok (.iload 14, 2) := by decide +kernel
theorem dL_owner_67 : decode cL_owner 67 = .ok (.iadd, 1) := by decide +kernel
theorem dL_owner_68 : decode cL_owner 68 = .ok (.iaload, 1) := by decide +kernel
theorem dL_owner_69 : decode cL_owner 69 = .ok (.bipush 10, 2) := by decide +kernel
theorem dL_owner_71 : decode cL_owner 71 = .ok (.iload 10, 2) := by decide +kernel
theorem dL_owner_73 : decode cL_owner 73 = .ok (.iadd, 1) := by decide +kernel
theorem dL_owner_74 : decode cL_owner 74 = .ok (.imul, 1) := by decide +kernel
theorem dL_owner_75 : decode cL_owner 75 = .ok (.iload 14, 2) := by decide +kernel
theorem dL_owner_77 : decode cL_owner 77 = .ok (.iconst 1, 1) := by decide +kernel
theorem dL_owner_78 : decode cL_owner 78 = .ok (.iadd, 1) := by decide +kernel
theorem dL_owner_79 : decode cL_owner 79 = .ok (.imul, 1) := by decide +kernel
theorem dL_owner_80 : decode cL_owner 80 = .ok (.iadd, 1) := by decide +kernel
theorem dL_owner_81 : decode cL_owner 81 = .ok (.istore 9, 2) := by decide +kernel
theorem dL_owner_83 : decode cL_owner 83 = .ok (.aload_n 3, 1) := by decide +kernel
theorem dL_owner_84 : decode cL_owner 84 = .ok (.bipush 6, 2) := by decide +kernel
theorem dL_owner_86 : decode cL_owner 86 = .ok (.iload 10, 2) := by decide +kernel
theorem dL_owner_88 : decode cL_owner 88 = .ok (.imul, 1) := by decide +kernel
theorem dL_owner_89 : decode cL_owner 89 = .ok (.iload 14, 2) := by decide +kernel
theorem dL_owner_91 : decode cL_owner 91 = .ok (.iadd, 1) := by decide +kernel
theorem dL_owner_92 : decode cL_owner 92 = .ok (.iaload, 1) := by decide +kernel
theorem dL_owner_93 : decode cL_owner 93 = .ok (.ifCond .le 13, 3) := by decide +kernel
theorem dL_owner_96 : decode cL_owner 96 = .ok (.iload 12, 2) := by decide +kernel
theorem dL_owner_98 : decode cL_owner 98 = .ok (.ifCond .ge 8, 3) := by decide +kernel
theorem dL_owner_101 : decode cL_owner 101 = .ok (.iload 14, 2) := by decide +kernel
theorem dL_owner_103 : decode cL_owner 103 = .ok (.goto 5, 3) := by decide +kernel
theorem dL_owner_106 : decode cL_owner 106 = .ok (.iload 12, 2) := by decide +kernel
theorem dL_owner_108 : decode cL_owner 108 = .ok (.istore 12, 2) := by decide +kernel
theorem dL_owner_110 : decode cL_owner 110 = .ok (.aload_n 3, 1) := by decide +kernel
theorem dL_owner_111 : decode cL_owner 111 = .ok (.bipush 6, 2) := by decide +kernel
theorem dL_owner_113 : decode cL_owner 113 = .ok (.iload 10, 2) := by decide +kernel
theorem dL_owner_115 : decode cL_owner 115 = .ok (.imul, 1) := by decide +kernel
theorem dL_owner_116 : decode cL_owner 116 = .ok (.iload 14, 2) := by decide +kernel
theorem dL_owner_118 : decode cL_owner 118 = .ok (.iadd, 1) := by decide +kernel
theorem dL_owner_119 : decode cL_owner 119 = .ok (.iaload, 1) := by decide +kernel
theorem dL_owner_120 : decode cL_owner 120 = .ok (.ifCond .le 8, 3) := by decide +kernel
theorem dL_owner_123 : decode cL_owner 123 = .ok (.iload 14, 2) := by decide +kernel
theorem dL_owner_125 : decode cL_owner 125 = .ok (.goto 5, 3) := by decide +kernel
theorem dL_owner_128 : decode cL_owner 128 = .ok (.iload 13, 2) := by decide +kernel
theorem dL_owner_130 : decode cL_owner 130 = .ok (.istore 13, 2) := by decide +kernel
theorem dL_owner_132 : decode cL_owner 132 = .ok (.iinc 14 1, 3) := by decide +kernel
theorem dL_owner_135 : decode cL_owner 135 = .ok (.goto (-100), 3) := by decide +kernel
theorem dL_owner_138 : decode cL_owner 138 = .ok (.aload_n 3, 1) := by decide +kernel
theorem dL_owner_139 : decode cL_owner 139 = .ok (.iload 10, 2) := by decide +kernel
theorem dL_owner_141 : decode cL_owner 141 = .ok (.aload 6, 2) := by decide +kernel
theorem dL_owner_143 : decode cL_owner 143 = .ok (.invokestatic 10, 3) := by decide +kernel
theorem dL_owner_146 : decode cL_owner 146 = .ok (.istore 14, 2) := by decide +kernel
theorem dL_owner_148 : decode cL_owner 148 = .ok (.aload_n 0, 1) := by decide +kernel
theorem dL_owner_149 : decode cL_owner 149 = .ok (.iload_n 1, 1) := by decide +kernel
theorem dL_owner_150 : decode cL_owner 150 = .ok (.bipush 10, 2) := by decide +kernel
theorem dL_owner_152 : decode cL_owner 152 = .ok (.iload 10, 2) := by decide +kernel
theorem dL_owner_154 : decode cL_owner 154 = .ok (.iadd, 1) := by decide +kernel
theorem dL_owner_155 : decode cL_owner 155 = .ok (.iconst 0, 1) := by decide +kernel
theorem dL_owner_156 : decode cL_owner 156 = .ok (.invokevirtual 28, 3) := by decide +kernel
theorem dL_owner_159 : decode cL_owner 159 = .ok (.iload 11, 2) := by decide +kernel
theorem dL_owner_161 : decode cL_owner 161 = .ok (.if_icmp .ne 96, 3) := by decide +kernel
theorem dL_owner_164 : decode cL_owner 164 = .ok (.aload_n 0, 1) := by decide +kernel
theorem dL_owner_165 : decode cL_owner 165 = .ok (.iload_n 1, 1) := by decide +kernel
theorem dL_owner_166 : decode cL_owner 166 = .ok (.bipush 10, 2) := by decide +kernel
theorem dL_owner_168 : decode cL_owner 168 = .ok (.iload 10, 2) := by decide +kernel
theorem dL_owner_170 : decode cL_owner 170 = .ok (.iadd, 1) := by decide +kernel
theorem dL_owner_171 : decode cL_owner 171 = .ok (.iconst 1, 1) := by decide +kernel
theorem dL_owner_172 : decode cL_owner 172 = .ok (.invokevirtual 28, 3) := by decide +kernel
theorem dL_owner_175 : decode cL_owner 175 = .ok (.iload 12, 2) := by decide +kernel
theorem dL_owner_177 : decode cL_owner 177 = .ok (.if_icmp .ne 80, 3) := by decide +kernel
theorem dL_owner_180 : decode cL_owner 180 = .ok (.aload_n 0, 1) := by decide +kernel
theorem dL_owner_181 : decode cL_owner 181 = .ok (.iload_n 1, 1) := by decide +kernel
theorem dL_owner_182 : decode cL_owner 182 = .ok (.bipush 10, 2) := by decide +kernel
theorem dL_owner_184 : decode cL_owner 184 = .ok (.iload 10, 2) := by decide +kernel
theorem dL_owner_186 : decode cL_owner 186 = .ok (.iadd, 1) := by decide +kernel
theorem dL_owner_187 : decode cL_owner 187 = .ok (.iconst 2, 1) := by decide +kernel
theorem dL_owner_188 : decode cL_owner 188 = .ok (.invokevirtual 28, 3) := by decide +kernel
theorem dL_owner_191 : decode cL_owner 191 = .ok (.iload 13, 2) := by decide +kernel
theorem dL_owner_193 : decode cL_owner 193 = .ok (.if_icmp .ne 64, 3) := by decide +kernel
theorem dL_owner_196 : decode cL_owner 196 = .ok (.aload_n 0, 1) := by decide +kernel
theorem dL_owner_197 : decode cL_owner 197 = .ok (.iload_n 1, 1) := by decide +kernel
theorem dL_owner_198 : decode cL_owner 198 = .ok (.bipush 10, 2) := by decide +kernel
theorem dL_owner_200 : decode cL_owner 200 = .ok (.iload 10, 2) := by decide +kernel
theorem dL_owner_202 : decode cL_owner 202 = .ok (.iadd, 1) := by decide +kernel
theorem dL_owner_203 : decode cL_owner 203 = .ok (.iconst 3, 1) := by decide +kernel
theorem dL_owner_204 : decode cL_owner 204 = .ok (.invokevirtual 28, 3) := by decide +kernel
theorem dL_owner_207 : decode cL_owner 207 = .ok (.iload 14, 2) := by decide +kernel
theorem dL_owner_209 : decode cL_owner 209 = .ok (.sipush 10000, 3) := by decide +kernel
theorem dL_owner_212 : decode cL_owner 212 = .ok (.idiv, 1) := by decide +kernel
theorem dL_owner_213 : decode cL_owner 213 = .ok (.if_icmp .ne 44, 3) := by decide +kernel
theorem dL_owner_216 : decode cL_owner 216 = .ok (.aload_n 0, 1) := by decide +kernel
theorem dL_owner_217 : decode cL_owner 217 = .ok (.iload_n 1, 1) := by decide +kernel
theorem dL_owner_218 : decode cL_owner 218 = .ok (.bipush 10, 2) := by decide +kernel
theorem dL_owner_220 : decode cL_owner 220 = .ok (.iload 10, 2) := by decide +kernel
theorem dL_owner_222 : decode cL_owner 222 = .ok (.iadd, 1) := by decide +kernel
theorem dL_owner_223 : decode cL_owner 223 = .ok (.iconst 4, 1) := by decide +kernel
theorem dL_owner_224 : decode cL_owner 224 = .ok (.invokevirtual 28, 3) := by decide +kernel
theorem dL_owner_227 : decode cL_owner 227 = .ok (.iload 14, 2) := by decide +kernel
theorem dL_owner_229 : decode cL_owner 229 = .ok (.bipush 100, 2) := by decide +kernel
theorem dL_owner_231 : decode cL_owner 231 = .ok (.idiv, 1) := by decide +kernel
theorem dL_owner_232 : decode cL_owner 232 = .ok (.bipush 100, 2) := by decide +kernel
theorem dL_owner_234 : decode cL_owner 234 = .ok (.irem, 1) := by decide +kernel
theorem dL_owner_235 : decode cL_owner 235 = .ok (.if_icmp .ne 22, 3) := by decide +kernel
theorem dL_owner_238 : decode cL_owner 238 = .ok (.aload_n 0, 1) := by decide +kernel
theorem dL_owner_239 : decode cL_owner 239 = .ok (.iload_n 1, 1) := by decide +kernel
theorem dL_owner_240 : decode cL_owner 240 = .ok (.bipush 10, 2) := by decide +kernel
theorem dL_owner_242 : decode cL_owner 242 = .ok (.iload 10, 2) := by decide +kernel
theorem dL_owner_244 : decode cL_owner 244 = .ok (.iadd, 1) := by decide +kernel
theorem dL_owner_245 : decode cL_owner 245 = .ok (.iconst 5, 1) := by decide +kernel
theorem dL_owner_246 : decode cL_owner 246 = .ok (.invokevirtual 28, 3) := by decide +kernel
theorem dL_owner_249 : decode cL_owner 249 = .ok (.iload 14, 2) := by decide +kernel
theorem dL_owner_251 : decode cL_owner 251 = .ok (.bipush 100, 2) := by decide +kernel
theorem dL_owner_253 : decode cL_owner 253 = .ok (.irem, 1) := by decide +kernel
theorem dL_owner_254 : decode cL_owner 254 = .ok (.if_icmp .eq 5, 3) := by decide +kernel
theorem dL_owner_257 : decode cL_owner 257 = .ok (.iconst 0, 1) := by decide +kernel
theorem dL_owner_258 : decode cL_owner 258 = .ok (.ireturn, 1) := by decide +kernel
theorem dL_owner_259 : decode cL_owner 259 = .ok (.iinc 10 1, 3) := by decide +kernel
theorem dL_owner_262 : decode cL_owner 262 = .ok (.goto (-248), 3) := by decide +kernel
theorem dL_owner_265 : decode cL_owner 265 = .ok (.aload_n 0, 1) := by decide +kernel
theorem dL_owner_266 : decode cL_owner 266 = .ok (.iload_n 1, 1) := by decide +kernel
theorem dL_owner_267 : decode cL_owner 267 = .ok (.iconst 0, 1) := by decide +kernel
theorem dL_owner_268 : decode cL_owner 268 = .ok (.invokevirtual 34, 3) := by decide +kernel
theorem dL_owner_271 : decode cL_owner 271 = .ok (.aload_n 3, 1) := by decide +kernel
theorem dL_owner_272 : decode cL_owner 272 = .ok (.invokestatic 38, 3) := by decide +kernel
theorem dL_owner_275 : decode cL_owner 275 = .ok (.if_icmp .ne 141, 3) := by decide +kernel
theorem dL_owner_278 : decode cL_owner 278 = .ok (.aload_n 0, 1) := by decide +kernel
theorem dL_owner_279 : decode cL_owner 279 = .ok (.iload_n 1, 1) := by decide +kernel
theorem dL_owner_280 : decode cL_owner 280 = .ok (.iconst 1, 1) := by decide +kernel
theorem dL_owner_281 : decode cL_owner 281 = .ok (.invokevirtual 34, 3) := by decide +kernel
theorem dL_owner_284 : decode cL_owner 284 = .ok (.aload 4, 2) := by decide +kernel
theorem dL_owner_286 : decode cL_owner 286 = .ok (.iconst 2, 1) := by decide +kernel
theorem dL_owner_287 : decode cL_owner 287 = .ok (.iload_n 1, 1) := by decide +kernel
theorem dL_owner_288 : decode cL_owner 288 = .ok (.iadd, 1) := by decide +kernel
theorem dL_owner_289 : decode cL_owner 289 = .ok (.iaload, 1) := by decide +kernel
theorem dL_owner_290 : decode cL_owner 290 = .ok (.if_icmp .ne 126, 3) := by decide +kernel
theorem dL_owner_293 : decode cL_owner 293 = .ok (.aload_n 0, 1) := by decide +kernel
theorem dL_owner_294 : decode cL_owner 294 = .ok (.iload_n 1, 1) := by decide +kernel
theorem dL_owner_295 : decode cL_owner 295 = .ok (.iconst 2, 1) := by decide +kernel
theorem dL_owner_296 : decode cL_owner 296 = .ok (.invokevirtual 34, 3) := by decide +kernel
theorem dL_owner_299 : decode cL_owner 299 = .ok (.aload 4, 2) := by decide +kernel
theorem dL_owner_301 : decode cL_owner 301 = .ok (.iconst 4, 1) := by decide +kernel
theorem dL_owner_302 : decode cL_owner 302 = .ok (.iload_n 1, 1) := by decide +kernel
theorem dL_owner_303 : decode cL_owner 303 = .ok (.iadd, 1) := by decide +kernel
theorem dL_owner_304 : decode cL_owner 304 = .ok (.iaload, 1) := by decide +kernel
theorem dL_owner_305 : decode cL_owner 305 = .ok (.if_icmp .ne 111, 3) := by decide +kernel
theorem dL_owner_308 : decode cL_owner 308 = .ok (.aload_n 0, 1) := by decide +kernel
theorem dL_owner_309 : decode cL_owner 309 = .ok (.iload_n 1, 1) := by decide +kernel
theorem dL_owner_310 : decode cL_owner 310 = .ok (.iconst 3, 1) := by decide +kernel
theorem dL_owner_311 : decode cL_owner 311 = .ok (.invokevirtual 34, 3) := by decide +kernel
theorem dL_owner_314 : decode cL_owner 314 = .ok (.iload 8, 2) := by decide +kernel
theorem dL_owner_316 : decode cL_owner 316 = .ok (.sipush 10000, 3) := by decide +kernel
theorem dL_owner_319 : decode cL_owner 319 = .ok (.idiv, 1) := by decide +kernel
theorem dL_owner_320 : decode cL_owner 320 = .ok (.if_icmp .ne 96, 3) := by decide +kernel
theorem dL_owner_323 : decode cL_owner 323 = .ok (.aload_n 0, 1) := by decide +kernel
theorem dL_owner_324 : decode cL_owner 324 = .ok (.iload_n 1, 1) := by decide +kernel
theorem dL_owner_325 : decode cL_owner 325 = .ok (.iconst 4, 1) := by decide +kernel
theorem dL_owner_326 : decode cL_owner 326 = .ok (.invokevirtual 34, 3) := by decide +kernel
theorem dL_owner_329 : decode cL_owner 329 = .ok (.iload 8, 2) := by decide +kernel
theorem dL_owner_331 : decode cL_owner 331 = .ok (.bipush 100, 2) := by decide +kernel
theorem dL_owner_333 : decode cL_owner 333 = .ok (.idiv, 1) := by decide +kernel
theorem dL_owner_334 : decode cL_owner 334 = .ok (.bipush 100, 2) := by decide +kernel
theorem dL_owner_336 : decode cL_owner 336 = .ok (.irem, 1) := by decide +kernel
theorem dL_owner_337 : decode cL_owner 337 = .ok (.if_icmp .ne 79, 3) := by decide +kernel
theorem dL_owner_340 : decode cL_owner 340 = .ok (.aload_n 0, 1) := by decide +kernel
theorem dL_owner_341 : decode cL_owner 341 = .ok (.iload_n 1, 1) := by decide +kernel
theorem dL_owner_342 : decode cL_owner 342 = .ok (.iconst 5, 1) := by decide +kernel
theorem dL_owner_343 : decode cL_owner 343 = .ok (.invokevirtual 34, 3) := by decide +kernel
theorem dL_owner_346 : decode cL_owner 346 = .ok (.iload 8, 2) := by decide +kernel
theorem dL_owner_348 : decode cL_owner 348 = .ok (.bipush 100, 2) := by decide +kernel
theorem dL_owner_350 : decode cL_owner 350 = .ok (.irem, 1) := by decide +kernel
theorem dL_owner_351 : decode cL_owner 351 = .ok (.if_icmp .ne 65, 3) := by decide +kernel
theorem dL_owner_354 : decode cL_owner 354 = .ok (.aload_n 0, 1) := by decide +kernel
theorem dL_owner_355 : decode cL_owner 355 = .ok (.iload_n 1, 1) := by decide +kernel
theorem dL_owner_356 : decode cL_owner 356 = .ok (.bipush 6, 2) := by decide +kernel
theorem dL_owner_358 : decode cL_owner 358 = .ok (.invokevirtual 34, 3) := by decide +kernel
theorem dL_owner_361 : decode cL_owner 361 = .ok (.iload 8, 2) := by decide +kernel
theorem dL_owner_363 : decode cL_owner 363 = .ok (.ifCond .ne 7, 3) := by decide +kernel
theorem dL_owner_366 : decode cL_owner 366 = .ok (.iconst 1, 1) := by decide +kernel
theorem dL_owner_367 : decode cL_owner 367 = .ok (.goto 4, 3) := by decide +kernel
theorem dL_owner_370 : decode cL_owner 370 = .ok (.iconst 0, 1) := by decide +kernel
theorem dL_owner_371 : decode cL_owner 371 = .ok (.if_icmp .ne 45, 3) := by decide +kernel
theorem dL_owner_374 : decode cL_owner 374 = .ok (.aload_n 0, 1) := by decide +kernel
theorem dL_owner_375 : decode cL_owner 375 = .ok (.iload_n 1, 1) := by decide +kernel
theorem dL_owner_376 : decode cL_owner 376 = .ok (.bipush 7, 2) := by decide +kernel
theorem dL_owner_378 : decode cL_owner 378 = .ok (.invokevirtual 34, 3) := by decide +kernel
theorem dL_owner_381 : decode cL_owner 381 = .ok (.iload 9, 2) := by decide +kernel
theorem dL_owner_383 : decode cL_owner 383 = .ok (.sipush 997, 3) := by decide +kernel
theorem dL_owner_386 : decode cL_owner 386 = .ok (.irem, 1) := by decide +kernel
theorem dL_owner_387 : decode cL_owner 387 = .ok (.if_icmp .ne 29, 3) := by decide +kernel
theorem dL_owner_390 : decode cL_owner 390 = .ok (.aload_n 0, 1) := by decide +kernel
theorem dL_owner_391 : decode cL_owner 391 = .ok (.iload_n 1, 1) := by decide +kernel
theorem dL_owner_392 : decode cL_owner 392 = .ok (.invokevirtual 42, 3) := by decide +kernel
theorem dL_owner_395 : decode cL_owner 395 = .ok (.aload_n 3, 1) := by decide +kernel
theorem dL_owner_396 : decode cL_owner 396 = .ok (.aload 4, 2) := by decide +kernel
theorem dL_owner_398 : decode cL_owner 398 = .ok (.iconst 2, 1) := by decide +kernel
theorem dL_owner_399 : decode cL_owner 399 = .ok (.iload_n 1, 1) := by decide +kernel
theorem dL_owner_400 : decode cL_owner 400 = .ok (.iadd, 1) := by decide +kernel
theorem dL_owner_401 : decode cL_owner 401 = .ok (.iaload, 1) := by decide +kernel
theorem dL_owner_402 : decode cL_owner 402 = .ok (.aload 4, 2) := by decide +kernel
theorem dL_owner_404 : decode cL_owner 404 = .ok (.aload 5, 2) := by decide +kernel
theorem dL_owner_406 : decode cL_owner 406 = .ok (.aload 6, 2) := by decide +kernel
theorem dL_owner_408 : decode cL_owner 408 = .ok (.aload 7, 2) := by decide +kernel
theorem dL_owner_410 : decode cL_owner 410 = .ok (.invokestatic 45, 3) := by decide +kernel
theorem dL_owner_413 : decode cL_owner 413 = .ok (.if_icmp .eq 5, 3) := by decide +kernel
theorem dL_owner_416 : decode cL_owner 416 = .ok (.iconst 0, 1) := by decide +kernel
theorem dL_owner_417 : decode cL_owner 417 = .ok (.ireturn, 1) := by decide +kernel
theorem dL_owner_418 : decode cL_owner 418 = .ok (.iconst 0, 1) := by decide +kernel
theorem dL_owner_419 : decode cL_owner 419 = .ok (.istore 10, 2) := by decide +kernel
theorem dL_owner_421 : decode cL_owner 421 = .ok (.iload 10, 2) := by decide +kernel
theorem dL_owner_423 : decode cL_owner 423 = .ok (.aload 4, 2) := by decide +kernel
theorem dL_owner_425 : decode cL_owner 425 = .ok (.iconst 0, 1) := by decide +kernel
theorem dL_owner_426 : decode cL_owner 426 = .ok (.iaload, 1) := by decide +kernel
theorem dL_owner_427 : decode cL_owner 427 = .ok (.if_icmp .ge 37, 3) := by decide +kernel
theorem dL_owner_430 : decode cL_owner 430 = .ok (.aload_n 0, 1) := by decide +kernel
theorem dL_owner_431 : decode cL_owner 431 = .ok (.iload_n 1, 1) := by decide +kernel
theorem dL_owner_432 : decode cL_owner 432 = .ok (.iload 10, 2) := by decide +kernel
theorem dL_owner_434 : decode cL_owner 434 = .ok (.invokevirtual 49, 3) := by decide +kernel
theorem dL_owner_437 : decode cL_owner 437 = .ok (.aload_n 3, 1) := by decide +kernel
theorem dL_owner_438 : decode cL_owner 438 = .ok (.iconst 1, 1) := by decide +kernel
theorem dL_owner_439 : decode cL_owner 439 = .ok (.iload 10, 2) := by decide +kernel
theorem dL_owner_441 : decode cL_owner 441 = .ok (.ishl, 1) := by decide +kernel
theorem dL_owner_442 : decode cL_owner 442 = .ok (.aload 4, 2) := by decide +kernel
theorem dL_owner_444 : decode cL_owner 444 = .ok (.aload 5, 2) := by decide +kernel
theorem dL_owner_446 : decode cL_owner 446 = .ok (.aload 6, 2) := by decide +kernel
theorem dL_owner_448 : decode cL_owner 448 = .ok (.aload 7, 2) := by decide +kernel
theorem dL_owner_450 : decode cL_owner 450 = .ok (.invokestatic 45, 3) := by decide +kernel
theorem dL_owner_453 : decode cL_owner 453 = .ok (.if_icmp .eq 5, 3) := by decide +kernel
theorem dL_owner_456 : decode cL_owner 456 = .ok (.iconst 0, 1) := by decide +kernel
theorem dL_owner_457 : decode cL_owner 457 = .ok (.ireturn, 1) := by decide +kernel
theorem dL_owner_458 : decode cL_owner 458 = .ok (.iinc 10 1, 3) := by decide +kernel
theorem dL_owner_461 : decode cL_owner 461 = .ok (.goto (-40), 3) := by decide +kernel
theorem dL_owner_464 : decode cL_owner 464 = .ok (.iload_n 2, 1) := by decide +kernel
theorem dL_owner_465 : decode cL_owner 465 = .ok (.iconst 3, 1) := by decide +kernel
theorem dL_owner_466 : decode cL_owner 466 = .ok (.invokestatic 52, 3) := by decide +kernel
theorem dL_owner_469 : decode cL_owner 469 = .ok (.ifCond .eq 5, 3) := by decide +kernel
theorem dL_owner_472 : decode cL_owner 472 = .ok (.iconst 1, 1) := by decide +kernel
theorem dL_owner_473 : decode cL_owner 473 = .ok (.ireturn, 1) := by decide +kernel
theorem dL_owner_474 : decode cL_owner 474 = .ok (.bipush (-6), 2) := by decide +kernel
theorem dL_owner_476 : decode cL_owner 476 = .ok (.istore 10, 2) := by decide +kernel
theorem dL_owner_478 : decode cL_owner 478 = .ok (.iconst 0, 1) := by decide +kernel
theorem dL_owner_479 : decode cL_owner 479 = .ok (.istore 11, 2) := by decide +kernel
theorem dL_owner_481 : decode cL_owner 481 = .ok (.iload 11, 2) := by decide +kernel
theorem dL_owner_483 : decode cL_owner 483 = .ok (.iconst 1, 1) := by decide +kernel
theorem dL_owner_484 : decode cL_owner 484 = .ok (.aload 4, 2) := by decide +kernel
theorem dL_owner_486 : decode cL_owner 486 = .ok (.iconst 0, 1) := by decide +kernel
theorem dL_owner_487 : decode cL_owner 487 = .ok (.iaload, 1) := by decide +kernel
theorem dL_owner_488 : decode cL_owner 488 = .ok (.ishl, 1) := by decide +kernel
theorem dL_owner_489 : decode cL_owner 489 = .ok (.if_icmp .ge 57, 3) := by decide +kernel
theorem dL_owner_492 : decode cL_owner 492 = .ok (.iload 11, 2) := by decide +kernel
theorem dL_owner_494 : decode cL_owner 494 = .ok (.invokestatic 55, 3) := by decide +kernel
theorem dL_owner_497 : decode cL_owner 497 = .ok (.iconst 4, 1) := by decide +kernel
theorem dL_owner_498 : decode cL_owner 498 = .ok (.if_icmp .ge 42, 3) := by decide +kernel
theorem dL_owner_501 : decode cL_owner 501 = .ok (.iload 10, 2) := by decide +kernel
theorem dL_owner_503 : decode cL_owner 503 = .ok (.ifCond .lt 16, 3) := by decide +kernel
theorem dL_owner_506 : decode cL_owner 506 = .ok (.iload 11, 2) := by decide +kernel
theorem dL_owner_508 : decode cL_owner 508 = .ok (.invokestatic 55, 3) := by decide +kernel
theorem dL_owner_511 : decode cL_owner 511 = .ok (.iload 10, 2) := by decide +kernel
theorem dL_owner_513 : decode cL_owner 513 = .ok (.invokestatic 55, 3) := by decide +kernel
theorem dL_owner_516 : decode cL_owner 516 = .ok (.if_icmp .ge 24, 3) := by decide +kernel
theorem dL_owner_519 : decode cL_owner 519 = .ok (.aload_n 3, 1) := by decide +kernel
theorem dL_owner_520 : decode cL_owner 520 = .ok (.iload 11, 2) := by decide +kernel
theorem dL_owner_522 : decode cL_owner 522 = .ok (.aload 4, 2) := by decide +kernel
theorem dL_owner_524 : decode cL_owner 524 = .ok (.aload 5, 2) := by decide +kernel
theorem dL_owner_526 : decode cL_owner 526 = .ok (.aload 6, 2) := by decide +kernel
theorem dL_owner_528 : decode cL_owner 528 = .ok (.aload 7, 2) := by decide +kernel
theorem dL_owner_530 : decode cL_owner 530 = .ok (.invokestatic 45, 3) := by decide +kernel
theorem dL_owner_533 : decode cL_owner 533 = .ok (.ifCond .ne 7, 3) := by decide +kernel
theorem dL_owner_536 : decode cL_owner 536 = .ok (.iload 11, 2) := by decide +kernel
theorem dL_owner_538 : decode cL_owner 538 = .ok (.istore 10, 2) := by decide +kernel
theorem dL_owner_540 : decode cL_owner 540 = .ok (.iinc 11 1, 3) := by decide +kernel
theorem dL_owner_543 : decode cL_owner 543 = .ok (.goto (-62), 3) := by decide +kernel
theorem dL_owner_546 : decode cL_owner 546 = .ok (.bipush (-6), 2) := by decide +kernel
theorem dL_owner_548 : decode cL_owner 548 = .ok (.istore 11, 2) := by decide +kernel
theorem dL_owner_550 : decode cL_owner 550 = .ok (.iconst 0, 1) := by decide +kernel
theorem dL_owner_551 : decode cL_owner 551 = .ok (.istore 12, 2) := by decide +kernel
theorem dL_owner_553 : decode cL_owner 553 = .ok (.iload 12, 2) := by decide +kernel
theorem dL_owner_555 : decode cL_owner 555 = .ok (.aload 4, 2) := by decide +kernel
theorem dL_owner_557 : decode cL_owner 557 = .ok (.iconst 0, 1) := by decide +kernel
theorem dL_owner_558 : decode cL_owner 558 = .ok (.iaload, 1) := by decide +kernel
theorem dL_owner_559 : decode cL_owner 559 = .ok (.if_icmp .gt 44, 3) := by decide +kernel
theorem dL_owner_562 : decode cL_owner 562 = .ok (.aload_n 3, 1) := by decide +kernel
theorem dL_owner_563 : decode cL_owner 563 = .ok (.iconst 1, 1) := by decide +kernel
theorem dL_owner_564 : decode cL_owner 564 = .ok (.aload 4, 2) := by decide +kernel
theorem dL_owner_566 : decode cL_owner 566 = .ok (.iconst 0, 1) := by decide +kernel
theorem dL_owner_567 : decode cL_owner 567 = .ok (.iaload, 1) := by decide +kernel
theorem dL_owner_568 : decode cL_owner 568 = .ok (.ishl, 1) := by decide +kernel
theorem dL_owner_569 : decode cL_owner 569 = .ok (.iconst 1, 1) := by decide +kernel
theorem dL_owner_570 : decode cL_owner 570 = .ok (.iload 12, 2) := by decide +kernel
theorem dL_owner_572 : decode cL_owner 572 = .ok (.ishl, 1) := by decide +kernel
theorem dL_owner_573 : decode cL_owner 573 = .ok (.isub, 1) := by decide +kernel
theorem dL_owner_574 : decode cL_owner 574 = .ok (.aload 4, 2) := by decide +kernel
theorem dL_owner_576 : decode cL_owner 576 = .ok (.aload 5, 2) := by decide +kernel
theorem dL_owner_578 : decode cL_owner 578 = .ok (.aload 6, 2) := by decide +kernel
theorem dL_owner_580 : decode cL_owner 580 = .ok (.aload 7, 2) := by decide +kernel
theorem dL_owner_582 : decode cL_owner 582 = .ok (.invokestatic 45, 3) := by decide +kernel
theorem dL_owner_585 : decode cL_owner 585 = .ok (.ifCond .ne 8, 3) := by decide +kernel
theorem dL_owner_588 : decode cL_owner 588 = .ok (.iload 12, 2) := by decide +kernel
theorem dL_owner_590 : decode cL_owner 590 = .ok (.goto 5, 3) := by decide +kernel
theorem dL_owner_593 : decode cL_owner 593 = .ok (.iload 11, 2) := by decide +kernel
theorem dL_owner_595 : decode cL_owner 595 = .ok (.istore 11, 2) := by decide +kernel
theorem dL_owner_597 : decode cL_owner 597 = .ok (.iinc 12 1, 3) := by decide +kernel
theorem dL_owner_600 : decode cL_owner 600 = .ok (.goto (-47), 3) := by decide +kernel
theorem dL_owner_603 : decode cL_owner 603 = .ok (.aload_n 0, 1) := by decide +kernel
theorem dL_owner_604 : decode cL_owner 604 = .ok (.iload_n 1, 1) := by decide +kernel
theorem dL_owner_605 : decode cL_owner 605 = .ok (.invokevirtual 58, 3) := by decide +kernel
theorem dL_owner_608 : decode cL_owner 608 = .ok (.iload 10, 2) := by decide +kernel
theorem dL_owner_610 : decode cL_owner 610 = .ok (.if_icmp .ne 17, 3) := by decide +kernel
theorem dL_owner_613 : decode cL_owner 613 = .ok (.aload_n 0, 1) := by decide +kernel
theorem dL_owner_614 : decode cL_owner 614 = .ok (.iload_n 1, 1) := by decide +kernel
theorem dL_owner_615 : decode cL_owner 615 = .ok (.invokevirtual 61, 3) := by decide +kernel
theorem dL_owner_618 : decode cL_owner 618 = .ok (.iload 11, 2) := by decide +kernel
theorem dL_owner_620 : decode cL_owner 620 = .ok (.if_icmp .ne 7, 3) := by decide +kernel
theorem dL_owner_623 : decode cL_owner 623 = .ok (.iconst 1, 1) := by decide +kernel
theorem dL_owner_624 : decode cL_owner 624 = .ok (.goto 4, 3) := by decide +kernel
theorem dL_owner_627 : decode cL_owner 627 = .ok (.iconst 0, 1) := by decide +kernel
theorem dL_owner_628 : decode cL_owner 628 = .ok (.ireturn, 1) := by decide +kernel
set_option maxRecDepth 20000 in
theorem ggL_same_X4_text : GoodIn wsL_same wsX4_text := goodIn_r _ [5, 6, 7, 8, 4, 9, 10, 11, 12, 13, 14, 15, 16, 17, 18, 19, 20, 21, 22, 23, 24, 25, 26, 27, 28, 29, 30, 31, 32, 33, 34, 35, 36, 37, 216, 217, 218, 219, 220, 221, 222, 223, 224, 225, 226, 227, 228, 229, 230, 231] (by decide +kernel) (by decide +kernel)
set_option maxRecDepth 20000 in
theorem gL_same_X4_text : GoodIn wsL_same (wsV RL 64 RX4 yX4_text wsX4_text) := goodIn_app (goodIn_of _ (by decide +kernel)) ggL_same_X4_text
set_option maxRecDepth 20000 in
theorem ggL_same_X4_parcel : GoodIn wsL_same wsX4_parcel := goodIn_r _ [41, 6, 42, 43, 44, 45, 46, 47, 48, 49, 50, 51, 52, 53, 54, 55, 56, 57, 216, 217, 218, 219, 220, 221, 222, 223, 224, 225, 226, 227, 228, 229] (by decide +kernel) (by decide +kernel)
set_option maxRecDepth 20000 in
theorem gL_same_X4_parcel : GoodIn wsL_same (wsV RL 67 RX4 yX4_parcel wsX4_parcel) := goodIn_app (goodIn_of _ (by decide +kernel)) ggL_same_X4_parcel
set_option maxRecDepth 20000 in
theorem ggL_same_L_wrongs : GoodIn wsL_same wsL_wrongs := goodIn_r _ [64, 65, 66, 60, 67] (by decide +kernel) (by decide +kernel)
set_option maxRecDepth 20000 in
theorem gL_same_L_wrongs : GoodIn wsL_same (va_wsS RL 20 yL_wrongs wsL_wrongs) := goodIn_app (goodIn_of _ (by decide +kernel)) ggL_same_L_wrongs
set_option maxRecDepth 20000 in
theorem ggL_same_X4_count : GoodIn wsL_same wsX4_count := goodIn_r _ [197, 6, 198, 199, 107, 108, 109, 13, 110, 27, 15, 32, 33, 34, 35, 36, 37, 200, 201, 202, 45, 203, 57, 204, 205, 206, 104, 105, 106, 207, 208, 209, 210, 211, 212, 213, 214, 47, 215, 216, 217, 218, 219, 220, 221, 222, 223, 224, 225, 226, 227, 228, 229, 230, 231, 232, 233, 234, 235, 236] (by decide +kernel) (by decide +kernel)
set_option maxRecDepth 20000 in
theorem gL_same_X4_count : GoodIn wsL_same (wsV RL 74 RX4 yX4_count wsX4_count) := goodIn_app (goodIn_of _ (by decide +kernel)) ggL_same_X4_count
theorem dL_same_0 : decode cL_same 0 = .ok (.iconst 0, 1) := by decide +kernel
theorem dL_same_1 : decode cL_same 1 = .ok (.istore 8, 2) := by decide +kernel
theorem dL_same_3 : decode cL_same 3 = .ok (.iconst 0, 1) := by decide +kernel
theorem dL_same_4 : decode cL_same 4 = .ok (.istore 9, 2) := by decide +kernel
theorem dL_same_6 : decode cL_same 6 = .ok (.iconst 0, 1) := by decide +kernel
theorem dL_same_7 : decode cL_same 7 = .ok (.istore 10, 2) := by decide +kernel
theorem dL_same_9 : decode cL_same 9 = .ok (.bipush (-6), 2) := by decide +kernel
theorem dL_same_11 : decode cL_same 11 = .ok (.istore 11, 2) := by decide +kernel
theorem dL_same_13 : decode cL_same 13 = .ok (.iconst 0, 1) := by decide +kernel
theorem dL_same_14 : decode cL_same 14 = .ok (.istore 12, 2) := by decide +kernel
theorem dL_same_16 : decode cL_same 16 = .ok (.iconst 0, 1) := by decide +kernel
theorem dL_same_17 : decode cL_same 17 = .ok (.istore 13, 2) := by decide +kernel
theorem dL_same_19 : decode cL_same 19 = .ok (.iconst 0, 1) := by decide +kernel
theorem dL_same_20 : decode cL_same 20 = .ok (.istore 14, 2) := by decide +kernel
theorem dL_same_22 : decode cL_same 22 = .ok (.iload 14, 2) := by decide +kernel
theorem dL_same_24 : decode cL_same 24 = .ok (.bipush 10, 2) := by decide +kernel
theorem dL_same_26 : decode cL_same 26 = .ok (.if_icmp .ge 107, 3) := by decide +kernel
theorem dL_same_29 : decode cL_same 29 = .ok (.iload 8, 2) := by decide +kernel
theorem dL_same_31 : decode cL_same 31 = .ok (.aload 6, 2) := by decide +kernel
theorem dL_same_33 : decode cL_same 33 = .ok (.iload 14, 2) := by decide +kernel
theorem dL_same_35 : decode cL_same 35 = .ok (.iaload, 1) := by decide +kernel
theorem dL_same_36 : decode cL_same 36 = .ok (.ifCond .ge 7, 3) := by decide +kernel
theorem dL_same_39 : decode cL_same 39 = .ok (.iconst 0, 1) := by decide +kernel
theorem dL_same_40 : decode cL_same 40 = .ok (.goto 4, 3) := by decide +kernel
theorem dL_same_43 : decode cL_same 43 = .ok (.iconst 1, 1) := by decide +kernel
theorem dL_same_44 : decode cL_same 44 = .ok (.iadd, 1) := by decide +kernel
theorem dL_same_45 : decode cL_same 45 = .ok (.istore 8, 2) := by decide +kernel
theorem dL_same_47 : decode cL_same 47 = .ok (.iload 9, 2) := by decide +kernel
theorem dL_same_49 : decode cL_same 49 = .ok (.aload 6, 2) := by decide +kernel
theorem dL_same_51 : decode cL_same 51 = .ok (.iload 14, 2) := by decide +kernel
theorem dL_same_53 : decode cL_same 53 = .ok (.iaload, 1) := by decide +kernel
theorem dL_same_54 : decode cL_same 54 = .ok (.ifCond .ge 7, 3) := by decide +kernel
theorem dL_same_57 : decode cL_same 57 = .ok (.iconst 0, 1) := by decide +kernel
theorem dL_same_58 : decode cL_same 58 = .ok (.goto 16, 3) := by decide +kernel
theorem dL_same_61 : decode cL_same 61 = .ok (.bipush 10, 2) := by decide +kernel
theorem dL_same_63 : decode cL_same 63 = .ok (.iload 14, 2) := by decide +kernel
theorem dL_same_65 : decode cL_same 65 = .ok (.iadd, 1) := by decide +kernel
theorem dL_same_66 : decode cL_same 66 = .ok (.aload 6, 2) := by decide +kernel
theorem dL_same_68 : decode cL_same 68 = .ok (.iload 14, 2) := by decide +kernel
theorem dL_same_70 : decode cL_same 70 = .ok (.iaload, 1) := by decide +kernel
theorem dL_same_71 : decode cL_same 71 = .ok (.iconst 1, 1) := by decide +kernel
theorem dL_same_72 : decode cL_same 72 = .ok (.iadd, 1) := by decide +kernel
theorem dL_same_73 : decode cL_same 73 = .ok (.imul, 1) := by decide +kernel
theorem dL_same_74 : decode cL_same 74 = .ok (.iadd, 1) := by decide +kernel
theorem dL_same_75 : decode cL_same 75 = .ok (.istore 9, 2) := by decide +kernel
theorem dL_same_77 : decode cL_same 77 = .ok (.iload 10, 2) := by decide +kernel
theorem dL_same_79 : decode cL_same 79 = .ok (.aload 6, 2) := by decide +kernel
theorem dL_same_81 : decode cL_same 81 = .ok (.iload 14, 2) := by decide +kernel
theorem dL_same_83 : decode cL_same 83 = .ok (.iaload, 1) := by decide +kernel
theorem dL_same_84 : decode cL_same 84 = .ok (.ifCond .ne 7, 3) := by decide +kernel
theorem dL_same_87 : decode cL_same 87 = .ok (.iconst 1, 1) := by decide +kernel
theorem dL_same_88 : decode cL_same 88 = .ok (.goto 4, 3) := by decide +kernel
theorem dL_same_91 : decode cL_same 91 = .ok (.iconst 0, 1) := by decide +kernel
theorem dL_same_92 : decode cL_same 92 = .ok (.iadd, 1) := by decide +kernel
theorem dL_same_93 : decode cL_same 93 = .ok (.istore 10, 2) := by decide +kernel
theorem dL_same_95 : decode cL_same 95 = .ok (.aload_n 0, 1) := by decide +kernel
theorem dL_same_96 : decode cL_same 96 = .ok (.bipush 10, 2) := by decide +kernel
theorem dL_same_98 : decode cL_same 98 = .ok (.iload 14, 2) := by decide +kernel
theorem dL_same_100 : decode cL_same 100 = .ok (.iadd, 1) := by decide +kernel
theorem dL_same_101 : decode cL_same 101 = .ok (.invokevirtual 64, 3) := by decide +kernel
theorem dL_same_104 : decode cL_same 104 = .ok (.aload 6, 2) := by decide +kernel
theorem dL_same_106 : decode cL_same 106 = .ok (.iload 14, 2) := by decide +kernel
theorem dL_same_108 : decode cL_same 108 = .ok (.iaload, 1) := by decide +kernel
theorem dL_same_109 : decode cL_same 109 = .ok (.ifCond .ge 8, 3) := by decide +kernel
theorem dL_same_112 : decode cL_same 112 = .ok (.bipush (-6), 2) := by decide +kernel
theorem dL_same_114 : decode cL_same 114 = .ok (.goto 8, 3) := by decide +kernel
theorem dL_same_117 : decode cL_same 117 = .ok (.aload 6, 2) := by decide +kernel
theorem dL_same_119 : decode cL_same 119 = .ok (.iload 14, 2) := by decide +kernel
theorem dL_same_121 : decode cL_same 121 = .ok (.iaload, 1) := by decide +kernel
theorem dL_same_122 : decode cL_same 122 = .ok (.if_icmp .eq 5, 3) := by decide +kernel
theorem dL_same_125 : decode cL_same 125 = .ok (.iconst 0, 1) := by decide +kernel
theorem dL_same_126 : decode cL_same 126 = .ok (.ireturn, 1) := by decide +kernel
theorem dL_same_127 : decode cL_same 127 = .ok (.iinc 14 1, 3) := by decide +kernel
theorem dL_same_130 : decode cL_same 130 = .ok (.goto (-108), 3) := by decide +kernel
theorem dL_same_133 : decode cL_same 133 = .ok (.iconst 0, 1) := by decide +kernel
theorem dL_same_134 : decode cL_same 134 = .ok (.istore 14, 2) := by decide +kernel
theorem dL_same_136 : decode cL_same 136 = .ok (.iload 14, 2) := by decide +kernel
theorem dL_same_138 : decode cL_same 138 = .ok (.aload 4, 2) := by decide +kernel
theorem dL_same_140 : decode cL_same 140 = .ok (.iconst 0, 1) := by decide +kernel
theorem dL_same_141 : decode cL_same 141 = .ok (.iaload, 1) := by decide +kernel
theorem dL_same_142 : decode cL_same 142 = .ok (.if_icmp .ge 236, 3) := by decide +kernel
theorem dL_same_145 : decode cL_same 145 = .ok (.iconst 0, 1) := by decide +kernel
theorem dL_same_146 : decode cL_same 146 = .ok (.istore 15, 2) := by decide +kernel
theorem dL_same_148 : decode cL_same 148 = .ok (.iconst 0, 1) := by decide +kernel
theorem dL_same_149 : decode cL_same 149 = .ok (.istore 16, 2) := by decide +kernel
theorem dL_same_151 : decode cL_same 151 = .ok (.iload 16, 2) := by decide +kernel
theorem dL_same_153 : decode cL_same 153 = .ok (.bipush 10, 2) := by decide +kernel
theorem dL_same_155 : decode cL_same 155 = .ok (.if_icmp .ge 29, 3) := by decide +kernel
theorem dL_same_158 : decode cL_same 158 = .ok (.iload 15, 2) := by decide +kernel
theorem dL_same_160 : decode cL_same 160 = .ok (.aload 6, 2) := by decide +kernel
theorem dL_same_162 : decode cL_same 162 = .ok (.iload 16, 2) := by decide +kernel
theorem dL_same_164 : decode cL_same 164 = .ok (.iaload, 1) := by decide +kernel
theorem dL_same_165 : decode cL_same 165 = .ok (.iload 14, 2) := by decide +kernel
theorem dL_same_167 : decode cL_same 167 = .ok (.if_icmp .ne 7, 3) := by decide +kernel
theorem dL_same_170 : decode cL_same 170 = .ok (.iconst 1, 1) := by decide +kernel
theorem dL_same_171 : decode cL_same 171 = .ok (.goto 4, 3) := by decide +kernel
theorem dL_same_174 : decode cL_same 174 = .ok (.iconst 0, 1) := by decide +kernel
theorem dL_same_175 : decode cL_same 175 = .ok (.iadd, 1) := by decide +kernel
theorem dL_same_176 : decode cL_same 176 = .ok (.istore 15, 2) := by decide +kernel
theorem dL_same_178 : decode cL_same 178 = .ok (.iinc 16 1, 3) := by decide +kernel
theorem dL_same_181 : decode cL_same 181 = .ok (.goto (-30), 3) := by decide +kernel
theorem dL_same_184 : decode cL_same 184 = .ok (.iload 15, 2) := by decide +kernel
theorem dL_same_186 : decode cL_same 186 = .ok (.iload 12, 2) := by decide +kernel
theorem dL_same_188 : decode cL_same 188 = .ok (.if_icmp .le 11, 3) := by decide +kernel
theorem dL_same_191 : decode cL_same 191 = .ok (.iload 15, 2) := by decide +kernel
theorem dL_same_193 : decode cL_same 193 = .ok (.istore 12, 2) := by decide +kernel
theorem dL_same_195 : decode cL_same 195 = .ok (.iload 14, 2) := by decide +kernel
theorem dL_same_197 : decode cL_same 197 = .ok (.istore 11, 2) := by decide +kernel
theorem dL_same_199 : decode cL_same 199 = .ok (.aload_n 0, 1) := by decide +kernel
theorem dL_same_200 : decode cL_same 200 = .ok (.iload 14, 2) := by decide +kernel
theorem dL_same_202 : decode cL_same 202 = .ok (.iconst 0, 1) := by decide +kernel
theorem dL_same_203 : decode cL_same 203 = .ok (.invokevirtual 67, 3) := by decide +kernel
theorem dL_same_206 : decode cL_same 206 = .ok (.aload 5, 2) := by decide +kernel
theorem dL_same_208 : decode cL_same 208 = .ok (.bipush 9, 2) := by decide +kernel
theorem dL_same_210 : decode cL_same 210 = .ok (.iload 14, 2) := by decide +kernel
theorem dL_same_212 : decode cL_same 212 = .ok (.imul, 1) := by decide +kernel
theorem dL_same_213 : decode cL_same 213 = .ok (.iaload, 1) := by decide +kernel
theorem dL_same_214 : decode cL_same 214 = .ok (.if_icmp .eq 5, 3) := by decide +kernel
theorem dL_same_217 : decode cL_same 217 = .ok (.iconst 0, 1) := by decide +kernel
theorem dL_same_218 : decode cL_same 218 = .ok (.ireturn, 1) := by decide +kernel
theorem dL_same_219 : decode cL_same 219 = .ok (.iconst 1, 1) := by decide +kernel
theorem dL_same_220 : decode cL_same 220 = .ok (.istore 16, 2) := by decide +kernel
theorem dL_same_222 : decode cL_same 222 = .ok (.iload 16, 2) := by decide +kernel
theorem dL_same_224 : decode cL_same 224 = .ok (.bipush 8, 2) := by decide +kernel
theorem dL_same_226 : decode cL_same 226 = .ok (.if_icmp .gt 80, 3) := by decide +kernel
theorem dL_same_229 : decode cL_same 229 = .ok (.aload_n 0, 1) := by decide +kernel
theorem dL_same_230 : decode cL_same 230 = .ok (.iload 14, 2) := by decide +kernel
theorem dL_same_232 : decode cL_same 232 = .ok (.iload 16, 2) := by decide +kernel
theorem dL_same_234 : decode cL_same 234 = .ok (.invokevirtual 67, 3) := by decide +kernel
theorem dL_same_237 : decode cL_same 237 = .ok (.iload 16, 2) := by decide +kernel
theorem dL_same_239 : decode cL_same 239 = .ok (.aload 5, 2) := by decide +kernel
theorem dL_same_241 : decode cL_same 241 = .ok (.bipush 9, 2) := by decide +kernel
theorem dL_same_243 : decode cL_same 243 = .ok (.iload 14, 2) := by decide +kernel
theorem dL_same_245 : decode cL_same 245 = .ok (.imul, 1) := by decide +kernel
theorem dL_same_246 : decode cL_same 246 = .ok (.iaload, 1) := by decide +kernel
theorem dL_same_247 : decode cL_same 247 = .ok (.if_icmp .le 8, 3) := by decide +kernel
theorem dL_same_250 : decode cL_same 250 = .ok (.bipush (-6), 2) := by decide +kernel
theorem dL_same_252 : decode cL_same 252 = .ok (.goto 43, 3) := by decide +kernel
theorem dL_same_255 : decode cL_same 255 = .ok (.bipush 10, 2) := by decide +kernel
theorem dL_same_257 : decode cL_same 257 = .ok (.aload 5, 2) := by decide +kernel
theorem dL_same_259 : decode cL_same 259 = .ok (.bipush 9, 2) := by decide +kernel
theorem dL_same_261 : decode cL_same 261 = .ok (.iload 14, 2) := by decide +kernel
theorem dL_same_263 : decode cL_same 263 = .ok (.imul, 1) := by decide +kernel
theorem dL_same_264 : decode cL_same 264 = .ok (.iload 16, 2) := by decide +kernel
theorem dL_same_266 : decode cL_same 266 = .ok (.iadd, 1) := by decide +kernel
theorem dL_same_267 : decode cL_same 267 = .ok (.iaload, 1) := by decide +kernel
theorem dL_same_268 : decode cL_same 268 = .ok (.bipush 10, 2) := by decide +kernel
theorem dL_same_270 : decode cL_same 270 = .ok (.irem, 1) := by decide +kernel
theorem dL_same_271 : decode cL_same 271 = .ok (.iadd, 1) := by decide +kernel
theorem dL_same_272 : decode cL_same 272 = .ok (.aload 5, 2) := by decide +kernel
theorem dL_same_274 : decode cL_same 274 = .ok (.bipush 9, 2) := by decide +kernel
theorem dL_same_276 : decode cL_same 276 = .ok (.iload 14, 2) := by decide +kernel
theorem dL_same_278 : decode cL_same 278 = .ok (.imul, 1) := by decide +kernel
theorem dL_same_279 : decode cL_same 279 = .ok (.iload 16, 2) := by decide +kernel
theorem dL_same_281 : decode cL_same 281 = .ok (.iadd, 1) := by decide +kernel
theorem dL_same_282 : decode cL_same 282 = .ok (.iaload, 1) := by decide +kernel
theorem dL_same_283 : decode cL_same 283 = .ok (.bipush 9, 2) := by decide +kernel
theorem dL_same_285 : decode cL_same 285 = .ok (.if_icmp .le 8, 3) := by decide +kernel
theorem dL_same_288 : decode cL_same 288 = .ok (.bipush 100, 2) := by decide +kernel
theorem dL_same_290 : decode cL_same 290 = .ok (.goto 4, 3) := by decide +kernel
theorem dL_same_293 : decode cL_same 293 = .ok (.iconst 0, 1) := by decide +kernel
theorem dL_same_294 : decode cL_same 294 = .ok (.iadd, 1) := by decide +kernel
theorem dL_same_295 : decode cL_same 295 = .ok (.if_icmp .eq 5, 3) := by decide +kernel
theorem dL_same_298 : decode cL_same 298 = .ok (.iconst 0, 1) := by decide +kernel
theorem dL_same_299 : decode cL_same 299 = .ok (.ireturn, 1) := by decide +kernel
theorem dL_same_300 : decode cL_same 300 = .ok (.iinc 16 1, 3) := by decide +kernel
theorem dL_same_303 : decode cL_same 303 = .ok (.goto (-81), 3) := by decide +kernel
theorem dL_same_306 : decode cL_same 306 = .ok (.aload_n 0, 1) := by decide +kernel
theorem dL_same_307 : decode cL_same 307 = .ok (.iload 14, 2) := by decide +kernel
theorem dL_same_309 : decode cL_same 309 = .ok (.bipush 9, 2) := by decide +kernel
theorem dL_same_311 : decode cL_same 311 = .ok (.invokevirtual 67, 3) := by decide +kernel
theorem dL_same_314 : decode cL_same 314 = .ok (.aload 4, 2) := by decide +kernel
theorem dL_same_316 : decode cL_same 316 = .ok (.iconst 2, 1) := by decide +kernel
theorem dL_same_317 : decode cL_same 317 = .ok (.iaload, 1) := by decide +kernel
theorem dL_same_318 : decode cL_same 318 = .ok (.iload 14, 2) := by decide +kernel
theorem dL_same_320 : decode cL_same 320 = .ok (.ishr, 1) := by decide +kernel
theorem dL_same_321 : decode cL_same 321 = .ok (.iconst 1, 1) := by decide +kernel
theorem dL_same_322 : decode cL_same 322 = .ok (.iand, 1) := by decide +kernel
theorem dL_same_323 : decode cL_same 323 = .ok (.iconst 2, 1) := by decide +kernel
theorem dL_same_324 : decode cL_same 324 = .ok (.aload 4, 2) := by decide +kernel
theorem dL_same_326 : decode cL_same 326 = .ok (.iconst 3, 1) := by decide +kernel
theorem dL_same_327 : decode cL_same 327 = .ok (.iaload, 1) := by decide +kernel
theorem dL_same_328 : decode cL_same 328 = .ok (.iload 14, 2) := by decide +kernel
theorem dL_same_330 : decode cL_same 330 = .ok (.ishr, 1) := by decide +kernel
theorem dL_same_331 : decode cL_same 331 = .ok (.iconst 1, 1) := by decide +kernel
theorem dL_same_332 : decode cL_same 332 = .ok (.iand, 1) := by decide +kernel
theorem dL_same_333 : decode cL_same 333 = .ok (.imul, 1) := by decide +kernel
theorem dL_same_334 : decode cL_same 334 = .ok (.iadd, 1) := by decide +kernel
theorem dL_same_335 : decode cL_same 335 = .ok (.if_icmp .ne 35, 3) := by decide +kernel
theorem dL_same_338 : decode cL_same 338 = .ok (.aload_n 0, 1) := by decide +kernel
theorem dL_same_339 : decode cL_same 339 = .ok (.iload 14, 2) := by decide +kernel
theorem dL_same_341 : decode cL_same 341 = .ok (.bipush 10, 2) := by decide +kernel
theorem dL_same_343 : decode cL_same 343 = .ok (.invokevirtual 67, 3) := by decide +kernel
theorem dL_same_346 : decode cL_same 346 = .ok (.aload 4, 2) := by decide +kernel
theorem dL_same_348 : decode cL_same 348 = .ok (.iconst 4, 1) := by decide +kernel
theorem dL_same_349 : decode cL_same 349 = .ok (.iaload, 1) := by decide +kernel
theorem dL_same_350 : decode cL_same 350 = .ok (.iload 14, 2) := by decide +kernel
theorem dL_same_352 : decode cL_same 352 = .ok (.ishr, 1) := by decide +kernel
theorem dL_same_353 : decode cL_same 353 = .ok (.iconst 1, 1) := by decide +kernel
theorem dL_same_354 : decode cL_same 354 = .ok (.iand, 1) := by decide +kernel
theorem dL_same_355 : decode cL_same 355 = .ok (.iconst 2, 1) := by decide +kernel
theorem dL_same_356 : decode cL_same 356 = .ok (.aload 4, 2) := by decide +kernel
theorem dL_same_358 : decode cL_same 358 = .ok (.iconst 5, 1) := by decide +kernel
theorem dL_same_359 : decode cL_same 359 = .ok (.iaload, 1) := by decide +kernel
theorem dL_same_360 : decode cL_same 360 = .ok (.iload 14, 2) := by decide +kernel
theorem dL_same_362 : decode cL_same 362 = .ok (.ishr, 1) := by decide +kernel
theorem dL_same_363 : decode cL_same 363 = .ok (.iconst 1, 1) := by decide +kernel
theorem dL_same_364 : decode cL_same 364 = .ok (.iand, 1) := by decide +kernel
theorem dL_same_365 : decode cL_same 365 = .ok (.imul, 1) := by decide +kernel
theorem dL_same_366 : decode cL_same 366 = .ok (.iadd, 1) := by decide +kernel
theorem dL_same_367 : decode cL_same 367 = .ok (.if_icmp .eq 5, 3) := by decide +kernel
theorem dL_same_370 : decode cL_same 370 = .ok (.iconst 0, 1) := by decide +kernel
theorem dL_same_371 : decode cL_same 371 = .ok (.ireturn, 1) := by decide +kernel
theorem dL_same_372 : decode cL_same 372 = .ok (.iinc 14 1, 3) := by decide +kernel
theorem dL_same_375 : decode cL_same 375 = .ok (.goto (-239), 3) := by decide +kernel
theorem dL_same_378 : decode cL_same 378 = .ok (.aload 4, 2) := by decide +kernel
theorem dL_same_380 : decode cL_same 380 = .ok (.iconst 1, 1) := by decide +kernel
theorem dL_same_381 : decode cL_same 381 = .ok (.iaload, 1) := by decide +kernel
theorem dL_same_382 : decode cL_same 382 = .ok (.ifCond .le 21, 3) := by decide +kernel
theorem dL_same_385 : decode cL_same 385 = .ok (.aload_n 0, 1) := by decide +kernel
theorem dL_same_386 : decode cL_same 386 = .ok (.iconst 0, 1) := by decide +kernel
theorem dL_same_387 : decode cL_same 387 = .ok (.iload_n 1, 1) := by decide +kernel
theorem dL_same_388 : decode cL_same 388 = .ok (.aload_n 2, 1) := by decide +kernel
theorem dL_same_389 : decode cL_same 389 = .ok (.aload 4, 2) := by decide +kernel
theorem dL_same_391 : decode cL_same 391 = .ok (.aload 5, 2) := by decide +kernel
theorem dL_same_393 : decode cL_same 393 = .ok (.aload 6, 2) := by decide +kernel
theorem dL_same_395 : decode cL_same 395 = .ok (.aload 7, 2) := by decide +kernel
theorem dL_same_397 : decode cL_same 397 = .ok (.invokestatic 70, 3) := by decide +kernel
theorem dL_same_400 : decode cL_same 400 = .ok (.ifCond .eq 31, 3) := by decide +kernel
theorem dL_same_403 : decode cL_same 403 = .ok (.aload 4, 2) := by decide +kernel
theorem dL_same_405 : decode cL_same 405 = .ok (.iconst 1, 1) := by decide +kernel
theorem dL_same_406 : decode cL_same 406 = .ok (.iaload, 1) := by decide +kernel
theorem dL_same_407 : decode cL_same 407 = .ok (.iconst 1, 1) := by decide +kernel
theorem dL_same_408 : decode cL_same 408 = .ok (.if_icmp .le 25, 3) := by decide +kernel
theorem dL_same_411 : decode cL_same 411 = .ok (.aload_n 0, 1) := by decide +kernel
theorem dL_same_412 : decode cL_same 412 = .ok (.iconst 1, 1) := by decide +kernel
theorem dL_same_413 : decode cL_same 413 = .ok (.iload_n 1, 1) := by decide +kernel
theorem dL_same_414 : decode cL_same 414 = .ok (.iconst 2, 1) := by decide +kernel
theorem dL_same_415 : decode cL_same 415 = .ok (.ishr, 1) := by decide +kernel
theorem dL_same_416 : decode cL_same 416 = .ok (.aload_n 3, 1) := by decide +kernel
theorem dL_same_417 : decode cL_same 417 = .ok (.aload 4, 2) := by decide +kernel
theorem dL_same_419 : decode cL_same 419 = .ok (.aload 5, 2) := by decide +kernel
theorem dL_same_421 : decode cL_same 421 = .ok (.aload 6, 2) := by decide +kernel
theorem dL_same_423 : decode cL_same 423 = .ok (.aload 7, 2) := by decide +kernel
theorem dL_same_425 : decode cL_same 425 = .ok (.invokestatic 70, 3) := by decide +kernel
theorem dL_same_428 : decode cL_same 428 = .ok (.ifCond .ne 5, 3) := by decide +kernel
theorem dL_same_431 : decode cL_same 431 = .ok (.iconst 0, 1) := by decide +kernel
theorem dL_same_432 : decode cL_same 432 = .ok (.ireturn, 1) := by decide +kernel
theorem dL_same_433 : decode cL_same 433 = .ok (.iload 13, 2) := by decide +kernel
theorem dL_same_435 : decode cL_same 435 = .ok (.aload 4, 2) := by decide +kernel
theorem dL_same_437 : decode cL_same 437 = .ok (.iconst 1, 1) := by decide +kernel
theorem dL_same_438 : decode cL_same 438 = .ok (.iaload, 1) := by decide +kernel
theorem dL_same_439 : decode cL_same 439 = .ok (.ifCond .le 16, 3) := by decide +kernel
theorem dL_same_442 : decode cL_same 442 = .ok (.aload_n 2, 1) := by decide +kernel
theorem dL_same_443 : decode cL_same 443 = .ok (.aload 6, 2) := by decide +kernel
theorem dL_same_445 : decode cL_same 445 = .ok (.invokestatic 20, 3) := by decide +kernel
theorem dL_same_448 : decode cL_same 448 = .ok (.ifCond .ne 7, 3) := by decide +kernel
theorem dL_same_451 : decode cL_same 451 = .ok (.iconst 1, 1) := by decide +kernel
theorem dL_same_452 : decode cL_same 452 = .ok (.goto 4, 3) := by decide +kernel
theorem dL_same_455 : decode cL_same 455 = .ok (.iconst 0, 1) := by decide +kernel
theorem dL_same_456 : decode cL_same 456 = .ok (.iadd, 1) := by decide +kernel
theorem dL_same_457 : decode cL_same 457 = .ok (.istore 13, 2) := by decide +kernel
theorem dL_same_459 : decode cL_same 459 = .ok (.iload 13, 2) := by decide +kernel
theorem dL_same_461 : decode cL_same 461 = .ok (.aload 4, 2) := by decide +kernel
theorem dL_same_463 : decode cL_same 463 = .ok (.iconst 1, 1) := by decide +kernel
theorem dL_same_464 : decode cL_same 464 = .ok (.iaload, 1) := by decide +kernel
theorem dL_same_465 : decode cL_same 465 = .ok (.iconst 1, 1) := by decide +kernel
theorem dL_same_466 : decode cL_same 466 = .ok (.if_icmp .le 16, 3) := by decide +kernel
theorem dL_same_469 : decode cL_same 469 = .ok (.aload_n 3, 1) := by decide +kernel
