set_option maxRecDepth 20000 in
theorem ggX4_count_X3_parcelWithMostLeaves : GoodIn wsX4_count wsX3_parcelWithMostLeaves := goodIn_r _ [36, 37, 24, 38, 30, 31, 7, 32, 9, 10, 14, 15, 16, 45, 46, 47, 48, 49, 50, 51, 52, 53, 54] (by decide +kernel) (by decide +kernel)
set_option maxRecDepth 20000 in
theorem gX4_count_X3_parcelWithMostLeaves : GoodIn wsX4_count (wsV RX4 172 RX3 yX3_parcelWithMostLeaves wsX3_parcelWithMostLeaves) := goodIn_app (goodIn_of _ (by decide +kernel)) ggX4_count_X3_parcelWithMostLeaves
theorem dX4_count_0 : decode cX4_count 0 = .ok (.iload_n 1, 1) := by decide +kernel
theorem dX4_count_1 : decode cX4_count 1 = .ok (.tableswitch 133 0 8 #[51, 59, 67, 78, 89, 97, 109, 117, 125], 51) := by decide +kernel
theorem dX4_count_52 : decode cX4_count 52 = .ok (.aload_n 0, 1) := by decide +kernel
theorem dX4_count_53 : decode cX4_count 53 = .ok (.getfield 10, 3) := by decide +kernel
theorem dX4_count_56 : decode cX4_count 56 = .ok (.getfield 53, 3) := by decide +kernel
theorem dX4_count_59 : decode cX4_count 59 = .ok (.ireturn, 1) := by decide +kernel
theorem dX4_count_60 : decode cX4_count 60 = .ok (.aload_n 0, 1) := by decide +kernel
theorem dX4_count_61 : decode cX4_count 61 = .ok (.getfield 10, 3) := by decide +kernel
theorem dX4_count_64 : decode cX4_count 64 = .ok (.getfield 68, 3) := by decide +kernel
theorem dX4_count_67 : decode cX4_count 67 = .ok (.ireturn, 1) := by decide +kernel
theorem dX4_count_68 : decode cX4_count 68 = .ok (.aload_n 0, 1) := by decide +kernel
theorem dX4_count_69 : decode cX4_count 69 = .ok (.getfield 10, 3) := by decide +kernel
theorem dX4_count_72 : decode cX4_count 72 = .ok (.getfield 138, 3) := by decide +kernel
theorem dX4_count_75 : decode cX4_count 75 = .ok (.getfield 99, 3) := by decide +kernel
theorem dX4_count_78 : decode cX4_count 78 = .ok (.ireturn, 1) := by decide +kernel
theorem dX4_count_79 : decode cX4_count 79 = .ok (.aload_n 0, 1) := by decide +kernel
theorem dX4_count_80 : decode cX4_count 80 = .ok (.getfield 10, 3) := by decide +kernel
theorem dX4_count_83 : decode cX4_count 83 = .ok (.getfield 138, 3) := by decide +kernel
theorem dX4_count_86 : decode cX4_count 86 = .ok (.invokevirtual 163, 3) := by decide +kernel
theorem dX4_count_89 : decode cX4_count 89 = .ok (.ireturn, 1) := by decide +kernel
theorem dX4_count_90 : decode cX4_count 90 = .ok (.aload_n 0, 1) := by decide +kernel
theorem dX4_count_91 : decode cX4_count 91 = .ok (.getfield 10, 3) := by decide +kernel
theorem dX4_count_94 : decode cX4_count 94 = .ok (.invokevirtual 166, 3) := by decide +kernel
theorem dX4_count_97 : decode cX4_count 97 = .ok (.ireturn, 1) := by decide +kernel
theorem dX4_count_98 : decode cX4_count 98 = .ok (.aload_n 0, 1) := by decide +kernel
theorem dX4_count_99 : decode cX4_count 99 = .ok (.getfield 10, 3) := by decide +kernel
theorem dX4_count_102 : decode cX4_count 102 = .ok (.getfield 138, 3) := by decide +kernel
theorem dX4_count_105 : decode cX4_count 105 = .ok (.iconst 0, 1) := by decide +kernel
theorem dX4_count_106 : decode cX4_count 106 = .ok (.invokevirtual 169, 3) := by decide +kernel
theorem dX4_count_109 : decode cX4_count 109 = .ok (.ireturn, 1) := by decide +kernel
theorem dX4_count_110 : decode cX4_count 110 = .ok (.aload_n 0, 1) := by decide +kernel
theorem dX4_count_111 : decode cX4_count 111 = .ok (.getfield 10, 3) := by decide +kernel
theorem dX4_count_114 : decode cX4_count 114 = .ok (.invokevirtual 172, 3) := by decide +kernel
theorem dX4_count_117 : decode cX4_count 117 = .ok (.ireturn, 1) := by decide +kernel
theorem dX4_count_118 : decode cX4_count 118 = .ok (.aload_n 0, 1) := by decide +kernel
theorem dX4_count_119 : decode cX4_count 119 = .ok (.getfield 34, 3) := by decide +kernel
theorem dX4_count_122 : decode cX4_count 122 = .ok (.getfield 175, 3) := by decide +kernel
theorem dX4_count_125 : decode cX4_count 125 = .ok (.ireturn, 1) := by decide +kernel
theorem dX4_count_126 : decode cX4_count 126 = .ok (.aload_n 0, 1) := by decide +kernel
theorem dX4_count_127 : decode cX4_count 127 = .ok (.getfield 19, 3) := by decide +kernel
theorem dX4_count_130 : decode cX4_count 130 = .ok (.getfield 178, 3) := by decide +kernel
theorem dX4_count_133 : decode cX4_count 133 = .ok (.ireturn, 1) := by decide +kernel
theorem dX4_count_134 : decode cX4_count 134 = .ok (.bipush (-2), 2) := by decide +kernel
theorem dX4_count_136 : decode cX4_count 136 = .ok (.ireturn, 1) := by decide +kernel
set_option maxRecDepth 20000 in
theorem ggX4_ifDone_X3_hasOwner : GoodIn wsX4_ifDone wsX3_hasOwner := goodIn_r _ [6, 7, 107, 108, 109, 110, 111, 112, 113, 114] (by decide +kernel) (by decide +kernel)
set_option maxRecDepth 20000 in
theorem gX4_ifDone_X3_hasOwner : GoodIn wsX4_ifDone (wsV RX4 74 RX3 yX3_hasOwner wsX3_hasOwner) := goodIn_app (goodIn_of _ (by decide +kernel)) ggX4_ifDone_X3_hasOwner
set_option maxRecDepth 20000 in
theorem ggX4_ifDone_X3_hasParcel : GoodIn wsX4_ifDone wsX3_hasParcel := goodIn_r _ [11, 12, 107, 108, 109, 110, 111, 112, 113, 114] (by decide +kernel) (by decide +kernel)
set_option maxRecDepth 20000 in
theorem gX4_ifDone_X3_hasParcel : GoodIn wsX4_ifDone (wsV RX4 78 RX3 yX3_hasParcel wsX3_hasParcel) := goodIn_app (goodIn_of _ (by decide +kernel)) ggX4_ifDone_X3_hasParcel
set_option maxRecDepth 20000 in
theorem ggX4_ifDone_X4_tried : GoodIn wsX4_ifDone wsX4_tried := goodIn_r _ [17, 18, 1, 19, 20, 21, 22, 23, 24, 25, 26, 27, 28, 29, 30, 31, 32, 5, 33, 12, 34, 35, 36, 37, 38, 39, 40, 41, 42, 43, 44, 45, 46, 47, 48, 49, 50, 51, 52, 53, 54, 55, 56, 57, 58, 59, 60, 61, 62, 63, 64, 65, 66, 67, 68, 69, 70, 71, 72, 73, 101, 102, 103, 104, 105, 106, 107, 108, 109, 110, 111, 112, 113, 114, 115, 116] (by decide +kernel) (by decide +kernel)
set_option maxRecDepth 20000 in
theorem gX4_ifDone_X4_tried : GoodIn wsX4_ifDone (wsV RX4 179 RX4 yX4_tried wsX4_tried) := goodIn_app (goodIn_of _ (by decide +kernel)) ggX4_ifDone_X4_tried
set_option maxRecDepth 20000 in
theorem ggX4_ifDone_X0_wrong : GoodIn wsX4_ifDone wsX0_wrong := goodIn_r _ [77, 78, 79, 80, 22, 81, 82, 83, 84, 85, 86, 87, 88, 89, 48, 49, 50, 51, 52, 53, 54, 55, 56, 57, 58, 25, 24, 59, 60, 61, 62, 63, 64, 65, 90, 91, 92, 93, 94, 95, 96, 97, 98, 99, 100, 115, 116] (by decide +kernel) (by decide +kernel)
set_option maxRecDepth 20000 in
theorem gX4_ifDone_X0_wrong : GoodIn wsX4_ifDone (wsV RX4 183 RX0 yX0_wrong wsX0_wrong) := goodIn_app (goodIn_of _ (by decide +kernel)) ggX4_ifDone_X0_wrong
theorem dX4_ifDone_0 : decode cX4_ifDone 0 = .ok (.aload_n 0, 1) := by decide +kernel
theorem dX4_ifDone_1 : decode cX4_ifDone 1 = .ok (.getfield 10, 3) := by decide +kernel
theorem dX4_ifDone_4 : decode cX4_ifDone 4 = .ok (.iload_n 1, 1) := by decide +kernel
theorem dX4_ifDone_5 : decode cX4_ifDone 5 = .ok (.invokevirtual 74, 3) := by decide +kernel
theorem dX4_ifDone_8 : decode cX4_ifDone 8 = .ok (.ifCond .eq 14, 3) := by decide +kernel
theorem dX4_ifDone_11 : decode cX4_ifDone 11 = .ok (.aload_n 0, 1) := by decide +kernel
theorem dX4_ifDone_12 : decode cX4_ifDone 12 = .ok (.getfield 10, 3) := by decide +kernel
theorem dX4_ifDone_15 : decode cX4_ifDone 15 = .ok (.iload_n 2, 1) := by decide +kernel
theorem dX4_ifDone_16 : decode cX4_ifDone 16 = .ok (.invokevirtual 78, 3) := by decide +kernel
theorem dX4_ifDone_19 : decode cX4_ifDone 19 = .ok (.ifCond .ne 5, 3) := by decide +kernel
theorem dX4_ifDone_22 : decode cX4_ifDone 22 = .ok (.iconst (-1), 1) := by decide +kernel
theorem dX4_ifDone_23 : decode cX4_ifDone 23 = .ok (.ireturn, 1) := by decide +kernel
theorem dX4_ifDone_24 : decode cX4_ifDone 24 = .ok (.aload_n 0, 1) := by decide +kernel
theorem dX4_ifDone_25 : decode cX4_ifDone 25 = .ok (.iload_n 1, 1) := by decide +kernel
theorem dX4_ifDone_26 : decode cX4_ifDone 26 = .ok (.iconst 1, 1) := by decide +kernel
theorem dX4_ifDone_27 : decode cX4_ifDone 27 = .ok (.iload_n 2, 1) := by decide +kernel
theorem dX4_ifDone_28 : decode cX4_ifDone 28 = .ok (.ishl, 1) := by decide +kernel
theorem dX4_ifDone_29 : decode cX4_ifDone 29 = .ok (.invokevirtual 179, 3) := by decide +kernel
theorem dX4_ifDone_32 : decode cX4_ifDone 32 = .ok (.aload_n 0, 1) := by decide +kernel
theorem dX4_ifDone_33 : decode cX4_ifDone 33 = .ok (.getfield 10, 3) := by decide +kernel
theorem dX4_ifDone_36 : decode cX4_ifDone 36 = .ok (.getfield 138, 3) := by decide +kernel
theorem dX4_ifDone_39 : decode cX4_ifDone 39 = .ok (.invokevirtual 183, 3) := by decide +kernel
theorem dX4_ifDone_42 : decode cX4_ifDone 42 = .ok (.ireturn, 1) := by decide +kernel
set_option maxRecDepth 20000 in
theorem ggX4_ifAllDone_X3_hasOwner : GoodIn wsX4_ifAllDone wsX3_hasOwner := goodIn_r _ [6, 7, 103, 104, 105, 106, 107, 108, 109, 110] (by decide +kernel) (by decide +kernel)
set_option maxRecDepth 20000 in
theorem gX4_ifAllDone_X3_hasOwner : GoodIn wsX4_ifAllDone (wsV RX4 74 RX3 yX3_hasOwner wsX3_hasOwner) := goodIn_app (goodIn_of _ (by decide +kernel)) ggX4_ifAllDone_X3_hasOwner
set_option maxRecDepth 20000 in
theorem ggX4_ifAllDone_X4_tried : GoodIn wsX4_ifAllDone wsX4_tried := goodIn_r _ [12, 13, 1, 14, 15, 16, 17, 18, 19, 20, 21, 22, 23, 24, 25, 26, 27, 5, 28, 29, 30, 31, 32, 33, 34, 35, 36, 37, 38, 39, 40, 41, 42, 43, 44, 45, 46, 47, 48, 49, 50, 51, 52, 53, 54, 55, 56, 57, 58, 59, 60, 61, 62, 63, 64, 65, 66, 67, 68, 69, 97, 98, 99, 100, 101, 102, 103, 104, 105, 106, 107, 108, 109, 110, 111, 112] (by decide +kernel) (by decide +kernel)
set_option maxRecDepth 20000 in
theorem gX4_ifAllDone_X4_tried : GoodIn wsX4_ifAllDone (wsV RX4 179 RX4 yX4_tried wsX4_tried) := goodIn_app (goodIn_of _ (by decide +kernel)) ggX4_ifAllDone_X4_tried
set_option maxRecDepth 20000 in
theorem ggX4_ifAllDone_X0_wrong : GoodIn wsX4_ifAllDone wsX0_wrong := goodIn_r _ [73, 74, 75, 76, 17, 77, 78, 79, 80, 81, 82, 83, 84, 85, 44, 45, 46, 47, 48, 49, 50, 51, 52, 53, 54, 20, 19, 55, 56, 57, 58, 59, 60, 61, 86, 87, 88, 89, 90, 91, 92, 93, 94, 95, 96, 111, 112] (by decide +kernel) (by decide +kernel)
set_option maxRecDepth 20000 in
theorem gX4_ifAllDone_X0_wrong : GoodIn wsX4_ifAllDone (wsV RX4 183 RX0 yX0_wrong wsX0_wrong) := goodIn_app (goodIn_of _ (by decide +kernel)) ggX4_ifAllDone_X0_wrong
theorem dX4_ifAllDone_0 : decode cX4_ifAllDone 0 = .ok (.aload_n 0, 1) := by decide +kernel
theorem dX4_ifAllDone_1 : decode cX4_ifAllDone 1 = .ok (.getfield 10, 3) := by decide +kernel
theorem dX4_ifAllDone_4 : decode cX4_ifAllDone 4 = .ok (.iload_n 1, 1) := by decide +kernel
theorem dX4_ifAllDone_5 : decode cX4_ifAllDone 5 = .ok (.invokevirtual 74, 3) := by decide +kernel
theorem dX4_ifAllDone_8 : decode cX4_ifAllDone 8 = .ok (.ifCond .ne 5, 3) := by decide +kernel
theorem dX4_ifAllDone_11 : decode cX4_ifAllDone 11 = .ok (.iconst (-1), 1) := by decide +kernel
theorem dX4_ifAllDone_12 : decode cX4_ifAllDone 12 = .ok (.ireturn, 1) := by decide +kernel
theorem dX4_ifAllDone_13 : decode cX4_ifAllDone 13 = .ok (.aload_n 0, 1) := by decide +kernel
theorem dX4_ifAllDone_14 : decode cX4_ifAllDone 14 = .ok (.iload_n 1, 1) := by decide +kernel
theorem dX4_ifAllDone_15 : decode cX4_ifAllDone 15 = .ok (.aload_n 0, 1) := by decide +kernel
theorem dX4_ifAllDone_16 : decode cX4_ifAllDone 16 = .ok (.getfield 10, 3) := by decide +kernel
theorem dX4_ifAllDone_19 : decode cX4_ifAllDone 19 = .ok (.getfield 85, 3) := by decide +kernel
theorem dX4_ifAllDone_22 : decode cX4_ifAllDone 22 = .ok (.iload_n 1, 1) := by decide +kernel
theorem dX4_ifAllDone_23 : decode cX4_ifAllDone 23 = .ok (.iaload, 1) := by decide +kernel
theorem dX4_ifAllDone_24 : decode cX4_ifAllDone 24 = .ok (.invokevirtual 179, 3) := by decide +kernel
theorem dX4_ifAllDone_27 : decode cX4_ifAllDone 27 = .ok (.aload_n 0, 1) := by decide +kernel
theorem dX4_ifAllDone_28 : decode cX4_ifAllDone 28 = .ok (.getfield 10, 3) := by decide +kernel
theorem dX4_ifAllDone_31 : decode cX4_ifAllDone 31 = .ok (.getfield 138, 3) := by decide +kernel
theorem dX4_ifAllDone_34 : decode cX4_ifAllDone 34 = .ok (.invokevirtual 183, 3) := by decide +kernel
theorem dX4_ifAllDone_37 : decode cX4_ifAllDone 37 = .ok (.ireturn, 1) := by decide +kernel
set_option maxRecDepth 20000 in
theorem ggX4_mending_X3_hasOwner : GoodIn wsX4_mending wsX3_hasOwner := goodIn_r _ [7, 8, 78, 79, 80, 81, 82, 83, 84, 85] (by decide +kernel) (by decide +kernel)
set_option maxRecDepth 20000 in
theorem gX4_mending_X3_hasOwner : GoodIn wsX4_mending (wsV RX4 74 RX3 yX3_hasOwner wsX3_hasOwner) := goodIn_app (goodIn_of _ (by decide +kernel)) ggX4_mending_X3_hasOwner
set_option maxRecDepth 20000 in
theorem ggX4_mending_X0_copy : GoodIn wsX4_mending wsX0_copy := goodIn_r _ [13, 14, 15, 16, 17, 18, 19, 86, 87] (by decide +kernel) (by decide +kernel)
set_option maxRecDepth 20000 in
theorem gX4_mending_X0_copy : GoodIn wsX4_mending (wsV RX4 187 RX0 yX0_copy wsX0_copy) := goodIn_app (goodIn_of _ (by decide +kernel)) ggX4_mending_X0_copy
set_option maxRecDepth 20000 in
theorem ggX4_mending_X4_lowestMending : GoodIn wsX4_mending wsX4_lowestMending := goodIn_r _ [23, 24, 25, 26, 27, 28, 29, 30, 12, 31, 15, 14, 9, 10, 11, 13, 16, 17, 18, 19, 32, 33, 34, 6, 35, 36, 37, 38, 39, 40, 41, 42, 43, 44, 45, 46, 47, 48, 49, 50, 51, 52, 53, 54, 55, 56, 57, 58, 59, 60, 61, 62, 63, 64, 65, 66, 67, 68, 69, 70, 71, 20, 21, 22, 78, 79, 80, 81, 82, 83, 84, 85, 86, 87] (by decide +kernel) (by decide +kernel)
set_option maxRecDepth 20000 in
theorem gX4_mending_X4_lowestMending : GoodIn wsX4_mending (va_wsS RX4 191 yX4_lowestMending wsX4_lowestMending) := goodIn_app (goodIn_of _ (by decide +kernel)) ggX4_mending_X4_lowestMending
theorem dX4_mending_0 : decode cX4_mending 0 = .ok (.aload_n 0, 1) := by decide +kernel
theorem dX4_mending_1 : decode cX4_mending 1 = .ok (.getfield 10, 3) := by decide +kernel
theorem dX4_mending_4 : decode cX4_mending 4 = .ok (.iload_n 1, 1) := by decide +kernel
theorem dX4_mending_5 : decode cX4_mending 5 = .ok (.invokevirtual 74, 3) := by decide +kernel
theorem dX4_mending_8 : decode cX4_mending 8 = .ok (.ifCond .ne 5, 3) := by decide +kernel
theorem dX4_mending_11 : decode cX4_mending 11 = .ok (.iconst (-1), 1) := by decide +kernel
theorem dX4_mending_12 : decode cX4_mending 12 = .ok (.ireturn, 1) := by decide +kernel
theorem dX4_mending_13 : decode cX4_mending 13 = .ok (.aload_n 0, 1) := by decide +kernel
theorem dX4_mending_14 : decode cX4_mending 14 = .ok (.getfield 40, 3) := by decide +kernel
theorem dX4_mending_17 : decode cX4_mending 17 = .ok (.iconst 0, 1) := by decide +kernel
theorem dX4_mending_18 : decode cX4_mending 18 = .ok (.aaload, 1) := by decide +kernel
theorem dX4_mending_19 : decode cX4_mending 19 = .ok (.aload_n 0, 1) := by decide +kernel
theorem dX4_mending_20 : decode cX4_mending 20 = .ok (.getfield 10, 3) := by decide +kernel
theorem dX4_mending_23 : decode cX4_mending 23 = .ok (.getfield 89, 3) := by decide +kernel
theorem dX4_mending_26 : decode cX4_mending 26 = .ok (.iload_n 1, 1) := by decide +kernel
theorem dX4_mending_27 : decode cX4_mending 27 = .ok (.aaload, 1) := by decide +kernel
theorem dX4_mending_28 : decode cX4_mending 28 = .ok (.invokevirtual 187, 3) := by decide +kernel
theorem dX4_mending_31 : decode cX4_mending 31 = .ok (.iconst 0, 1) := by decide +kernel
theorem dX4_mending_32 : decode cX4_mending 32 = .ok (.istore_n 2, 1) := by decide +kernel
theorem dX4_mending_33 : decode cX4_mending 33 = .ok (.iload_n 2, 1) := by decide +kernel
theorem dX4_mending_34 : decode cX4_mending 34 = .ok (.iconst 3, 1) := by decide +kernel
theorem dX4_mending_35 : decode cX4_mending 35 = .ok (.if_icmp .gt 32, 3) := by decide +kernel
theorem dX4_mending_38 : decode cX4_mending 38 = .ok (.aload_n 0, 1) := by decide +kernel
theorem dX4_mending_39 : decode cX4_mending 39 = .ok (.getfield 10, 3) := by decide +kernel
theorem dX4_mending_42 : decode cX4_mending 42 = .ok (.aload_n 0, 1) := by decide +kernel
theorem dX4_mending_43 : decode cX4_mending 43 = .ok (.getfield 40, 3) := by decide +kernel
theorem dX4_mending_46 : decode cX4_mending 46 = .ok (.iconst 0, 1) := by decide +kernel
theorem dX4_mending_47 : decode cX4_mending 47 = .ok (.iconst 0, 1) := by decide +kernel
theorem dX4_mending_48 : decode cX4_mending 48 = .ok (.iload_n 2, 1) := by decide +kernel
theorem dX4_mending_49 : decode cX4_mending 49 = .ok (.invokestatic 191, 3) := by decide +kernel
theorem dX4_mending_52 : decode cX4_mending 52 = .ok (.istore_n 3, 1) := by decide +kernel
theorem dX4_mending_53 : decode cX4_mending 53 = .ok (.iload_n 3, 1) := by decide +kernel
theorem dX4_mending_54 : decode cX4_mending 54 = .ok (.bipush (-6), 2) := by decide +kernel
theorem dX4_mending_56 : decode cX4_mending 56 = .ok (.if_icmp .eq 5, 3) := by decide +kernel
theorem dX4_mending_59 : decode cX4_mending 59 = .ok (.iload_n 3, 1) := by decide +kernel
theorem dX4_mending_60 : decode cX4_mending 60 = .ok (.ireturn, 1) := by decide +kernel
theorem dX4_mending_61 : decode cX4_mending 61 = .ok (.iinc 2 1, 3) := by decide +kernel
theorem dX4_mending_64 : decode cX4_mending 64 = .ok (.goto (-31), 3) := by decide +kernel
theorem dX4_mending_67 : decode cX4_mending 67 = .ok (.bipush (-6), 2) := by decide +kernel
theorem dX4_mending_69 : decode cX4_mending 69 = .ok (.ireturn, 1) := by decide +kernel
set_option maxRecDepth 20000 in
theorem ggX4_rightFrom_X3_hasOwner : GoodIn wsX4_rightFrom wsX3_hasOwner := goodIn_r _ [6, 7, 80, 81, 82, 83, 84, 85, 86, 87] (by decide +kernel) (by decide +kernel)
set_option maxRecDepth 20000 in
theorem gX4_rightFrom_X3_hasOwner : GoodIn wsX4_rightFrom (wsV RX4 74 RX3 yX3_hasOwner wsX3_hasOwner) := goodIn_app (goodIn_of _ (by decide +kernel)) ggX4_rightFrom_X3_hasOwner
set_option maxRecDepth 20000 in
theorem ggX4_rightFrom_X4_tried : GoodIn wsX4_rightFrom wsX4_tried := goodIn_r _ [12, 13, 1, 14, 15, 16, 17, 18, 19, 20, 21, 22, 23, 24, 25, 26, 27, 5, 28, 29, 30, 31, 32, 33, 34, 35, 36, 37, 38, 39, 40, 41, 42, 43, 44, 45, 46, 47, 48, 49, 50, 51, 52, 53, 54, 55, 56, 57, 58, 59, 60, 61, 62, 63, 64, 65, 66, 67, 68, 69, 74, 75, 76, 77, 78, 79, 80, 81, 82, 83, 84, 85, 86, 87, 88, 89] (by decide +kernel) (by decide +kernel)
set_option maxRecDepth 20000 in
theorem gX4_rightFrom_X4_tried : GoodIn wsX4_rightFrom (wsV RX4 179 RX4 yX4_tried wsX4_tried) := goodIn_app (goodIn_of _ (by decide +kernel)) ggX4_rightFrom_X4_tried
set_option maxRecDepth 20000 in
theorem ggX4_rightFrom_X0_isSameAs : GoodIn wsX4_rightFrom wsX0_isSameAs := goodIn_r _ [73, 20, 19, 88, 89] (by decide +kernel) (by decide +kernel)
set_option maxRecDepth 20000 in
theorem gX4_rightFrom_X0_isSameAs : GoodIn wsX4_rightFrom (wsV RX4 159 RX0 yX0_isSameAs wsX0_isSameAs) := goodIn_app (goodIn_of _ (by decide +kernel)) ggX4_rightFrom_X0_isSameAs
theorem dX4_rightFrom_0 : decode cX4_rightFrom 0 = .ok (.aload_n 0, 1) := by decide +kernel
theorem dX4_rightFrom_1 : decode cX4_rightFrom 1 = .ok (.getfield 10, 3) := by decide +kernel
theorem dX4_rightFrom_4 : decode cX4_rightFrom 4 = .ok (.iload_n 1, 1) := by decide +kernel
theorem dX4_rightFrom_5 : decode cX4_rightFrom 5 = .ok (.invokevirtual 74, 3) := by decide +kernel
theorem dX4_rightFrom_8 : decode cX4_rightFrom 8 = .ok (.ifCond .ne 5, 3) := by decide +kernel
theorem dX4_rightFrom_11 : decode cX4_rightFrom 11 = .ok (.iconst (-1), 1) := by decide +kernel
theorem dX4_rightFrom_12 : decode cX4_rightFrom 12 = .ok (.ireturn, 1) := by decide +kernel
theorem dX4_rightFrom_13 : decode cX4_rightFrom 13 = .ok (.aload_n 0, 1) := by decide +kernel
theorem dX4_rightFrom_14 : decode cX4_rightFrom 14 = .ok (.getfield 10, 3) := by decide +kernel
theorem dX4_rightFrom_17 : decode cX4_rightFrom 17 = .ok (.getfield 53, 3) := by decide +kernel
theorem dX4_rightFrom_20 : decode cX4_rightFrom 20 = .ok (.istore_n 2, 1) := by decide +kernel
theorem dX4_rightFrom_21 : decode cX4_rightFrom 21 = .ok (.iload_n 2, 1) := by decide +kernel
theorem dX4_rightFrom_22 : decode cX4_rightFrom 22 = .ok (.ifCond .lt 44, 3) := by decide +kernel
theorem dX4_rightFrom_25 : decode cX4_rightFrom 25 = .ok (.iconst 1, 1) := by decide +kernel
theorem dX4_rightFrom_26 : decode cX4_rightFrom 26 = .ok (.aload_n 0, 1) := by decide +kernel
theorem dX4_rightFrom_27 : decode cX4_rightFrom 27 = .ok (.getfield 10, 3) := by decide +kernel
theorem dX4_rightFrom_30 : decode cX4_rightFrom 30 = .ok (.getfield 53, 3) := by decide +kernel
theorem dX4_rightFrom_33 : decode cX4_rightFrom 33 = .ok (.ishl, 1) := by decide +kernel
theorem dX4_rightFrom_34 : decode cX4_rightFrom 34 = .ok (.iconst 1, 1) := by decide +kernel
theorem dX4_rightFrom_35 : decode cX4_rightFrom 35 = .ok (.iload_n 2, 1) := by decide +kernel
theorem dX4_rightFrom_36 : decode cX4_rightFrom 36 = .ok (.ishl, 1) := by decide +kernel
theorem dX4_rightFrom_37 : decode cX4_rightFrom 37 = .ok (.isub, 1) := by decide +kernel
theorem dX4_rightFrom_38 : decode cX4_rightFrom 38 = .ok (.istore_n 3, 1) := by decide +kernel
theorem dX4_rightFrom_39 : decode cX4_rightFrom 39 = .ok (.aload_n 0, 1) := by decide +kernel
theorem dX4_rightFrom_40 : decode cX4_rightFrom 40 = .ok (.iload_n 1, 1) := by decide +kernel
theorem dX4_rightFrom_41 : decode cX4_rightFrom 41 = .ok (.iload_n 3, 1) := by decide +kernel
theorem dX4_rightFrom_42 : decode cX4_rightFrom 42 = .ok (.invokevirtual 179, 3) := by decide +kernel
theorem dX4_rightFrom_45 : decode cX4_rightFrom 45 = .ok (.aload_n 0, 1) := by decide +kernel
theorem dX4_rightFrom_46 : decode cX4_rightFrom 46 = .ok (.getfield 10, 3) := by decide +kernel
theorem dX4_rightFrom_49 : decode cX4_rightFrom 49 = .ok (.getfield 138, 3) := by decide +kernel
theorem dX4_rightFrom_52 : decode cX4_rightFrom 52 = .ok (.invokevirtual 159, 3) := by decide +kernel
theorem dX4_rightFrom_55 : decode cX4_rightFrom 55 = .ok (.ifCond .eq 5, 3) := by decide +kernel
theorem dX4_rightFrom_58 : decode cX4_rightFrom 58 = .ok (.iload_n 2, 1) := by decide +kernel
theorem dX4_rightFrom_59 : decode cX4_rightFrom 59 = .ok (.ireturn, 1) := by decide +kernel
theorem dX4_rightFrom_60 : decode cX4_rightFrom 60 = .ok (.iinc 2 (-1), 3) := by decide +kernel
theorem dX4_rightFrom_63 : decode cX4_rightFrom 63 = .ok (.goto (-42), 3) := by decide +kernel
theorem dX4_rightFrom_66 : decode cX4_rightFrom 66 = .ok (.bipush (-6), 2) := by decide +kernel
theorem dX4_rightFrom_68 : decode cX4_rightFrom 68 = .ok (.ireturn, 1) := by decide +kernel
set_option maxRecDepth 20000 in
theorem ggX4_put_X2_charactersIn : GoodIn wsX4_put wsX2_charactersIn := goodIn_r _ [5, 6, 7, 8] (by decide +kernel) (by decide +kernel)
set_option maxRecDepth 20000 in
theorem gX4_put_X2_charactersIn : GoodIn wsX4_put (va_wsS RX4 195 yX2_charactersIn wsX2_charactersIn) := goodIn_app (goodIn_of _ (by decide +kernel)) ggX4_put_X2_charactersIn
set_option maxRecDepth 20000 in
theorem ggX4_put_X2_append : GoodIn wsX4_put wsX2_append := goodIn_r _ [12, 13, 14, 6, 21, 22] (by decide +kernel) (by decide +kernel)
set_option maxRecDepth 20000 in
theorem gX4_put_X2_append : GoodIn wsX4_put (wsV RX4 199 RX2 yX2_append wsX2_append) := goodIn_app (goodIn_of _ (by decide +kernel)) ggX4_put_X2_append
theorem dX4_put_0 : decode cX4_put 0 = .ok (.lload_n 1, 1) := by decide +kernel
theorem dX4_put_1 : decode cX4_put 1 = .ok (.invokestatic 195, 3) := by decide +kernel
theorem dX4_put_4 : decode cX4_put 4 = .ok (.istore_n 3, 1) := by decide +kernel
theorem dX4_put_5 : decode cX4_put 5 = .ok (.iload_n 3, 1) := by decide +kernel
theorem dX4_put_6 : decode cX4_put 6 = .ok (.ifCond .ne 6, 3) := by decide +kernel
theorem dX4_put_9 : decode cX4_put 9 = .ok (.bipush (-2), 2) := by decide +kernel
theorem dX4_put_11 : decode cX4_put 11 = .ok (.ireturn, 1) := by decide +kernel
theorem dX4_put_12 : decode cX4_put 12 = .ok (.aload_n 0, 1) := by decide +kernel
theorem dX4_put_13 : decode cX4_put 13 = .ok (.getfield 34, 3) := by decide +kernel
theorem dX4_put_16 : decode cX4_put 16 = .ok (.getfield 175, 3) := by decide +kernel
theorem dX4_put_19 : decode cX4_put 19 = .ok (.iload_n 3, 1) := by decide +kernel
theorem dX4_put_20 : decode cX4_put 20 = .ok (.iadd, 1) := by decide +kernel
theorem dX4_put_21 : decode cX4_put 21 = .ok (.bipush 48, 2) := by decide +kernel
theorem dX4_put_23 : decode cX4_put 23 = .ok (.if_icmp .le 6, 3) := by decide +kernel
theorem dX4_put_26 : decode cX4_put 26 = .ok (.bipush (-4), 2) := by decide +kernel
theorem dX4_put_28 : decode cX4_put 28 = .ok (.ireturn, 1) := by decide +kernel
theorem dX4_put_29 : decode cX4_put 29 = .ok (.aload_n 0, 1) := by decide +kernel
theorem dX4_put_30 : decode cX4_put 30 = .ok (.getfield 34, 3) := by decide +kernel
theorem dX4_put_33 : decode cX4_put 33 = .ok (.lload_n 1, 1) := by decide +kernel
theorem dX4_put_34 : decode cX4_put 34 = .ok (.iload_n 3, 1) := by decide +kernel
theorem dX4_put_35 : decode cX4_put 35 = .ok (.invokevirtual 199, 3) := by decide +kernel
theorem dX4_put_38 : decode cX4_put 38 = .ok (.aload_n 0, 1) := by decide +kernel
theorem dX4_put_39 : decode cX4_put 39 = .ok (.getfield 34, 3) := by decide +kernel
theorem dX4_put_42 : decode cX4_put 42 = .ok (.getfield 175, 3) := by decide +kernel
theorem dX4_put_45 : decode cX4_put 45 = .ok (.ireturn, 1) := by decide +kernel
set_option maxRecDepth 20000 in
theorem ggX4_wipe_X2_empty : GoodIn wsX4_wipe wsX2_empty := goodIn_r _ [6, 7, 14, 15] (by decide +kernel) (by decide +kernel)
set_option maxRecDepth 20000 in
theorem gX4_wipe_X2_empty : GoodIn wsX4_wipe (wsV RX4 65 RX2 yX2_empty wsX2_empty) := goodIn_app (goodIn_of _ (by decide +kernel)) ggX4_wipe_X2_empty
theorem dX4_wipe_0 : decode cX4_wipe 0 = .ok (.aload_n 0, 1) := by decide +kernel
theorem dX4_wipe_1 : decode cX4_wipe 1 = .ok (.getfield 34, 3) := by decide +kernel
theorem dX4_wipe_4 : decode cX4_wipe 4 = .ok (.getfield 175, 3) := by decide +kernel
theorem dX4_wipe_7 : decode cX4_wipe 7 = .ok (.istore_n 1, 1) := by decide +kernel
theorem dX4_wipe_8 : decode cX4_wipe 8 = .ok (.aload_n 0, 1) := by decide +kernel
theorem dX4_wipe_9 : decode cX4_wipe 9 = .ok (.getfield 34, 3) := by decide +kernel
theorem dX4_wipe_12 : decode cX4_wipe 12 = .ok (.invokevirtual 65, 3) := by decide +kernel
theorem dX4_wipe_15 : decode cX4_wipe 15 = .ok (.iload_n 1, 1) := by decide +kernel
theorem dX4_wipe_16 : decode cX4_wipe 16 = .ok (.ireturn, 1) := by decide +kernel
theorem dX4_isNumber_0 : decode cX4_isNumber 0 = .ok (.iload_n 0, 1) := by decide +kernel
theorem dX4_isNumber_1 : decode cX4_isNumber 1 = .ok (.bipush 10, 2) := by decide +kernel
theorem dX4_isNumber_3 : decode cX4_isNumber 3 = .ok (.if_icmp .lt 13, 3) := by decide +kernel
theorem dX4_isNumber_6 : decode cX4_isNumber 6 = .ok (.iload_n 0, 1) := by decide +kernel
theorem dX4_isNumber_7 : decode cX4_isNumber 7 = .ok (.bipush 99, 2) := by decide +kernel
theorem dX4_isNumber_9 : decode cX4_isNumber 9 = .ok (.if_icmp .gt 7, 3) := by decide +kernel
theorem dX4_isNumber_12 : decode cX4_isNumber 12 = .ok (.iconst 1, 1) := by decide +kernel
theorem dX4_isNumber_13 : decode cX4_isNumber 13 = .ok (.goto 4, 3) := by decide +kernel
theorem dX4_isNumber_16 : decode cX4_isNumber 16 = .ok (.iconst 0, 1) := by decide +kernel
theorem dX4_isNumber_17 : decode cX4_isNumber 17 = .ok (.ireturn, 1) := by decide +kernel
set_option maxRecDepth 20000 in
theorem ggX4_tried_X0_copy : GoodIn wsX4_tried wsX0_copy := goodIn_r _ [7, 8, 9, 10, 11, 12, 13, 74, 75] (by decide +kernel) (by decide +kernel)
set_option maxRecDepth 20000 in
theorem gX4_tried_X0_copy : GoodIn wsX4_tried (wsV RX4 187 RX0 yX0_copy wsX0_copy) := goodIn_app (goodIn_of _ (by decide +kernel)) ggX4_tried_X0_copy
set_option maxRecDepth 20000 in
theorem ggX4_tried_X3_doSetWithCare : GoodIn wsX4_tried wsX3_doSetWithCare := goodIn_r _ [18, 19, 20, 21, 22, 17, 23, 24, 25, 26, 27, 28, 29, 30, 31, 32, 6, 33, 34, 35, 36, 37, 38, 39, 40, 41, 42, 43, 44, 9, 8, 45, 46, 47, 48, 49, 50, 51, 52, 53, 54, 55, 10, 11, 12, 13, 56, 57, 58, 59, 66, 67, 68, 69, 70, 71, 72, 73, 74, 75] (by decide +kernel) (by decide +kernel)
set_option maxRecDepth 20000 in
theorem gX4_tried_X3_doSetWithCare : GoodIn wsX4_tried (wsV RX4 102 RX3 yX3_doSetWithCare wsX3_doSetWithCare) := goodIn_app (goodIn_of _ (by decide +kernel)) ggX4_tried_X3_doSetWithCare
theorem dX4_tried_0 : decode cX4_tried 0 = .ok (.aload_n 0, 1) := by decide +kernel
theorem dX4_tried_1 : decode cX4_tried 1 = .ok (.getfield 40, 3) := by decide +kernel
theorem dX4_tried_4 : decode cX4_tried 4 = .ok (.iconst 0, 1) := by decide +kernel
theorem dX4_tried_5 : decode cX4_tried 5 = .ok (.aaload, 1) := by decide +kernel
theorem dX4_tried_6 : decode cX4_tried 6 = .ok (.astore_n 3, 1) := by decide +kernel
theorem dX4_tried_7 : decode cX4_tried 7 = .ok (.aload_n 3, 1) := by decide +kernel
theorem dX4_tried_8 : decode cX4_tried 8 = .ok (.aload_n 0, 1) := by decide +kernel
theorem dX4_tried_9 : decode cX4_tried 9 = .ok (.getfield 10, 3) := by decide +kernel
theorem dX4_tried_12 : decode cX4_tried 12 = .ok (.getfield 89, 3) := by decide +kernel
theorem dX4_tried_15 : decode cX4_tried 15 = .ok (.iload_n 1, 1) := by decide +kernel
theorem dX4_tried_16 : decode cX4_tried 16 = .ok (.aaload, 1) := by decide +kernel
theorem dX4_tried_17 : decode cX4_tried 17 = .ok (.invokevirtual 187, 3) := by decide +kernel
theorem dX4_tried_20 : decode cX4_tried 20 = .ok (.aload_n 0, 1) := by decide +kernel
theorem dX4_tried_21 : decode cX4_tried 21 = .ok (.getfield 10, 3) := by decide +kernel
theorem dX4_tried_24 : decode cX4_tried 24 = .ok (.aload_n 3, 1) := by decide +kernel
theorem dX4_tried_25 : decode cX4_tried 25 = .ok (.iload_n 2, 1) := by decide +kernel
theorem dX4_tried_26 : decode cX4_tried 26 = .ok (.invokevirtual 102, 3) := by decide +kernel
theorem dX4_tried_29 : decode cX4_tried 29 = .ok (.aload_n 3, 1) := by decide +kernel
theorem dX4_tried_30 : decode cX4_tried 30 = .ok (.areturn, 1) := by decide +kernel
set_option maxRecDepth 20000 in
theorem ggX4_lowestMending_X0_isSameAs : GoodIn wsX4_lowestMending wsX0_isSameAs := goodIn_r _ [9, 10, 11, 72, 73] (by decide +kernel) (by decide +kernel)
set_option maxRecDepth 20000 in
theorem gX4_lowestMending_X0_isSameAs : GoodIn wsX4_lowestMending (wsV RX4 159 RX0 yX0_isSameAs wsX0_isSameAs) := goodIn_app (goodIn_of _ (by decide +kernel)) ggX4_lowestMending_X0_isSameAs
set_option maxRecDepth 20000 in
theorem ggX4_lowestMending_X0_copy : GoodIn wsX4_lowestMending wsX0_copy := goodIn_r _ [15, 11, 10, 16, 17, 18, 19, 72, 73] (by decide +kernel) (by decide +kernel)
set_option maxRecDepth 20000 in
theorem gX4_lowestMending_X0_copy : GoodIn wsX4_lowestMending (wsV RX4 187 RX0 yX0_copy wsX0_copy) := goodIn_app (goodIn_of _ (by decide +kernel)) ggX4_lowestMending_X0_copy
set_option maxRecDepth 20000 in
theorem ggX4_lowestMending_X3_doWithCare : GoodIn wsX4_lowestMending wsX3_doWithCare := goodIn_r _ [24, 25, 26, 27, 28, 23, 29, 30, 31, 32, 33, 8, 34, 35, 36, 37, 38, 39, 40, 41, 42, 43, 44, 45, 10, 11, 46, 47, 48, 49, 50, 51, 52, 53, 54, 55, 56, 16, 17, 18, 19, 57, 58, 59, 60, 64, 65, 66, 67, 68, 69, 70, 71, 72, 73] (by decide +kernel) (by decide +kernel)
set_option maxRecDepth 20000 in
theorem gX4_lowestMending_X3_doWithCare : GoodIn wsX4_lowestMending (wsV RX4 92 RX3 yX3_doWithCare wsX3_doWithCare) := goodIn_app (goodIn_of _ (by decide +kernel)) ggX4_lowestMending_X3_doWithCare
set_option maxRecDepth 20000 in
theorem ggX4_lowestMending_X4_lowestMending : GoodIn wsX4_lowestMending wsX4_lowestMending := goodIn_r _ [0, 1, 2, 3, 4, 5, 6, 7, 8, 9, 10, 11, 12, 13, 14, 15, 16, 17, 18, 19, 20, 21, 22, 23, 24, 25, 26, 27, 28, 29, 30, 31, 32, 33, 34, 35, 36, 37, 38, 39, 40, 41, 42, 43, 44, 45, 46, 47, 48, 49, 50, 51, 52, 53, 54, 55, 56, 57, 58, 59, 60, 61, 62, 63, 64, 65, 66, 67, 68, 69, 70, 71, 72, 73] (by decide +kernel) (by decide +kernel)
set_option maxRecDepth 20000 in
theorem gX4_lowestMending_X4_lowestMending : GoodIn wsX4_lowestMending (va_wsS RX4 191 yX4_lowestMending wsX4_lowestMending) := goodIn_app (goodIn_of _ (by decide +kernel)) ggX4_lowestMending_X4_lowestMending
theorem dX4_lowestMending_0 : decode cX4_lowestMending 0 = .ok (.iload 4, 2) := by decide +kernel
theorem dX4_lowestMending_2 : decode cX4_lowestMending 2 = .ok (.ifCond .le 8, 3) := by decide +kernel
theorem dX4_lowestMending_5 : decode cX4_lowestMending 5 = .ok (.iload_n 2, 1) := by decide +kernel
theorem dX4_lowestMending_6 : decode cX4_lowestMending 6 = .ok (.iconst 3, 1) := by decide +kernel
theorem dX4_lowestMending_7 : decode cX4_lowestMending 7 = .ok (.if_icmp .lt 23, 3) := by decide +kernel
theorem dX4_lowestMending_10 : decode cX4_lowestMending 10 = .ok (.aload_n 1, 1) := by decide +kernel
theorem dX4_lowestMending_11 : decode cX4_lowestMending 11 = .ok (.iload_n 2, 1) := by decide +kernel
theorem dX4_lowestMending_12 : decode cX4_lowestMending 12 = .ok (.aaload, 1) := by decide +kernel
theorem dX4_lowestMending_13 : decode cX4_lowestMending 13 = .ok (.aload_n 0, 1) := by decide +kernel
theorem dX4_lowestMending_14 : decode cX4_lowestMending 14 = .ok (.getfield 138, 3) := by decide +kernel
theorem dX4_lowestMending_17 : decode cX4_lowestMending 17 = .ok (.invokevirtual 159, 3) := by decide +kernel
theorem dX4_lowestMending_20 : decode cX4_lowestMending 20 = .ok (.ifCond .eq 7, 3) := by decide +kernel
theorem dX4_lowestMending_23 : decode cX4_lowestMending 23 = .ok (.iconst 0, 1) := by decide +kernel
theorem dX4_lowestMending_24 : decode cX4_lowestMending 24 = .ok (.goto 5, 3) := by decide +kernel
theorem dX4_lowestMending_27 : decode cX4_lowestMending 27 = .ok (.bipush (-6), 2) := by decide +kernel
theorem dX4_lowestMending_29 : decode cX4_lowestMending 29 = .ok (.ireturn, 1) := by decide +kernel
theorem dX4_lowestMending_30 : decode cX4_lowestMending 30 = .ok (.bipush (-6), 2) := by decide +kernel
theorem dX4_lowestMending_32 : decode cX4_lowestMending 32 = .ok (.istore 5, 2) := by decide +kernel
theorem dX4_lowestMending_34 : decode cX4_lowestMending 34 = .ok (.iload_n 3, 1) := by decide +kernel
theorem dX4_lowestMending_35 : decode cX4_lowestMending 35 = .ok (.istore 6, 2) := by decide +kernel
theorem dX4_lowestMending_37 : decode cX4_lowestMending 37 = .ok (.iload 6, 2) := by decide +kernel
theorem dX4_lowestMending_39 : decode cX4_lowestMending 39 = .ok (.aload_n 0, 1) := by decide +kernel
theorem dX4_lowestMending_40 : decode cX4_lowestMending 40 = .ok (.getfield 53, 3) := by decide +kernel
theorem dX4_lowestMending_43 : decode cX4_lowestMending 43 = .ok (.if_icmp .ge 86, 3) := by decide +kernel
theorem dX4_lowestMending_46 : decode cX4_lowestMending 46 = .ok (.aload_n 1, 1) := by decide +kernel
theorem dX4_lowestMending_47 : decode cX4_lowestMending 47 = .ok (.iload_n 2, 1) := by decide +kernel
theorem dX4_lowestMending_48 : decode cX4_lowestMending 48 = .ok (.iconst 1, 1) := by decide +kernel
theorem dX4_lowestMending_49 : decode cX4_lowestMending 49 = .ok (.iadd, 1) := by decide +kernel
theorem dX4_lowestMending_50 : decode cX4_lowestMending 50 = .ok (.aaload, 1) := by decide +kernel
theorem dX4_lowestMending_51 : decode cX4_lowestMending 51 = .ok (.aload_n 1, 1) := by decide +kernel
theorem dX4_lowestMending_52 : decode cX4_lowestMending 52 = .ok (.iload_n 2, 1) := by decide +kernel
theorem dX4_lowestMending_53 : decode cX4_lowestMending 53 = .ok (.aaload, 1) := by decide +kernel
theorem dX4_lowestMending_54 : decode cX4_lowestMending 54 = .ok (.invokevirtual 187, 3) := by decide +kernel
theorem dX4_lowestMending_57 : decode cX4_lowestMending 57 = .ok (.aload_n 0, 1) := by decide +kernel
theorem dX4_lowestMending_58 : decode cX4_lowestMending 58 = .ok (.aload_n 1, 1) := by decide +kernel
theorem dX4_lowestMending_59 : decode cX4_lowestMending 59 = .ok (.iload_n 2, 1) := by decide +kernel
theorem dX4_lowestMending_60 : decode cX4_lowestMending 60 = .ok (.iconst 1, 1) := by decide +kernel
theorem dX4_lowestMending_61 : decode cX4_lowestMending 61 = .ok (.iadd, 1) := by decide +kernel
theorem dX4_lowestMending_62 : decode cX4_lowestMending 62 = .ok (.aaload, 1) := by decide +kernel
theorem dX4_lowestMending_63 : decode cX4_lowestMending 63 = .ok (.iload 6, 2) := by decide +kernel
theorem dX4_lowestMending_65 : decode cX4_lowestMending 65 = .ok (.invokevirtual 92, 3) := by decide +kernel
theorem dX4_lowestMending_68 : decode cX4_lowestMending 68 = .ok (.aload_n 0, 1) := by decide +kernel
theorem dX4_lowestMending_69 : decode cX4_lowestMending 69 = .ok (.aload_n 1, 1) := by decide +kernel
theorem dX4_lowestMending_70 : decode cX4_lowestMending 70 = .ok (.iload_n 2, 1) := by decide +kernel
theorem dX4_lowestMending_71 : decode cX4_lowestMending 71 = .ok (.iconst 1, 1) := by decide +kernel
theorem dX4_lowestMending_72 : decode cX4_lowestMending 72 = .ok (.iadd, 1) := by decide +kernel
theorem dX4_lowestMending_73 : decode cX4_lowestMending 73 = .ok (.iload 6, 2) := by decide +kernel
theorem dX4_lowestMending_75 : decode cX4_lowestMending 75 = .ok (.iconst 1, 1) := by decide +kernel
theorem dX4_lowestMending_76 : decode cX4_lowestMending 76 = .ok (.iadd, 1) := by decide +kernel
theorem dX4_lowestMending_77 : decode cX4_lowestMending 77 = .ok (.iload 4, 2) := by decide +kernel
theorem dX4_lowestMending_79 : decode cX4_lowestMending 79 = .ok (.iconst 1, 1) := by decide +kernel
theorem dX4_lowestMending_80 : decode cX4_lowestMending 80 = .ok (.isub, 1) := by decide +kernel
theorem dX4_lowestMending_81 : decode cX4_lowestMending 81 = .ok (.invokestatic 191, 3) := by decide +kernel
theorem dX4_lowestMending_84 : decode cX4_lowestMending 84 = .ok (.istore 7, 2) := by decide +kernel
theorem dX4_lowestMending_86 : decode cX4_lowestMending 86 = .ok (.iload 7, 2) := by decide +kernel
theorem dX4_lowestMending_88 : decode cX4_lowestMending 88 = .ok (.bipush (-6), 2) := by decide +kernel
theorem dX4_lowestMending_90 : decode cX4_lowestMending 90 = .ok (.if_icmp .eq 33, 3) := by decide +kernel
theorem dX4_lowestMending_93 : decode cX4_lowestMending 93 = .ok (.iload 7, 2) := by decide +kernel
theorem dX4_lowestMending_95 : decode cX4_lowestMending 95 = .ok (.iconst 1, 1) := by decide +kernel
theorem dX4_lowestMending_96 : decode cX4_lowestMending 96 = .ok (.iload 6, 2) := by decide +kernel
theorem dX4_lowestMending_98 : decode cX4_lowestMending 98 = .ok (.ishl, 1) := by decide +kernel
theorem dX4_lowestMending_99 : decode cX4_lowestMending 99 = .ok (.ior, 1) := by decide +kernel
theorem dX4_lowestMending_100 : decode cX4_lowestMending 100 = .ok (.istore 8, 2) := by decide +kernel
theorem dX4_lowestMending_102 : decode cX4_lowestMending 102 = .ok (.iload 5, 2) := by decide +kernel
theorem dX4_lowestMending_104 : decode cX4_lowestMending 104 = .ok (.bipush (-6), 2) := by decide +kernel
theorem dX4_lowestMending_106 : decode cX4_lowestMending 106 = .ok (.if_icmp .ne 8, 3) := by decide +kernel
theorem dX4_lowestMending_109 : decode cX4_lowestMending 109 = .ok (.iload 8, 2) := by decide +kernel
theorem dX4_lowestMending_111 : decode cX4_lowestMending 111 = .ok (.goto 10, 3) := by decide +kernel
theorem dX4_lowestMending_114 : decode cX4_lowestMending 114 = .ok (.iload 5, 2) := by decide +kernel
theorem dX4_lowestMending_116 : decode cX4_lowestMending 116 = .ok (.iload 8, 2) := by decide +kernel
theorem dX4_lowestMending_118 : decode cX4_lowestMending 118 = .ok (.invokestatic 211, 3) := by decide +kernel
theorem dX4_lowestMending_121 : decode cX4_lowestMending 121 = .ok (.istore 5, 2) := by decide +kernel
theorem dX4_lowestMending_123 : decode cX4_lowestMending 123 = .ok (.iinc 6 1, 3) := by decide +kernel
theorem dX4_lowestMending_126 : decode cX4_lowestMending 126 = .ok (.goto (-89), 3) := by decide +kernel
theorem dX4_lowestMending_129 : decode cX4_lowestMending 129 = .ok (.iload 5, 2) := by decide +kernel
theorem dX4_lowestMending_131 : decode cX4_lowestMending 131 = .ok (.ireturn, 1) := by decide +kernel
theorem dJ6_bitCount_0f7a4_0 : decode cJ6_bitCount_0f7a4 0 = .ok (.iload_n 0, 1) := by decide +kernel
theorem dJ6_bitCount_0f7a4_1 : decode cJ6_bitCount_0f7a4 1 = .ok (.iload_n 0, 1) := by decide +kernel
theorem dJ6_bitCount_0f7a4_2 : decode cJ6_bitCount_0f7a4 2 = .ok (.iconst 1, 1) := by decide +kernel
theorem dJ6_bitCount_0f7a4_3 : decode cJ6_bitCount_0f7a4 3 = .ok (.iushr, 1) := by decide +kernel
theorem dJ6_bitCount_0f7a4_4 : decode cJ6_bitCount_0f7a4 4 = .ok (.ldc_w 265, 3) := by decide +kernel
theorem dJ6_bitCount_0f7a4_7 : decode cJ6_bitCount_0f7a4 7 = .ok (.iand, 1) := by decide +kernel
theorem dJ6_bitCount_0f7a4_8 : decode cJ6_bitCount_0f7a4 8 = .ok (.isub, 1) := by decide +kernel
theorem dJ6_bitCount_0f7a4_9 : decode cJ6_bitCount_0f7a4 9 = .ok (.istore_n 0, 1) := by decide +kernel
theorem dJ6_bitCount_0f7a4_10 : decode cJ6_bitCount_0f7a4 10 = .ok (.iload_n 0, 1) := by decide +kernel
theorem dJ6_bitCount_0f7a4_11 : decode cJ6_bitCount_0f7a4 11 = .ok (.ldc_w 266, 3) := by decide +kernel
theorem dJ6_bitCount_0f7a4_14 : decode cJ6_bitCount_0f7a4 14 = .ok (.iand, 1) := by decide +kernel
theorem dJ6_bitCount_0f7a4_15 : decode cJ6_bitCount_0f7a4 15 = .ok (.iload_n 0, 1) := by decide +kernel
theorem dJ6_bitCount_0f7a4_16 : decode cJ6_bitCount_0f7a4 16 = .ok (.iconst 2, 1) := by decide +kernel
theorem dJ6_bitCount_0f7a4_17 : decode cJ6_bitCount_0f7a4 17 = .ok (.iushr, 1) := by decide +kernel
theorem dJ6_bitCount_0f7a4_18 : decode cJ6_bitCount_0f7a4 18 = .ok (.ldc_w 266, 3) := by decide +kernel
theorem dJ6_bitCount_0f7a4_21 : decode cJ6_bitCount_0f7a4 21 = .ok (.iand, 1) := by decide +kernel
theorem dJ6_bitCount_0f7a4_22 : decode cJ6_bitCount_0f7a4 22 = .ok (.iadd, 1) := by decide +kernel
theorem dJ6_bitCount_0f7a4_23 : decode cJ6_bitCount_0f7a4 23 = .ok (.istore_n 0, 1) := by decide +kernel
theorem dJ6_bitCount_0f7a4_24 : decode cJ6_bitCount_0f7a4 24 = .ok (.iload_n 0, 1) := by decide +kernel
theorem dJ6_bitCount_0f7a4_25 : decode cJ6_bitCount_0f7a4 25 = .ok (.iload_n 0, 1) := by decide +kernel
theorem dJ6_bitCount_0f7a4_26 : decode cJ6_bitCount_0f7a4 26 = .ok (.iconst 4, 1) := by decide +kernel
theorem dJ6_bitCount_0f7a4_27 : decode cJ6_bitCount_0f7a4 27 = .ok (.iushr, 1) := by decide +kernel
theorem dJ6_bitCount_0f7a4_28 : decode cJ6_bitCount_0f7a4 28 = .ok (.iadd, 1) := by decide +kernel
theorem dJ6_bitCount_0f7a4_29 : decode cJ6_bitCount_0f7a4 29 = .ok (.ldc_w 267, 3) := by decide +kernel
theorem dJ6_bitCount_0f7a4_32 : decode cJ6_bitCount_0f7a4 32 = .ok (.iand, 1) := by decide +kernel
theorem dJ6_bitCount_0f7a4_33 : decode cJ6_bitCount_0f7a4 33 = .ok (.istore_n 0, 1) := by decide +kernel
theorem dJ6_bitCount_0f7a4_34 : decode cJ6_bitCount_0f7a4 34 = .ok (.iload_n 0, 1) := by decide +kernel
theorem dJ6_bitCount_0f7a4_35 : decode cJ6_bitCount_0f7a4 35 = .ok (.iload_n 0, 1) := by decide +kernel
theorem dJ6_bitCount_0f7a4_36 : decode cJ6_bitCount_0f7a4 36 = .ok (.bipush 8, 2) := by decide +kernel
theorem dJ6_bitCount_0f7a4_38 : decode cJ6_bitCount_0f7a4 38 = .ok (.iushr, 1) := by decide +kernel
theorem dJ6_bitCount_0f7a4_39 : decode cJ6_bitCount_0f7a4 39 = .ok (.iadd, 1) := by decide +kernel
theorem dJ6_bitCount_0f7a4_40 : decode cJ6_bitCount_0f7a4 40 = .ok (.istore_n 0, 1) := by decide +kernel
theorem dJ6_bitCount_0f7a4_41 : decode cJ6_bitCount_0f7a4 41 = .ok (.iload_n 0, 1) := by decide +kernel
theorem dJ6_bitCount_0f7a4_42 : decode cJ6_bitCount_0f7a4 42 = .ok (.iload_n 0, 1) := by decide +kernel
theorem dJ6_bitCount_0f7a4_43 : decode cJ6_bitCount_0f7a4 43 = .ok (.bipush 16, 2) := by decide +kernel
theorem dJ6_bitCount_0f7a4_45 : decode cJ6_bitCount_0f7a4 45 = .ok (.iushr, 1) := by decide +kernel
theorem dJ6_bitCount_0f7a4_46 : decode cJ6_bitCount_0f7a4 46 = .ok (.iadd, 1) := by decide +kernel
theorem dJ6_bitCount_0f7a4_47 : decode cJ6_bitCount_0f7a4 47 = .ok (.istore_n 0, 1) := by decide +kernel
theorem dJ6_bitCount_0f7a4_48 : decode cJ6_bitCount_0f7a4 48 = .ok (.iload_n 0, 1) := by decide +kernel
theorem dJ6_bitCount_0f7a4_49 : decode cJ6_bitCount_0f7a4 49 = .ok (.bipush 63, 2) := by decide +kernel
theorem dJ6_bitCount_0f7a4_51 : decode cJ6_bitCount_0f7a4 51 = .ok (.iand, 1) := by decide +kernel
theorem dJ6_bitCount_0f7a4_52 : decode cJ6_bitCount_0f7a4 52 = .ok (.ireturn, 1) := by decide +kernel
theorem dJ9_min_7cf53_0 : decode cJ9_min_7cf53 0 = .ok (.iload_n 0, 1) := by decide +kernel
theorem dJ9_min_7cf53_1 : decode cJ9_min_7cf53 1 = .ok (.iload_n 1, 1) := by decide +kernel
theorem dJ9_min_7cf53_2 : decode cJ9_min_7cf53 2 = .ok (.if_icmp .gt 7, 3) := by decide +kernel
theorem dJ9_min_7cf53_5 : decode cJ9_min_7cf53 5 = .ok (.iload_n 0, 1) := by decide +kernel
theorem dJ9_min_7cf53_6 : decode cJ9_min_7cf53 6 = .ok (.goto 4, 3) := by decide +kernel
theorem dJ9_min_7cf53_9 : decode cJ9_min_7cf53 9 = .ok (.iload_n 1, 1) := by decide +kernel
theorem dJ9_min_7cf53_10 : decode cJ9_min_7cf53 10 = .ok (.ireturn, 1) := by decide +kernel
theorem dL_cell_0 : decode cL_cell 0 = .ok (.iload_n 1, 1) := by decide +kernel
theorem dL_cell_1 : decode cL_cell 1 = .ok (.aload_n 0, 1) := by decide +kernel
theorem dL_cell_2 : decode cL_cell 2 = .ok (.arraylength, 1) := by decide +kernel
theorem dL_cell_3 : decode cL_cell 3 = .ok (.if_icmp .ge 9, 3) := by decide +kernel
theorem dL_cell_6 : decode cL_cell 6 = .ok (.aload_n 0, 1) := by decide +kernel
theorem dL_cell_7 : decode cL_cell 7 = .ok (.iload_n 1, 1) := by decide +kernel
theorem dL_cell_8 : decode cL_cell 8 = .ok (.iaload, 1) := by decide +kernel
theorem dL_cell_9 : decode cL_cell 9 = .ok (.goto 12, 3) := by decide +kernel
theorem dL_cell_12 : decode cL_cell 12 = .ok (.ldc 7, 2) := by decide +kernel
theorem dL_cell_14 : decode cL_cell 14 = .ok (.iload_n 1, 1) := by decide +kernel
theorem dL_cell_15 : decode cL_cell 15 = .ok (.iconst 1, 1) := by decide +kernel
theorem dL_cell_16 : decode cL_cell 16 = .ok (.iadd, 1) := by decide +kernel
theorem dL_cell_17 : decode cL_cell 17 = .ok (.imul, 1) := by decide +kernel
theorem dL_cell_18 : decode cL_cell 18 = .ok (.ldc 8, 2) := by decide +kernel
theorem dL_cell_20 : decode cL_cell 20 = .ok (.iadd, 1) := by decide +kernel
theorem dL_cell_21 : decode cL_cell 21 = .ok (.ireturn, 1) := by decide +kernel
theorem dL_low_0 : decode cL_low 0 = .ok (.iload_n 0, 1) := by decide +kernel
theorem dL_low_1 : decode cL_low 1 = .ok (.ldc 9, 2) := by decide +kernel
theorem dL_low_3 : decode cL_low 3 = .ok (.iand, 1) := by decide +kernel
theorem dL_low_4 : decode cL_low 4 = .ok (.iload_n 1, 1) := by decide +kernel
theorem dL_low_5 : decode cL_low 5 = .ok (.irem, 1) := by decide +kernel
theorem dL_low_6 : decode cL_low 6 = .ok (.ireturn, 1) := by decide +kernel
theorem dL_all_0 : decode cL_all 0 = .ok (.iconst 0, 1) := by decide +kernel
theorem dL_all_1 : decode cL_all 1 = .ok (.istore_n 1, 1) := by decide +kernel
theorem dL_all_2 : decode cL_all 2 = .ok (.iconst 0, 1) := by decide +kernel
theorem dL_all_3 : decode cL_all 3 = .ok (.istore_n 2, 1) := by decide +kernel
theorem dL_all_4 : decode cL_all 4 = .ok (.iload_n 2, 1) := by decide +kernel
theorem dL_all_5 : decode cL_all 5 = .ok (.bipush 60, 2) := by decide +kernel
theorem dL_all_7 : decode cL_all 7 = .ok (.if_icmp .ge 15, 3) := by decide +kernel
theorem dL_all_10 : decode cL_all 10 = .ok (.iload_n 1, 1) := by decide +kernel
theorem dL_all_11 : decode cL_all 11 = .ok (.aload_n 0, 1) := by decide +kernel
theorem dL_all_12 : decode cL_all 12 = .ok (.iload_n 2, 1) := by decide +kernel
theorem dL_all_13 : decode cL_all 13 = .ok (.iaload, 1) := by decide +kernel
theorem dL_all_14 : decode cL_all 14 = .ok (.iadd, 1) := by decide +kernel
theorem dL_all_15 : decode cL_all 15 = .ok (.istore_n 1, 1) := by decide +kernel
theorem dL_all_16 : decode cL_all 16 = .ok (.iinc 2 1, 3) := by decide +kernel
theorem dL_all_19 : decode cL_all 19 = .ok (.goto (-15), 3) := by decide +kernel
theorem dL_all_22 : decode cL_all 22 = .ok (.iload_n 1, 1) := by decide +kernel
theorem dL_all_23 : decode cL_all 23 = .ok (.ireturn, 1) := by decide +kernel
theorem dL_does_0 : decode cL_does 0 = .ok (.iconst 1, 1) := by decide +kernel
theorem dL_does_1 : decode cL_does 1 = .ok (.istore 4, 2) := by decide +kernel
theorem dL_does_3 : decode cL_does 3 = .ok (.iload 4, 2) := by decide +kernel
theorem dL_does_5 : decode cL_does 5 = .ok (.aload_n 3, 1) := by decide +kernel
theorem dL_does_6 : decode cL_does 6 = .ok (.bipush 9, 2) := by decide +kernel
theorem dL_does_8 : decode cL_does 8 = .ok (.iload_n 1, 1) := by decide +kernel
theorem dL_does_9 : decode cL_does 9 = .ok (.imul, 1) := by decide +kernel
theorem dL_does_10 : decode cL_does 10 = .ok (.iaload, 1) := by decide +kernel
theorem dL_does_11 : decode cL_does 11 = .ok (.if_icmp .gt 161, 3) := by decide +kernel
theorem dL_does_14 : decode cL_does 14 = .ok (.aload_n 3, 1) := by decide +kernel
theorem dL_does_15 : decode cL_does 15 = .ok (.bipush 9, 2) := by decide +kernel
theorem dL_does_17 : decode cL_does 17 = .ok (.iload_n 1, 1) := by decide +kernel
theorem dL_does_18 : decode cL_does 18 = .ok (.imul, 1) := by decide +kernel
theorem dL_does_19 : decode cL_does 19 = .ok (.iload 4, 2) := by decide +kernel
theorem dL_does_21 : decode cL_does 21 = .ok (.iadd, 1) := by decide +kernel
theorem dL_does_22 : decode cL_does 22 = .ok (.iaload, 1) := by decide +kernel
theorem dL_does_23 : decode cL_does 23 = .ok (.bipush 10, 2) := by decide +kernel
theorem dL_does_25 : decode cL_does 25 = .ok (.irem, 1) := by decide +kernel
theorem dL_does_26 : decode cL_does 26 = .ok (.istore 5, 2) := by decide +kernel
theorem dL_does_28 : decode cL_does 28 = .ok (.aload_n 3, 1) := by decide +kernel
theorem dL_does_29 : decode cL_does 29 = .ok (.bipush 9, 2) := by decide +kernel
theorem dL_does_31 : decode cL_does 31 = .ok (.iload_n 1, 1) := by decide +kernel
theorem dL_does_32 : decode cL_does 32 = .ok (.imul, 1) := by decide +kernel
theorem dL_does_33 : decode cL_does 33 = .ok (.iload 4, 2) := by decide +kernel
theorem dL_does_35 : decode cL_does 35 = .ok (.iadd, 1) := by decide +kernel
theorem dL_does_36 : decode cL_does 36 = .ok (.iaload, 1) := by decide +kernel
theorem dL_does_37 : decode cL_does 37 = .ok (.bipush 9, 2) := by decide +kernel
theorem dL_does_39 : decode cL_does 39 = .ok (.if_icmp .le 7, 3) := by decide +kernel
theorem dL_does_42 : decode cL_does 42 = .ok (.iconst 1, 1) := by decide +kernel
theorem dL_does_43 : decode cL_does 43 = .ok (.goto 4, 3) := by decide +kernel
theorem dL_does_46 : decode cL_does 46 = .ok (.iconst 0, 1) := by decide +kernel
theorem dL_does_47 : decode cL_does 47 = .ok (.istore 6, 2) := by decide +kernel
theorem dL_does_49 : decode cL_does 49 = .ok (.iconst 0, 1) := by decide +kernel
theorem dL_does_50 : decode cL_does 50 = .ok (.istore 7, 2) := by decide +kernel
theorem dL_does_52 : decode cL_does 52 = .ok (.iload_n 2, 1) := by decide +kernel
theorem dL_does_53 : decode cL_does 53 = .ok (.ifCond .eq 27, 3) := by decide +kernel
theorem dL_does_56 : decode cL_does 56 = .ok (.iload 7, 2) := by decide +kernel
theorem dL_does_58 : decode cL_does 58 = .ok (.bipush 6, 2) := by decide +kernel
theorem dL_does_60 : decode cL_does 60 = .ok (.if_icmp .ge 20, 3) := by decide +kernel
theorem dL_does_63 : decode cL_does 63 = .ok (.aload_n 0, 1) := by decide +kernel
theorem dL_does_64 : decode cL_does 64 = .ok (.bipush 6, 2) := by decide +kernel
theorem dL_does_66 : decode cL_does 66 = .ok (.iload 5, 2) := by decide +kernel
theorem dL_does_68 : decode cL_does 68 = .ok (.imul, 1) := by decide +kernel
theorem dL_does_69 : decode cL_does 69 = .ok (.iload 7, 2) := by decide +kernel
theorem dL_does_71 : decode cL_does 71 = .ok (.iadd, 1) := by decide +kernel
theorem dL_does_72 : decode cL_does 72 = .ok (.iconst 0, 1) := by decide +kernel
theorem dL_does_73 : decode cL_does 73 = .ok (.iastore, 1) := by decide +kernel
theorem dL_does_74 : decode cL_does 74 = .ok (.iinc 7 1, 3) := by decide +kernel
theorem dL_does_77 : decode cL_does 77 = .ok (.goto (-25), 3) := by decide +kernel
theorem dL_does_80 : decode cL_does 80 = .ok (.iconst 0, 1) := by decide +kernel
theorem dL_does_81 : decode cL_does 81 = .ok (.istore 7, 2) := by decide +kernel
theorem dL_does_83 : decode cL_does 83 = .ok (.iload_n 2, 1) := by decide +kernel
theorem dL_does_84 : decode cL_does 84 = .ok (.ifCond .ne 34, 3) := by decide +kernel
theorem dL_does_87 : decode cL_does 87 = .ok (.iload 6, 2) := by decide +kernel
theorem dL_does_89 : decode cL_does 89 = .ok (.ifCond .ne 29, 3) := by decide +kernel
theorem dL_does_92 : decode cL_does 92 = .ok (.iload 7, 2) := by decide +kernel
theorem dL_does_94 : decode cL_does 94 = .ok (.bipush 6, 2) := by decide +kernel
theorem dL_does_96 : decode cL_does 96 = .ok (.if_icmp .ge 22, 3) := by decide +kernel
theorem dL_does_99 : decode cL_does 99 = .ok (.aload_n 0, 1) := by decide +kernel
theorem dL_does_100 : decode cL_does 100 = .ok (.bipush 6, 2) := by decide +kernel
theorem dL_does_102 : decode cL_does 102 = .ok (.iload 5, 2) := by decide +kernel
theorem dL_does_104 : decode cL_does 104 = .ok (.imul, 1) := by decide +kernel
theorem dL_does_105 : decode cL_does 105 = .ok (.iload 7, 2) := by decide +kernel
theorem dL_does_107 : decode cL_does 107 = .ok (.iadd, 1) := by decide +kernel
theorem dL_does_108 : decode cL_does 108 = .ok (.iaload, 1) := by decide +kernel
theorem dL_does_109 : decode cL_does 109 = .ok (.ifCond .ne 9, 3) := by decide +kernel
theorem dL_does_112 : decode cL_does 112 = .ok (.iinc 7 1, 3) := by decide +kernel
theorem dL_does_115 : decode cL_does 115 = .ok (.goto (-32), 3) := by decide +kernel
theorem dL_does_118 : decode cL_does 118 = .ok (.iload_n 2, 1) := by decide +kernel
theorem dL_does_119 : decode cL_does 119 = .ok (.ifCond .ne 29, 3) := by decide +kernel
theorem dL_does_122 : decode cL_does 122 = .ok (.iload 6, 2) := by decide +kernel
theorem dL_does_124 : decode cL_does 124 = .ok (.ifCond .ne 24, 3) := by decide +kernel
theorem dL_does_127 : decode cL_does 127 = .ok (.iload 7, 2) := by decide +kernel
theorem dL_does_129 : decode cL_does 129 = .ok (.bipush 6, 2) := by decide +kernel
theorem dL_does_131 : decode cL_does 131 = .ok (.if_icmp .ge 17, 3) := by decide +kernel
theorem dL_does_134 : decode cL_does 134 = .ok (.aload_n 0, 1) := by decide +kernel
theorem dL_does_135 : decode cL_does 135 = .ok (.bipush 6, 2) := by decide +kernel
theorem dL_does_137 : decode cL_does 137 = .ok (.iload 5, 2) := by decide +kernel
theorem dL_does_139 : decode cL_does 139 = .ok (.imul, 1) := by decide +kernel
theorem dL_does_140 : decode cL_does 140 = .ok (.iload 7, 2) := by decide +kernel
theorem dL_does_142 : decode cL_does 142 = .ok (.iadd, 1) := by decide +kernel
theorem dL_does_143 : decode cL_does 143 = .ok (.dup2, 1) := by decide +kernel
theorem dL_does_144 : decode cL_does 144 = .ok (.iaload, 1) := by decide +kernel
theorem dL_does_145 : decode cL_does 145 = .ok (.iconst 1, 1) := by decide +kernel
theorem dL_does_146 : decode cL_does 146 = .ok (.isub, 1) := by decide +kernel
theorem dL_does_147 : decode cL_does 147 = .ok (.iastore, 1) := by decide +kernel
theorem dL_does_148 : decode cL_does 148 = .ok (.iload 6, 2) := by decide +kernel
theorem dL_does_150 : decode cL_does 150 = .ok (.ifCond .eq 16, 3) := by decide +kernel
theorem dL_does_153 : decode cL_does 153 = .ok (.aload_n 0, 1) := by decide +kernel
theorem dL_does_154 : decode cL_does 154 = .ok (.bipush 6, 2) := by decide +kernel
theorem dL_does_156 : decode cL_does 156 = .ok (.iload 5, 2) := by decide +kernel
theorem dL_does_158 : decode cL_does 158 = .ok (.imul, 1) := by decide +kernel
theorem dL_does_159 : decode cL_does 159 = .ok (.iload_n 1, 1) := by decide +kernel
theorem dL_does_160 : decode cL_does 160 = .ok (.iadd, 1) := by decide +kernel
theorem dL_does_161 : decode cL_does 161 = .ok (.dup2, 1) := by decide +kernel
theorem dL_does_162 : decode cL_does 162 = .ok (.iaload, 1) := by decide +kernel
theorem dL_does_163 : decode cL_does 163 = .ok (.iconst 1, 1) := by decide +kernel
theorem dL_does_164 : decode cL_does 164 = .ok (.iadd, 1) := by decide +kernel
theorem dL_does_165 : decode cL_does 165 = .ok (.iastore, 1) := by decide +kernel
theorem dL_does_166 : decode cL_does 166 = .ok (.iinc 4 1, 3) := by decide +kernel
theorem dL_does_169 : decode cL_does 169 = .ok (.goto (-166), 3) := by decide +kernel
theorem dL_does_172 : decode cL_does 172 = .ok (.return_, 1) := by decide +kernel
theorem dL_wrong_0 : decode cL_wrong 0 = .ok (.iconst 0, 1) := by decide +kernel
theorem dL_wrong_1 : decode cL_wrong 1 = .ok (.istore_n 3, 1) := by decide +kernel
theorem dL_wrong_2 : decode cL_wrong 2 = .ok (.iconst 0, 1) := by decide +kernel
theorem dL_wrong_3 : decode cL_wrong 3 = .ok (.istore 4, 2) := by decide +kernel
theorem dL_wrong_5 : decode cL_wrong 5 = .ok (.iload 4, 2) := by decide +kernel
theorem dL_wrong_7 : decode cL_wrong 7 = .ok (.bipush 6, 2) := by decide +kernel
theorem dL_wrong_9 : decode cL_wrong 9 = .ok (.if_icmp .ge 21, 3) := by decide +kernel
theorem dL_wrong_12 : decode cL_wrong 12 = .ok (.iload_n 3, 1) := by decide +kernel
theorem dL_wrong_13 : decode cL_wrong 13 = .ok (.aload_n 0, 1) := by decide +kernel
theorem dL_wrong_14 : decode cL_wrong 14 = .ok (.bipush 6, 2) := by decide +kernel
theorem dL_wrong_16 : decode cL_wrong 16 = .ok (.iload_n 1, 1) := by decide +kernel
theorem dL_wrong_17 : decode cL_wrong 17 = .ok (.imul, 1) := by decide +kernel
theorem dL_wrong_18 : decode cL_wrong 18 = .ok (.iload 4, 2) := by decide +kernel
theorem dL_wrong_20 : decode cL_wrong 20 = .ok (.iadd, 1) := by decide +kernel
theorem dL_wrong_21 : decode cL_wrong 21 = .ok (.iaload, 1) := by decide +kernel
theorem dL_wrong_22 : decode cL_wrong 22 = .ok (.iadd, 1) := by decide +kernel
theorem dL_wrong_23 : decode cL_wrong 23 = .ok (.istore_n 3, 1) := by decide +kernel
theorem dL_wrong_24 : decode cL_wrong 24 = .ok (.iinc 4 1, 3) := by decide +kernel
theorem dL_wrong_27 : decode cL_wrong 27 = .ok (.goto (-22), 3) := by decide +kernel
theorem dL_wrong_30 : decode cL_wrong 30 = .ok (.aload_n 2, 1) := by decide +kernel
theorem dL_wrong_31 : decode cL_wrong 31 = .ok (.iload_n 1, 1) := by decide +kernel
theorem dL_wrong_32 : decode cL_wrong 32 = .ok (.iaload, 1) := by decide +kernel
theorem dL_wrong_33 : decode cL_wrong 33 = .ok (.ifCond .ge 9, 3) := by decide +kernel
theorem dL_wrong_36 : decode cL_wrong 36 = .ok (.sipush 10000, 3) := by decide +kernel
theorem dL_wrong_39 : decode cL_wrong 39 = .ok (.iload_n 3, 1) := by decide +kernel
theorem dL_wrong_40 : decode cL_wrong 40 = .ok (.imul, 1) := by decide +kernel
theorem dL_wrong_41 : decode cL_wrong 41 = .ok (.ireturn, 1) := by decide +kernel
theorem dL_wrong_42 : decode cL_wrong 42 = .ok (.iload_n 3, 1) := by decide +kernel
theorem dL_wrong_43 : decode cL_wrong 43 = .ok (.ifCond .ne 5, 3) := by decide +kernel
theorem dL_wrong_46 : decode cL_wrong 46 = .ok (.iconst 1, 1) := by decide +kernel
theorem dL_wrong_47 : decode cL_wrong 47 = .ok (.ireturn, 1) := by decide +kernel
theorem dL_wrong_48 : decode cL_wrong 48 = .ok (.sipush 10000, 3) := by decide +kernel
theorem dL_wrong_51 : decode cL_wrong 51 = .ok (.iload_n 3, 1) := by decide +kernel
theorem dL_wrong_52 : decode cL_wrong 52 = .ok (.iconst 1, 1) := by decide +kernel
theorem dL_wrong_53 : decode cL_wrong 53 = .ok (.isub, 1) := by decide +kernel
theorem dL_wrong_54 : decode cL_wrong 54 = .ok (.imul, 1) := by decide +kernel
theorem dL_wrong_55 : decode cL_wrong 55 = .ok (.aload_n 0, 1) := by decide +kernel
theorem dL_wrong_56 : decode cL_wrong 56 = .ok (.bipush 6, 2) := by decide +kernel
theorem dL_wrong_58 : decode cL_wrong 58 = .ok (.iload_n 1, 1) := by decide +kernel
theorem dL_wrong_59 : decode cL_wrong 59 = .ok (.imul, 1) := by decide +kernel
theorem dL_wrong_60 : decode cL_wrong 60 = .ok (.aload_n 2, 1) := by decide +kernel
theorem dL_wrong_61 : decode cL_wrong 61 = .ok (.iload_n 1, 1) := by decide +kernel
theorem dL_wrong_62 : decode cL_wrong 62 = .ok (.iaload, 1) := by decide +kernel
theorem dL_wrong_63 : decode cL_wrong 63 = .ok (.iadd, 1) := by decide +kernel
theorem dL_wrong_64 : decode cL_wrong 64 = .ok (.iaload, 1) := by decide +kernel
theorem dL_wrong_65 : decode cL_wrong 65 = .ok (.ifCond .ne 8, 3) := by decide +kernel
theorem dL_wrong_68 : decode cL_wrong 68 = .ok (.bipush 100, 2) := by decide +kernel
theorem dL_wrong_70 : decode cL_wrong 70 = .ok (.goto 4, 3) := by decide +kernel
theorem dL_wrong_73 : decode cL_wrong 73 = .ok (.iconst 0, 1) := by decide +kernel
theorem dL_wrong_74 : decode cL_wrong 74 = .ok (.iadd, 1) := by decide +kernel
theorem dL_wrong_75 : decode cL_wrong 75 = .ok (.ireturn, 1) := by decide +kernel
set_option maxRecDepth 20000 in
theorem ggL_wrongs_L_wrong : GoodIn wsL_wrongs wsL_wrong := goodIn_r _ [4] (by decide +kernel) (by decide +kernel)
set_option maxRecDepth 20000 in
theorem gL_wrongs_L_wrong : GoodIn wsL_wrongs (va_wsS RL 10 yL_wrong wsL_wrong) := goodIn_app (goodIn_of _ (by decide +kernel)) ggL_wrongs_L_wrong
theorem dL_wrongs_0 : decode cL_wrongs 0 = .ok (.iconst 0, 1) := by decide +kernel
theorem dL_wrongs_1 : decode cL_wrongs 1 = .ok (.istore_n 2, 1) := by decide +kernel
theorem dL_wrongs_2 : decode cL_wrongs 2 = .ok (.iconst 0, 1) := by decide +kernel
theorem dL_wrongs_3 : decode cL_wrongs 3 = .ok (.istore_n 3, 1) := by decide +kernel
theorem dL_wrongs_4 : decode cL_wrongs 4 = .ok (.iload_n 3, 1) := by decide +kernel
theorem dL_wrongs_5 : decode cL_wrongs 5 = .ok (.bipush 10, 2) := by decide +kernel
theorem dL_wrongs_7 : decode cL_wrongs 7 = .ok (.if_icmp .ge 18, 3) := by decide +kernel
theorem dL_wrongs_10 : decode cL_wrongs 10 = .ok (.iload_n 2, 1) := by decide +kernel
theorem dL_wrongs_11 : decode cL_wrongs 11 = .ok (.aload_n 0, 1) := by decide +kernel
theorem dL_wrongs_12 : decode cL_wrongs 12 = .ok (.iload_n 3, 1) := by decide +kernel
theorem dL_wrongs_13 : decode cL_wrongs 13 = .ok (.aload_n 1, 1) := by decide +kernel
theorem dL_wrongs_14 : decode cL_wrongs 14 = .ok (.invokestatic 10, 3) := by decide +kernel
theorem dL_wrongs_17 : decode cL_wrongs 17 = .ok (.iadd, 1) := by decide +kernel
theorem dL_wrongs_18 : decode cL_wrongs 18 = .ok (.istore_n 2, 1) := by decide +kernel
theorem dL_wrongs_19 : decode cL_wrongs 19 = .ok (.iinc 3 1, 3) := by decide +kernel
theorem dL_wrongs_22 : decode cL_wrongs 22 = .ok (.goto (-18), 3) := by decide +kernel
theorem dL_wrongs_25 : decode cL_wrongs 25 = .ok (.iload_n 2, 1) := by decide +kernel
theorem dL_wrongs_26 : decode cL_wrongs 26 = .ok (.ireturn, 1) := by decide +kernel
theorem dL_sum_0 : decode cL_sum 0 = .ok (.iload_n 0, 1) := by decide +kernel
theorem dL_sum_1 : decode cL_sum 1 = .ok (.sipush 10000, 3) := by decide +kernel
theorem dL_sum_4 : decode cL_sum 4 = .ok (.idiv, 1) := by decide +kernel
theorem dL_sum_5 : decode cL_sum 5 = .ok (.iload_n 0, 1) := by decide +kernel
theorem dL_sum_6 : decode cL_sum 6 = .ok (.bipush 100, 2) := by decide +kernel
theorem dL_sum_8 : decode cL_sum 8 = .ok (.idiv, 1) := by decide +kernel
theorem dL_sum_9 : decode cL_sum 9 = .ok (.bipush 100, 2) := by decide +kernel
theorem dL_sum_11 : decode cL_sum 11 = .ok (.irem, 1) := by decide +kernel
theorem dL_sum_12 : decode cL_sum 12 = .ok (.iadd, 1) := by decide +kernel
theorem dL_sum_13 : decode cL_sum 13 = .ok (.iload_n 0, 1) := by decide +kernel
theorem dL_sum_14 : decode cL_sum 14 = .ok (.bipush 100, 2) := by decide +kernel
theorem dL_sum_16 : decode cL_sum 16 = .ok (.irem, 1) := by decide +kernel
theorem dL_sum_17 : decode cL_sum 17 = .ok (.iadd, 1) := by decide +kernel
theorem dL_sum_18 : decode cL_sum 18 = .ok (.ireturn, 1) := by decide +kernel
set_option maxRecDepth 20000 in
theorem ggL_with_L_does : GoodIn wsL_with wsL_does := goodIn_r _ [4] (by decide +kernel) (by decide +kernel)
set_option maxRecDepth 20000 in
theorem gL_with_L_does : GoodIn wsL_with (va_wsS RL 16 yL_does wsL_does) := goodIn_app (goodIn_of _ (by decide +kernel)) ggL_with_L_does
set_option maxRecDepth 20000 in
theorem ggL_with_L_wrongs : GoodIn wsL_with wsL_wrongs := goodIn_r _ [7, 8, 9, 3, 10] (by decide +kernel) (by decide +kernel)
set_option maxRecDepth 20000 in
theorem gL_with_L_wrongs : GoodIn wsL_with (va_wsS RL 20 yL_wrongs wsL_wrongs) := goodIn_app (goodIn_of _ (by decide +kernel)) ggL_with_L_wrongs
set_option maxRecDepth 20000 in
theorem ggL_with_L_sum : GoodIn wsL_with wsL_sum := goodIn_r _ [13] (by decide +kernel) (by decide +kernel)
set_option maxRecDepth 20000 in
theorem gL_with_L_sum : GoodIn wsL_with (va_wsS RL 24 yL_sum wsL_sum) := goodIn_app (goodIn_of _ (by decide +kernel)) ggL_with_L_sum
theorem dL_with_0 : decode cL_with 0 = .ok (.iconst 0, 1) := by decide +kernel
theorem dL_with_1 : decode cL_with 1 = .ok (.istore 6, 2) := by decide +kernel
theorem dL_with_3 : decode cL_with 3 = .ok (.iload 6, 2) := by decide +kernel
theorem dL_with_5 : decode cL_with 5 = .ok (.bipush 60, 2) := by decide +kernel
theorem dL_with_7 : decode cL_with 7 = .ok (.if_icmp .ge 18, 3) := by decide +kernel
theorem dL_with_10 : decode cL_with 10 = .ok (.aload 5, 2) := by decide +kernel
theorem dL_with_12 : decode cL_with 12 = .ok (.iload 6, 2) := by decide +kernel
theorem dL_with_14 : decode cL_with 14 = .ok (.aload_n 0, 1) := by decide +kernel
theorem dL_with_15 : decode cL_with 15 = .ok (.iload 6, 2) := by decide +kernel
theorem dL_with_17 : decode cL_with 17 = .ok (.iaload, 1) := by decide +kernel
theorem dL_with_18 : decode cL_with 18 = .ok (.iastore, 1) := by decide +kernel
theorem dL_with_19 : decode cL_with 19 = .ok (.iinc 6 1, 3) := by decide +kernel
theorem dL_with_22 : decode cL_with 22 = .ok (.goto (-19), 3) := by decide +kernel
