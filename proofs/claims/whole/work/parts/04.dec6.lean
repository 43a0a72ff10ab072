theorem dX5_mostInText_9 : decode cX5_mostInText 9 = .ok (.getfield 7, 3) := by decide +kernel
theorem dX5_mostInText_12 : decode cX5_mostInText 12 = .ok (.iconst 0, 1) := by decide +kernel
theorem dX5_mostInText_13 : decode cX5_mostInText 13 = .ok (.iaload, 1) := by decide +kernel
theorem dX5_mostInText_14 : decode cX5_mostInText 14 = .ok (.if_icmp .ge 43, 3) := by decide +kernel
theorem dX5_mostInText_17 : decode cX5_mostInText 17 = .ok (.aload_n 0, 1) := by decide +kernel
theorem dX5_mostInText_18 : decode cX5_mostInText 18 = .ok (.iload_n 3, 1) := by decide +kernel
theorem dX5_mostInText_19 : decode cX5_mostInText 19 = .ok (.invokevirtual 160, 3) := by decide +kernel
theorem dX5_mostInText_22 : decode cX5_mostInText 22 = .ok (.iload_n 2, 1) := by decide +kernel
theorem dX5_mostInText_23 : decode cX5_mostInText 23 = .ok (.if_icmp .le 7, 3) := by decide +kernel
theorem dX5_mostInText_26 : decode cX5_mostInText 26 = .ok (.iload_n 3, 1) := by decide +kernel
theorem dX5_mostInText_27 : decode cX5_mostInText 27 = .ok (.goto 4, 3) := by decide +kernel
theorem dX5_mostInText_30 : decode cX5_mostInText 30 = .ok (.iload_n 1, 1) := by decide +kernel
theorem dX5_mostInText_31 : decode cX5_mostInText 31 = .ok (.istore_n 1, 1) := by decide +kernel
theorem dX5_mostInText_32 : decode cX5_mostInText 32 = .ok (.aload_n 0, 1) := by decide +kernel
theorem dX5_mostInText_33 : decode cX5_mostInText 33 = .ok (.iload_n 3, 1) := by decide +kernel
theorem dX5_mostInText_34 : decode cX5_mostInText 34 = .ok (.invokevirtual 160, 3) := by decide +kernel
theorem dX5_mostInText_37 : decode cX5_mostInText 37 = .ok (.iload_n 2, 1) := by decide +kernel
theorem dX5_mostInText_38 : decode cX5_mostInText 38 = .ok (.if_icmp .le 11, 3) := by decide +kernel
theorem dX5_mostInText_41 : decode cX5_mostInText 41 = .ok (.aload_n 0, 1) := by decide +kernel
theorem dX5_mostInText_42 : decode cX5_mostInText 42 = .ok (.iload_n 3, 1) := by decide +kernel
theorem dX5_mostInText_43 : decode cX5_mostInText 43 = .ok (.invokevirtual 160, 3) := by decide +kernel
theorem dX5_mostInText_46 : decode cX5_mostInText 46 = .ok (.goto 4, 3) := by decide +kernel
theorem dX5_mostInText_49 : decode cX5_mostInText 49 = .ok (.iload_n 2, 1) := by decide +kernel
theorem dX5_mostInText_50 : decode cX5_mostInText 50 = .ok (.istore_n 2, 1) := by decide +kernel
theorem dX5_mostInText_51 : decode cX5_mostInText 51 = .ok (.iinc 3 1, 3) := by decide +kernel
theorem dX5_mostInText_54 : decode cX5_mostInText 54 = .ok (.goto (-47), 3) := by decide +kernel
theorem dX5_mostInText_57 : decode cX5_mostInText 57 = .ok (.iload_n 1, 1) := by decide +kernel
theorem dX5_mostInText_58 : decode cX5_mostInText 58 = .ok (.ireturn, 1) := by decide +kernel
set_option maxRecDepth 20000 in
theorem ggX5_count_X5_part : GoodIn wsX5_count wsX5_part := goodIn_r _ [8, 1, 64, 65, 66, 67, 68, 69, 70, 71, 72, 73, 74, 75, 76] (by decide +kernel) (by decide +kernel)
set_option maxRecDepth 20000 in
theorem gX5_count_X5_part : GoodIn wsX5_count (wsV RX5 52 RX5 yX5_part wsX5_part) := goodIn_app (goodIn_of _ (by decide +kernel)) ggX5_count_X5_part
set_option maxRecDepth 20000 in
theorem ggX5_count_X5_checkOf : GoodIn wsX5_count wsX5_checkOf := goodIn_r _ [12, 4, 5, 6, 7, 8, 1, 13, 14, 15, 16, 17, 18, 19, 20, 64, 65, 66, 67, 68, 69, 70, 71, 72, 73, 74, 75, 76] (by decide +kernel) (by decide +kernel)
set_option maxRecDepth 20000 in
theorem gX5_count_X5_checkOf : GoodIn wsX5_count (wsV RX5 157 RX5 yX5_checkOf wsX5_checkOf) := goodIn_app (goodIn_of _ (by decide +kernel)) ggX5_count_X5_checkOf
set_option maxRecDepth 20000 in
theorem ggX5_count_X5_rightOwners : GoodIn wsX5_count wsX5_rightOwners := goodIn_r _ [24, 1, 25, 26, 27, 7, 28, 29, 30, 31, 32, 33, 34, 35, 36, 37, 38, 39, 40, 41, 42, 43, 4, 5, 6, 8, 13, 14, 15, 16, 17, 18, 19, 20, 44, 45, 46, 47, 48, 49, 50, 51, 52, 53, 54, 55, 64, 65, 66, 67, 68, 69, 70, 71, 72, 73, 74, 75, 76] (by decide +kernel) (by decide +kernel)
set_option maxRecDepth 20000 in
theorem gX5_count_X5_rightOwners : GoodIn wsX5_count (wsV RX5 163 RX5 yX5_rightOwners wsX5_rightOwners) := goodIn_app (goodIn_of _ (by decide +kernel)) ggX5_count_X5_rightOwners
set_option maxRecDepth 20000 in
theorem ggX5_count_X5_inText : GoodIn wsX5_count wsX5_inText := goodIn_r _ [59, 4, 5, 6, 7, 8, 1, 17, 18, 19, 20, 64, 65, 66, 67, 68, 69, 70, 71, 72, 73, 74, 75, 76] (by decide +kernel) (by decide +kernel)
set_option maxRecDepth 20000 in
theorem gX5_count_X5_inText : GoodIn wsX5_count (wsV RX5 160 RX5 yX5_inText wsX5_inText) := goodIn_app (goodIn_of _ (by decide +kernel)) ggX5_count_X5_inText
set_option maxRecDepth 20000 in
theorem ggX5_count_X5_mostInText : GoodIn wsX5_count wsX5_mostInText := goodIn_r _ [63, 1, 56, 57, 58, 7, 59, 4, 5, 6, 8, 17, 18, 19, 20, 64, 65, 66, 67, 68, 69, 70, 71, 72, 73, 74, 75, 76] (by decide +kernel) (by decide +kernel)
set_option maxRecDepth 20000 in
theorem gX5_count_X5_mostInText : GoodIn wsX5_count (wsV RX5 166 RX5 yX5_mostInText wsX5_mostInText) := goodIn_app (goodIn_of _ (by decide +kernel)) ggX5_count_X5_mostInText
theorem dX5_count_0 : decode cX5_count 0 = .ok (.iload_n 1, 1) := by decide +kernel
theorem dX5_count_1 : decode cX5_count 1 = .ok (.tableswitch 106 0 8 #[51, 58, 65, 73, 80, 85, 91, 96, 101], 51) := by decide +kernel
theorem dX5_count_52 : decode cX5_count 52 = .ok (.aload_n 0, 1) := by decide +kernel
theorem dX5_count_53 : decode cX5_count 53 = .ok (.getfield 7, 3) := by decide +kernel
theorem dX5_count_56 : decode cX5_count 56 = .ok (.iconst 0, 1) := by decide +kernel
theorem dX5_count_57 : decode cX5_count 57 = .ok (.iaload, 1) := by decide +kernel
theorem dX5_count_58 : decode cX5_count 58 = .ok (.ireturn, 1) := by decide +kernel
theorem dX5_count_59 : decode cX5_count 59 = .ok (.aload_n 0, 1) := by decide +kernel
theorem dX5_count_60 : decode cX5_count 60 = .ok (.getfield 7, 3) := by decide +kernel
theorem dX5_count_63 : decode cX5_count 63 = .ok (.iconst 1, 1) := by decide +kernel
theorem dX5_count_64 : decode cX5_count 64 = .ok (.iaload, 1) := by decide +kernel
theorem dX5_count_65 : decode cX5_count 65 = .ok (.ireturn, 1) := by decide +kernel
theorem dX5_count_66 : decode cX5_count 66 = .ok (.aload_n 0, 1) := by decide +kernel
theorem dX5_count_67 : decode cX5_count 67 = .ok (.bipush 8, 2) := by decide +kernel
theorem dX5_count_69 : decode cX5_count 69 = .ok (.iconst 0, 1) := by decide +kernel
theorem dX5_count_70 : decode cX5_count 70 = .ok (.invokevirtual 52, 3) := by decide +kernel
theorem dX5_count_73 : decode cX5_count 73 = .ok (.ireturn, 1) := by decide +kernel
theorem dX5_count_74 : decode cX5_count 74 = .ok (.aload_n 0, 1) := by decide +kernel
theorem dX5_count_75 : decode cX5_count 75 = .ok (.bipush 8, 2) := by decide +kernel
theorem dX5_count_77 : decode cX5_count 77 = .ok (.invokevirtual 157, 3) := by decide +kernel
theorem dX5_count_80 : decode cX5_count 80 = .ok (.ireturn, 1) := by decide +kernel
theorem dX5_count_81 : decode cX5_count 81 = .ok (.aload_n 0, 1) := by decide +kernel
theorem dX5_count_82 : decode cX5_count 82 = .ok (.invokevirtual 163, 3) := by decide +kernel
theorem dX5_count_85 : decode cX5_count 85 = .ok (.ireturn, 1) := by decide +kernel
theorem dX5_count_86 : decode cX5_count 86 = .ok (.aload_n 0, 1) := by decide +kernel
theorem dX5_count_87 : decode cX5_count 87 = .ok (.iconst 0, 1) := by decide +kernel
theorem dX5_count_88 : decode cX5_count 88 = .ok (.invokevirtual 160, 3) := by decide +kernel
theorem dX5_count_91 : decode cX5_count 91 = .ok (.ireturn, 1) := by decide +kernel
theorem dX5_count_92 : decode cX5_count 92 = .ok (.aload_n 0, 1) := by decide +kernel
theorem dX5_count_93 : decode cX5_count 93 = .ok (.invokevirtual 166, 3) := by decide +kernel
theorem dX5_count_96 : decode cX5_count 96 = .ok (.ireturn, 1) := by decide +kernel
theorem dX5_count_97 : decode cX5_count 97 = .ok (.aload_n 0, 1) := by decide +kernel
theorem dX5_count_98 : decode cX5_count 98 = .ok (.getfield 120, 3) := by decide +kernel
theorem dX5_count_101 : decode cX5_count 101 = .ok (.ireturn, 1) := by decide +kernel
theorem dX5_count_102 : decode cX5_count 102 = .ok (.aload_n 0, 1) := by decide +kernel
theorem dX5_count_103 : decode cX5_count 103 = .ok (.getfield 40, 3) := by decide +kernel
theorem dX5_count_106 : decode cX5_count 106 = .ok (.ireturn, 1) := by decide +kernel
theorem dX5_count_107 : decode cX5_count 107 = .ok (.bipush (-2), 2) := by decide +kernel
theorem dX5_count_109 : decode cX5_count 109 = .ok (.ireturn, 1) := by decide +kernel
set_option maxRecDepth 20000 in
theorem ggX5_wrongWith_X5_moves : GoodIn wsX5_wrongWith wsX5_moves := goodIn_r _ [6] (by decide +kernel) (by decide +kernel)
set_option maxRecDepth 20000 in
theorem gX5_wrongWith_X5_moves : GoodIn wsX5_wrongWith (va_wsS RX5 44 yX5_moves wsX5_moves) := goodIn_app (goodIn_of _ (by decide +kernel)) ggX5_wrongWith_X5_moves
set_option maxRecDepth 20000 in
theorem ggX5_wrongWith_X5_doSet : GoodIn wsX5_wrongWith wsX5_doSet := goodIn_r _ [10, 1, 11, 12, 13, 5, 14, 15, 16, 17, 18, 19, 20, 21, 22, 23, 24, 25, 26, 27, 28, 29, 30, 31, 32, 33, 34, 35, 36, 37, 38, 39, 40, 41, 42, 43, 44, 45, 46, 47, 48, 49, 50, 78, 79, 80, 81, 82, 83, 84, 85, 86, 87, 88, 89, 90] (by decide +kernel) (by decide +kernel)
set_option maxRecDepth 20000 in
theorem gX5_wrongWith_X5_doSet : GoodIn wsX5_wrongWith (wsV RX5 134 RX5 yX5_doSet wsX5_doSet) := goodIn_app (goodIn_of _ (by decide +kernel)) ggX5_wrongWith_X5_doSet
set_option maxRecDepth 20000 in
theorem ggX5_wrongWith_X5_wrong : GoodIn wsX5_wrongWith wsX5_wrong := goodIn_r _ [54, 55, 56, 57, 5, 58, 59, 60, 61, 62, 63, 64, 65, 23, 24, 25, 26, 1, 27, 28, 29, 30, 31, 32, 33, 34, 66, 67, 68, 69, 70, 71, 72, 73, 74, 75, 76, 77, 78, 79, 80, 81, 82, 83, 84, 85, 86, 87, 88, 89, 90] (by decide +kernel) (by decide +kernel)
set_option maxRecDepth 20000 in
theorem gX5_wrongWith_X5_wrong : GoodIn wsX5_wrongWith (wsV RX5 103 RX5 yX5_wrong wsX5_wrong) := goodIn_app (goodIn_of _ (by decide +kernel)) ggX5_wrongWith_X5_wrong
theorem dX5_wrongWith_0 : decode cX5_wrongWith 0 = .ok (.aload_n 0, 1) := by decide +kernel
theorem dX5_wrongWith_1 : decode cX5_wrongWith 1 = .ok (.getfield 7, 3) := by decide +kernel
theorem dX5_wrongWith_4 : decode cX5_wrongWith 4 = .ok (.iconst 0, 1) := by decide +kernel
theorem dX5_wrongWith_5 : decode cX5_wrongWith 5 = .ok (.aload_n 0, 1) := by decide +kernel
theorem dX5_wrongWith_6 : decode cX5_wrongWith 6 = .ok (.getfield 13, 3) := by decide +kernel
theorem dX5_wrongWith_9 : decode cX5_wrongWith 9 = .ok (.iconst 0, 1) := by decide +kernel
theorem dX5_wrongWith_10 : decode cX5_wrongWith 10 = .ok (.invokestatic 44, 3) := by decide +kernel
theorem dX5_wrongWith_13 : decode cX5_wrongWith 13 = .ok (.aload_n 0, 1) := by decide +kernel
theorem dX5_wrongWith_14 : decode cX5_wrongWith 14 = .ok (.iload_n 1, 1) := by decide +kernel
theorem dX5_wrongWith_15 : decode cX5_wrongWith 15 = .ok (.iload_n 2, 1) := by decide +kernel
theorem dX5_wrongWith_16 : decode cX5_wrongWith 16 = .ok (.invokevirtual 134, 3) := by decide +kernel
theorem dX5_wrongWith_19 : decode cX5_wrongWith 19 = .ok (.aload_n 0, 1) := by decide +kernel
theorem dX5_wrongWith_20 : decode cX5_wrongWith 20 = .ok (.iload_n 1, 1) := by decide +kernel
theorem dX5_wrongWith_21 : decode cX5_wrongWith 21 = .ok (.iconst 3, 1) := by decide +kernel
theorem dX5_wrongWith_22 : decode cX5_wrongWith 22 = .ok (.invokevirtual 103, 3) := by decide +kernel
theorem dX5_wrongWith_25 : decode cX5_wrongWith 25 = .ok (.istore_n 3, 1) := by decide +kernel
theorem dX5_wrongWith_26 : decode cX5_wrongWith 26 = .ok (.aload_n 0, 1) := by decide +kernel
theorem dX5_wrongWith_27 : decode cX5_wrongWith 27 = .ok (.getfield 13, 3) := by decide +kernel
theorem dX5_wrongWith_30 : decode cX5_wrongWith 30 = .ok (.iconst 0, 1) := by decide +kernel
theorem dX5_wrongWith_31 : decode cX5_wrongWith 31 = .ok (.aload_n 0, 1) := by decide +kernel
theorem dX5_wrongWith_32 : decode cX5_wrongWith 32 = .ok (.getfield 7, 3) := by decide +kernel
theorem dX5_wrongWith_35 : decode cX5_wrongWith 35 = .ok (.iconst 0, 1) := by decide +kernel
theorem dX5_wrongWith_36 : decode cX5_wrongWith 36 = .ok (.invokestatic 44, 3) := by decide +kernel
theorem dX5_wrongWith_39 : decode cX5_wrongWith 39 = .ok (.iload_n 3, 1) := by decide +kernel
theorem dX5_wrongWith_40 : decode cX5_wrongWith 40 = .ok (.ireturn, 1) := by decide +kernel
set_option maxRecDepth 20000 in
theorem ggX5_ifDone_X5_isOwner : GoodIn wsX5_ifDone wsX5_isOwner := goodIn_r _ [5, 6, 7, 8, 4, 9, 93, 94, 95, 96, 97, 98, 99, 100, 101, 102, 103, 104, 105] (by decide +kernel) (by decide +kernel)
set_option maxRecDepth 20000 in
theorem gX5_ifDone_X5_isOwner : GoodIn wsX5_ifDone (wsV RX5 123 RX5 yX5_isOwner wsX5_isOwner) := goodIn_app (goodIn_of _ (by decide +kernel)) ggX5_ifDone_X5_isOwner
set_option maxRecDepth 20000 in
theorem ggX5_ifDone_X5_isParcel : GoodIn wsX5_ifDone wsX5_isParcel := goodIn_r _ [13, 6, 7, 8, 4, 9, 93, 94, 95, 96, 97, 98, 99, 100, 101, 102, 103, 104, 105] (by decide +kernel) (by decide +kernel)
set_option maxRecDepth 20000 in
theorem gX5_ifDone_X5_isParcel : GoodIn wsX5_ifDone (wsV RX5 127 RX5 yX5_isParcel wsX5_isParcel) := goodIn_app (goodIn_of _ (by decide +kernel)) ggX5_ifDone_X5_isParcel
set_option maxRecDepth 20000 in
theorem ggX5_ifDone_X5_wrongWith : GoodIn wsX5_ifDone wsX5_wrongWith := goodIn_r _ [17, 6, 18, 19, 20, 4, 21, 22, 23, 24, 25, 26, 27, 28, 29, 30, 31, 32, 33, 34, 35, 36, 37, 38, 39, 40, 41, 42, 43, 44, 45, 46, 47, 48, 49, 50, 51, 52, 53, 54, 55, 56, 57, 58, 59, 60, 61, 62, 63, 64, 65, 66, 67, 68, 69, 70, 71, 72, 73, 74, 75, 76, 77, 78, 79, 80, 81, 82, 83, 84, 85, 86, 87, 88, 89, 90, 91, 92, 93, 94, 95, 96, 97, 98, 99, 100, 101, 102, 103, 104, 105] (by decide +kernel) (by decide +kernel)
set_option maxRecDepth 20000 in
theorem gX5_ifDone_X5_wrongWith : GoodIn wsX5_ifDone (wsV RX5 169 RX5 yX5_wrongWith wsX5_wrongWith) := goodIn_app (goodIn_of _ (by decide +kernel)) ggX5_ifDone_X5_wrongWith
theorem dX5_ifDone_0 : decode cX5_ifDone 0 = .ok (.aload_n 0, 1) := by decide +kernel
theorem dX5_ifDone_1 : decode cX5_ifDone 1 = .ok (.iload_n 1, 1) := by decide +kernel
theorem dX5_ifDone_2 : decode cX5_ifDone 2 = .ok (.invokevirtual 123, 3) := by decide +kernel
theorem dX5_ifDone_5 : decode cX5_ifDone 5 = .ok (.ifCond .eq 22, 3) := by decide +kernel
theorem dX5_ifDone_8 : decode cX5_ifDone 8 = .ok (.aload_n 0, 1) := by decide +kernel
theorem dX5_ifDone_9 : decode cX5_ifDone 9 = .ok (.iload_n 2, 1) := by decide +kernel
theorem dX5_ifDone_10 : decode cX5_ifDone 10 = .ok (.invokevirtual 127, 3) := by decide +kernel
theorem dX5_ifDone_13 : decode cX5_ifDone 13 = .ok (.ifCond .eq 14, 3) := by decide +kernel
theorem dX5_ifDone_16 : decode cX5_ifDone 16 = .ok (.aload_n 0, 1) := by decide +kernel
theorem dX5_ifDone_17 : decode cX5_ifDone 17 = .ok (.iload_n 1, 1) := by decide +kernel
theorem dX5_ifDone_18 : decode cX5_ifDone 18 = .ok (.iconst 1, 1) := by decide +kernel
theorem dX5_ifDone_19 : decode cX5_ifDone 19 = .ok (.iload_n 2, 1) := by decide +kernel
theorem dX5_ifDone_20 : decode cX5_ifDone 20 = .ok (.ishl, 1) := by decide +kernel
theorem dX5_ifDone_21 : decode cX5_ifDone 21 = .ok (.invokevirtual 169, 3) := by decide +kernel
theorem dX5_ifDone_24 : decode cX5_ifDone 24 = .ok (.goto 4, 3) := by decide +kernel
theorem dX5_ifDone_27 : decode cX5_ifDone 27 = .ok (.iconst (-1), 1) := by decide +kernel
theorem dX5_ifDone_28 : decode cX5_ifDone 28 = .ok (.ireturn, 1) := by decide +kernel
set_option maxRecDepth 20000 in
theorem ggX5_ifAllDone_X5_isOwner : GoodIn wsX5_ifAllDone wsX5_isOwner := goodIn_r _ [5, 6, 7, 8, 4, 9, 89, 90, 91, 92, 93, 94, 95, 96, 97, 98, 99, 100, 101] (by decide +kernel) (by decide +kernel)
set_option maxRecDepth 20000 in
theorem gX5_ifAllDone_X5_isOwner : GoodIn wsX5_ifAllDone (wsV RX5 123 RX5 yX5_isOwner wsX5_isOwner) := goodIn_app (goodIn_of _ (by decide +kernel)) ggX5_ifAllDone_X5_isOwner
set_option maxRecDepth 20000 in
theorem ggX5_ifAllDone_X5_part : GoodIn wsX5_ifAllDone wsX5_part := goodIn_r _ [13, 6, 89, 90, 91, 92, 93, 94, 95, 96, 97, 98, 99, 100, 101] (by decide +kernel) (by decide +kernel)
set_option maxRecDepth 20000 in
theorem gX5_ifAllDone_X5_part : GoodIn wsX5_ifAllDone (wsV RX5 52 RX5 yX5_part wsX5_part) := goodIn_app (goodIn_of _ (by decide +kernel)) ggX5_ifAllDone_X5_part
set_option maxRecDepth 20000 in
theorem ggX5_ifAllDone_X5_wrongWith : GoodIn wsX5_ifAllDone wsX5_wrongWith := goodIn_r _ [17, 6, 18, 19, 20, 4, 21, 22, 23, 24, 25, 26, 27, 28, 29, 30, 31, 32, 33, 34, 35, 36, 37, 10, 11, 12, 13, 38, 39, 40, 41, 42, 43, 44, 45, 46, 47, 48, 49, 50, 51, 52, 53, 54, 55, 56, 57, 58, 59, 60, 61, 62, 63, 64, 65, 66, 67, 68, 69, 70, 71, 72, 73, 74, 75, 76, 77, 78, 79, 80, 81, 82, 83, 84, 85, 86, 87, 88, 89, 90, 91, 92, 93, 94, 95, 96, 97, 98, 99, 100, 101] (by decide +kernel) (by decide +kernel)
set_option maxRecDepth 20000 in
theorem gX5_ifAllDone_X5_wrongWith : GoodIn wsX5_ifAllDone (wsV RX5 169 RX5 yX5_wrongWith wsX5_wrongWith) := goodIn_app (goodIn_of _ (by decide +kernel)) ggX5_ifAllDone_X5_wrongWith
theorem dX5_ifAllDone_0 : decode cX5_ifAllDone 0 = .ok (.aload_n 0, 1) := by decide +kernel
theorem dX5_ifAllDone_1 : decode cX5_ifAllDone 1 = .ok (.iload_n 1, 1) := by decide +kernel
theorem dX5_ifAllDone_2 : decode cX5_ifAllDone 2 = .ok (.invokevirtual 123, 3) := by decide +kernel
theorem dX5_ifAllDone_5 : decode cX5_ifAllDone 5 = .ok (.ifCond .eq 17, 3) := by decide +kernel
theorem dX5_ifAllDone_8 : decode cX5_ifAllDone 8 = .ok (.aload_n 0, 1) := by decide +kernel
theorem dX5_ifAllDone_9 : decode cX5_ifAllDone 9 = .ok (.iload_n 1, 1) := by decide +kernel
theorem dX5_ifAllDone_10 : decode cX5_ifAllDone 10 = .ok (.aload_n 0, 1) := by decide +kernel
theorem dX5_ifAllDone_11 : decode cX5_ifAllDone 11 = .ok (.iload_n 1, 1) := by decide +kernel
theorem dX5_ifAllDone_12 : decode cX5_ifAllDone 12 = .ok (.iconst 1, 1) := by decide +kernel
theorem dX5_ifAllDone_13 : decode cX5_ifAllDone 13 = .ok (.invokevirtual 52, 3) := by decide +kernel
theorem dX5_ifAllDone_16 : decode cX5_ifAllDone 16 = .ok (.invokevirtual 169, 3) := by decide +kernel
theorem dX5_ifAllDone_19 : decode cX5_ifAllDone 19 = .ok (.goto 4, 3) := by decide +kernel
theorem dX5_ifAllDone_22 : decode cX5_ifAllDone 22 = .ok (.iconst (-1), 1) := by decide +kernel
theorem dX5_ifAllDone_23 : decode cX5_ifAllDone 23 = .ok (.ireturn, 1) := by decide +kernel
set_option maxRecDepth 20000 in
theorem ggX5_mendingOf_X5_bits : GoodIn wsX5_mendingOf wsX5_bits := goodIn_r _ [5] (by decide +kernel) (by decide +kernel)
set_option maxRecDepth 20000 in
theorem gX5_mendingOf_X5_bits : GoodIn wsX5_mendingOf (va_wsS RX5 137 yX5_bits wsX5_bits) := goodIn_app (goodIn_of _ (by decide +kernel)) ggX5_mendingOf_X5_bits
set_option maxRecDepth 20000 in
theorem ggX5_mendingOf_X5_wrongWith : GoodIn wsX5_mendingOf wsX5_wrongWith := goodIn_r _ [9, 1, 10, 11, 12, 4, 13, 14, 15, 16, 17, 18, 19, 20, 21, 22, 23, 24, 25, 26, 27, 28, 29, 30, 31, 32, 33, 34, 35, 36, 37, 38, 39, 40, 41, 42, 43, 44, 45, 46, 47, 48, 49, 50, 51, 52, 53, 54, 55, 56, 57, 58, 59, 60, 61, 62, 63, 64, 65, 66, 67, 68, 69, 70, 71, 72, 73, 74, 75, 76, 77, 78, 79, 80, 81, 82, 83, 84, 85, 86, 87, 88, 89, 90, 91, 92, 93, 94, 95, 96, 97] (by decide +kernel) (by decide +kernel)
set_option maxRecDepth 20000 in
theorem gX5_mendingOf_X5_wrongWith : GoodIn wsX5_mendingOf (wsV RX5 169 RX5 yX5_wrongWith wsX5_wrongWith) := goodIn_app (goodIn_of _ (by decide +kernel)) ggX5_mendingOf_X5_wrongWith
theorem dX5_mendingOf_0 : decode cX5_mendingOf 0 = .ok (.iconst 0, 1) := by decide +kernel
theorem dX5_mendingOf_1 : decode cX5_mendingOf 1 = .ok (.istore_n 3, 1) := by decide +kernel
theorem dX5_mendingOf_2 : decode cX5_mendingOf 2 = .ok (.iload_n 3, 1) := by decide +kernel
theorem dX5_mendingOf_3 : decode cX5_mendingOf 3 = .ok (.iconst 1, 1) := by decide +kernel
theorem dX5_mendingOf_4 : decode cX5_mendingOf 4 = .ok (.aload_n 0, 1) := by decide +kernel
theorem dX5_mendingOf_5 : decode cX5_mendingOf 5 = .ok (.getfield 7, 3) := by decide +kernel
theorem dX5_mendingOf_8 : decode cX5_mendingOf 8 = .ok (.iconst 0, 1) := by decide +kernel
theorem dX5_mendingOf_9 : decode cX5_mendingOf 9 = .ok (.iaload, 1) := by decide +kernel
theorem dX5_mendingOf_10 : decode cX5_mendingOf 10 = .ok (.ishl, 1) := by decide +kernel
theorem dX5_mendingOf_11 : decode cX5_mendingOf 11 = .ok (.if_icmp .ge 28, 3) := by decide +kernel
theorem dX5_mendingOf_14 : decode cX5_mendingOf 14 = .ok (.iload_n 3, 1) := by decide +kernel
theorem dX5_mendingOf_15 : decode cX5_mendingOf 15 = .ok (.invokestatic 137, 3) := by decide +kernel
theorem dX5_mendingOf_18 : decode cX5_mendingOf 18 = .ok (.iload_n 2, 1) := by decide +kernel
theorem dX5_mendingOf_19 : decode cX5_mendingOf 19 = .ok (.if_icmp .ne 14, 3) := by decide +kernel
theorem dX5_mendingOf_22 : decode cX5_mendingOf 22 = .ok (.aload_n 0, 1) := by decide +kernel
theorem dX5_mendingOf_23 : decode cX5_mendingOf 23 = .ok (.iload_n 1, 1) := by decide +kernel
theorem dX5_mendingOf_24 : decode cX5_mendingOf 24 = .ok (.iload_n 3, 1) := by decide +kernel
theorem dX5_mendingOf_25 : decode cX5_mendingOf 25 = .ok (.invokevirtual 169, 3) := by decide +kernel
theorem dX5_mendingOf_28 : decode cX5_mendingOf 28 = .ok (.ifCond .ne 5, 3) := by decide +kernel
theorem dX5_mendingOf_31 : decode cX5_mendingOf 31 = .ok (.iload_n 3, 1) := by decide +kernel
theorem dX5_mendingOf_32 : decode cX5_mendingOf 32 = .ok (.ireturn, 1) := by decide +kernel
theorem dX5_mendingOf_33 : decode cX5_mendingOf 33 = .ok (.iinc 3 1, 3) := by decide +kernel
theorem dX5_mendingOf_36 : decode cX5_mendingOf 36 = .ok (.goto (-34), 3) := by decide +kernel
theorem dX5_mendingOf_39 : decode cX5_mendingOf 39 = .ok (.bipush (-6), 2) := by decide +kernel
theorem dX5_mendingOf_41 : decode cX5_mendingOf 41 = .ok (.ireturn, 1) := by decide +kernel
set_option maxRecDepth 20000 in
theorem ggX5_mending_X5_isOwner : GoodIn wsX5_mending wsX5_isOwner := goodIn_r _ [5, 6, 7, 8, 4, 9, 96, 97, 98, 99, 100, 101, 102, 103, 104, 105, 106, 107, 108] (by decide +kernel) (by decide +kernel)
set_option maxRecDepth 20000 in
theorem gX5_mending_X5_isOwner : GoodIn wsX5_mending (wsV RX5 123 RX5 yX5_isOwner wsX5_isOwner) := goodIn_app (goodIn_of _ (by decide +kernel)) ggX5_mending_X5_isOwner
set_option maxRecDepth 20000 in
theorem ggX5_mending_X5_mendingOf : GoodIn wsX5_mending wsX5_mendingOf := goodIn_r _ [13, 6, 14, 15, 4, 16, 17, 18, 19, 20, 21, 22, 23, 24, 25, 26, 27, 28, 29, 30, 31, 32, 33, 34, 35, 36, 37, 38, 39, 40, 41, 42, 43, 44, 45, 46, 47, 48, 49, 50, 51, 52, 53, 54, 55, 56, 57, 58, 59, 60, 61, 62, 63, 64, 65, 66, 67, 68, 69, 70, 71, 72, 73, 74, 75, 76, 77, 78, 79, 80, 81, 82, 83, 84, 85, 86, 87, 88, 89, 90, 91, 92, 93, 94, 95, 96, 97, 98, 99, 100, 101, 102, 103, 104, 105, 106, 107, 108] (by decide +kernel) (by decide +kernel)
set_option maxRecDepth 20000 in
theorem gX5_mending_X5_mendingOf : GoodIn wsX5_mending (wsV RX5 172 RX5 yX5_mendingOf wsX5_mendingOf) := goodIn_app (goodIn_of _ (by decide +kernel)) ggX5_mending_X5_mendingOf
theorem dX5_mending_0 : decode cX5_mending 0 = .ok (.aload_n 0, 1) := by decide +kernel
theorem dX5_mending_1 : decode cX5_mending 1 = .ok (.iload_n 1, 1) := by decide +kernel
theorem dX5_mending_2 : decode cX5_mending 2 = .ok (.invokevirtual 123, 3) := by decide +kernel
theorem dX5_mending_5 : decode cX5_mending 5 = .ok (.ifCond .ne 5, 3) := by decide +kernel
theorem dX5_mending_8 : decode cX5_mending 8 = .ok (.iconst (-1), 1) := by decide +kernel
theorem dX5_mending_9 : decode cX5_mending 9 = .ok (.ireturn, 1) := by decide +kernel
theorem dX5_mending_10 : decode cX5_mending 10 = .ok (.bipush (-6), 2) := by decide +kernel
theorem dX5_mending_12 : decode cX5_mending 12 = .ok (.istore_n 2, 1) := by decide +kernel
theorem dX5_mending_13 : decode cX5_mending 13 = .ok (.iconst 0, 1) := by decide +kernel
theorem dX5_mending_14 : decode cX5_mending 14 = .ok (.istore_n 3, 1) := by decide +kernel
theorem dX5_mending_15 : decode cX5_mending 15 = .ok (.iload_n 3, 1) := by decide +kernel
theorem dX5_mending_16 : decode cX5_mending 16 = .ok (.iconst 3, 1) := by decide +kernel
theorem dX5_mending_17 : decode cX5_mending 17 = .ok (.if_icmp .gt 22, 3) := by decide +kernel
theorem dX5_mending_20 : decode cX5_mending 20 = .ok (.iload_n 2, 1) := by decide +kernel
theorem dX5_mending_21 : decode cX5_mending 21 = .ok (.bipush (-6), 2) := by decide +kernel
theorem dX5_mending_23 : decode cX5_mending 23 = .ok (.if_icmp .ne 16, 3) := by decide +kernel
theorem dX5_mending_26 : decode cX5_mending 26 = .ok (.aload_n 0, 1) := by decide +kernel
theorem dX5_mending_27 : decode cX5_mending 27 = .ok (.iload_n 1, 1) := by decide +kernel
theorem dX5_mending_28 : decode cX5_mending 28 = .ok (.iload_n 3, 1) := by decide +kernel
theorem dX5_mending_29 : decode cX5_mending 29 = .ok (.invokevirtual 172, 3) := by decide +kernel
theorem dX5_mending_32 : decode cX5_mending 32 = .ok (.istore_n 2, 1) := by decide +kernel
theorem dX5_mending_33 : decode cX5_mending 33 = .ok (.iinc 3 1, 3) := by decide +kernel
theorem dX5_mending_36 : decode cX5_mending 36 = .ok (.goto (-21), 3) := by decide +kernel
theorem dX5_mending_39 : decode cX5_mending 39 = .ok (.iload_n 2, 1) := by decide +kernel
theorem dX5_mending_40 : decode cX5_mending 40 = .ok (.ireturn, 1) := by decide +kernel
set_option maxRecDepth 20000 in
theorem ggX5_rightFrom_X5_isOwner : GoodIn wsX5_rightFrom wsX5_isOwner := goodIn_r _ [6, 1, 7, 8, 5, 9, 89, 90, 91, 92, 93, 94, 95, 96, 97, 98, 99, 100, 101] (by decide +kernel) (by decide +kernel)
set_option maxRecDepth 20000 in
theorem gX5_rightFrom_X5_isOwner : GoodIn wsX5_rightFrom (wsV RX5 123 RX5 yX5_isOwner wsX5_isOwner) := goodIn_app (goodIn_of _ (by decide +kernel)) ggX5_rightFrom_X5_isOwner
set_option maxRecDepth 20000 in
theorem ggX5_rightFrom_X5_wrongWith : GoodIn wsX5_rightFrom wsX5_wrongWith := goodIn_r _ [13, 1, 14, 15, 16, 5, 17, 18, 19, 20, 21, 22, 23, 24, 25, 26, 27, 28, 29, 30, 31, 32, 33, 34, 35, 36, 37, 38, 39, 40, 41, 42, 43, 44, 45, 46, 47, 48, 49, 50, 51, 52, 53, 54, 55, 56, 57, 58, 59, 60, 61, 62, 63, 64, 65, 66, 67, 68, 69, 70, 71, 72, 73, 74, 75, 76, 77, 78, 79, 80, 81, 82, 83, 84, 85, 86, 87, 88, 89, 90, 91, 92, 93, 94, 95, 96, 97, 98, 99, 100, 101] (by decide +kernel) (by decide +kernel)
set_option maxRecDepth 20000 in
theorem gX5_rightFrom_X5_wrongWith : GoodIn wsX5_rightFrom (wsV RX5 169 RX5 yX5_wrongWith wsX5_wrongWith) := goodIn_app (goodIn_of _ (by decide +kernel)) ggX5_rightFrom_X5_wrongWith
theorem dX5_rightFrom_0 : decode cX5_rightFrom 0 = .ok (.aload_n 0, 1) := by decide +kernel
theorem dX5_rightFrom_1 : decode cX5_rightFrom 1 = .ok (.iload_n 1, 1) := by decide +kernel
theorem dX5_rightFrom_2 : decode cX5_rightFrom 2 = .ok (.invokevirtual 123, 3) := by decide +kernel
theorem dX5_rightFrom_5 : decode cX5_rightFrom 5 = .ok (.ifCond .ne 5, 3) := by decide +kernel
theorem dX5_rightFrom_8 : decode cX5_rightFrom 8 = .ok (.iconst (-1), 1) := by decide +kernel
theorem dX5_rightFrom_9 : decode cX5_rightFrom 9 = .ok (.ireturn, 1) := by decide +kernel
theorem dX5_rightFrom_10 : decode cX5_rightFrom 10 = .ok (.iconst 1, 1) := by decide +kernel
theorem dX5_rightFrom_11 : decode cX5_rightFrom 11 = .ok (.aload_n 0, 1) := by decide +kernel
theorem dX5_rightFrom_12 : decode cX5_rightFrom 12 = .ok (.getfield 7, 3) := by decide +kernel
theorem dX5_rightFrom_15 : decode cX5_rightFrom 15 = .ok (.iconst 0, 1) := by decide +kernel
theorem dX5_rightFrom_16 : decode cX5_rightFrom 16 = .ok (.iaload, 1) := by decide +kernel
theorem dX5_rightFrom_17 : decode cX5_rightFrom 17 = .ok (.ishl, 1) := by decide +kernel
theorem dX5_rightFrom_18 : decode cX5_rightFrom 18 = .ok (.iconst 1, 1) := by decide +kernel
theorem dX5_rightFrom_19 : decode cX5_rightFrom 19 = .ok (.isub, 1) := by decide +kernel
theorem dX5_rightFrom_20 : decode cX5_rightFrom 20 = .ok (.istore_n 2, 1) := by decide +kernel
theorem dX5_rightFrom_21 : decode cX5_rightFrom 21 = .ok (.aload_n 0, 1) := by decide +kernel
theorem dX5_rightFrom_22 : decode cX5_rightFrom 22 = .ok (.getfield 7, 3) := by decide +kernel
theorem dX5_rightFrom_25 : decode cX5_rightFrom 25 = .ok (.iconst 0, 1) := by decide +kernel
theorem dX5_rightFrom_26 : decode cX5_rightFrom 26 = .ok (.iaload, 1) := by decide +kernel
theorem dX5_rightFrom_27 : decode cX5_rightFrom 27 = .ok (.istore_n 3, 1) := by decide +kernel
theorem dX5_rightFrom_28 : decode cX5_rightFrom 28 = .ok (.iload_n 3, 1) := by decide +kernel
theorem dX5_rightFrom_29 : decode cX5_rightFrom 29 = .ok (.ifCond .lt 28, 3) := by decide +kernel
theorem dX5_rightFrom_32 : decode cX5_rightFrom 32 = .ok (.aload_n 0, 1) := by decide +kernel
theorem dX5_rightFrom_33 : decode cX5_rightFrom 33 = .ok (.iload_n 1, 1) := by decide +kernel
theorem dX5_rightFrom_34 : decode cX5_rightFrom 34 = .ok (.iload_n 2, 1) := by decide +kernel
theorem dX5_rightFrom_35 : decode cX5_rightFrom 35 = .ok (.iconst 1, 1) := by decide +kernel
theorem dX5_rightFrom_36 : decode cX5_rightFrom 36 = .ok (.iload_n 3, 1) := by decide +kernel
theorem dX5_rightFrom_37 : decode cX5_rightFrom 37 = .ok (.ishl, 1) := by decide +kernel
theorem dX5_rightFrom_38 : decode cX5_rightFrom 38 = .ok (.iconst 1, 1) := by decide +kernel
theorem dX5_rightFrom_39 : decode cX5_rightFrom 39 = .ok (.isub, 1) := by decide +kernel
theorem dX5_rightFrom_40 : decode cX5_rightFrom 40 = .ok (.iconst (-1), 1) := by decide +kernel
theorem dX5_rightFrom_41 : decode cX5_rightFrom 41 = .ok (.ixor, 1) := by decide +kernel
theorem dX5_rightFrom_42 : decode cX5_rightFrom 42 = .ok (.iand, 1) := by decide +kernel
theorem dX5_rightFrom_43 : decode cX5_rightFrom 43 = .ok (.invokevirtual 169, 3) := by decide +kernel
theorem dX5_rightFrom_46 : decode cX5_rightFrom 46 = .ok (.ifCond .ne 5, 3) := by decide +kernel
theorem dX5_rightFrom_49 : decode cX5_rightFrom 49 = .ok (.iload_n 3, 1) := by decide +kernel
theorem dX5_rightFrom_50 : decode cX5_rightFrom 50 = .ok (.ireturn, 1) := by decide +kernel
theorem dX5_rightFrom_51 : decode cX5_rightFrom 51 = .ok (.iinc 3 (-1), 3) := by decide +kernel
theorem dX5_rightFrom_54 : decode cX5_rightFrom 54 = .ok (.goto (-26), 3) := by decide +kernel
theorem dX5_rightFrom_57 : decode cX5_rightFrom 57 = .ok (.bipush (-6), 2) := by decide +kernel
theorem dX5_rightFrom_59 : decode cX5_rightFrom 59 = .ok (.ireturn, 1) := by decide +kernel
set_option maxRecDepth 20000 in
theorem ggX5_put_X5_within : GoodIn wsX5_put wsX5_within := goodIn_r _ [7] (by decide +kernel) (by decide +kernel)
set_option maxRecDepth 20000 in
theorem gX5_put_X5_within : GoodIn wsX5_put (va_wsS RX5 48 yX5_within wsX5_within) := goodIn_app (goodIn_of _ (by decide +kernel)) ggX5_put_X5_within
theorem dX5_put_0 : decode cX5_put 0 = .ok (.iconst 0, 1) := by decide +kernel
theorem dX5_put_1 : decode cX5_put 1 = .ok (.istore_n 3, 1) := by decide +kernel
theorem dX5_put_2 : decode cX5_put 2 = .ok (.lload_n 1, 1) := by decide +kernel
theorem dX5_put_3 : decode cX5_put 3 = .ok (.lstore 4, 2) := by decide +kernel
theorem dX5_put_5 : decode cX5_put 5 = .ok (.iconst 1, 1) := by decide +kernel
theorem dX5_put_6 : decode cX5_put 6 = .ok (.istore 6, 2) := by decide +kernel
theorem dX5_put_8 : decode cX5_put 8 = .ok (.iload_n 3, 1) := by decide +kernel
theorem dX5_put_9 : decode cX5_put 9 = .ok (.bipush 8, 2) := by decide +kernel
theorem dX5_put_11 : decode cX5_put 11 = .ok (.if_icmp .ge 56, 3) := by decide +kernel
theorem dX5_put_14 : decode cX5_put 14 = .ok (.lload 4, 2) := by decide +kernel
theorem dX5_put_16 : decode cX5_put 16 = .ok (.ldc2_w 175, 3) := by decide +kernel
theorem dX5_put_19 : decode cX5_put 19 = .ok (.land, 1) := by decide +kernel
theorem dX5_put_20 : decode cX5_put 20 = .ok (.lconst 0, 1) := by decide +kernel
theorem dX5_put_21 : decode cX5_put 21 = .ok (.lcmp, 1) := by decide +kernel
theorem dX5_put_22 : decode cX5_put 22 = .ok (.ifCond .eq 45, 3) := by decide +kernel
theorem dX5_put_25 : decode cX5_put 25 = .ok (.iload 6, 2) := by decide +kernel
theorem dX5_put_27 : decode cX5_put 27 = .ok (.ifCond .eq 24, 3) := by decide +kernel
theorem dX5_put_30 : decode cX5_put 30 = .ok (.lload 4, 2) := by decide +kernel
theorem dX5_put_32 : decode cX5_put 32 = .ok (.ldc2_w 175, 3) := by decide +kernel
theorem dX5_put_35 : decode cX5_put 35 = .ok (.land, 1) := by decide +kernel
theorem dX5_put_36 : decode cX5_put 36 = .ok (.l2i, 1) := by decide +kernel
theorem dX5_put_37 : decode cX5_put 37 = .ok (.bipush 33, 2) := by decide +kernel
theorem dX5_put_39 : decode cX5_put 39 = .ok (.bipush 126, 2) := by decide +kernel
theorem dX5_put_41 : decode cX5_put 41 = .ok (.invokestatic 48, 3) := by decide +kernel
theorem dX5_put_44 : decode cX5_put 44 = .ok (.ifCond .eq 7, 3) := by decide +kernel
theorem dX5_put_47 : decode cX5_put 47 = .ok (.iconst 1, 1) := by decide +kernel
theorem dX5_put_48 : decode cX5_put 48 = .ok (.goto 4, 3) := by decide +kernel
theorem dX5_put_51 : decode cX5_put 51 = .ok (.iconst 0, 1) := by decide +kernel
theorem dX5_put_52 : decode cX5_put 52 = .ok (.istore 6, 2) := by decide +kernel
theorem dX5_put_54 : decode cX5_put 54 = .ok (.lload 4, 2) := by decide +kernel
theorem dX5_put_56 : decode cX5_put 56 = .ok (.bipush 8, 2) := by decide +kernel
theorem dX5_put_58 : decode cX5_put 58 = .ok (.lushr, 1) := by decide +kernel
theorem dX5_put_59 : decode cX5_put 59 = .ok (.lstore 4, 2) := by decide +kernel
theorem dX5_put_61 : decode cX5_put 61 = .ok (.iinc 3 1, 3) := by decide +kernel
theorem dX5_put_64 : decode cX5_put 64 = .ok (.goto (-56), 3) := by decide +kernel
theorem dX5_put_67 : decode cX5_put 67 = .ok (.iload_n 3, 1) := by decide +kernel
theorem dX5_put_68 : decode cX5_put 68 = .ok (.ifCond .eq 15, 3) := by decide +kernel
theorem dX5_put_71 : decode cX5_put 71 = .ok (.iload 6, 2) := by decide +kernel
theorem dX5_put_73 : decode cX5_put 73 = .ok (.ifCond .eq 10, 3) := by decide +kernel
theorem dX5_put_76 : decode cX5_put 76 = .ok (.lload 4, 2) := by decide +kernel
theorem dX5_put_78 : decode cX5_put 78 = .ok (.lconst 0, 1) := by decide +kernel
theorem dX5_put_79 : decode cX5_put 79 = .ok (.lcmp, 1) := by decide +kernel
theorem dX5_put_80 : decode cX5_put 80 = .ok (.ifCond .eq 6, 3) := by decide +kernel
theorem dX5_put_83 : decode cX5_put 83 = .ok (.bipush (-2), 2) := by decide +kernel
theorem dX5_put_85 : decode cX5_put 85 = .ok (.ireturn, 1) := by decide +kernel
theorem dX5_put_86 : decode cX5_put 86 = .ok (.aload_n 0, 1) := by decide +kernel
theorem dX5_put_87 : decode cX5_put 87 = .ok (.getfield 120, 3) := by decide +kernel
theorem dX5_put_90 : decode cX5_put 90 = .ok (.iload_n 3, 1) := by decide +kernel
theorem dX5_put_91 : decode cX5_put 91 = .ok (.iadd, 1) := by decide +kernel
theorem dX5_put_92 : decode cX5_put 92 = .ok (.bipush 48, 2) := by decide +kernel
theorem dX5_put_94 : decode cX5_put 94 = .ok (.if_icmp .le 6, 3) := by decide +kernel
theorem dX5_put_97 : decode cX5_put 97 = .ok (.bipush (-4), 2) := by decide +kernel
theorem dX5_put_99 : decode cX5_put 99 = .ok (.ireturn, 1) := by decide +kernel
theorem dX5_put_100 : decode cX5_put 100 = .ok (.iload_n 3, 1) := by decide +kernel
theorem dX5_put_101 : decode cX5_put 101 = .ok (.iconst 1, 1) := by decide +kernel
theorem dX5_put_102 : decode cX5_put 102 = .ok (.isub, 1) := by decide +kernel
theorem dX5_put_103 : decode cX5_put 103 = .ok (.istore 7, 2) := by decide +kernel
theorem dX5_put_105 : decode cX5_put 105 = .ok (.iload 7, 2) := by decide +kernel
theorem dX5_put_107 : decode cX5_put 107 = .ok (.ifCond .lt 40, 3) := by decide +kernel
theorem dX5_put_110 : decode cX5_put 110 = .ok (.aload_n 0, 1) := by decide +kernel
theorem dX5_put_111 : decode cX5_put 111 = .ok (.getfield 25, 3) := by decide +kernel
theorem dX5_put_114 : decode cX5_put 114 = .ok (.aload_n 0, 1) := by decide +kernel
theorem dX5_put_115 : decode cX5_put 115 = .ok (.getfield 120, 3) := by decide +kernel
theorem dX5_put_118 : decode cX5_put 118 = .ok (.lload_n 1, 1) := by decide +kernel
theorem dX5_put_119 : decode cX5_put 119 = .ok (.bipush 8, 2) := by decide +kernel
theorem dX5_put_121 : decode cX5_put 121 = .ok (.iload 7, 2) := by decide +kernel
theorem dX5_put_123 : decode cX5_put 123 = .ok (.imul, 1) := by decide +kernel
theorem dX5_put_124 : decode cX5_put 124 = .ok (.lushr, 1) := by decide +kernel
theorem dX5_put_125 : decode cX5_put 125 = .ok (.ldc2_w 175, 3) := by decide +kernel
theorem dX5_put_128 : decode cX5_put 128 = .ok (.land, 1) := by decide +kernel
theorem dX5_put_129 : decode cX5_put 129 = .ok (.l2i, 1) := by decide +kernel
theorem dX5_put_130 : decode cX5_put 130 = .ok (.iastore, 1) := by decide +kernel
theorem dX5_put_131 : decode cX5_put 131 = .ok (.aload_n 0, 1) := by decide +kernel
theorem dX5_put_132 : decode cX5_put 132 = .ok (.dup, 1) := by decide +kernel
theorem dX5_put_133 : decode cX5_put 133 = .ok (.getfield 120, 3) := by decide +kernel
theorem dX5_put_136 : decode cX5_put 136 = .ok (.iconst 1, 1) := by decide +kernel
theorem dX5_put_137 : decode cX5_put 137 = .ok (.iadd, 1) := by decide +kernel
theorem dX5_put_138 : decode cX5_put 138 = .ok (.putfield 120, 3) := by decide +kernel
theorem dX5_put_141 : decode cX5_put 141 = .ok (.iinc 7 (-1), 3) := by decide +kernel
theorem dX5_put_144 : decode cX5_put 144 = .ok (.goto (-39), 3) := by decide +kernel
theorem dX5_put_147 : decode cX5_put 147 = .ok (.aload_n 0, 1) := by decide +kernel
theorem dX5_put_148 : decode cX5_put 148 = .ok (.getfield 120, 3) := by decide +kernel
theorem dX5_put_151 : decode cX5_put 151 = .ok (.ireturn, 1) := by decide +kernel
theorem dX5_wipe_0 : decode cX5_wipe 0 = .ok (.aload_n 0, 1) := by decide +kernel
theorem dX5_wipe_1 : decode cX5_wipe 1 = .ok (.getfield 120, 3) := by decide +kernel
theorem dX5_wipe_4 : decode cX5_wipe 4 = .ok (.istore_n 1, 1) := by decide +kernel
theorem dX5_wipe_5 : decode cX5_wipe 5 = .ok (.aload_n 0, 1) := by decide +kernel
theorem dX5_wipe_6 : decode cX5_wipe 6 = .ok (.iconst 0, 1) := by decide +kernel
theorem dX5_wipe_7 : decode cX5_wipe 7 = .ok (.putfield 120, 3) := by decide +kernel
theorem dX5_wipe_10 : decode cX5_wipe 10 = .ok (.iload_n 1, 1) := by decide +kernel
theorem dX5_wipe_11 : decode cX5_wipe 11 = .ok (.ireturn, 1) := by decide +kernel
set_option maxRecDepth 20000 in
theorem ggX5_canStand_X5_within : GoodIn wsX5_canStand wsX5_within := goodIn_r _ [4] (by decide +kernel) (by decide +kernel)
set_option maxRecDepth 20000 in
theorem gX5_canStand_X5_within : GoodIn wsX5_canStand (va_wsS RX5 48 yX5_within wsX5_within) := goodIn_app (goodIn_of _ (by decide +kernel)) ggX5_canStand_X5_within
theorem dX5_canStand_0 : decode cX5_canStand 0 = .ok (.iload_n 0, 1) := by decide +kernel
theorem dX5_canStand_1 : decode cX5_canStand 1 = .ok (.iconst 5, 1) := by decide +kernel
theorem dX5_canStand_2 : decode cX5_canStand 2 = .ok (.irem, 1) := by decide +kernel
theorem dX5_canStand_3 : decode cX5_canStand 3 = .ok (.tableswitch 83 0 3 #[29, 53, 62, 74], 29) := by decide +kernel
theorem dX5_canStand_32 : decode cX5_canStand 32 = .ok (.iload_n 0, 1) := by decide +kernel
theorem dX5_canStand_33 : decode cX5_canStand 33 = .ok (.bipush 40, 2) := by decide +kernel
theorem dX5_canStand_35 : decode cX5_canStand 35 = .ok (.if_icmp .ge 19, 3) := by decide +kernel
theorem dX5_canStand_38 : decode cX5_canStand 38 = .ok (.iload_n 1, 1) := by decide +kernel
theorem dX5_canStand_39 : decode cX5_canStand 39 = .ok (.bipush 43, 2) := by decide +kernel
theorem dX5_canStand_41 : decode cX5_canStand 41 = .ok (.if_icmp .eq 9, 3) := by decide +kernel
theorem dX5_canStand_44 : decode cX5_canStand 44 = .ok (.iload_n 1, 1) := by decide +kernel
theorem dX5_canStand_45 : decode cX5_canStand 45 = .ok (.bipush 45, 2) := by decide +kernel
theorem dX5_canStand_47 : decode cX5_canStand 47 = .ok (.if_icmp .ne 7, 3) := by decide +kernel
theorem dX5_canStand_50 : decode cX5_canStand 50 = .ok (.iconst 1, 1) := by decide +kernel
theorem dX5_canStand_51 : decode cX5_canStand 51 = .ok (.goto 4, 3) := by decide +kernel
theorem dX5_canStand_54 : decode cX5_canStand 54 = .ok (.iconst 0, 1) := by decide +kernel
theorem dX5_canStand_55 : decode cX5_canStand 55 = .ok (.ireturn, 1) := by decide +kernel
theorem dX5_canStand_56 : decode cX5_canStand 56 = .ok (.iload_n 1, 1) := by decide +kernel
theorem dX5_canStand_57 : decode cX5_canStand 57 = .ok (.bipush 49, 2) := by decide +kernel
theorem dX5_canStand_59 : decode cX5_canStand 59 = .ok (.bipush 57, 2) := by decide +kernel
theorem dX5_canStand_61 : decode cX5_canStand 61 = .ok (.invokestatic 48, 3) := by decide +kernel
theorem dX5_canStand_64 : decode cX5_canStand 64 = .ok (.ireturn, 1) := by decide +kernel
theorem dX5_canStand_65 : decode cX5_canStand 65 = .ok (.iload_n 1, 1) := by decide +kernel
theorem dX5_canStand_66 : decode cX5_canStand 66 = .ok (.bipush 46, 2) := by decide +kernel
theorem dX5_canStand_68 : decode cX5_canStand 68 = .ok (.if_icmp .ne 7, 3) := by decide +kernel
theorem dX5_canStand_71 : decode cX5_canStand 71 = .ok (.iconst 1, 1) := by decide +kernel
theorem dX5_canStand_72 : decode cX5_canStand 72 = .ok (.goto 4, 3) := by decide +kernel
theorem dX5_canStand_75 : decode cX5_canStand 75 = .ok (.iconst 0, 1) := by decide +kernel
theorem dX5_canStand_76 : decode cX5_canStand 76 = .ok (.ireturn, 1) := by decide +kernel
theorem dX5_canStand_77 : decode cX5_canStand 77 = .ok (.iload_n 1, 1) := by decide +kernel
theorem dX5_canStand_78 : decode cX5_canStand 78 = .ok (.bipush 48, 2) := by decide +kernel
theorem dX5_canStand_80 : decode cX5_canStand 80 = .ok (.bipush 57, 2) := by decide +kernel
theorem dX5_canStand_82 : decode cX5_canStand 82 = .ok (.invokestatic 48, 3) := by decide +kernel
theorem dX5_canStand_85 : decode cX5_canStand 85 = .ok (.ireturn, 1) := by decide +kernel
theorem dX5_canStand_86 : decode cX5_canStand 86 = .ok (.iload_n 1, 1) := by decide +kernel
theorem dX5_canStand_87 : decode cX5_canStand 87 = .ok (.bipush 44, 2) := by decide +kernel
theorem dX5_canStand_89 : decode cX5_canStand 89 = .ok (.if_icmp .ne 13, 3) := by decide +kernel
theorem dX5_canStand_92 : decode cX5_canStand 92 = .ok (.iload_n 0, 1) := by decide +kernel
theorem dX5_canStand_93 : decode cX5_canStand 93 = .ok (.bipush 39, 2) := by decide +kernel
theorem dX5_canStand_95 : decode cX5_canStand 95 = .ok (.if_icmp .ge 7, 3) := by decide +kernel
theorem dX5_canStand_98 : decode cX5_canStand 98 = .ok (.iconst 1, 1) := by decide +kernel
theorem dX5_canStand_99 : decode cX5_canStand 99 = .ok (.goto 4, 3) := by decide +kernel
theorem dX5_canStand_102 : decode cX5_canStand 102 = .ok (.iconst 0, 1) := by decide +kernel
theorem dX5_canStand_103 : decode cX5_canStand 103 = .ok (.ireturn, 1) := by decide +kernel
set_option maxRecDepth 20000 in
theorem ggX5_findFault_X5_canStand : GoodIn wsX5_findFault wsX5_canStand := goodIn_r _ [8, 9, 10, 7, 11] (by decide +kernel) (by decide +kernel)
set_option maxRecDepth 20000 in
theorem gX5_findFault_X5_canStand : GoodIn wsX5_findFault (va_wsS RX5 177 yX5_canStand wsX5_canStand) := goodIn_app (goodIn_of _ (by decide +kernel)) ggX5_findFault_X5_canStand
theorem dX5_findFault_0 : decode cX5_findFault 0 = .ok (.aload_n 0, 1) := by decide +kernel
theorem dX5_findFault_1 : decode cX5_findFault 1 = .ok (.iconst 0, 1) := by decide +kernel
theorem dX5_findFault_2 : decode cX5_findFault 2 = .ok (.putfield 106, 3) := by decide +kernel
theorem dX5_findFault_5 : decode cX5_findFault 5 = .ok (.iconst 0, 1) := by decide +kernel
theorem dX5_findFault_6 : decode cX5_findFault 6 = .ok (.istore_n 1, 1) := by decide +kernel
theorem dX5_findFault_7 : decode cX5_findFault 7 = .ok (.iload_n 1, 1) := by decide +kernel
theorem dX5_findFault_8 : decode cX5_findFault 8 = .ok (.aload_n 0, 1) := by decide +kernel
theorem dX5_findFault_9 : decode cX5_findFault 9 = .ok (.getfield 120, 3) := by decide +kernel
theorem dX5_findFault_12 : decode cX5_findFault 12 = .ok (.if_icmp .ge 94, 3) := by decide +kernel
theorem dX5_findFault_15 : decode cX5_findFault 15 = .ok (.iload_n 1, 1) := by decide +kernel
theorem dX5_findFault_16 : decode cX5_findFault 16 = .ok (.aload_n 0, 1) := by decide +kernel
theorem dX5_findFault_17 : decode cX5_findFault 17 = .ok (.getfield 25, 3) := by decide +kernel
theorem dX5_findFault_20 : decode cX5_findFault 20 = .ok (.iload_n 1, 1) := by decide +kernel
theorem dX5_findFault_21 : decode cX5_findFault 21 = .ok (.iaload, 1) := by decide +kernel
theorem dX5_findFault_22 : decode cX5_findFault 22 = .ok (.invokestatic 177, 3) := by decide +kernel
theorem dX5_findFault_25 : decode cX5_findFault 25 = .ok (.ifCond .ne 5, 3) := by decide +kernel
theorem dX5_findFault_28 : decode cX5_findFault 28 = .ok (.iload_n 1, 1) := by decide +kernel
theorem dX5_findFault_29 : decode cX5_findFault 29 = .ok (.ireturn, 1) := by decide +kernel
theorem dX5_findFault_30 : decode cX5_findFault 30 = .ok (.iload_n 1, 1) := by decide +kernel
theorem dX5_findFault_31 : decode cX5_findFault 31 = .ok (.iconst 5, 1) := by decide +kernel
theorem dX5_findFault_32 : decode cX5_findFault 32 = .ok (.irem, 1) := by decide +kernel
theorem dX5_findFault_33 : decode cX5_findFault 33 = .ok (.iconst 3, 1) := by decide +kernel
theorem dX5_findFault_34 : decode cX5_findFault 34 = .ok (.if_icmp .ne 66, 3) := by decide +kernel
theorem dX5_findFault_37 : decode cX5_findFault 37 = .ok (.aload_n 0, 1) := by decide +kernel
theorem dX5_findFault_38 : decode cX5_findFault 38 = .ok (.getfield 28, 3) := by decide +kernel
theorem dX5_findFault_41 : decode cX5_findFault 41 = .ok (.aload_n 0, 1) := by decide +kernel
theorem dX5_findFault_42 : decode cX5_findFault 42 = .ok (.getfield 106, 3) := by decide +kernel
theorem dX5_findFault_45 : decode cX5_findFault 45 = .ok (.bipush 10, 2) := by decide +kernel
theorem dX5_findFault_47 : decode cX5_findFault 47 = .ok (.aload_n 0, 1) := by decide +kernel
theorem dX5_findFault_48 : decode cX5_findFault 48 = .ok (.getfield 25, 3) := by decide +kernel
theorem dX5_findFault_51 : decode cX5_findFault 51 = .ok (.iload_n 1, 1) := by decide +kernel
theorem dX5_findFault_52 : decode cX5_findFault 52 = .ok (.iconst 2, 1) := by decide +kernel
theorem dX5_findFault_53 : decode cX5_findFault 53 = .ok (.isub, 1) := by decide +kernel
theorem dX5_findFault_54 : decode cX5_findFault 54 = .ok (.iaload, 1) := by decide +kernel
theorem dX5_findFault_55 : decode cX5_findFault 55 = .ok (.bipush 48, 2) := by decide +kernel
theorem dX5_findFault_57 : decode cX5_findFault 57 = .ok (.isub, 1) := by decide +kernel
theorem dX5_findFault_58 : decode cX5_findFault 58 = .ok (.imul, 1) := by decide +kernel
theorem dX5_findFault_59 : decode cX5_findFault 59 = .ok (.aload_n 0, 1) := by decide +kernel
theorem dX5_findFault_60 : decode cX5_findFault 60 = .ok (.getfield 25, 3) := by decide +kernel
theorem dX5_findFault_63 : decode cX5_findFault 63 = .ok (.iload_n 1, 1) := by decide +kernel
theorem dX5_findFault_64 : decode cX5_findFault 64 = .ok (.iaload, 1) := by decide +kernel
theorem dX5_findFault_65 : decode cX5_findFault 65 = .ok (.iadd, 1) := by decide +kernel
theorem dX5_findFault_66 : decode cX5_findFault 66 = .ok (.bipush 48, 2) := by decide +kernel
theorem dX5_findFault_68 : decode cX5_findFault 68 = .ok (.isub, 1) := by decide +kernel
theorem dX5_findFault_69 : decode cX5_findFault 69 = .ok (.aload_n 0, 1) := by decide +kernel
theorem dX5_findFault_70 : decode cX5_findFault 70 = .ok (.getfield 25, 3) := by decide +kernel
theorem dX5_findFault_73 : decode cX5_findFault 73 = .ok (.iload_n 1, 1) := by decide +kernel
theorem dX5_findFault_74 : decode cX5_findFault 74 = .ok (.iconst 3, 1) := by decide +kernel
theorem dX5_findFault_75 : decode cX5_findFault 75 = .ok (.isub, 1) := by decide +kernel
theorem dX5_findFault_76 : decode cX5_findFault 76 = .ok (.iaload, 1) := by decide +kernel
theorem dX5_findFault_77 : decode cX5_findFault 77 = .ok (.bipush 43, 2) := by decide +kernel
theorem dX5_findFault_79 : decode cX5_findFault 79 = .ok (.if_icmp .ne 8, 3) := by decide +kernel
theorem dX5_findFault_82 : decode cX5_findFault 82 = .ok (.bipush 100, 2) := by decide +kernel
theorem dX5_findFault_84 : decode cX5_findFault 84 = .ok (.goto 4, 3) := by decide +kernel
theorem dX5_findFault_87 : decode cX5_findFault 87 = .ok (.iconst 0, 1) := by decide +kernel
theorem dX5_findFault_88 : decode cX5_findFault 88 = .ok (.iadd, 1) := by decide +kernel
theorem dX5_findFault_89 : decode cX5_findFault 89 = .ok (.iastore, 1) := by decide +kernel
theorem dX5_findFault_90 : decode cX5_findFault 90 = .ok (.aload_n 0, 1) := by decide +kernel
theorem dX5_findFault_91 : decode cX5_findFault 91 = .ok (.dup, 1) := by decide +kernel
theorem dX5_findFault_92 : decode cX5_findFault 92 = .ok (.getfield 106, 3) := by decide +kernel
theorem dX5_findFault_95 : decode cX5_findFault 95 = .ok (.iconst 1, 1) := by decide +kernel
theorem dX5_findFault_96 : decode cX5_findFault 96 = .ok (.iadd, 1) := by decide +kernel
theorem dX5_findFault_97 : decode cX5_findFault 97 = .ok (.putfield 106, 3) := by decide +kernel
theorem dX5_findFault_100 : decode cX5_findFault 100 = .ok (.iinc 1 1, 3) := by decide +kernel
theorem dX5_findFault_103 : decode cX5_findFault 103 = .ok (.goto (-96), 3) := by decide +kernel
theorem dX5_findFault_106 : decode cX5_findFault 106 = .ok (.aload_n 0, 1) := by decide +kernel
theorem dX5_findFault_107 : decode cX5_findFault 107 = .ok (.getfield 120, 3) := by decide +kernel
theorem dX5_findFault_110 : decode cX5_findFault 110 = .ok (.iconst 5, 1) := by decide +kernel
theorem dX5_findFault_111 : decode cX5_findFault 111 = .ok (.irem, 1) := by decide +kernel
theorem dX5_findFault_112 : decode cX5_findFault 112 = .ok (.iconst 4, 1) := by decide +kernel
theorem dX5_findFault_113 : decode cX5_findFault 113 = .ok (.if_icmp .ne 8, 3) := by decide +kernel
theorem dX5_findFault_116 : decode cX5_findFault 116 = .ok (.bipush (-6), 2) := by decide +kernel
theorem dX5_findFault_118 : decode cX5_findFault 118 = .ok (.goto 7, 3) := by decide +kernel
theorem dX5_findFault_121 : decode cX5_findFault 121 = .ok (.aload_n 0, 1) := by decide +kernel
theorem dX5_findFault_122 : decode cX5_findFault 122 = .ok (.getfield 120, 3) := by decide +kernel
theorem dX5_findFault_125 : decode cX5_findFault 125 = .ok (.ireturn, 1) := by decide +kernel
set_option maxRecDepth 20000 in
theorem ggX5_fault_X5_findFault : GoodIn wsX5_fault wsX5_findFault := goodIn_r _ [5, 6, 7, 8, 9, 10, 11, 4, 12, 13, 14, 15, 16, 17, 18, 19, 20, 21, 22, 23, 24, 25, 26, 27, 28] (by decide +kernel) (by decide +kernel)
set_option maxRecDepth 20000 in
theorem gX5_fault_X5_findFault : GoodIn wsX5_fault (wsV RX5 109 RX5 yX5_findFault wsX5_findFault) := goodIn_app (goodIn_of _ (by decide +kernel)) ggX5_fault_X5_findFault
theorem dX5_fault_0 : decode cX5_fault 0 = .ok (.aload_n 0, 1) := by decide +kernel
theorem dX5_fault_1 : decode cX5_fault 1 = .ok (.invokevirtual 109, 3) := by decide +kernel
theorem dX5_fault_4 : decode cX5_fault 4 = .ok (.ireturn, 1) := by decide +kernel
set_option maxRecDepth 20000 in
theorem ggX5_undo_X5_moves : GoodIn wsX5_undo wsX5_moves := goodIn_r _ [7] (by decide +kernel) (by decide +kernel)
set_option maxRecDepth 20000 in
theorem gX5_undo_X5_moves : GoodIn wsX5_undo (va_wsS RX5 44 yX5_moves wsX5_moves) := goodIn_app (goodIn_of _ (by decide +kernel)) ggX5_undo_X5_moves
theorem dX5_undo_0 : decode cX5_undo 0 = .ok (.aload_n 0, 1) := by decide +kernel
theorem dX5_undo_1 : decode cX5_undo 1 = .ok (.getfield 40, 3) := by decide +kernel
theorem dX5_undo_4 : decode cX5_undo 4 = .ok (.ifCond .ne 6, 3) := by decide +kernel
theorem dX5_undo_7 : decode cX5_undo 7 = .ok (.bipush (-5), 2) := by decide +kernel
theorem dX5_undo_9 : decode cX5_undo 9 = .ok (.ireturn, 1) := by decide +kernel
theorem dX5_undo_10 : decode cX5_undo 10 = .ok (.aload_n 0, 1) := by decide +kernel
theorem dX5_undo_11 : decode cX5_undo 11 = .ok (.dup, 1) := by decide +kernel
theorem dX5_undo_12 : decode cX5_undo 12 = .ok (.getfield 40, 3) := by decide +kernel
theorem dX5_undo_15 : decode cX5_undo 15 = .ok (.iconst 1, 1) := by decide +kernel
theorem dX5_undo_16 : decode cX5_undo 16 = .ok (.isub, 1) := by decide +kernel
theorem dX5_undo_17 : decode cX5_undo 17 = .ok (.putfield 40, 3) := by decide +kernel
theorem dX5_undo_20 : decode cX5_undo 20 = .ok (.aload_n 0, 1) := by decide +kernel
theorem dX5_undo_21 : decode cX5_undo 21 = .ok (.getfield 16, 3) := by decide +kernel
theorem dX5_undo_24 : decode cX5_undo 24 = .ok (.aload_n 0, 1) := by decide +kernel
theorem dX5_undo_25 : decode cX5_undo 25 = .ok (.getfield 40, 3) := by decide +kernel
theorem dX5_undo_28 : decode cX5_undo 28 = .ok (.sipush 713, 3) := by decide +kernel
theorem dX5_undo_31 : decode cX5_undo 31 = .ok (.imul, 1) := by decide +kernel
theorem dX5_undo_32 : decode cX5_undo 32 = .ok (.aload_n 0, 1) := by decide +kernel
theorem dX5_undo_33 : decode cX5_undo 33 = .ok (.getfield 7, 3) := by decide +kernel
theorem dX5_undo_36 : decode cX5_undo 36 = .ok (.iconst 0, 1) := by decide +kernel
theorem dX5_undo_37 : decode cX5_undo 37 = .ok (.invokestatic 44, 3) := by decide +kernel
theorem dX5_undo_40 : decode cX5_undo 40 = .ok (.aload_n 0, 1) := by decide +kernel
theorem dX5_undo_41 : decode cX5_undo 41 = .ok (.getfield 40, 3) := by decide +kernel
theorem dX5_undo_44 : decode cX5_undo 44 = .ok (.ireturn, 1) := by decide +kernel
set_option maxRecDepth 20000 in
theorem ggX5_save_X5_within : GoodIn wsX5_save wsX5_within := goodIn_r _ [7] (by decide +kernel) (by decide +kernel)
set_option maxRecDepth 20000 in
theorem gX5_save_X5_within : GoodIn wsX5_save (va_wsS RX5 48 yX5_within wsX5_within) := goodIn_app (goodIn_of _ (by decide +kernel)) ggX5_save_X5_within
set_option maxRecDepth 20000 in
theorem ggX5_save_X5_moves : GoodIn wsX5_save wsX5_moves := goodIn_r _ [10] (by decide +kernel) (by decide +kernel)
set_option maxRecDepth 20000 in
theorem gX5_save_X5_moves : GoodIn wsX5_save (va_wsS RX5 44 yX5_moves wsX5_moves) := goodIn_app (goodIn_of _ (by decide +kernel)) ggX5_save_X5_moves
theorem dX5_save_0 : decode cX5_save 0 = .ok (.iload_n 1, 1) := by decide +kernel
theorem dX5_save_1 : decode cX5_save 1 = .ok (.iconst 0, 1) := by decide +kernel
theorem dX5_save_2 : decode cX5_save 2 = .ok (.iconst 1, 1) := by decide +kernel
theorem dX5_save_3 : decode cX5_save 3 = .ok (.invokestatic 48, 3) := by decide +kernel
theorem dX5_save_6 : decode cX5_save 6 = .ok (.ifCond .ne 6, 3) := by decide +kernel
theorem dX5_save_9 : decode cX5_save 9 = .ok (.bipush (-2), 2) := by decide +kernel
theorem dX5_save_11 : decode cX5_save 11 = .ok (.ireturn, 1) := by decide +kernel
theorem dX5_save_12 : decode cX5_save 12 = .ok (.aload_n 0, 1) := by decide +kernel
theorem dX5_save_13 : decode cX5_save 13 = .ok (.getfield 7, 3) := by decide +kernel
theorem dX5_save_16 : decode cX5_save 16 = .ok (.iconst 0, 1) := by decide +kernel
theorem dX5_save_17 : decode cX5_save 17 = .ok (.aload_n 0, 1) := by decide +kernel
theorem dX5_save_18 : decode cX5_save 18 = .ok (.getfield 19, 3) := by decide +kernel
theorem dX5_save_21 : decode cX5_save 21 = .ok (.sipush 713, 3) := by decide +kernel
theorem dX5_save_24 : decode cX5_save 24 = .ok (.iload_n 1, 1) := by decide +kernel
theorem dX5_save_25 : decode cX5_save 25 = .ok (.imul, 1) := by decide +kernel
theorem dX5_save_26 : decode cX5_save 26 = .ok (.invokestatic 44, 3) := by decide +kernel
theorem dX5_save_29 : decode cX5_save 29 = .ok (.aload_n 0, 1) := by decide +kernel
theorem dX5_save_30 : decode cX5_save 30 = .ok (.getfield 22, 3) := by decide +kernel
theorem dX5_save_33 : decode cX5_save 33 = .ok (.iload_n 1, 1) := by decide +kernel
theorem dX5_save_34 : decode cX5_save 34 = .ok (.iconst 1, 1) := by decide +kernel
theorem dX5_save_35 : decode cX5_save 35 = .ok (.iastore, 1) := by decide +kernel
theorem dX5_save_36 : decode cX5_save 36 = .ok (.aload_n 0, 1) := by decide +kernel
theorem dX5_save_37 : decode cX5_save 37 = .ok (.getfield 7, 3) := by decide +kernel
theorem dX5_save_40 : decode cX5_save 40 = .ok (.iconst 0, 1) := by decide +kernel
theorem dX5_save_41 : decode cX5_save 41 = .ok (.iaload, 1) := by decide +kernel
theorem dX5_save_42 : decode cX5_save 42 = .ok (.ireturn, 1) := by decide +kernel
set_option maxRecDepth 20000 in
theorem ggX5_restore_X5_within : GoodIn wsX5_restore wsX5_within := goodIn_r _ [7] (by decide +kernel) (by decide +kernel)
set_option maxRecDepth 20000 in
theorem gX5_restore_X5_within : GoodIn wsX5_restore (va_wsS RX5 48 yX5_within wsX5_within) := goodIn_app (goodIn_of _ (by decide +kernel)) ggX5_restore_X5_within
set_option maxRecDepth 20000 in
theorem ggX5_restore_X5_record : GoodIn wsX5_restore wsX5_record := goodIn_r _ [11, 12, 13, 3, 14, 15, 6, 16, 17, 18, 19, 20, 21, 22, 23, 24, 25, 26, 27, 28, 29] (by decide +kernel) (by decide +kernel)
set_option maxRecDepth 20000 in
theorem gX5_restore_X5_record : GoodIn wsX5_restore (wsV RX5 117 RX5 yX5_record wsX5_record) := goodIn_app (goodIn_of _ (by decide +kernel)) ggX5_restore_X5_record
set_option maxRecDepth 20000 in
theorem ggX5_restore_X5_moves : GoodIn wsX5_restore wsX5_moves := goodIn_r _ [16] (by decide +kernel) (by decide +kernel)
set_option maxRecDepth 20000 in
theorem gX5_restore_X5_moves : GoodIn wsX5_restore (va_wsS RX5 44 yX5_moves wsX5_moves) := goodIn_app (goodIn_of _ (by decide +kernel)) ggX5_restore_X5_moves
theorem dX5_restore_0 : decode cX5_restore 0 = .ok (.iload_n 1, 1) := by decide +kernel
theorem dX5_restore_1 : decode cX5_restore 1 = .ok (.iconst 0, 1) := by decide +kernel
theorem dX5_restore_2 : decode cX5_restore 2 = .ok (.iconst 1, 1) := by decide +kernel
theorem dX5_restore_3 : decode cX5_restore 3 = .ok (.invokestatic 48, 3) := by decide +kernel
theorem dX5_restore_6 : decode cX5_restore 6 = .ok (.ifCond .ne 6, 3) := by decide +kernel
theorem dX5_restore_9 : decode cX5_restore 9 = .ok (.bipush (-2), 2) := by decide +kernel
theorem dX5_restore_11 : decode cX5_restore 11 = .ok (.ireturn, 1) := by decide +kernel
theorem dX5_restore_12 : decode cX5_restore 12 = .ok (.aload_n 0, 1) := by decide +kernel
theorem dX5_restore_13 : decode cX5_restore 13 = .ok (.getfield 22, 3) := by decide +kernel
theorem dX5_restore_16 : decode cX5_restore 16 = .ok (.iload_n 1, 1) := by decide +kernel
theorem dX5_restore_17 : decode cX5_restore 17 = .ok (.iaload, 1) := by decide +kernel
theorem dX5_restore_18 : decode cX5_restore 18 = .ok (.ifCond .ne 6, 3) := by decide +kernel
theorem dX5_restore_21 : decode cX5_restore 21 = .ok (.bipush (-5), 2) := by decide +kernel
theorem dX5_restore_23 : decode cX5_restore 23 = .ok (.ireturn, 1) := by decide +kernel
theorem dX5_restore_24 : decode cX5_restore 24 = .ok (.aload_n 0, 1) := by decide +kernel
theorem dX5_restore_25 : decode cX5_restore 25 = .ok (.invokevirtual 117, 3) := by decide +kernel
theorem dX5_restore_28 : decode cX5_restore 28 = .ok (.aload_n 0, 1) := by decide +kernel
theorem dX5_restore_29 : decode cX5_restore 29 = .ok (.getfield 19, 3) := by decide +kernel
theorem dX5_restore_32 : decode cX5_restore 32 = .ok (.sipush 713, 3) := by decide +kernel
theorem dX5_restore_35 : decode cX5_restore 35 = .ok (.iload_n 1, 1) := by decide +kernel
theorem dX5_restore_36 : decode cX5_restore 36 = .ok (.imul, 1) := by decide +kernel
theorem dX5_restore_37 : decode cX5_restore 37 = .ok (.aload_n 0, 1) := by decide +kernel
theorem dX5_restore_38 : decode cX5_restore 38 = .ok (.getfield 7, 3) := by decide +kernel
theorem dX5_restore_41 : decode cX5_restore 41 = .ok (.iconst 0, 1) := by decide +kernel
theorem dX5_restore_42 : decode cX5_restore 42 = .ok (.invokestatic 44, 3) := by decide +kernel
theorem dX5_restore_45 : decode cX5_restore 45 = .ok (.aload_n 0, 1) := by decide +kernel
theorem dX5_restore_46 : decode cX5_restore 46 = .ok (.getfield 7, 3) := by decide +kernel
theorem dX5_restore_49 : decode cX5_restore 49 = .ok (.iconst 0, 1) := by decide +kernel
theorem dX5_restore_50 : decode cX5_restore 50 = .ok (.iaload, 1) := by decide +kernel
theorem dX5_restore_51 : decode cX5_restore 51 = .ok (.ireturn, 1) := by decide +kernel
theorem dJ6_bitCount_0f7a4_0 : decode cJ6_bitCount_0f7a4 0 = .ok (.iload_n 0, 1) := by decide +kernel
theorem dJ6_bitCount_0f7a4_1 : decode cJ6_bitCount_0f7a4 1 = .ok (.iload_n 0, 1) := by decide +kernel
theorem dJ6_bitCount_0f7a4_2 : decode cJ6_bitCount_0f7a4 2 = .ok (.iconst 1, 1) := by decide +kernel
theorem dJ6_bitCount_0f7a4_3 : decode cJ6_bitCount_0f7a4 3 = .ok (.iushr, 1) := by decide +kernel
theorem dJ6_bitCount_0f7a4_4 : decode cJ6_bitCount_0f7a4 4 = .ok (.ldc_w 265, 3) := by decide +kernel
theorem dJ6_bitCount_0f7a4_7 : decode cJ6_bitCount_0f7a4 7 = .ok (.iand, 1) := by decide +kernel
theorem dJ6_bitCount_0f7a4_8 : decode cJ6_bitCount_0f7a4 8 = .ok (.isub, 1) := by decide +kernel
theorem dJ6_bitCount_0f7a4_9 : decode cJ6_bitCount_0f7a4 9 = .ok (.istore_n 0, 1) := by decide +kernel
theorem dJ6_bitCount_0f7a4_10 : decode cJ6_bitCount_0f7a4 10 = .ok (.iload_n 0, 1) := by decide +kernel
theorem dJ6_bitCount_0f7a4_11 : decode cJ6_bitCount_0f7a4 11 = .ok (.ldc_w 266, 3) := by decide +kernel
theorem dJ6_bitCount_0f7a4_14 : decode cJ6_bitCount_0f7a4 14 = .ok (.iand, 1) := by decide +kernel
theorem dJ6_bitCount_0f7a4_15 : decode cJ6_bitCount_0f7a4 15 = .ok (.iload_n 0, 1) := by decide +kernel
theorem dJ6_bitCount_0f7a4_16 : decode cJ6_bitCount_0f7a4 16 = .ok (.iconst 2, 1) := by decide +kernel
theorem dJ6_bitCount_0f7a4_17 : decode cJ6_bitCount_0f7a4 17 = .ok (.iushr, 1) := by decide +kernel
theorem dJ6_bitCount_0f7a4_18 : decode cJ6_bitCount_0f7a4 18 = .ok (.ldc_w 266, 3) := by decide +kernel
theorem dJ6_bitCount_0f7a4_21 : decode cJ6_bitCount_0f7a4 21 = .ok (.iand, 1) := by decide +kernel
theorem dJ6_bitCount_0f7a4_22 : decode cJ6_bitCount_0f7a4 22 = .ok (.iadd, 1) := by decide +kernel
theorem dJ6_bitCount_0f7a4_23 : decode cJ6_bitCount_0f7a4 23 = .ok (.istore_n 0, 1) := by decide +kernel
theorem dJ6_bitCount_0f7a4_24 : decode cJ6_bitCount_0f7a4 24 = .ok (.iload_n 0, 1) := by decide +kernel
theorem dJ6_bitCount_0f7a4_25 : decode cJ6_bitCount_0f7a4 25 = .ok (.iload_n 0, 1) := by decide +kernel
theorem dJ6_bitCount_0f7a4_26 : decode cJ6_bitCount_0f7a4 26 = .ok (.iconst 4, 1) := by decide +kernel
theorem dJ6_bitCount_0f7a4_27 : decode cJ6_bitCount_0f7a4 27 = .ok (.iushr, 1) := by decide +kernel
theorem dJ6_bitCount_0f7a4_28 : decode cJ6_bitCount_0f7a4 28 = .ok (.iadd, 1) := by decide +kernel
theorem dJ6_bitCount_0f7a4_29 : decode cJ6_bitCount_0f7a4 29 = .ok (.ldc_w 267, 3) := by decide +kernel
theorem dJ6_bitCount_0f7a4_32 : decode cJ6_bitCount_0f7a4 32 = .ok (.iand, 1) := by decide +kernel
theorem dJ6_bitCount_0f7a4_33 : decode cJ6_bitCount_0f7a4 33 = .ok (.istore_n 0, 1) := by decide +kernel
theorem dJ6_bitCount_0f7a4_34 : decode cJ6_bitCount_0f7a4 34 = .ok (.iload_n 0, 1) := by decide +kernel
theorem dJ6_bitCount_0f7a4_35 : decode cJ6_bitCount_0f7a4 35 = .ok (.iload_n 0, 1) := by decide +kernel
theorem dJ6_bitCount_0f7a4_36 : decode cJ6_bitCount_0f7a4 36 = .ok (.bipush 8, 2) := by decide +kernel
theorem dJ6_bitCount_0f7a4_38 : decode cJ6_bitCount_0f7a4 38 = .ok (.iushr, 1) := by decide +kernel
theorem dJ6_bitCount_0f7a4_39 : decode cJ6_bitCount_0f7a4 39 = .ok (.iadd, 1) := by decide +kernel
theorem dJ6_bitCount_0f7a4_40 : decode cJ6_bitCount_0f7a4 40 = .ok (.istore_n 0, 1) := by decide +kernel
theorem dJ6_bitCount_0f7a4_41 : decode cJ6_bitCount_0f7a4 41 = .ok (.iload_n 0, 1) := by decide +kernel
theorem dJ6_bitCount_0f7a4_42 : decode cJ6_bitCount_0f7a4 42 = .ok (.iload_n 0, 1) := by decide +kernel
theorem dJ6_bitCount_0f7a4_43 : decode cJ6_bitCount_0f7a4 43 = .ok (.bipush 16, 2) := by decide +kernel
theorem dJ6_bitCount_0f7a4_45 : decode cJ6_bitCount_0f7a4 45 = .ok (.iushr, 1) := by decide +kernel
theorem dJ6_bitCount_0f7a4_46 : decode cJ6_bitCount_0f7a4 46 = .ok (.iadd, 1) := by decide +kernel
theorem dJ6_bitCount_0f7a4_47 : decode cJ6_bitCount_0f7a4 47 = .ok (.istore_n 0, 1) := by decide +kernel
theorem dJ6_bitCount_0f7a4_48 : decode cJ6_bitCount_0f7a4 48 = .ok (.iload_n 0, 1) := by decide +kernel
theorem dJ6_bitCount_0f7a4_49 : decode cJ6_bitCount_0f7a4 49 = .ok (.bipush 63, 2) := by decide +kernel
theorem dJ6_bitCount_0f7a4_51 : decode cJ6_bitCount_0f7a4 51 = .ok (.iand, 1) := by decide +kernel
theorem dJ6_bitCount_0f7a4_52 : decode cJ6_bitCount_0f7a4 52 = .ok (.ireturn, 1) := by decide +kernel
theorem dJ9_min_7cf53_0 : decode cJ9_min_7cf53 0 = .ok (.iload_n 0, 1) := by decide +kernel
theorem dJ9_min_7cf53_1 : decode cJ9_min_7cf53 1 = .ok (.iload_n 1, 1) := by decide +kernel
theorem dJ9_min_7cf53_2 : decode cJ9_min_7cf53 2 = .ok (.if_icmp .gt 7, 3) := by decide +kernel
theorem dJ9_min_7cf53_5 : decode cJ9_min_7cf53 5 = .ok (.iload_n 0, 1) := by decide +kernel
theorem dJ9_min_7cf53_6 : decode cJ9_min_7cf53 6 = .ok (.goto 4, 3) := by decide +kernel
theorem dJ9_min_7cf53_9 : decode cJ9_min_7cf53 9 = .ok (.iload_n 1, 1) := by decide +kernel
theorem dJ9_min_7cf53_10 : decode cJ9_min_7cf53 10 = .ok (.ireturn, 1) := by decide +kernel
set_option maxRecDepth 20000 in
theorem ggL_law_X4_init : GoodIn wsL_law wsX4_init := goodIn_r _ [9, 10, 11, 12, 13, 14, 15, 16, 17, 18, 19, 20, 21, 22, 23, 24, 25, 26, 27, 28, 29, 30, 31, 32, 33, 34, 35, 36, 37, 38, 39, 40, 41, 42, 43, 44, 45, 46, 47, 48, 49, 50, 51, 52, 53, 54, 55, 56, 57, 58, 59, 648, 649, 650, 651, 652, 653, 654, 655, 629, 630, 631, 632, 633, 634, 656, 657, 658, 659, 660, 661, 662] (by decide +kernel) (by decide +kernel)
set_option maxRecDepth 20000 in
theorem gL_law_X4_init : GoodIn wsL_law (wsX4_init) := ggL_law_X4_init
set_option maxRecDepth 20000 in
theorem ggL_law_X5_init : GoodIn wsL_law wsX5_init := goodIn_r _ [62, 63, 11, 12, 36, 64, 65, 66, 67, 68, 69, 70, 71, 72, 73, 635, 636, 637, 638, 639, 640, 641, 642, 643, 644, 645, 646, 647] (by decide +kernel) (by decide +kernel)
set_option maxRecDepth 20000 in
theorem gL_law_X5_init : GoodIn wsL_law (wsX5_init) := ggL_law_X5_init
set_option maxRecDepth 20000 in
theorem ggL_law_X4_issue : GoodIn wsL_law wsX4_issue := goodIn_r _ [77, 27, 16, 20, 78, 79, 80, 26, 81, 82, 59, 83, 84, 85, 86, 87, 88, 89, 90, 91, 92, 93, 94, 95, 96, 97, 98, 99, 100, 19, 101, 53, 102, 103, 104, 105, 106, 15, 107, 37, 108, 109, 110, 111, 38, 112, 40, 41, 42, 43, 113, 114, 115, 116, 31, 117, 47, 118, 119, 120, 121, 122, 123, 124, 125, 126, 127, 128, 129, 130, 131, 132, 133, 134, 135, 136, 137, 138, 139, 140, 141, 142, 143, 144, 145, 146, 147, 148, 149, 150, 151, 152, 153, 154, 155, 156, 157, 158, 159, 160, 161, 162, 163, 164, 165, 166, 167, 629, 630, 631, 632, 633, 634, 648, 649, 650, 651, 652, 653, 654, 655, 659, 660, 656, 657, 658, 661, 662] (by decide +kernel) (by decide +kernel)
set_option maxRecDepth 20000 in
theorem gL_law_X4_issue : GoodIn wsL_law (wsV RL 13 RX4 yX4_issue wsX4_issue) := goodIn_app (goodIn_of _ (by decide +kernel)) ggL_law_X4_issue
set_option maxRecDepth 20000 in
theorem ggL_law_X5_issue : GoodIn wsL_law wsX5_issue := goodIn_r _ [171, 64, 172, 70, 173, 174, 175, 176, 5, 177, 69, 178, 179, 180, 181, 182, 183, 184, 185, 186, 187, 188, 189, 190, 191, 192, 66, 193, 194, 195, 196, 197, 198, 199, 200, 201, 202, 203, 204, 205, 206, 207, 208, 209, 210, 211, 212, 213, 214, 215, 216, 217, 218, 219, 220, 221, 222, 223, 224, 225, 226, 227, 228, 229, 230, 231, 232, 233, 234, 235, 635, 636, 637, 638, 639, 640, 641, 642, 643, 644, 645, 646, 647] (by decide +kernel) (by decide +kernel)
set_option maxRecDepth 20000 in
theorem gL_law_X5_issue : GoodIn wsL_law (wsV RL 17 RX5 yX5_issue wsX5_issue) := goodIn_app (goodIn_of _ (by decide +kernel)) ggL_law_X5_issue
set_option maxRecDepth 20000 in
theorem ggL_law_X4_own : GoodIn wsL_law wsX4_own := goodIn_r _ [239, 16, 20, 98, 99, 100, 19, 101, 53, 102, 103, 104, 105, 106, 15, 107, 37, 108, 109, 110, 111, 38, 112, 40, 41, 42, 43, 113, 114, 115, 116, 31, 117, 47, 118, 119, 240, 241, 242, 243, 629, 630, 631, 632, 633, 634, 648, 649, 650, 651, 652, 653, 654, 655, 656, 657, 658, 661, 662] (by decide +kernel) (by decide +kernel)
set_option maxRecDepth 20000 in
theorem gL_law_X4_own : GoodIn wsL_law (wsV RL 18 RX4 yX4_own wsX4_own) := goodIn_app (goodIn_of _ (by decide +kernel)) ggL_law_X4_own
set_option maxRecDepth 20000 in
theorem ggL_law_X5_own : GoodIn wsL_law wsX5_own := goodIn_r _ [247, 64, 188, 189, 190, 5, 191, 192, 66, 193, 194, 195, 208, 209, 210, 211, 228, 229, 230, 231, 635, 636, 637, 638, 639, 640, 641, 642, 643, 644, 645, 646, 647] (by decide +kernel) (by decide +kernel)
set_option maxRecDepth 20000 in
theorem gL_law_X5_own : GoodIn wsL_law (wsV RL 21 RX5 yX5_own wsX5_own) := goodIn_app (goodIn_of _ (by decide +kernel)) ggL_law_X5_own
set_option maxRecDepth 20000 in
theorem ggL_law_X4_done : GoodIn wsL_law wsX4_done := goodIn_r _ [251, 16, 20, 252, 253, 254, 15, 255, 113, 256, 257, 258, 259, 112, 260, 261, 262, 263, 42, 98, 99, 100, 19, 101, 53, 102, 103, 104, 105, 106, 107, 37, 108, 109, 110, 111, 38, 40, 41, 43, 114, 115, 116, 31, 117, 47, 118, 119, 264, 127, 128, 129, 130, 131, 132, 133, 134, 135, 136, 137, 138, 139, 140, 141, 142, 143, 144, 145, 146, 147, 148, 149, 150, 151, 152, 153, 154, 155, 156, 157, 158, 159, 160, 161, 162, 163, 265, 266, 267, 268, 269, 270, 271, 272, 273, 274, 275, 276, 629, 630, 631, 632, 633, 634, 648, 649, 650, 651, 652, 653, 654, 655, 661, 662, 656, 657, 658] (by decide +kernel) (by decide +kernel)
set_option maxRecDepth 20000 in
theorem gL_law_X4_done : GoodIn wsL_law (wsV RL 22 RX4 yX4_done wsX4_done) := goodIn_app (goodIn_of _ (by decide +kernel)) ggL_law_X4_done
set_option maxRecDepth 20000 in
theorem ggL_law_X5_done : GoodIn wsL_law wsX5_done := goodIn_r _ [280, 281, 282, 283, 5, 284, 64, 181, 182, 183, 285, 286, 287, 288, 289, 290, 291, 292, 208, 209, 210, 211, 188, 189, 190, 191, 192, 66, 193, 194, 195, 196, 197, 198, 199, 200, 201, 202, 203, 204, 205, 206, 207, 212, 213, 214, 215, 216, 217, 218, 219, 220, 221, 222, 223, 224, 225, 226, 227, 228, 229, 230, 231, 232, 233, 234, 235, 635, 636, 637, 638, 639, 640, 641, 642, 643, 644, 645, 646, 647] (by decide +kernel) (by decide +kernel)
set_option maxRecDepth 20000 in
theorem gL_law_X5_done : GoodIn wsL_law (wsV RL 26 RX5 yX5_done wsX5_done) := goodIn_app (goodIn_of _ (by decide +kernel)) ggL_law_X5_done
set_option maxRecDepth 20000 in
theorem ggL_law_X4_doAll : GoodIn wsL_law wsX4_doAll := goodIn_r _ [296, 16, 20, 252, 253, 254, 15, 255, 113, 98, 99, 100, 19, 101, 53, 102, 103, 104, 105, 106, 107, 37, 108, 109, 110, 111, 38, 112, 40, 41, 42, 43, 114, 115, 116, 31, 117, 47, 118, 119, 297, 298, 299, 300, 126, 127, 128, 129, 130, 131, 132, 133, 134, 135, 136, 137, 138, 139, 140, 141, 142, 143, 144, 145, 146, 147, 148, 149, 150, 151, 152, 153, 154, 155, 156, 157, 158, 159, 160, 161, 162, 163, 301, 302, 303, 304, 305, 306, 307, 629, 630, 631, 632, 633, 634, 648, 649, 650, 651, 652, 653, 654, 655, 656, 657, 658, 661, 662] (by decide +kernel) (by decide +kernel)
set_option maxRecDepth 20000 in
theorem gL_law_X4_doAll : GoodIn wsL_law (wsV RL 27 RX4 yX4_doAll wsX4_doAll) := goodIn_app (goodIn_of _ (by decide +kernel)) ggL_law_X4_doAll
set_option maxRecDepth 20000 in
theorem ggL_law_X5_doAll : GoodIn wsL_law wsX5_doAll := goodIn_r _ [311, 281, 282, 283, 5, 284, 64, 181, 182, 183, 188, 189, 190, 191, 192, 66, 193, 194, 195, 208, 209, 210, 211, 312, 313, 314, 315, 196, 197, 198, 199, 200, 201, 202, 203, 204, 205, 206, 207, 212, 213, 214, 215, 216, 217, 218, 219, 220, 221, 222, 223, 224, 225, 226, 227, 228, 229, 230, 231, 232, 233, 234, 235, 316, 317, 318, 635, 636, 637, 638, 639, 640, 641, 642, 643, 644, 645, 646, 647] (by decide +kernel) (by decide +kernel)
set_option maxRecDepth 20000 in
theorem gL_law_X5_doAll : GoodIn wsL_law (wsV RL 31 RX5 yX5_doAll wsX5_doAll) := goodIn_app (goodIn_of _ (by decide +kernel)) ggL_law_X5_doAll
set_option maxRecDepth 20000 in
theorem ggL_law_X4_lose : GoodIn wsL_law wsX4_lose := goodIn_r _ [322, 16, 20, 252, 253, 254, 15, 255, 113, 256, 257, 258, 259, 112, 260, 261, 262, 263, 42, 98, 99, 100, 19, 101, 53, 102, 103, 104, 105, 106, 107, 37, 108, 109, 110, 111, 38, 40, 41, 43, 114, 115, 116, 31, 117, 47, 118, 119, 301, 302, 303, 304, 305, 306, 307, 629, 630, 631, 632, 633, 634, 648, 649, 650, 651, 652, 653, 654, 655, 656, 657, 658, 661, 662] (by decide +kernel) (by decide +kernel)
set_option maxRecDepth 20000 in
theorem gL_law_X4_lose : GoodIn wsL_law (wsV RL 32 RX4 yX4_lose wsX4_lose) := goodIn_app (goodIn_of _ (by decide +kernel)) ggL_law_X4_lose
set_option maxRecDepth 20000 in
theorem ggL_law_X5_lose : GoodIn wsL_law wsX5_lose := goodIn_r _ [326, 281, 282, 283, 5, 284, 64, 181, 182, 183, 285, 286, 287, 288, 289, 290, 291, 292, 208, 209, 210, 211, 188, 189, 190, 191, 192, 66, 193, 194, 195, 228, 229, 230, 231, 316, 317, 318, 635, 636, 637, 638, 639, 640, 641, 642, 643, 644, 645, 646, 647] (by decide +kernel) (by decide +kernel)
set_option maxRecDepth 20000 in
theorem gL_law_X5_lose : GoodIn wsL_law (wsV RL 36 RX5 yX5_lose wsX5_lose) := goodIn_app (goodIn_of _ (by decide +kernel)) ggL_law_X5_lose
set_option maxRecDepth 20000 in
theorem ggL_law_X4_again : GoodIn wsL_law wsX4_again := goodIn_r _ [330, 16, 20, 252, 253, 254, 15, 255, 113, 256, 257, 258, 259, 112, 260, 261, 262, 263, 42, 98, 99, 100, 19, 101, 53, 102, 103, 104, 105, 106, 107, 37, 108, 109, 110, 111, 38, 40, 41, 43, 114, 115, 116, 31, 117, 47, 118, 119, 301, 302, 303, 304, 305, 306, 307, 629, 630, 631, 632, 633, 634, 648, 649, 650, 651, 652, 653, 654, 655, 656, 657, 658, 661, 662] (by decide +kernel) (by decide +kernel)
set_option maxRecDepth 20000 in
theorem gL_law_X4_again : GoodIn wsL_law (wsV RL 37 RX4 yX4_again wsX4_again) := goodIn_app (goodIn_of _ (by decide +kernel)) ggL_law_X4_again
set_option maxRecDepth 20000 in
theorem ggL_law_X5_again : GoodIn wsL_law wsX5_again := goodIn_r _ [334, 281, 282, 283, 5, 284, 64, 181, 182, 183, 285, 286, 287, 288, 289, 290, 291, 292, 208, 209, 210, 211, 188, 189, 190, 191, 192, 66, 193, 194, 195, 228, 229, 230, 231, 316, 317, 318, 635, 636, 637, 638, 639, 640, 641, 642, 643, 644, 645, 646, 647] (by decide +kernel) (by decide +kernel)
set_option maxRecDepth 20000 in
theorem gL_law_X5_again : GoodIn wsL_law (wsV RL 40 RX5 yX5_again wsX5_again) := goodIn_app (goodIn_of _ (by decide +kernel)) ggL_law_X5_again
set_option maxRecDepth 20000 in
theorem ggL_law_X4_hand : GoodIn wsL_law wsX4_hand := goodIn_r _ [338, 16, 20, 252, 253, 254, 15, 255, 113, 256, 257, 258, 259, 112, 339, 340, 2, 341, 342, 343, 344, 31, 345, 118, 47, 142, 143, 144, 145, 146, 147, 148, 98, 99, 100, 19, 101, 53, 102, 103, 104, 105, 106, 107, 37, 108, 109, 110, 111, 38, 40, 41, 42, 43, 114, 115, 116, 117, 119, 346, 161, 162, 163, 347, 348, 349, 350, 351, 156, 157, 158, 159, 629, 630, 631, 632, 633, 634, 648, 649, 650, 651, 652, 653, 654, 655, 661, 662, 656, 657, 658] (by decide +kernel) (by decide +kernel)
set_option maxRecDepth 20000 in
theorem gL_law_X4_hand : GoodIn wsL_law (wsV RL 41 RX4 yX4_hand wsX4_hand) := goodIn_app (goodIn_of _ (by decide +kernel)) ggL_law_X4_hand
set_option maxRecDepth 20000 in
theorem ggL_law_X5_hand : GoodIn wsL_law wsX5_hand := goodIn_r _ [355, 281, 282, 283, 5, 284, 64, 181, 182, 183, 285, 286, 287, 288, 356, 357, 358, 359, 360, 361, 362, 208, 209, 210, 211, 212, 213, 214, 215, 216, 217, 218, 219, 188, 189, 190, 191, 192, 66, 193, 194, 195, 232, 233, 234, 235, 228, 229, 230, 231, 224, 225, 226, 227, 635, 636, 637, 638, 639, 640, 641, 642, 643, 644, 645, 646, 647] (by decide +kernel) (by decide +kernel)
set_option maxRecDepth 20000 in
theorem gL_law_X5_hand : GoodIn wsL_law (wsV RL 45 RX5 yX5_hand wsX5_hand) := goodIn_app (goodIn_of _ (by decide +kernel)) ggL_law_X5_hand
set_option maxRecDepth 20000 in
theorem ggL_law_X4_parcel : GoodIn wsL_law wsX4_parcel := goodIn_r _ [366, 16, 256, 257, 258, 15, 259, 112, 367, 131, 132, 133, 37, 368, 369, 370, 371, 113, 629, 630, 631, 632, 633, 634, 648, 649, 650, 651, 652, 653, 654, 655] (by decide +kernel) (by decide +kernel)
set_option maxRecDepth 20000 in
theorem gL_law_X4_parcel : GoodIn wsL_law (wsV RL 46 RX4 yX4_parcel wsX4_parcel) := goodIn_app (goodIn_of _ (by decide +kernel)) ggL_law_X4_parcel
set_option maxRecDepth 20000 in
theorem ggL_law_X5_parcel : GoodIn wsL_law wsX5_parcel := goodIn_r _ [375, 64, 285, 286, 287, 5, 288, 181, 182, 183, 376, 377, 378, 379, 208, 209, 210, 211, 200, 201, 202, 203, 635, 636, 637, 638, 639, 640, 641, 642, 643, 644, 645, 646, 647] (by decide +kernel) (by decide +kernel)
set_option maxRecDepth 20000 in
theorem gL_law_X5_parcel : GoodIn wsL_law (wsV RL 49 RX5 yX5_parcel wsX5_parcel) := goodIn_app (goodIn_of _ (by decide +kernel)) ggL_law_X5_parcel
set_option maxRecDepth 20000 in
theorem ggL_law_X4_text : GoodIn wsL_law wsX4_text := goodIn_r _ [383, 16, 339, 340, 2, 341, 384, 385, 386, 31, 387, 47, 138, 139, 140, 141, 142, 143, 144, 145, 146, 147, 148, 118, 149, 150, 151, 152, 153, 154, 155, 388, 389, 390, 629, 630, 631, 632, 633, 634, 648, 649, 650, 651, 652, 653, 654, 655, 661, 662] (by decide +kernel) (by decide +kernel)
