theorem dX4_init_98 : decode cX4_init 98 = .ok (.if_icmp .ge 22, 3) := by decide +kernel
theorem dX4_init_101 : decode cX4_init 101 = .ok (.aload_n 0, 1) := by decide +kernel
theorem dX4_init_102 : decode cX4_init 102 = .ok (.getfield 40, 3) := by decide +kernel
theorem dX4_init_105 : decode cX4_init 105 = .ok (.iload_n 1, 1) := by decide +kernel
theorem dX4_init_106 : decode cX4_init 106 = .ok (.new 38, 3) := by decide +kernel
theorem dX4_init_109 : decode cX4_init 109 = .ok (.dup, 1) := by decide +kernel
theorem dX4_init_110 : decode cX4_init 110 = .ok (.invokespecial 44, 3) := by decide +kernel
theorem dX4_init_113 : decode cX4_init 113 = .ok (.aastore, 1) := by decide +kernel
theorem dX4_init_114 : decode cX4_init 114 = .ok (.iinc 1 1, 3) := by decide +kernel
theorem dX4_init_117 : decode cX4_init 117 = .ok (.goto (-25), 3) := by decide +kernel
theorem dX4_init_120 : decode cX4_init 120 = .ok (.return_, 1) := by decide +kernel
set_option maxRecDepth 20000 in
theorem ggX4_issue_X2_firstFault : GoodIn wsX4_issue wsX2_firstFault := goodIn_r _ [8, 9, 10, 11, 12, 7, 13, 121, 122] (by decide +kernel) (by decide +kernel)
set_option maxRecDepth 20000 in
theorem gX4_issue_X2_firstFault : GoodIn wsX4_issue (wsV RX4 45 RX2 yX2_firstFault wsX2_firstFault) := goodIn_app (goodIn_of _ (by decide +kernel)) ggX4_issue_X2_firstFault
set_option maxRecDepth 20000 in
theorem ggX4_issue_X2_hasNumberTwice : GoodIn wsX4_issue wsX2_hasNumberTwice := goodIn_r _ [17, 18, 19, 20, 7, 21, 9, 22, 23, 24, 25, 10, 121, 122] (by decide +kernel) (by decide +kernel)
set_option maxRecDepth 20000 in
theorem gX4_issue_X2_hasNumberTwice : GoodIn wsX4_issue (wsV RX4 49 RX2 yX2_hasNumberTwice wsX2_hasNumberTwice) := goodIn_app (goodIn_of _ (by decide +kernel)) ggX4_issue_X2_hasNumberTwice
set_option maxRecDepth 20000 in
theorem ggX4_issue_X1_record : GoodIn wsX4_issue wsX1_record := goodIn_r _ [30, 31, 32, 33, 34, 35, 36, 37, 38, 39, 40, 41, 42, 43, 44, 45, 46, 47, 48, 49, 50, 51, 52, 53, 54, 55, 56, 57, 58, 123, 124, 125, 113, 114, 115, 116, 117, 118, 119, 120, 126, 127] (by decide +kernel) (by decide +kernel)
set_option maxRecDepth 20000 in
theorem gX4_issue_X1_record : GoodIn wsX4_issue (wsV RX4 57 RX1 yX1_record wsX1_record) := goodIn_app (goodIn_of _ (by decide +kernel)) ggX4_issue_X1_record
set_option maxRecDepth 20000 in
theorem ggX4_issue_X3_addParcel : GoodIn wsX4_issue wsX3_addParcel := goodIn_r _ [62, 45, 44, 39, 46, 50, 48, 63, 19, 20, 7, 21, 9, 64, 23, 24, 25, 10, 65, 66, 67, 37, 68, 69, 70, 71, 72, 73, 74, 75, 54, 76, 77, 78, 79, 80, 81, 82, 83, 84, 85, 86, 87, 57, 56, 88, 89, 90, 91, 92, 93, 94, 95, 96, 97, 98, 58, 41, 42, 43, 99, 100, 101, 102, 113, 114, 115, 116, 117, 118, 119, 120, 121, 122, 126, 127] (by decide +kernel) (by decide +kernel)
set_option maxRecDepth 20000 in
theorem gX4_issue_X3_addParcel : GoodIn wsX4_issue (wsV RX4 61 RX3 yX3_addParcel wsX3_addParcel) := goodIn_app (goodIn_of _ (by decide +kernel)) ggX4_issue_X3_addParcel
set_option maxRecDepth 20000 in
theorem ggX4_issue_X2_empty : GoodIn wsX4_issue wsX2_empty := goodIn_r _ [106, 9, 121, 122] (by decide +kernel) (by decide +kernel)
set_option maxRecDepth 20000 in
theorem gX4_issue_X2_empty : GoodIn wsX4_issue (wsV RX4 65 RX2 yX2_empty wsX2_empty) := goodIn_app (goodIn_of _ (by decide +kernel)) ggX4_issue_X2_empty
theorem dX4_issue_0 : decode cX4_issue 0 = .ok (.aload_n 0, 1) := by decide +kernel
theorem dX4_issue_1 : decode cX4_issue 1 = .ok (.getfield 34, 3) := by decide +kernel
theorem dX4_issue_4 : decode cX4_issue 4 = .ok (.invokevirtual 45, 3) := by decide +kernel
theorem dX4_issue_7 : decode cX4_issue 7 = .ok (.bipush (-6), 2) := by decide +kernel
theorem dX4_issue_9 : decode cX4_issue 9 = .ok (.if_icmp .eq 6, 3) := by decide +kernel
theorem dX4_issue_12 : decode cX4_issue 12 = .ok (.bipush (-3), 2) := by decide +kernel
theorem dX4_issue_14 : decode cX4_issue 14 = .ok (.ireturn, 1) := by decide +kernel
theorem dX4_issue_15 : decode cX4_issue 15 = .ok (.aload_n 0, 1) := by decide +kernel
theorem dX4_issue_16 : decode cX4_issue 16 = .ok (.getfield 34, 3) := by decide +kernel
theorem dX4_issue_19 : decode cX4_issue 19 = .ok (.invokevirtual 49, 3) := by decide +kernel
theorem dX4_issue_22 : decode cX4_issue 22 = .ok (.ifCond .eq 6, 3) := by decide +kernel
theorem dX4_issue_25 : decode cX4_issue 25 = .ok (.bipush (-2), 2) := by decide +kernel
theorem dX4_issue_27 : decode cX4_issue 27 = .ok (.ireturn, 1) := by decide +kernel
theorem dX4_issue_28 : decode cX4_issue 28 = .ok (.aload_n 0, 1) := by decide +kernel
theorem dX4_issue_29 : decode cX4_issue 29 = .ok (.getfield 10, 3) := by decide +kernel
theorem dX4_issue_32 : decode cX4_issue 32 = .ok (.getfield 53, 3) := by decide +kernel
theorem dX4_issue_35 : decode cX4_issue 35 = .ok (.bipush 16, 2) := by decide +kernel
theorem dX4_issue_37 : decode cX4_issue 37 = .ok (.if_icmp .lt 6, 3) := by decide +kernel
theorem dX4_issue_40 : decode cX4_issue 40 = .ok (.bipush (-4), 2) := by decide +kernel
theorem dX4_issue_42 : decode cX4_issue 42 = .ok (.ireturn, 1) := by decide +kernel
theorem dX4_issue_43 : decode cX4_issue 43 = .ok (.aload_n 0, 1) := by decide +kernel
theorem dX4_issue_44 : decode cX4_issue 44 = .ok (.getfield 19, 3) := by decide +kernel
theorem dX4_issue_47 : decode cX4_issue 47 = .ok (.aload_n 0, 1) := by decide +kernel
theorem dX4_issue_48 : decode cX4_issue 48 = .ok (.getfield 10, 3) := by decide +kernel
theorem dX4_issue_51 : decode cX4_issue 51 = .ok (.invokevirtual 57, 3) := by decide +kernel
theorem dX4_issue_54 : decode cX4_issue 54 = .ok (.aload_n 0, 1) := by decide +kernel
theorem dX4_issue_55 : decode cX4_issue 55 = .ok (.getfield 10, 3) := by decide +kernel
theorem dX4_issue_58 : decode cX4_issue 58 = .ok (.aload_n 0, 1) := by decide +kernel
theorem dX4_issue_59 : decode cX4_issue 59 = .ok (.getfield 34, 3) := by decide +kernel
theorem dX4_issue_62 : decode cX4_issue 62 = .ok (.invokevirtual 61, 3) := by decide +kernel
theorem dX4_issue_65 : decode cX4_issue 65 = .ok (.istore_n 1, 1) := by decide +kernel
theorem dX4_issue_66 : decode cX4_issue 66 = .ok (.aload_n 0, 1) := by decide +kernel
theorem dX4_issue_67 : decode cX4_issue 67 = .ok (.getfield 34, 3) := by decide +kernel
theorem dX4_issue_70 : decode cX4_issue 70 = .ok (.invokevirtual 65, 3) := by decide +kernel
theorem dX4_issue_73 : decode cX4_issue 73 = .ok (.iload_n 1, 1) := by decide +kernel
theorem dX4_issue_74 : decode cX4_issue 74 = .ok (.ireturn, 1) := by decide +kernel
set_option maxRecDepth 20000 in
theorem ggX4_own_X1_record : GoodIn wsX4_own wsX1_record := goodIn_r _ [7, 8, 9, 10, 11, 12, 13, 14, 15, 16, 17, 18, 19, 20, 21, 22, 23, 24, 25, 26, 27, 28, 29, 30, 31, 32, 33, 34, 35, 54, 55, 56, 46, 47, 48, 49, 50, 51, 52, 53, 57, 58] (by decide +kernel) (by decide +kernel)
set_option maxRecDepth 20000 in
theorem gX4_own_X1_record : GoodIn wsX4_own (wsV RX4 57 RX1 yX1_record wsX1_record) := goodIn_app (goodIn_of _ (by decide +kernel)) ggX4_own_X1_record
set_option maxRecDepth 20000 in
theorem ggX4_own_X3_addOwner : GoodIn wsX4_own wsX3_addOwner := goodIn_r _ [39, 27, 24, 23, 25, 26, 28, 29, 30, 31, 32, 33, 34, 35, 18, 19, 20, 46, 47, 48, 49, 50, 51, 52, 53, 57, 58] (by decide +kernel) (by decide +kernel)
set_option maxRecDepth 20000 in
theorem gX4_own_X3_addOwner : GoodIn wsX4_own (wsV RX4 71 RX3 yX3_addOwner wsX3_addOwner) := goodIn_app (goodIn_of _ (by decide +kernel)) ggX4_own_X3_addOwner
theorem dX4_own_0 : decode cX4_own 0 = .ok (.aload_n 0, 1) := by decide +kernel
theorem dX4_own_1 : decode cX4_own 1 = .ok (.getfield 10, 3) := by decide +kernel
theorem dX4_own_4 : decode cX4_own 4 = .ok (.getfield 68, 3) := by decide +kernel
theorem dX4_own_7 : decode cX4_own 7 = .ok (.bipush 8, 2) := by decide +kernel
theorem dX4_own_9 : decode cX4_own 9 = .ok (.if_icmp .lt 6, 3) := by decide +kernel
theorem dX4_own_12 : decode cX4_own 12 = .ok (.bipush (-4), 2) := by decide +kernel
theorem dX4_own_14 : decode cX4_own 14 = .ok (.ireturn, 1) := by decide +kernel
theorem dX4_own_15 : decode cX4_own 15 = .ok (.aload_n 0, 1) := by decide +kernel
theorem dX4_own_16 : decode cX4_own 16 = .ok (.getfield 19, 3) := by decide +kernel
theorem dX4_own_19 : decode cX4_own 19 = .ok (.aload_n 0, 1) := by decide +kernel
theorem dX4_own_20 : decode cX4_own 20 = .ok (.getfield 10, 3) := by decide +kernel
theorem dX4_own_23 : decode cX4_own 23 = .ok (.invokevirtual 57, 3) := by decide +kernel
theorem dX4_own_26 : decode cX4_own 26 = .ok (.aload_n 0, 1) := by decide +kernel
theorem dX4_own_27 : decode cX4_own 27 = .ok (.getfield 10, 3) := by decide +kernel
theorem dX4_own_30 : decode cX4_own 30 = .ok (.invokevirtual 71, 3) := by decide +kernel
theorem dX4_own_33 : decode cX4_own 33 = .ok (.ireturn, 1) := by decide +kernel
set_option maxRecDepth 20000 in
theorem ggX4_done_X3_hasOwner : GoodIn wsX4_done wsX3_hasOwner := goodIn_r _ [7, 8, 104, 105, 106, 107, 108, 109, 110, 111] (by decide +kernel) (by decide +kernel)
set_option maxRecDepth 20000 in
theorem gX4_done_X3_hasOwner : GoodIn wsX4_done (wsV RX4 74 RX3 yX3_hasOwner wsX3_hasOwner) := goodIn_app (goodIn_of _ (by decide +kernel)) ggX4_done_X3_hasOwner
set_option maxRecDepth 20000 in
theorem ggX4_done_X3_hasParcel : GoodIn wsX4_done wsX3_hasParcel := goodIn_r _ [12, 13, 104, 105, 106, 107, 108, 109, 110, 111] (by decide +kernel) (by decide +kernel)
set_option maxRecDepth 20000 in
theorem gX4_done_X3_hasParcel : GoodIn wsX4_done (wsV RX4 78 RX3 yX3_hasParcel wsX3_hasParcel) := goodIn_app (goodIn_of _ (by decide +kernel)) ggX4_done_X3_hasParcel
set_option maxRecDepth 20000 in
theorem ggX4_done_X3_isWaiting : GoodIn wsX4_done wsX3_isWaiting := goodIn_r _ [17, 18, 104, 105, 106, 107, 108, 109, 110, 111] (by decide +kernel) (by decide +kernel)
set_option maxRecDepth 20000 in
theorem gX4_done_X3_isWaiting : GoodIn wsX4_done (wsV RX4 81 RX3 yX3_isWaiting wsX3_isWaiting) := goodIn_app (goodIn_of _ (by decide +kernel)) ggX4_done_X3_isWaiting
set_option maxRecDepth 20000 in
theorem ggX4_done_X1_record : GoodIn wsX4_done wsX1_record := goodIn_r _ [23, 24, 25, 26, 27, 28, 29, 6, 30, 31, 32, 33, 34, 35, 36, 13, 37, 38, 18, 39, 8, 40, 41, 42, 43, 44, 45, 46, 47, 114, 115, 116, 104, 105, 106, 107, 108, 109, 110, 111, 112, 113] (by decide +kernel) (by decide +kernel)
set_option maxRecDepth 20000 in
theorem gX4_done_X1_record : GoodIn wsX4_done (wsV RX4 57 RX1 yX1_record wsX1_record) := goodIn_app (goodIn_of _ (by decide +kernel)) ggX4_done_X1_record
set_option maxRecDepth 20000 in
theorem ggX4_done_X3_doWithCare : GoodIn wsX4_done wsX3_doWithCare := goodIn_r _ [51, 36, 52, 53, 54, 6, 55, 31, 56, 57, 58, 43, 59, 60, 61, 62, 63, 64, 65, 66, 67, 68, 69, 70, 46, 45, 71, 72, 73, 74, 75, 76, 77, 78, 79, 80, 81, 47, 33, 34, 35, 82, 83, 84, 85, 104, 105, 106, 107, 108, 109, 110, 111, 112, 113] (by decide +kernel) (by decide +kernel)
set_option maxRecDepth 20000 in
theorem gX4_done_X3_doWithCare : GoodIn wsX4_done (wsV RX4 92 RX3 yX3_doWithCare wsX3_doWithCare) := goodIn_app (goodIn_of _ (by decide +kernel)) ggX4_done_X3_doWithCare
set_option maxRecDepth 20000 in
theorem ggX4_done_X3_doCarelessly : GoodIn wsX4_done wsX3_doCarelessly := goodIn_r _ [89, 36, 52, 53, 54, 6, 55, 31, 82, 83, 84, 43, 85, 46, 45, 47, 33, 34, 35, 64, 65, 66, 67, 68, 69, 70, 90, 91, 92, 93, 94, 95, 96, 97, 60, 61, 62, 63, 71, 72, 73, 74, 75, 76, 77, 78, 79, 80, 81, 104, 105, 106, 107, 108, 109, 110, 111, 112, 113] (by decide +kernel) (by decide +kernel)
set_option maxRecDepth 20000 in
theorem gX4_done_X3_doCarelessly : GoodIn wsX4_done (wsV RX4 96 RX3 yX3_doCarelessly wsX3_doCarelessly) := goodIn_app (goodIn_of _ (by decide +kernel)) ggX4_done_X3_doCarelessly
theorem dX4_done_0 : decode cX4_done 0 = .ok (.aload_n 0, 1) := by decide +kernel
theorem dX4_done_1 : decode cX4_done 1 = .ok (.getfield 10, 3) := by decide +kernel
theorem dX4_done_4 : decode cX4_done 4 = .ok (.iload_n 1, 1) := by decide +kernel
theorem dX4_done_5 : decode cX4_done 5 = .ok (.invokevirtual 74, 3) := by decide +kernel
theorem dX4_done_8 : decode cX4_done 8 = .ok (.ifCond .eq 14, 3) := by decide +kernel
theorem dX4_done_11 : decode cX4_done 11 = .ok (.aload_n 0, 1) := by decide +kernel
theorem dX4_done_12 : decode cX4_done 12 = .ok (.getfield 10, 3) := by decide +kernel
theorem dX4_done_15 : decode cX4_done 15 = .ok (.iload_n 2, 1) := by decide +kernel
theorem dX4_done_16 : decode cX4_done 16 = .ok (.invokevirtual 78, 3) := by decide +kernel
theorem dX4_done_19 : decode cX4_done 19 = .ok (.ifCond .ne 5, 3) := by decide +kernel
theorem dX4_done_22 : decode cX4_done 22 = .ok (.iconst (-1), 1) := by decide +kernel
theorem dX4_done_23 : decode cX4_done 23 = .ok (.ireturn, 1) := by decide +kernel
theorem dX4_done_24 : decode cX4_done 24 = .ok (.aload_n 0, 1) := by decide +kernel
theorem dX4_done_25 : decode cX4_done 25 = .ok (.getfield 10, 3) := by decide +kernel
theorem dX4_done_28 : decode cX4_done 28 = .ok (.iload_n 1, 1) := by decide +kernel
theorem dX4_done_29 : decode cX4_done 29 = .ok (.iload_n 2, 1) := by decide +kernel
theorem dX4_done_30 : decode cX4_done 30 = .ok (.invokevirtual 81, 3) := by decide +kernel
theorem dX4_done_33 : decode cX4_done 33 = .ok (.ifCond .ne 6, 3) := by decide +kernel
theorem dX4_done_36 : decode cX4_done 36 = .ok (.bipush (-5), 2) := by decide +kernel
theorem dX4_done_38 : decode cX4_done 38 = .ok (.ireturn, 1) := by decide +kernel
theorem dX4_done_39 : decode cX4_done 39 = .ok (.aload_n 0, 1) := by decide +kernel
theorem dX4_done_40 : decode cX4_done 40 = .ok (.getfield 19, 3) := by decide +kernel
theorem dX4_done_43 : decode cX4_done 43 = .ok (.aload_n 0, 1) := by decide +kernel
theorem dX4_done_44 : decode cX4_done 44 = .ok (.getfield 10, 3) := by decide +kernel
theorem dX4_done_47 : decode cX4_done 47 = .ok (.invokevirtual 57, 3) := by decide +kernel
theorem dX4_done_50 : decode cX4_done 50 = .ok (.aload_n 0, 1) := by decide +kernel
theorem dX4_done_51 : decode cX4_done 51 = .ok (.getfield 10, 3) := by decide +kernel
theorem dX4_done_54 : decode cX4_done 54 = .ok (.getfield 85, 3) := by decide +kernel
theorem dX4_done_57 : decode cX4_done 57 = .ok (.iload_n 1, 1) := by decide +kernel
theorem dX4_done_58 : decode cX4_done 58 = .ok (.dup2, 1) := by decide +kernel
theorem dX4_done_59 : decode cX4_done 59 = .ok (.iaload, 1) := by decide +kernel
theorem dX4_done_60 : decode cX4_done 60 = .ok (.iconst 1, 1) := by decide +kernel
theorem dX4_done_61 : decode cX4_done 61 = .ok (.iload_n 2, 1) := by decide +kernel
theorem dX4_done_62 : decode cX4_done 62 = .ok (.ishl, 1) := by decide +kernel
theorem dX4_done_63 : decode cX4_done 63 = .ok (.iconst (-1), 1) := by decide +kernel
theorem dX4_done_64 : decode cX4_done 64 = .ok (.ixor, 1) := by decide +kernel
theorem dX4_done_65 : decode cX4_done 65 = .ok (.iand, 1) := by decide +kernel
theorem dX4_done_66 : decode cX4_done 66 = .ok (.iastore, 1) := by decide +kernel
theorem dX4_done_67 : decode cX4_done 67 = .ok (.aload_n 0, 1) := by decide +kernel
theorem dX4_done_68 : decode cX4_done 68 = .ok (.getfield 10, 3) := by decide +kernel
theorem dX4_done_71 : decode cX4_done 71 = .ok (.getfield 89, 3) := by decide +kernel
theorem dX4_done_74 : decode cX4_done 74 = .ok (.iload_n 1, 1) := by decide +kernel
theorem dX4_done_75 : decode cX4_done 75 = .ok (.aaload, 1) := by decide +kernel
theorem dX4_done_76 : decode cX4_done 76 = .ok (.astore 4, 2) := by decide +kernel
theorem dX4_done_78 : decode cX4_done 78 = .ok (.iload_n 3, 1) := by decide +kernel
theorem dX4_done_79 : decode cX4_done 79 = .ok (.ifCond .eq 16, 3) := by decide +kernel
theorem dX4_done_82 : decode cX4_done 82 = .ok (.aload_n 0, 1) := by decide +kernel
theorem dX4_done_83 : decode cX4_done 83 = .ok (.getfield 10, 3) := by decide +kernel
theorem dX4_done_86 : decode cX4_done 86 = .ok (.aload 4, 2) := by decide +kernel
theorem dX4_done_88 : decode cX4_done 88 = .ok (.iload_n 2, 1) := by decide +kernel
theorem dX4_done_89 : decode cX4_done 89 = .ok (.invokevirtual 92, 3) := by decide +kernel
theorem dX4_done_92 : decode cX4_done 92 = .ok (.goto 13, 3) := by decide +kernel
theorem dX4_done_95 : decode cX4_done 95 = .ok (.aload_n 0, 1) := by decide +kernel
theorem dX4_done_96 : decode cX4_done 96 = .ok (.getfield 10, 3) := by decide +kernel
theorem dX4_done_99 : decode cX4_done 99 = .ok (.aload 4, 2) := by decide +kernel
theorem dX4_done_101 : decode cX4_done 101 = .ok (.iload_n 2, 1) := by decide +kernel
theorem dX4_done_102 : decode cX4_done 102 = .ok (.invokevirtual 96, 3) := by decide +kernel
theorem dX4_done_105 : decode cX4_done 105 = .ok (.aload 4, 2) := by decide +kernel
theorem dX4_done_107 : decode cX4_done 107 = .ok (.getfield 99, 3) := by decide +kernel
theorem dX4_done_110 : decode cX4_done 110 = .ok (.ireturn, 1) := by decide +kernel
set_option maxRecDepth 20000 in
theorem ggX4_doAll_X3_hasOwner : GoodIn wsX4_doAll wsX3_hasOwner := goodIn_r _ [7, 8, 95, 96, 97, 98, 99, 100, 101, 102] (by decide +kernel) (by decide +kernel)
set_option maxRecDepth 20000 in
theorem gX4_doAll_X3_hasOwner : GoodIn wsX4_doAll (wsV RX4 74 RX3 yX3_hasOwner wsX3_hasOwner) := goodIn_app (goodIn_of _ (by decide +kernel)) ggX4_doAll_X3_hasOwner
set_option maxRecDepth 20000 in
theorem ggX4_doAll_X1_record : GoodIn wsX4_doAll wsX1_record := goodIn_r _ [13, 14, 15, 16, 17, 18, 19, 6, 20, 21, 22, 23, 24, 25, 26, 27, 28, 29, 30, 31, 8, 32, 33, 34, 35, 36, 37, 38, 39, 103, 104, 105, 95, 96, 97, 98, 99, 100, 101, 102, 106, 107] (by decide +kernel) (by decide +kernel)
set_option maxRecDepth 20000 in
theorem gX4_doAll_X1_record : GoodIn wsX4_doAll (wsV RX4 57 RX1 yX1_record wsX1_record) := goodIn_app (goodIn_of _ (by decide +kernel)) ggX4_doAll_X1_record
set_option maxRecDepth 20000 in
theorem ggX4_doAll_X3_doSetWithCare : GoodIn wsX4_doAll wsX3_doSetWithCare := goodIn_r _ [43, 27, 44, 45, 46, 6, 47, 26, 48, 49, 50, 51, 21, 52, 53, 54, 35, 55, 56, 57, 58, 59, 60, 61, 62, 63, 64, 65, 66, 38, 37, 67, 68, 69, 70, 71, 72, 73, 74, 75, 76, 77, 39, 23, 24, 25, 78, 79, 80, 81, 95, 96, 97, 98, 99, 100, 101, 102, 106, 107] (by decide +kernel) (by decide +kernel)
set_option maxRecDepth 20000 in
theorem gX4_doAll_X3_doSetWithCare : GoodIn wsX4_doAll (wsV RX4 102 RX3 yX3_doSetWithCare wsX3_doSetWithCare) := goodIn_app (goodIn_of _ (by decide +kernel)) ggX4_doAll_X3_doSetWithCare
set_option maxRecDepth 20000 in
theorem ggX4_doAll_J6_bitCount_0f7a4 : GoodIn wsX4_doAll wsJ6_bitCount_0f7a4 := goodIn_r _ [85, 86, 87, 88] (by decide +kernel) (by decide +kernel)
set_option maxRecDepth 20000 in
theorem gX4_doAll_J6_bitCount_0f7a4 : GoodIn wsX4_doAll (va_wsS RX4 105 yJ6_bitCount_0f7a4 wsJ6_bitCount_0f7a4) := goodIn_app (goodIn_of _ (by decide +kernel)) ggX4_doAll_J6_bitCount_0f7a4
theorem dX4_doAll_0 : decode cX4_doAll 0 = .ok (.aload_n 0, 1) := by decide +kernel
theorem dX4_doAll_1 : decode cX4_doAll 1 = .ok (.getfield 10, 3) := by decide +kernel
theorem dX4_doAll_4 : decode cX4_doAll 4 = .ok (.iload_n 1, 1) := by decide +kernel
theorem dX4_doAll_5 : decode cX4_doAll 5 = .ok (.invokevirtual 74, 3) := by decide +kernel
theorem dX4_doAll_8 : decode cX4_doAll 8 = .ok (.ifCond .ne 5, 3) := by decide +kernel
theorem dX4_doAll_11 : decode cX4_doAll 11 = .ok (.iconst (-1), 1) := by decide +kernel
theorem dX4_doAll_12 : decode cX4_doAll 12 = .ok (.ireturn, 1) := by decide +kernel
theorem dX4_doAll_13 : decode cX4_doAll 13 = .ok (.aload_n 0, 1) := by decide +kernel
theorem dX4_doAll_14 : decode cX4_doAll 14 = .ok (.getfield 19, 3) := by decide +kernel
theorem dX4_doAll_17 : decode cX4_doAll 17 = .ok (.aload_n 0, 1) := by decide +kernel
theorem dX4_doAll_18 : decode cX4_doAll 18 = .ok (.getfield 10, 3) := by decide +kernel
theorem dX4_doAll_21 : decode cX4_doAll 21 = .ok (.invokevirtual 57, 3) := by decide +kernel
theorem dX4_doAll_24 : decode cX4_doAll 24 = .ok (.aload_n 0, 1) := by decide +kernel
theorem dX4_doAll_25 : decode cX4_doAll 25 = .ok (.getfield 10, 3) := by decide +kernel
theorem dX4_doAll_28 : decode cX4_doAll 28 = .ok (.getfield 85, 3) := by decide +kernel
theorem dX4_doAll_31 : decode cX4_doAll 31 = .ok (.iload_n 1, 1) := by decide +kernel
theorem dX4_doAll_32 : decode cX4_doAll 32 = .ok (.iaload, 1) := by decide +kernel
theorem dX4_doAll_33 : decode cX4_doAll 33 = .ok (.istore_n 2, 1) := by decide +kernel
theorem dX4_doAll_34 : decode cX4_doAll 34 = .ok (.aload_n 0, 1) := by decide +kernel
theorem dX4_doAll_35 : decode cX4_doAll 35 = .ok (.getfield 10, 3) := by decide +kernel
theorem dX4_doAll_38 : decode cX4_doAll 38 = .ok (.getfield 85, 3) := by decide +kernel
theorem dX4_doAll_41 : decode cX4_doAll 41 = .ok (.iload_n 1, 1) := by decide +kernel
theorem dX4_doAll_42 : decode cX4_doAll 42 = .ok (.iconst 0, 1) := by decide +kernel
theorem dX4_doAll_43 : decode cX4_doAll 43 = .ok (.iastore, 1) := by decide +kernel
theorem dX4_doAll_44 : decode cX4_doAll 44 = .ok (.aload_n 0, 1) := by decide +kernel
theorem dX4_doAll_45 : decode cX4_doAll 45 = .ok (.getfield 10, 3) := by decide +kernel
theorem dX4_doAll_48 : decode cX4_doAll 48 = .ok (.aload_n 0, 1) := by decide +kernel
theorem dX4_doAll_49 : decode cX4_doAll 49 = .ok (.getfield 10, 3) := by decide +kernel
theorem dX4_doAll_52 : decode cX4_doAll 52 = .ok (.getfield 89, 3) := by decide +kernel
theorem dX4_doAll_55 : decode cX4_doAll 55 = .ok (.iload_n 1, 1) := by decide +kernel
theorem dX4_doAll_56 : decode cX4_doAll 56 = .ok (.aaload, 1) := by decide +kernel
theorem dX4_doAll_57 : decode cX4_doAll 57 = .ok (.iload_n 2, 1) := by decide +kernel
theorem dX4_doAll_58 : decode cX4_doAll 58 = .ok (.invokevirtual 102, 3) := by decide +kernel
theorem dX4_doAll_61 : decode cX4_doAll 61 = .ok (.iload_n 2, 1) := by decide +kernel
theorem dX4_doAll_62 : decode cX4_doAll 62 = .ok (.invokestatic 105, 3) := by decide +kernel
theorem dX4_doAll_65 : decode cX4_doAll 65 = .ok (.ireturn, 1) := by decide +kernel
set_option maxRecDepth 20000 in
theorem ggX4_lose_X3_hasOwner : GoodIn wsX4_lose wsX3_hasOwner := goodIn_r _ [7, 8, 61, 62, 63, 64, 65, 66, 67, 68] (by decide +kernel) (by decide +kernel)
set_option maxRecDepth 20000 in
theorem gX4_lose_X3_hasOwner : GoodIn wsX4_lose (wsV RX4 74 RX3 yX3_hasOwner wsX3_hasOwner) := goodIn_app (goodIn_of _ (by decide +kernel)) ggX4_lose_X3_hasOwner
set_option maxRecDepth 20000 in
theorem ggX4_lose_X3_hasParcel : GoodIn wsX4_lose wsX3_hasParcel := goodIn_r _ [12, 13, 61, 62, 63, 64, 65, 66, 67, 68] (by decide +kernel) (by decide +kernel)
set_option maxRecDepth 20000 in
theorem gX4_lose_X3_hasParcel : GoodIn wsX4_lose (wsV RX4 78 RX3 yX3_hasParcel wsX3_hasParcel) := goodIn_app (goodIn_of _ (by decide +kernel)) ggX4_lose_X3_hasParcel
set_option maxRecDepth 20000 in
theorem ggX4_lose_X3_isWaiting : GoodIn wsX4_lose wsX3_isWaiting := goodIn_r _ [17, 18, 61, 62, 63, 64, 65, 66, 67, 68] (by decide +kernel) (by decide +kernel)
set_option maxRecDepth 20000 in
theorem gX4_lose_X3_isWaiting : GoodIn wsX4_lose (wsV RX4 81 RX3 yX3_isWaiting wsX3_isWaiting) := goodIn_app (goodIn_of _ (by decide +kernel)) ggX4_lose_X3_isWaiting
set_option maxRecDepth 20000 in
theorem ggX4_lose_X1_record : GoodIn wsX4_lose wsX1_record := goodIn_r _ [23, 24, 25, 26, 27, 28, 29, 6, 30, 31, 32, 33, 34, 35, 36, 13, 37, 38, 18, 39, 8, 40, 41, 42, 43, 44, 45, 46, 47, 69, 70, 71, 61, 62, 63, 64, 65, 66, 67, 68, 72, 73] (by decide +kernel) (by decide +kernel)
set_option maxRecDepth 20000 in
theorem gX4_lose_X1_record : GoodIn wsX4_lose (wsV RX4 57 RX1 yX1_record wsX1_record) := goodIn_app (goodIn_of _ (by decide +kernel)) ggX4_lose_X1_record
set_option maxRecDepth 20000 in
theorem ggX4_lose_J6_bitCount_0f7a4 : GoodIn wsX4_lose wsJ6_bitCount_0f7a4 := goodIn_r _ [51, 52, 53, 54] (by decide +kernel) (by decide +kernel)
set_option maxRecDepth 20000 in
theorem gX4_lose_J6_bitCount_0f7a4 : GoodIn wsX4_lose (va_wsS RX4 105 yJ6_bitCount_0f7a4 wsJ6_bitCount_0f7a4) := goodIn_app (goodIn_of _ (by decide +kernel)) ggX4_lose_J6_bitCount_0f7a4
theorem dX4_lose_0 : decode cX4_lose 0 = .ok (.aload_n 0, 1) := by decide +kernel
theorem dX4_lose_1 : decode cX4_lose 1 = .ok (.getfield 10, 3) := by decide +kernel
theorem dX4_lose_4 : decode cX4_lose 4 = .ok (.iload_n 1, 1) := by decide +kernel
theorem dX4_lose_5 : decode cX4_lose 5 = .ok (.invokevirtual 74, 3) := by decide +kernel
theorem dX4_lose_8 : decode cX4_lose 8 = .ok (.ifCond .eq 14, 3) := by decide +kernel
theorem dX4_lose_11 : decode cX4_lose 11 = .ok (.aload_n 0, 1) := by decide +kernel
theorem dX4_lose_12 : decode cX4_lose 12 = .ok (.getfield 10, 3) := by decide +kernel
theorem dX4_lose_15 : decode cX4_lose 15 = .ok (.iload_n 2, 1) := by decide +kernel
theorem dX4_lose_16 : decode cX4_lose 16 = .ok (.invokevirtual 78, 3) := by decide +kernel
theorem dX4_lose_19 : decode cX4_lose 19 = .ok (.ifCond .ne 5, 3) := by decide +kernel
theorem dX4_lose_22 : decode cX4_lose 22 = .ok (.iconst (-1), 1) := by decide +kernel
theorem dX4_lose_23 : decode cX4_lose 23 = .ok (.ireturn, 1) := by decide +kernel
theorem dX4_lose_24 : decode cX4_lose 24 = .ok (.aload_n 0, 1) := by decide +kernel
theorem dX4_lose_25 : decode cX4_lose 25 = .ok (.getfield 10, 3) := by decide +kernel
theorem dX4_lose_28 : decode cX4_lose 28 = .ok (.iload_n 1, 1) := by decide +kernel
theorem dX4_lose_29 : decode cX4_lose 29 = .ok (.iload_n 2, 1) := by decide +kernel
theorem dX4_lose_30 : decode cX4_lose 30 = .ok (.invokevirtual 81, 3) := by decide +kernel
theorem dX4_lose_33 : decode cX4_lose 33 = .ok (.ifCond .ne 6, 3) := by decide +kernel
theorem dX4_lose_36 : decode cX4_lose 36 = .ok (.bipush (-5), 2) := by decide +kernel
theorem dX4_lose_38 : decode cX4_lose 38 = .ok (.ireturn, 1) := by decide +kernel
theorem dX4_lose_39 : decode cX4_lose 39 = .ok (.aload_n 0, 1) := by decide +kernel
theorem dX4_lose_40 : decode cX4_lose 40 = .ok (.getfield 19, 3) := by decide +kernel
theorem dX4_lose_43 : decode cX4_lose 43 = .ok (.aload_n 0, 1) := by decide +kernel
theorem dX4_lose_44 : decode cX4_lose 44 = .ok (.getfield 10, 3) := by decide +kernel
theorem dX4_lose_47 : decode cX4_lose 47 = .ok (.invokevirtual 57, 3) := by decide +kernel
theorem dX4_lose_50 : decode cX4_lose 50 = .ok (.aload_n 0, 1) := by decide +kernel
theorem dX4_lose_51 : decode cX4_lose 51 = .ok (.getfield 10, 3) := by decide +kernel
theorem dX4_lose_54 : decode cX4_lose 54 = .ok (.getfield 85, 3) := by decide +kernel
theorem dX4_lose_57 : decode cX4_lose 57 = .ok (.iload_n 1, 1) := by decide +kernel
theorem dX4_lose_58 : decode cX4_lose 58 = .ok (.dup2, 1) := by decide +kernel
theorem dX4_lose_59 : decode cX4_lose 59 = .ok (.iaload, 1) := by decide +kernel
theorem dX4_lose_60 : decode cX4_lose 60 = .ok (.iconst 1, 1) := by decide +kernel
theorem dX4_lose_61 : decode cX4_lose 61 = .ok (.iload_n 2, 1) := by decide +kernel
theorem dX4_lose_62 : decode cX4_lose 62 = .ok (.ishl, 1) := by decide +kernel
theorem dX4_lose_63 : decode cX4_lose 63 = .ok (.iconst (-1), 1) := by decide +kernel
theorem dX4_lose_64 : decode cX4_lose 64 = .ok (.ixor, 1) := by decide +kernel
theorem dX4_lose_65 : decode cX4_lose 65 = .ok (.iand, 1) := by decide +kernel
theorem dX4_lose_66 : decode cX4_lose 66 = .ok (.iastore, 1) := by decide +kernel
theorem dX4_lose_67 : decode cX4_lose 67 = .ok (.aload_n 0, 1) := by decide +kernel
theorem dX4_lose_68 : decode cX4_lose 68 = .ok (.getfield 10, 3) := by decide +kernel
theorem dX4_lose_71 : decode cX4_lose 71 = .ok (.getfield 111, 3) := by decide +kernel
theorem dX4_lose_74 : decode cX4_lose 74 = .ok (.iload_n 1, 1) := by decide +kernel
theorem dX4_lose_75 : decode cX4_lose 75 = .ok (.dup2, 1) := by decide +kernel
theorem dX4_lose_76 : decode cX4_lose 76 = .ok (.iaload, 1) := by decide +kernel
theorem dX4_lose_77 : decode cX4_lose 77 = .ok (.iconst 1, 1) := by decide +kernel
theorem dX4_lose_78 : decode cX4_lose 78 = .ok (.iload_n 2, 1) := by decide +kernel
theorem dX4_lose_79 : decode cX4_lose 79 = .ok (.ishl, 1) := by decide +kernel
theorem dX4_lose_80 : decode cX4_lose 80 = .ok (.ior, 1) := by decide +kernel
theorem dX4_lose_81 : decode cX4_lose 81 = .ok (.iastore, 1) := by decide +kernel
theorem dX4_lose_82 : decode cX4_lose 82 = .ok (.aload_n 0, 1) := by decide +kernel
theorem dX4_lose_83 : decode cX4_lose 83 = .ok (.getfield 10, 3) := by decide +kernel
theorem dX4_lose_86 : decode cX4_lose 86 = .ok (.getfield 85, 3) := by decide +kernel
theorem dX4_lose_89 : decode cX4_lose 89 = .ok (.iload_n 1, 1) := by decide +kernel
theorem dX4_lose_90 : decode cX4_lose 90 = .ok (.iaload, 1) := by decide +kernel
theorem dX4_lose_91 : decode cX4_lose 91 = .ok (.invokestatic 105, 3) := by decide +kernel
theorem dX4_lose_94 : decode cX4_lose 94 = .ok (.ireturn, 1) := by decide +kernel
set_option maxRecDepth 20000 in
theorem ggX4_again_X3_hasOwner : GoodIn wsX4_again wsX3_hasOwner := goodIn_r _ [7, 8, 61, 62, 63, 64, 65, 66, 67, 68] (by decide +kernel) (by decide +kernel)
set_option maxRecDepth 20000 in
theorem gX4_again_X3_hasOwner : GoodIn wsX4_again (wsV RX4 74 RX3 yX3_hasOwner wsX3_hasOwner) := goodIn_app (goodIn_of _ (by decide +kernel)) ggX4_again_X3_hasOwner
set_option maxRecDepth 20000 in
theorem ggX4_again_X3_hasParcel : GoodIn wsX4_again wsX3_hasParcel := goodIn_r _ [12, 13, 61, 62, 63, 64, 65, 66, 67, 68] (by decide +kernel) (by decide +kernel)
set_option maxRecDepth 20000 in
theorem gX4_again_X3_hasParcel : GoodIn wsX4_again (wsV RX4 78 RX3 yX3_hasParcel wsX3_hasParcel) := goodIn_app (goodIn_of _ (by decide +kernel)) ggX4_again_X3_hasParcel
set_option maxRecDepth 20000 in
theorem ggX4_again_X3_isWaiting : GoodIn wsX4_again wsX3_isWaiting := goodIn_r _ [17, 18, 61, 62, 63, 64, 65, 66, 67, 68] (by decide +kernel) (by decide +kernel)
set_option maxRecDepth 20000 in
theorem gX4_again_X3_isWaiting : GoodIn wsX4_again (wsV RX4 81 RX3 yX3_isWaiting wsX3_isWaiting) := goodIn_app (goodIn_of _ (by decide +kernel)) ggX4_again_X3_isWaiting
set_option maxRecDepth 20000 in
theorem ggX4_again_X1_record : GoodIn wsX4_again wsX1_record := goodIn_r _ [23, 24, 25, 26, 27, 28, 29, 6, 30, 31, 32, 33, 34, 35, 36, 13, 37, 38, 18, 39, 8, 40, 41, 42, 43, 44, 45, 46, 47, 69, 70, 71, 61, 62, 63, 64, 65, 66, 67, 68, 72, 73] (by decide +kernel) (by decide +kernel)
set_option maxRecDepth 20000 in
theorem gX4_again_X1_record : GoodIn wsX4_again (wsV RX4 57 RX1 yX1_record wsX1_record) := goodIn_app (goodIn_of _ (by decide +kernel)) ggX4_again_X1_record
set_option maxRecDepth 20000 in
theorem ggX4_again_J6_bitCount_0f7a4 : GoodIn wsX4_again wsJ6_bitCount_0f7a4 := goodIn_r _ [51, 52, 53, 54] (by decide +kernel) (by decide +kernel)
set_option maxRecDepth 20000 in
theorem gX4_again_J6_bitCount_0f7a4 : GoodIn wsX4_again (va_wsS RX4 105 yJ6_bitCount_0f7a4 wsJ6_bitCount_0f7a4) := goodIn_app (goodIn_of _ (by decide +kernel)) ggX4_again_J6_bitCount_0f7a4
theorem dX4_again_0 : decode cX4_again 0 = .ok (.aload_n 0, 1) := by decide +kernel
theorem dX4_again_1 : decode cX4_again 1 = .ok (.getfield 10, 3) := by decide +kernel
theorem dX4_again_4 : decode cX4_again 4 = .ok (.iload_n 1, 1) := by decide +kernel
theorem dX4_again_5 : decode cX4_again 5 = .ok (.invokevirtual 74, 3) := by decide +kernel
theorem dX4_again_8 : decode cX4_again 8 = .ok (.ifCond .eq 14, 3) := by decide +kernel
theorem dX4_again_11 : decode cX4_again 11 = .ok (.aload_n 0, 1) := by decide +kernel
theorem dX4_again_12 : decode cX4_again 12 = .ok (.getfield 10, 3) := by decide +kernel
theorem dX4_again_15 : decode cX4_again 15 = .ok (.iload_n 2, 1) := by decide +kernel
theorem dX4_again_16 : decode cX4_again 16 = .ok (.invokevirtual 78, 3) := by decide +kernel
theorem dX4_again_19 : decode cX4_again 19 = .ok (.ifCond .ne 5, 3) := by decide +kernel
theorem dX4_again_22 : decode cX4_again 22 = .ok (.iconst (-1), 1) := by decide +kernel
theorem dX4_again_23 : decode cX4_again 23 = .ok (.ireturn, 1) := by decide +kernel
theorem dX4_again_24 : decode cX4_again 24 = .ok (.aload_n 0, 1) := by decide +kernel
theorem dX4_again_25 : decode cX4_again 25 = .ok (.getfield 10, 3) := by decide +kernel
theorem dX4_again_28 : decode cX4_again 28 = .ok (.iload_n 1, 1) := by decide +kernel
theorem dX4_again_29 : decode cX4_again 29 = .ok (.iload_n 2, 1) := by decide +kernel
theorem dX4_again_30 : decode cX4_again 30 = .ok (.invokevirtual 81, 3) := by decide +kernel
theorem dX4_again_33 : decode cX4_again 33 = .ok (.ifCond .eq 6, 3) := by decide +kernel
theorem dX4_again_36 : decode cX4_again 36 = .ok (.bipush (-5), 2) := by decide +kernel
theorem dX4_again_38 : decode cX4_again 38 = .ok (.ireturn, 1) := by decide +kernel
theorem dX4_again_39 : decode cX4_again 39 = .ok (.aload_n 0, 1) := by decide +kernel
theorem dX4_again_40 : decode cX4_again 40 = .ok (.getfield 19, 3) := by decide +kernel
theorem dX4_again_43 : decode cX4_again 43 = .ok (.aload_n 0, 1) := by decide +kernel
theorem dX4_again_44 : decode cX4_again 44 = .ok (.getfield 10, 3) := by decide +kernel
theorem dX4_again_47 : decode cX4_again 47 = .ok (.invokevirtual 57, 3) := by decide +kernel
theorem dX4_again_50 : decode cX4_again 50 = .ok (.aload_n 0, 1) := by decide +kernel
theorem dX4_again_51 : decode cX4_again 51 = .ok (.getfield 10, 3) := by decide +kernel
theorem dX4_again_54 : decode cX4_again 54 = .ok (.getfield 85, 3) := by decide +kernel
theorem dX4_again_57 : decode cX4_again 57 = .ok (.iload_n 1, 1) := by decide +kernel
theorem dX4_again_58 : decode cX4_again 58 = .ok (.dup2, 1) := by decide +kernel
theorem dX4_again_59 : decode cX4_again 59 = .ok (.iaload, 1) := by decide +kernel
theorem dX4_again_60 : decode cX4_again 60 = .ok (.iconst 1, 1) := by decide +kernel
theorem dX4_again_61 : decode cX4_again 61 = .ok (.iload_n 2, 1) := by decide +kernel
theorem dX4_again_62 : decode cX4_again 62 = .ok (.ishl, 1) := by decide +kernel
theorem dX4_again_63 : decode cX4_again 63 = .ok (.ior, 1) := by decide +kernel
theorem dX4_again_64 : decode cX4_again 64 = .ok (.iastore, 1) := by decide +kernel
theorem dX4_again_65 : decode cX4_again 65 = .ok (.aload_n 0, 1) := by decide +kernel
theorem dX4_again_66 : decode cX4_again 66 = .ok (.getfield 10, 3) := by decide +kernel
theorem dX4_again_69 : decode cX4_again 69 = .ok (.getfield 111, 3) := by decide +kernel
theorem dX4_again_72 : decode cX4_again 72 = .ok (.iload_n 1, 1) := by decide +kernel
theorem dX4_again_73 : decode cX4_again 73 = .ok (.dup2, 1) := by decide +kernel
theorem dX4_again_74 : decode cX4_again 74 = .ok (.iaload, 1) := by decide +kernel
theorem dX4_again_75 : decode cX4_again 75 = .ok (.iconst 1, 1) := by decide +kernel
theorem dX4_again_76 : decode cX4_again 76 = .ok (.iload_n 2, 1) := by decide +kernel
theorem dX4_again_77 : decode cX4_again 77 = .ok (.ishl, 1) := by decide +kernel
theorem dX4_again_78 : decode cX4_again 78 = .ok (.iconst (-1), 1) := by decide +kernel
theorem dX4_again_79 : decode cX4_again 79 = .ok (.ixor, 1) := by decide +kernel
theorem dX4_again_80 : decode cX4_again 80 = .ok (.iand, 1) := by decide +kernel
theorem dX4_again_81 : decode cX4_again 81 = .ok (.iastore, 1) := by decide +kernel
theorem dX4_again_82 : decode cX4_again 82 = .ok (.aload_n 0, 1) := by decide +kernel
theorem dX4_again_83 : decode cX4_again 83 = .ok (.getfield 10, 3) := by decide +kernel
theorem dX4_again_86 : decode cX4_again 86 = .ok (.getfield 85, 3) := by decide +kernel
theorem dX4_again_89 : decode cX4_again 89 = .ok (.iload_n 1, 1) := by decide +kernel
theorem dX4_again_90 : decode cX4_again 90 = .ok (.iaload, 1) := by decide +kernel
theorem dX4_again_91 : decode cX4_again 91 = .ok (.invokestatic 105, 3) := by decide +kernel
theorem dX4_again_94 : decode cX4_again 94 = .ok (.ireturn, 1) := by decide +kernel
set_option maxRecDepth 20000 in
theorem ggX4_hand_X3_hasOwner : GoodIn wsX4_hand wsX3_hasOwner := goodIn_r _ [7, 8, 78, 79, 80, 81, 82, 83, 84, 85] (by decide +kernel) (by decide +kernel)
set_option maxRecDepth 20000 in
theorem gX4_hand_X3_hasOwner : GoodIn wsX4_hand (wsV RX4 74 RX3 yX3_hasOwner wsX3_hasOwner) := goodIn_app (goodIn_of _ (by decide +kernel)) ggX4_hand_X3_hasOwner
set_option maxRecDepth 20000 in
theorem ggX4_hand_X3_hasParcel : GoodIn wsX4_hand wsX3_hasParcel := goodIn_r _ [12, 13, 78, 79, 80, 81, 82, 83, 84, 85] (by decide +kernel) (by decide +kernel)
set_option maxRecDepth 20000 in
theorem gX4_hand_X3_hasParcel : GoodIn wsX4_hand (wsV RX4 78 RX3 yX3_hasParcel wsX3_hasParcel) := goodIn_app (goodIn_of _ (by decide +kernel)) ggX4_hand_X3_hasParcel
set_option maxRecDepth 20000 in
theorem ggX4_hand_X4_isNumber : GoodIn wsX4_hand wsX4_isNumber := goodIn_r _ [17] (by decide +kernel) (by decide +kernel)
set_option maxRecDepth 20000 in
theorem gX4_hand_X4_isNumber : GoodIn wsX4_hand (va_wsS RX4 114 yX4_isNumber wsX4_isNumber) := goodIn_app (goodIn_of _ (by decide +kernel)) ggX4_hand_X4_isNumber
set_option maxRecDepth 20000 in
theorem ggX4_hand_X0_holds : GoodIn wsX4_hand wsX0_holds := goodIn_r _ [22, 23, 24, 25, 26, 21, 27, 28, 29, 30, 31, 86, 87] (by decide +kernel) (by decide +kernel)
set_option maxRecDepth 20000 in
theorem gX4_hand_X0_holds : GoodIn wsX4_hand (wsV RX4 117 RX0 yX0_holds wsX0_holds) := goodIn_app (goodIn_of _ (by decide +kernel)) ggX4_hand_X0_holds
set_option maxRecDepth 20000 in
theorem ggX4_hand_X1_record : GoodIn wsX4_hand wsX1_record := goodIn_r _ [36, 37, 38, 39, 40, 41, 42, 6, 43, 44, 45, 46, 47, 48, 49, 13, 50, 51, 52, 53, 8, 54, 55, 56, 21, 57, 24, 23, 58, 88, 89, 90, 78, 79, 80, 81, 82, 83, 84, 85, 86, 87] (by decide +kernel) (by decide +kernel)
set_option maxRecDepth 20000 in
theorem gX4_hand_X1_record : GoodIn wsX4_hand (wsV RX4 57 RX1 yX1_record wsX1_record) := goodIn_app (goodIn_of _ (by decide +kernel)) ggX4_hand_X1_record
set_option maxRecDepth 20000 in
theorem ggX4_hand_X0_insert : GoodIn wsX4_hand wsX0_insert := goodIn_r _ [62, 23, 24, 58, 46, 47, 48, 25, 26, 21, 27, 28, 29, 30, 31, 86, 87] (by decide +kernel) (by decide +kernel)
set_option maxRecDepth 20000 in
theorem gX4_hand_X0_insert : GoodIn wsX4_hand (wsV RX4 120 RX0 yX0_insert wsX0_insert) := goodIn_app (goodIn_of _ (by decide +kernel)) ggX4_hand_X0_insert
set_option maxRecDepth 20000 in
theorem ggX4_hand_X0_remove : GoodIn wsX4_hand wsX0_remove := goodIn_r _ [66, 67, 19, 20, 21, 22, 23, 24, 25, 26, 27, 28, 29, 30, 31, 68, 69, 70, 71, 58, 46, 47, 48, 86, 87] (by decide +kernel) (by decide +kernel)
set_option maxRecDepth 20000 in
theorem gX4_hand_X0_remove : GoodIn wsX4_hand (wsV RX4 124 RX0 yX0_remove wsX0_remove) := goodIn_app (goodIn_of _ (by decide +kernel)) ggX4_hand_X0_remove
theorem dX4_hand_0 : decode cX4_hand 0 = .ok (.aload_n 0, 1) := by decide +kernel
theorem dX4_hand_1 : decode cX4_hand 1 = .ok (.getfield 10, 3) := by decide +kernel
theorem dX4_hand_4 : decode cX4_hand 4 = .ok (.iload_n 1, 1) := by decide +kernel
theorem dX4_hand_5 : decode cX4_hand 5 = .ok (.invokevirtual 74, 3) := by decide +kernel
theorem dX4_hand_8 : decode cX4_hand 8 = .ok (.ifCond .eq 14, 3) := by decide +kernel
theorem dX4_hand_11 : decode cX4_hand 11 = .ok (.aload_n 0, 1) := by decide +kernel
theorem dX4_hand_12 : decode cX4_hand 12 = .ok (.getfield 10, 3) := by decide +kernel
theorem dX4_hand_15 : decode cX4_hand 15 = .ok (.iload_n 3, 1) := by decide +kernel
theorem dX4_hand_16 : decode cX4_hand 16 = .ok (.invokevirtual 78, 3) := by decide +kernel
theorem dX4_hand_19 : decode cX4_hand 19 = .ok (.ifCond .ne 5, 3) := by decide +kernel
theorem dX4_hand_22 : decode cX4_hand 22 = .ok (.iconst (-1), 1) := by decide +kernel
theorem dX4_hand_23 : decode cX4_hand 23 = .ok (.ireturn, 1) := by decide +kernel
theorem dX4_hand_24 : decode cX4_hand 24 = .ok (.iload_n 2, 1) := by decide +kernel
theorem dX4_hand_25 : decode cX4_hand 25 = .ok (.invokestatic 114, 3) := by decide +kernel
theorem dX4_hand_28 : decode cX4_hand 28 = .ok (.ifCond .ne 6, 3) := by decide +kernel
theorem dX4_hand_31 : decode cX4_hand 31 = .ok (.bipush (-2), 2) := by decide +kernel
theorem dX4_hand_33 : decode cX4_hand 33 = .ok (.ireturn, 1) := by decide +kernel
theorem dX4_hand_34 : decode cX4_hand 34 = .ok (.aload_n 0, 1) := by decide +kernel
theorem dX4_hand_35 : decode cX4_hand 35 = .ok (.getfield 10, 3) := by decide +kernel
theorem dX4_hand_38 : decode cX4_hand 38 = .ok (.getfield 89, 3) := by decide +kernel
theorem dX4_hand_41 : decode cX4_hand 41 = .ok (.iload_n 1, 1) := by decide +kernel
theorem dX4_hand_42 : decode cX4_hand 42 = .ok (.aaload, 1) := by decide +kernel
theorem dX4_hand_43 : decode cX4_hand 43 = .ok (.astore 5, 2) := by decide +kernel
theorem dX4_hand_45 : decode cX4_hand 45 = .ok (.iload 4, 2) := by decide +kernel
theorem dX4_hand_47 : decode cX4_hand 47 = .ok (.ifCond .eq 21, 3) := by decide +kernel
theorem dX4_hand_50 : decode cX4_hand 50 = .ok (.aload 5, 2) := by decide +kernel
theorem dX4_hand_52 : decode cX4_hand 52 = .ok (.getfield 99, 3) := by decide +kernel
theorem dX4_hand_55 : decode cX4_hand 55 = .ok (.bipush 60, 2) := by decide +kernel
theorem dX4_hand_57 : decode cX4_hand 57 = .ok (.if_icmp .ge 7, 3) := by decide +kernel
theorem dX4_hand_60 : decode cX4_hand 60 = .ok (.iconst 1, 1) := by decide +kernel
theorem dX4_hand_61 : decode cX4_hand 61 = .ok (.goto 14, 3) := by decide +kernel
theorem dX4_hand_64 : decode cX4_hand 64 = .ok (.iconst 0, 1) := by decide +kernel
theorem dX4_hand_65 : decode cX4_hand 65 = .ok (.goto 10, 3) := by decide +kernel
theorem dX4_hand_68 : decode cX4_hand 68 = .ok (.aload 5, 2) := by decide +kernel
theorem dX4_hand_70 : decode cX4_hand 70 = .ok (.iload_n 2, 1) := by decide +kernel
theorem dX4_hand_71 : decode cX4_hand 71 = .ok (.iload_n 3, 1) := by decide +kernel
theorem dX4_hand_72 : decode cX4_hand 72 = .ok (.invokevirtual 117, 3) := by decide +kernel
theorem dX4_hand_75 : decode cX4_hand 75 = .ok (.istore 6, 2) := by decide +kernel
theorem dX4_hand_77 : decode cX4_hand 77 = .ok (.iload 6, 2) := by decide +kernel
theorem dX4_hand_79 : decode cX4_hand 79 = .ok (.ifCond .ne 6, 3) := by decide +kernel
theorem dX4_hand_82 : decode cX4_hand 82 = .ok (.bipush (-5), 2) := by decide +kernel
theorem dX4_hand_84 : decode cX4_hand 84 = .ok (.ireturn, 1) := by decide +kernel
theorem dX4_hand_85 : decode cX4_hand 85 = .ok (.aload_n 0, 1) := by decide +kernel
theorem dX4_hand_86 : decode cX4_hand 86 = .ok (.getfield 19, 3) := by decide +kernel
theorem dX4_hand_89 : decode cX4_hand 89 = .ok (.aload_n 0, 1) := by decide +kernel
theorem dX4_hand_90 : decode cX4_hand 90 = .ok (.getfield 10, 3) := by decide +kernel
theorem dX4_hand_93 : decode cX4_hand 93 = .ok (.invokevirtual 57, 3) := by decide +kernel
theorem dX4_hand_96 : decode cX4_hand 96 = .ok (.iload 4, 2) := by decide +kernel
theorem dX4_hand_98 : decode cX4_hand 98 = .ok (.ifCond .eq 13, 3) := by decide +kernel
theorem dX4_hand_101 : decode cX4_hand 101 = .ok (.aload 5, 2) := by decide +kernel
theorem dX4_hand_103 : decode cX4_hand 103 = .ok (.iload_n 2, 1) := by decide +kernel
theorem dX4_hand_104 : decode cX4_hand 104 = .ok (.iload_n 3, 1) := by decide +kernel
theorem dX4_hand_105 : decode cX4_hand 105 = .ok (.invokevirtual 120, 3) := by decide +kernel
theorem dX4_hand_108 : decode cX4_hand 108 = .ok (.goto 10, 3) := by decide +kernel
theorem dX4_hand_111 : decode cX4_hand 111 = .ok (.aload 5, 2) := by decide +kernel
theorem dX4_hand_113 : decode cX4_hand 113 = .ok (.iload_n 2, 1) := by decide +kernel
theorem dX4_hand_114 : decode cX4_hand 114 = .ok (.iload_n 3, 1) := by decide +kernel
theorem dX4_hand_115 : decode cX4_hand 115 = .ok (.invokevirtual 124, 3) := by decide +kernel
theorem dX4_hand_118 : decode cX4_hand 118 = .ok (.aload 5, 2) := by decide +kernel
theorem dX4_hand_120 : decode cX4_hand 120 = .ok (.getfield 99, 3) := by decide +kernel
theorem dX4_hand_123 : decode cX4_hand 123 = .ok (.ireturn, 1) := by decide +kernel
set_option maxRecDepth 20000 in
theorem ggX4_parcel_X3_hasParcel : GoodIn wsX4_parcel wsX3_hasParcel := goodIn_r _ [6, 7, 24, 25, 26, 27, 28, 29, 30, 31] (by decide +kernel) (by decide +kernel)
set_option maxRecDepth 20000 in
theorem gX4_parcel_X3_hasParcel : GoodIn wsX4_parcel (wsV RX4 78 RX3 yX3_hasParcel wsX3_hasParcel) := goodIn_app (goodIn_of _ (by decide +kernel)) ggX4_parcel_X3_hasParcel
set_option maxRecDepth 20000 in
theorem ggX4_parcel_X3_order : GoodIn wsX4_parcel wsX3_order := goodIn_r _ [11, 12, 24, 25, 26, 27, 28, 29, 30, 31] (by decide +kernel) (by decide +kernel)
set_option maxRecDepth 20000 in
theorem gX4_parcel_X3_order : GoodIn wsX4_parcel (wsV RX4 130 RX3 yX3_order wsX3_order) := goodIn_app (goodIn_of _ (by decide +kernel)) ggX4_parcel_X3_order
set_option maxRecDepth 20000 in
theorem ggX4_parcel_X3_ownersOf : GoodIn wsX4_parcel wsX3_ownersOf := goodIn_r _ [16, 17, 24, 25, 26, 27, 28, 29, 30, 31] (by decide +kernel) (by decide +kernel)
set_option maxRecDepth 20000 in
theorem gX4_parcel_X3_ownersOf : GoodIn wsX4_parcel (wsV RX4 134 RX3 yX3_ownersOf wsX3_ownersOf) := goodIn_app (goodIn_of _ (by decide +kernel)) ggX4_parcel_X3_ownersOf
theorem dX4_parcel_0 : decode cX4_parcel 0 = .ok (.aload_n 0, 1) := by decide +kernel
theorem dX4_parcel_1 : decode cX4_parcel 1 = .ok (.getfield 10, 3) := by decide +kernel
theorem dX4_parcel_4 : decode cX4_parcel 4 = .ok (.iload_n 1, 1) := by decide +kernel
theorem dX4_parcel_5 : decode cX4_parcel 5 = .ok (.invokevirtual 78, 3) := by decide +kernel
theorem dX4_parcel_8 : decode cX4_parcel 8 = .ok (.ifCond .ne 5, 3) := by decide +kernel
theorem dX4_parcel_11 : decode cX4_parcel 11 = .ok (.iconst (-1), 1) := by decide +kernel
theorem dX4_parcel_12 : decode cX4_parcel 12 = .ok (.ireturn, 1) := by decide +kernel
theorem dX4_parcel_13 : decode cX4_parcel 13 = .ok (.iload_n 2, 1) := by decide +kernel
theorem dX4_parcel_14 : decode cX4_parcel 14 = .ok (.ifCond .lt 9, 3) := by decide +kernel
theorem dX4_parcel_17 : decode cX4_parcel 17 = .ok (.iload_n 2, 1) := by decide +kernel
theorem dX4_parcel_18 : decode cX4_parcel 18 = .ok (.bipush 10, 2) := by decide +kernel
theorem dX4_parcel_20 : decode cX4_parcel 20 = .ok (.if_icmp .le 6, 3) := by decide +kernel
theorem dX4_parcel_23 : decode cX4_parcel 23 = .ok (.bipush (-2), 2) := by decide +kernel
theorem dX4_parcel_25 : decode cX4_parcel 25 = .ok (.ireturn, 1) := by decide +kernel
theorem dX4_parcel_26 : decode cX4_parcel 26 = .ok (.iload_n 2, 1) := by decide +kernel
theorem dX4_parcel_27 : decode cX4_parcel 27 = .ok (.ifCond .ne 13, 3) := by decide +kernel
theorem dX4_parcel_30 : decode cX4_parcel 30 = .ok (.aload_n 0, 1) := by decide +kernel
theorem dX4_parcel_31 : decode cX4_parcel 31 = .ok (.getfield 10, 3) := by decide +kernel
theorem dX4_parcel_34 : decode cX4_parcel 34 = .ok (.getfield 127, 3) := by decide +kernel
theorem dX4_parcel_37 : decode cX4_parcel 37 = .ok (.iload_n 1, 1) := by decide +kernel
theorem dX4_parcel_38 : decode cX4_parcel 38 = .ok (.iaload, 1) := by decide +kernel
theorem dX4_parcel_39 : decode cX4_parcel 39 = .ok (.ireturn, 1) := by decide +kernel
theorem dX4_parcel_40 : decode cX4_parcel 40 = .ok (.iload_n 2, 1) := by decide +kernel
theorem dX4_parcel_41 : decode cX4_parcel 41 = .ok (.bipush 8, 2) := by decide +kernel
theorem dX4_parcel_43 : decode cX4_parcel 43 = .ok (.if_icmp .gt 33, 3) := by decide +kernel
theorem dX4_parcel_46 : decode cX4_parcel 46 = .ok (.iload_n 2, 1) := by decide +kernel
theorem dX4_parcel_47 : decode cX4_parcel 47 = .ok (.aload_n 0, 1) := by decide +kernel
theorem dX4_parcel_48 : decode cX4_parcel 48 = .ok (.getfield 10, 3) := by decide +kernel
theorem dX4_parcel_51 : decode cX4_parcel 51 = .ok (.getfield 127, 3) := by decide +kernel
theorem dX4_parcel_54 : decode cX4_parcel 54 = .ok (.iload_n 1, 1) := by decide +kernel
theorem dX4_parcel_55 : decode cX4_parcel 55 = .ok (.iaload, 1) := by decide +kernel
theorem dX4_parcel_56 : decode cX4_parcel 56 = .ok (.if_icmp .gt 17, 3) := by decide +kernel
theorem dX4_parcel_59 : decode cX4_parcel 59 = .ok (.aload_n 0, 1) := by decide +kernel
theorem dX4_parcel_60 : decode cX4_parcel 60 = .ok (.getfield 10, 3) := by decide +kernel
theorem dX4_parcel_63 : decode cX4_parcel 63 = .ok (.iload_n 1, 1) := by decide +kernel
theorem dX4_parcel_64 : decode cX4_parcel 64 = .ok (.iload_n 2, 1) := by decide +kernel
theorem dX4_parcel_65 : decode cX4_parcel 65 = .ok (.iconst 1, 1) := by decide +kernel
theorem dX4_parcel_66 : decode cX4_parcel 66 = .ok (.isub, 1) := by decide +kernel
theorem dX4_parcel_67 : decode cX4_parcel 67 = .ok (.invokevirtual 130, 3) := by decide +kernel
theorem dX4_parcel_70 : decode cX4_parcel 70 = .ok (.goto 5, 3) := by decide +kernel
theorem dX4_parcel_73 : decode cX4_parcel 73 = .ok (.bipush (-6), 2) := by decide +kernel
theorem dX4_parcel_75 : decode cX4_parcel 75 = .ok (.ireturn, 1) := by decide +kernel
theorem dX4_parcel_76 : decode cX4_parcel 76 = .ok (.aload_n 0, 1) := by decide +kernel
theorem dX4_parcel_77 : decode cX4_parcel 77 = .ok (.getfield 10, 3) := by decide +kernel
theorem dX4_parcel_80 : decode cX4_parcel 80 = .ok (.iload_n 2, 1) := by decide +kernel
theorem dX4_parcel_81 : decode cX4_parcel 81 = .ok (.bipush 9, 2) := by decide +kernel
theorem dX4_parcel_83 : decode cX4_parcel 83 = .ok (.if_icmp .ne 13, 3) := by decide +kernel
theorem dX4_parcel_86 : decode cX4_parcel 86 = .ok (.aload_n 0, 1) := by decide +kernel
theorem dX4_parcel_87 : decode cX4_parcel 87 = .ok (.getfield 10, 3) := by decide +kernel
theorem dX4_parcel_90 : decode cX4_parcel 90 = .ok (.getfield 85, 3) := by decide +kernel
theorem dX4_parcel_93 : decode cX4_parcel 93 = .ok (.goto 10, 3) := by decide +kernel
theorem dX4_parcel_96 : decode cX4_parcel 96 = .ok (.aload_n 0, 1) := by decide +kernel
theorem dX4_parcel_97 : decode cX4_parcel 97 = .ok (.getfield 10, 3) := by decide +kernel
theorem dX4_parcel_100 : decode cX4_parcel 100 = .ok (.getfield 111, 3) := by decide +kernel
theorem dX4_parcel_103 : decode cX4_parcel 103 = .ok (.iload_n 1, 1) := by decide +kernel
theorem dX4_parcel_104 : decode cX4_parcel 104 = .ok (.invokevirtual 134, 3) := by decide +kernel
theorem dX4_parcel_107 : decode cX4_parcel 107 = .ok (.ireturn, 1) := by decide +kernel
set_option maxRecDepth 20000 in
theorem ggX4_text_X4_isNumber : GoodIn wsX4_text wsX4_isNumber := goodIn_r _ [5] (by decide +kernel) (by decide +kernel)
set_option maxRecDepth 20000 in
theorem gX4_text_X4_isNumber : GoodIn wsX4_text (va_wsS RX4 114 yX4_isNumber wsX4_isNumber) := goodIn_app (goodIn_of _ (by decide +kernel)) ggX4_text_X4_isNumber
set_option maxRecDepth 20000 in
theorem ggX4_text_X0_earliestIssue : GoodIn wsX4_text wsX0_earliestIssue := goodIn_r _ [10, 11, 12, 13, 14, 9, 15, 16, 17, 18, 19, 20, 21, 22, 23, 24, 25, 26, 27, 28, 29, 30, 31, 32, 33, 48, 49] (by decide +kernel) (by decide +kernel)
set_option maxRecDepth 20000 in
theorem gX4_text_X0_earliestIssue : GoodIn wsX4_text (wsV RX4 142 RX0 yX0_earliestIssue wsX0_earliestIssue) := goodIn_app (goodIn_of _ (by decide +kernel)) ggX4_text_X0_earliestIssue
theorem dX4_text_0 : decode cX4_text 0 = .ok (.iload_n 1, 1) := by decide +kernel
theorem dX4_text_1 : decode cX4_text 1 = .ok (.invokestatic 114, 3) := by decide +kernel
theorem dX4_text_4 : decode cX4_text 4 = .ok (.ifCond .ne 6, 3) := by decide +kernel
theorem dX4_text_7 : decode cX4_text 7 = .ok (.bipush (-2), 2) := by decide +kernel
theorem dX4_text_9 : decode cX4_text 9 = .ok (.ireturn, 1) := by decide +kernel
theorem dX4_text_10 : decode cX4_text 10 = .ok (.aload_n 0, 1) := by decide +kernel
theorem dX4_text_11 : decode cX4_text 11 = .ok (.getfield 10, 3) := by decide +kernel
theorem dX4_text_14 : decode cX4_text 14 = .ok (.getfield 138, 3) := by decide +kernel
theorem dX4_text_17 : decode cX4_text 17 = .ok (.iload_n 1, 1) := by decide +kernel
theorem dX4_text_18 : decode cX4_text 18 = .ok (.invokevirtual 142, 3) := by decide +kernel
theorem dX4_text_21 : decode cX4_text 21 = .ok (.ireturn, 1) := by decide +kernel
set_option maxRecDepth 20000 in
theorem ggX4_leaf_X3_hasOwner : GoodIn wsX4_leaf wsX3_hasOwner := goodIn_r _ [6, 7, 64, 65, 66, 67, 68, 69, 70, 71] (by decide +kernel) (by decide +kernel)
set_option maxRecDepth 20000 in
theorem gX4_leaf_X3_hasOwner : GoodIn wsX4_leaf (wsV RX4 74 RX3 yX3_hasOwner wsX3_hasOwner) := goodIn_app (goodIn_of _ (by decide +kernel)) ggX4_leaf_X3_hasOwner
set_option maxRecDepth 20000 in
theorem ggX4_leaf_X4_isNumber : GoodIn wsX4_leaf wsX4_isNumber := goodIn_r _ [11] (by decide +kernel) (by decide +kernel)
set_option maxRecDepth 20000 in
theorem gX4_leaf_X4_isNumber : GoodIn wsX4_leaf (va_wsS RX4 114 yX4_isNumber wsX4_isNumber) := goodIn_app (goodIn_of _ (by decide +kernel)) ggX4_leaf_X4_isNumber
set_option maxRecDepth 20000 in
theorem ggX4_leaf_X0_held : GoodIn wsX4_leaf wsX0_held := goodIn_r _ [16, 17, 18, 19, 15, 20, 21, 22, 23, 24, 25, 26, 27, 28, 29, 30, 31, 32, 33, 34, 35, 36, 72, 73] (by decide +kernel) (by decide +kernel)
set_option maxRecDepth 20000 in
theorem gX4_leaf_X0_held : GoodIn wsX4_leaf (wsV RX4 145 RX0 yX0_held wsX0_held) := goodIn_app (goodIn_of _ (by decide +kernel)) ggX4_leaf_X0_held
set_option maxRecDepth 20000 in
theorem ggX4_leaf_X0_earliestIssue : GoodIn wsX4_leaf wsX0_earliestIssue := goodIn_r _ [40, 29, 17, 18, 19, 15, 20, 21, 22, 23, 24, 25, 26, 27, 28, 30, 31, 32, 33, 34, 35, 36, 41, 42, 43, 72, 73] (by decide +kernel) (by decide +kernel)
set_option maxRecDepth 20000 in
theorem gX4_leaf_X0_earliestIssue : GoodIn wsX4_leaf (wsV RX4 142 RX0 yX0_earliestIssue wsX0_earliestIssue) := goodIn_app (goodIn_of _ (by decide +kernel)) ggX4_leaf_X0_earliestIssue
set_option maxRecDepth 20000 in
theorem ggX4_leaf_X0_latestIssue : GoodIn wsX4_leaf wsX0_latestIssue := goodIn_r _ [47, 29, 17, 18, 19, 15, 20, 21, 22, 23, 24, 25, 26, 27, 28, 30, 31, 32, 33, 34, 35, 36, 41, 42, 43, 72, 73] (by decide +kernel) (by decide +kernel)
set_option maxRecDepth 20000 in
theorem gX4_leaf_X0_latestIssue : GoodIn wsX4_leaf (wsV RX4 148 RX0 yX0_latestIssue wsX0_latestIssue) := goodIn_app (goodIn_of _ (by decide +kernel)) ggX4_leaf_X0_latestIssue
set_option maxRecDepth 20000 in
theorem ggX4_leaf_X0_difference : GoodIn wsX4_leaf wsX0_difference := goodIn_r _ [51, 52, 13, 14, 15, 16, 17, 18, 19, 20, 21, 22, 23, 24, 25, 26, 27, 28, 29, 30, 31, 32, 33, 34, 35, 36, 53, 38, 39, 40, 41, 42, 43, 54, 55, 56, 57, 72, 73] (by decide +kernel) (by decide +kernel)
set_option maxRecDepth 20000 in
theorem gX4_leaf_X0_difference : GoodIn wsX4_leaf (wsV RX4 151 RX0 yX0_difference wsX0_difference) := goodIn_app (goodIn_of _ (by decide +kernel)) ggX4_leaf_X0_difference
theorem dX4_leaf_0 : decode cX4_leaf 0 = .ok (.aload_n 0, 1) := by decide +kernel
theorem dX4_leaf_1 : decode cX4_leaf 1 = .ok (.getfield 10, 3) := by decide +kernel
theorem dX4_leaf_4 : decode cX4_leaf 4 = .ok (.iload_n 1, 1) := by decide +kernel
theorem dX4_leaf_5 : decode cX4_leaf 5 = .ok (.invokevirtual 74, 3) := by decide +kernel
theorem dX4_leaf_8 : decode cX4_leaf 8 = .ok (.ifCond .ne 5, 3) := by decide +kernel
theorem dX4_leaf_11 : decode cX4_leaf 11 = .ok (.iconst (-1), 1) := by decide +kernel
theorem dX4_leaf_12 : decode cX4_leaf 12 = .ok (.ireturn, 1) := by decide +kernel
theorem dX4_leaf_13 : decode cX4_leaf 13 = .ok (.iload_n 2, 1) := by decide +kernel
theorem dX4_leaf_14 : decode cX4_leaf 14 = .ok (.invokestatic 114, 3) := by decide +kernel
theorem dX4_leaf_17 : decode cX4_leaf 17 = .ok (.ifCond .ne 6, 3) := by decide +kernel
theorem dX4_leaf_20 : decode cX4_leaf 20 = .ok (.bipush (-2), 2) := by decide +kernel
theorem dX4_leaf_22 : decode cX4_leaf 22 = .ok (.ireturn, 1) := by decide +kernel
theorem dX4_leaf_23 : decode cX4_leaf 23 = .ok (.aload_n 0, 1) := by decide +kernel
theorem dX4_leaf_24 : decode cX4_leaf 24 = .ok (.getfield 10, 3) := by decide +kernel
theorem dX4_leaf_27 : decode cX4_leaf 27 = .ok (.getfield 89, 3) := by decide +kernel
theorem dX4_leaf_30 : decode cX4_leaf 30 = .ok (.iload_n 1, 1) := by decide +kernel
theorem dX4_leaf_31 : decode cX4_leaf 31 = .ok (.aaload, 1) := by decide +kernel
theorem dX4_leaf_32 : decode cX4_leaf 32 = .ok (.astore 4, 2) := by decide +kernel
theorem dX4_leaf_34 : decode cX4_leaf 34 = .ok (.iload_n 3, 1) := by decide +kernel
theorem dX4_leaf_35 : decode cX4_leaf 35 = .ok (.tableswitch 73 0 5 #[37, 44, 51, 58, 58, 58], 37) := by decide +kernel
theorem dX4_leaf_72 : decode cX4_leaf 72 = .ok (.aload 4, 2) := by decide +kernel
theorem dX4_leaf_74 : decode cX4_leaf 74 = .ok (.iload_n 2, 1) := by decide +kernel
theorem dX4_leaf_75 : decode cX4_leaf 75 = .ok (.invokevirtual 145, 3) := by decide +kernel
theorem dX4_leaf_78 : decode cX4_leaf 78 = .ok (.ireturn, 1) := by decide +kernel
theorem dX4_leaf_79 : decode cX4_leaf 79 = .ok (.aload 4, 2) := by decide +kernel
theorem dX4_leaf_81 : decode cX4_leaf 81 = .ok (.iload_n 2, 1) := by decide +kernel
theorem dX4_leaf_82 : decode cX4_leaf 82 = .ok (.invokevirtual 142, 3) := by decide +kernel
theorem dX4_leaf_85 : decode cX4_leaf 85 = .ok (.ireturn, 1) := by decide +kernel
theorem dX4_leaf_86 : decode cX4_leaf 86 = .ok (.aload 4, 2) := by decide +kernel
theorem dX4_leaf_88 : decode cX4_leaf 88 = .ok (.iload_n 2, 1) := by decide +kernel
theorem dX4_leaf_89 : decode cX4_leaf 89 = .ok (.invokevirtual 148, 3) := by decide +kernel
theorem dX4_leaf_92 : decode cX4_leaf 92 = .ok (.ireturn, 1) := by decide +kernel
theorem dX4_leaf_93 : decode cX4_leaf 93 = .ok (.aload 4, 2) := by decide +kernel
theorem dX4_leaf_95 : decode cX4_leaf 95 = .ok (.aload_n 0, 1) := by decide +kernel
theorem dX4_leaf_96 : decode cX4_leaf 96 = .ok (.getfield 10, 3) := by decide +kernel
theorem dX4_leaf_99 : decode cX4_leaf 99 = .ok (.getfield 138, 3) := by decide +kernel
theorem dX4_leaf_102 : decode cX4_leaf 102 = .ok (.iload_n 2, 1) := by decide +kernel
theorem dX4_leaf_103 : decode cX4_leaf 103 = .ok (.iload_n 3, 1) := by decide +kernel
theorem dX4_leaf_104 : decode cX4_leaf 104 = .ok (.invokevirtual 151, 3) := by decide +kernel
theorem dX4_leaf_107 : decode cX4_leaf 107 = .ok (.ireturn, 1) := by decide +kernel
theorem dX4_leaf_108 : decode cX4_leaf 108 = .ok (.bipush (-2), 2) := by decide +kernel
theorem dX4_leaf_110 : decode cX4_leaf 110 = .ok (.ireturn, 1) := by decide +kernel
set_option maxRecDepth 20000 in
theorem ggX4_of_X3_hasOwner : GoodIn wsX4_of wsX3_hasOwner := goodIn_r _ [6, 7, 66, 67, 68, 69, 70, 71, 72, 73] (by decide +kernel) (by decide +kernel)
set_option maxRecDepth 20000 in
theorem gX4_of_X3_hasOwner : GoodIn wsX4_of (wsV RX4 74 RX3 yX3_hasOwner wsX3_hasOwner) := goodIn_app (goodIn_of _ (by decide +kernel)) ggX4_of_X3_hasOwner
set_option maxRecDepth 20000 in
theorem ggX4_of_X0_differences : GoodIn wsX4_of wsX0_differences := goodIn_r _ [12, 13, 14, 15, 11, 16, 17, 18, 19, 20, 21, 22, 23, 24, 25, 26, 27, 28, 29, 30, 31, 32, 33, 34, 35, 36, 37, 38, 39, 40, 41, 42, 43, 44, 45, 46, 47, 48, 49, 50, 51, 74, 75] (by decide +kernel) (by decide +kernel)
set_option maxRecDepth 20000 in
theorem gX4_of_X0_differences : GoodIn wsX4_of (wsV RX4 155 RX0 yX0_differences wsX0_differences) := goodIn_app (goodIn_of _ (by decide +kernel)) ggX4_of_X0_differences
set_option maxRecDepth 20000 in
theorem ggX4_of_X0_isSameAs : GoodIn wsX4_of wsX0_isSameAs := goodIn_r _ [55, 32, 33, 74, 75] (by decide +kernel) (by decide +kernel)
set_option maxRecDepth 20000 in
theorem gX4_of_X0_isSameAs : GoodIn wsX4_of (wsV RX4 159 RX0 yX0_isSameAs wsX0_isSameAs) := goodIn_app (goodIn_of _ (by decide +kernel)) ggX4_of_X0_isSameAs
set_option maxRecDepth 20000 in
theorem ggX4_of_X0_checkNumber : GoodIn wsX4_of wsX0_checkNumber := goodIn_r _ [59, 32, 33, 38, 39, 11, 40, 45, 46, 47, 74, 75] (by decide +kernel) (by decide +kernel)
set_option maxRecDepth 20000 in
theorem gX4_of_X0_checkNumber : GoodIn wsX4_of (wsV RX4 163 RX0 yX0_checkNumber wsX0_checkNumber) := goodIn_app (goodIn_of _ (by decide +kernel)) ggX4_of_X0_checkNumber
theorem dX4_of_0 : decode cX4_of 0 = .ok (.aload_n 0, 1) := by decide +kernel
theorem dX4_of_1 : decode cX4_of 1 = .ok (.getfield 10, 3) := by decide +kernel
theorem dX4_of_4 : decode cX4_of 4 = .ok (.iload_n 1, 1) := by decide +kernel
theorem dX4_of_5 : decode cX4_of 5 = .ok (.invokevirtual 74, 3) := by decide +kernel
theorem dX4_of_8 : decode cX4_of 8 = .ok (.ifCond .ne 5, 3) := by decide +kernel
theorem dX4_of_11 : decode cX4_of 11 = .ok (.iconst (-1), 1) := by decide +kernel
theorem dX4_of_12 : decode cX4_of 12 = .ok (.ireturn, 1) := by decide +kernel
theorem dX4_of_13 : decode cX4_of 13 = .ok (.aload_n 0, 1) := by decide +kernel
theorem dX4_of_14 : decode cX4_of 14 = .ok (.getfield 10, 3) := by decide +kernel
theorem dX4_of_17 : decode cX4_of 17 = .ok (.getfield 89, 3) := by decide +kernel
theorem dX4_of_20 : decode cX4_of 20 = .ok (.iload_n 1, 1) := by decide +kernel
theorem dX4_of_21 : decode cX4_of 21 = .ok (.aaload, 1) := by decide +kernel
theorem dX4_of_22 : decode cX4_of 22 = .ok (.astore_n 3, 1) := by decide +kernel
theorem dX4_of_23 : decode cX4_of 23 = .ok (.iload_n 2, 1) := by decide +kernel
theorem dX4_of_24 : decode cX4_of 24 = .ok (.tableswitch 111 0 7 #[48, 53, 63, 73, 73, 73, 86, 106], 48) := by decide +kernel
theorem dX4_of_72 : decode cX4_of 72 = .ok (.aload_n 3, 1) := by decide +kernel
theorem dX4_of_73 : decode cX4_of 73 = .ok (.getfield 99, 3) := by decide +kernel
theorem dX4_of_76 : decode cX4_of 76 = .ok (.ireturn, 1) := by decide +kernel
theorem dX4_of_77 : decode cX4_of 77 = .ok (.aload_n 0, 1) := by decide +kernel
theorem dX4_of_78 : decode cX4_of 78 = .ok (.getfield 10, 3) := by decide +kernel
theorem dX4_of_81 : decode cX4_of 81 = .ok (.getfield 85, 3) := by decide +kernel
theorem dX4_of_84 : decode cX4_of 84 = .ok (.iload_n 1, 1) := by decide +kernel
theorem dX4_of_85 : decode cX4_of 85 = .ok (.iaload, 1) := by decide +kernel
theorem dX4_of_86 : decode cX4_of 86 = .ok (.ireturn, 1) := by decide +kernel
theorem dX4_of_87 : decode cX4_of 87 = .ok (.aload_n 0, 1) := by decide +kernel
theorem dX4_of_88 : decode cX4_of 88 = .ok (.getfield 10, 3) := by decide +kernel
theorem dX4_of_91 : decode cX4_of 91 = .ok (.getfield 111, 3) := by decide +kernel
theorem dX4_of_94 : decode cX4_of 94 = .ok (.iload_n 1, 1) := by decide +kernel
theorem dX4_of_95 : decode cX4_of 95 = .ok (.iaload, 1) := by decide +kernel
theorem dX4_of_96 : decode cX4_of 96 = .ok (.ireturn, 1) := by decide +kernel
theorem dX4_of_97 : decode cX4_of 97 = .ok (.aload_n 3, 1) := by decide +kernel
theorem dX4_of_98 : decode cX4_of 98 = .ok (.aload_n 0, 1) := by decide +kernel
theorem dX4_of_99 : decode cX4_of 99 = .ok (.getfield 10, 3) := by decide +kernel
theorem dX4_of_102 : decode cX4_of 102 = .ok (.getfield 138, 3) := by decide +kernel
theorem dX4_of_105 : decode cX4_of 105 = .ok (.iload_n 2, 1) := by decide +kernel
theorem dX4_of_106 : decode cX4_of 106 = .ok (.invokevirtual 155, 3) := by decide +kernel
theorem dX4_of_109 : decode cX4_of 109 = .ok (.ireturn, 1) := by decide +kernel
theorem dX4_of_110 : decode cX4_of 110 = .ok (.aload_n 3, 1) := by decide +kernel
theorem dX4_of_111 : decode cX4_of 111 = .ok (.aload_n 0, 1) := by decide +kernel
theorem dX4_of_112 : decode cX4_of 112 = .ok (.getfield 10, 3) := by decide +kernel
theorem dX4_of_115 : decode cX4_of 115 = .ok (.getfield 138, 3) := by decide +kernel
theorem dX4_of_118 : decode cX4_of 118 = .ok (.invokevirtual 159, 3) := by decide +kernel
theorem dX4_of_121 : decode cX4_of 121 = .ok (.ifCond .eq 7, 3) := by decide +kernel
theorem dX4_of_124 : decode cX4_of 124 = .ok (.iconst 1, 1) := by decide +kernel
theorem dX4_of_125 : decode cX4_of 125 = .ok (.goto 4, 3) := by decide +kernel
theorem dX4_of_128 : decode cX4_of 128 = .ok (.iconst 0, 1) := by decide +kernel
theorem dX4_of_129 : decode cX4_of 129 = .ok (.ireturn, 1) := by decide +kernel
theorem dX4_of_130 : decode cX4_of 130 = .ok (.aload_n 3, 1) := by decide +kernel
theorem dX4_of_131 : decode cX4_of 131 = .ok (.invokevirtual 163, 3) := by decide +kernel
theorem dX4_of_134 : decode cX4_of 134 = .ok (.ireturn, 1) := by decide +kernel
theorem dX4_of_135 : decode cX4_of 135 = .ok (.bipush (-2), 2) := by decide +kernel
theorem dX4_of_137 : decode cX4_of 137 = .ok (.ireturn, 1) := by decide +kernel
set_option maxRecDepth 20000 in
theorem ggX4_count_X0_checkNumber : GoodIn wsX4_count wsX0_checkNumber := goodIn_r _ [8, 9, 10, 11, 12, 7, 13, 14, 15, 16, 53, 54] (by decide +kernel) (by decide +kernel)
set_option maxRecDepth 20000 in
theorem gX4_count_X0_checkNumber : GoodIn wsX4_count (wsV RX4 163 RX0 yX0_checkNumber wsX0_checkNumber) := goodIn_app (goodIn_of _ (by decide +kernel)) ggX4_count_X0_checkNumber
set_option maxRecDepth 20000 in
theorem ggX4_count_X3_ownersWithRightBinders : GoodIn wsX4_count wsX3_ownersWithRightBinders := goodIn_r _ [21, 22, 23, 24, 25, 26, 27, 7, 28, 9, 10, 45, 46, 47, 48, 49, 50, 51, 52, 53, 54] (by decide +kernel) (by decide +kernel)
set_option maxRecDepth 20000 in
theorem gX4_count_X3_ownersWithRightBinders : GoodIn wsX4_count (wsV RX4 166 RX3 yX3_ownersWithRightBinders wsX3_ownersWithRightBinders) := goodIn_app (goodIn_of _ (by decide +kernel)) ggX4_count_X3_ownersWithRightBinders
set_option maxRecDepth 20000 in
theorem ggX4_count_X0_leavesOf : GoodIn wsX4_count wsX0_leavesOf := goodIn_r _ [32, 9, 10, 14, 15, 7, 16, 53, 54] (by decide +kernel) (by decide +kernel)
set_option maxRecDepth 20000 in
theorem gX4_count_X0_leavesOf : GoodIn wsX4_count (wsV RX4 169 RX0 yX0_leavesOf wsX0_leavesOf) := goodIn_app (goodIn_of _ (by decide +kernel)) ggX4_count_X0_leavesOf
