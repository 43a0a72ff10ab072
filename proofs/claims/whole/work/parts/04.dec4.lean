theorem dX5_earliest_21 : decode cX5_earliest 21 = .ok (.invokevirtual 60, 3) := by decide +kernel
theorem dX5_earliest_24 : decode cX5_earliest 24 = .ok (.iload_n 2, 1) := by decide +kernel
theorem dX5_earliest_25 : decode cX5_earliest 25 = .ok (.if_icmp .ne 30, 3) := by decide +kernel
theorem dX5_earliest_28 : decode cX5_earliest 28 = .ok (.iload_n 3, 1) := by decide +kernel
theorem dX5_earliest_29 : decode cX5_earliest 29 = .ok (.bipush (-6), 2) := by decide +kernel
theorem dX5_earliest_31 : decode cX5_earliest 31 = .ok (.if_icmp .eq 19, 3) := by decide +kernel
theorem dX5_earliest_34 : decode cX5_earliest 34 = .ok (.aload_n 0, 1) := by decide +kernel
theorem dX5_earliest_35 : decode cX5_earliest 35 = .ok (.iload_n 1, 1) := by decide +kernel
theorem dX5_earliest_36 : decode cX5_earliest 36 = .ok (.iload 4, 2) := by decide +kernel
theorem dX5_earliest_38 : decode cX5_earliest 38 = .ok (.invokevirtual 67, 3) := by decide +kernel
theorem dX5_earliest_41 : decode cX5_earliest 41 = .ok (.aload_n 0, 1) := by decide +kernel
theorem dX5_earliest_42 : decode cX5_earliest 42 = .ok (.iload_n 1, 1) := by decide +kernel
theorem dX5_earliest_43 : decode cX5_earliest 43 = .ok (.iload_n 3, 1) := by decide +kernel
theorem dX5_earliest_44 : decode cX5_earliest 44 = .ok (.invokevirtual 67, 3) := by decide +kernel
theorem dX5_earliest_47 : decode cX5_earliest 47 = .ok (.if_icmp .ge 8, 3) := by decide +kernel
theorem dX5_earliest_50 : decode cX5_earliest 50 = .ok (.iload 4, 2) := by decide +kernel
theorem dX5_earliest_52 : decode cX5_earliest 52 = .ok (.goto 4, 3) := by decide +kernel
theorem dX5_earliest_55 : decode cX5_earliest 55 = .ok (.iload_n 3, 1) := by decide +kernel
theorem dX5_earliest_56 : decode cX5_earliest 56 = .ok (.istore_n 3, 1) := by decide +kernel
theorem dX5_earliest_57 : decode cX5_earliest 57 = .ok (.iinc 4 1, 3) := by decide +kernel
theorem dX5_earliest_60 : decode cX5_earliest 60 = .ok (.goto (-54), 3) := by decide +kernel
theorem dX5_earliest_63 : decode cX5_earliest 63 = .ok (.iload_n 3, 1) := by decide +kernel
theorem dX5_earliest_64 : decode cX5_earliest 64 = .ok (.ireturn, 1) := by decide +kernel
set_option maxRecDepth 20000 in
theorem ggX5_doParcel_X5_orderOf : GoodIn wsX5_doParcel wsX5_orderOf := goodIn_r _ [6, 1, 39, 40, 41, 42, 43, 44, 45, 46, 47, 48, 49, 50, 51] (by decide +kernel) (by decide +kernel)
set_option maxRecDepth 20000 in
theorem gX5_doParcel_X5_orderOf : GoodIn wsX5_doParcel (wsV RX5 70 RX5 yX5_orderOf wsX5_orderOf) := goodIn_app (goodIn_of _ (by decide +kernel)) ggX5_doParcel_X5_orderOf
set_option maxRecDepth 20000 in
theorem ggX5_doParcel_X5_earliest : GoodIn wsX5_doParcel wsX5_earliest := goodIn_r _ [10, 11, 12, 13, 5, 14, 1, 15, 16, 17, 18, 19, 20, 21, 22, 39, 40, 41, 42, 43, 44, 45, 46, 47, 48, 49, 50, 51] (by decide +kernel) (by decide +kernel)
set_option maxRecDepth 20000 in
theorem gX5_doParcel_X5_earliest : GoodIn wsX5_doParcel (wsV RX5 73 RX5 yX5_earliest wsX5_earliest) := goodIn_app (goodIn_of _ (by decide +kernel)) ggX5_doParcel_X5_earliest
set_option maxRecDepth 20000 in
theorem ggX5_doParcel_X5_removeAll : GoodIn wsX5_doParcel wsX5_removeAll := goodIn_r _ [26, 11, 12, 13, 5, 14, 1, 15, 16, 17, 18, 27, 28, 29, 30, 31, 32, 33, 34, 39, 40, 41, 42, 43, 44, 45, 46, 47, 48, 49, 50, 51] (by decide +kernel) (by decide +kernel)
set_option maxRecDepth 20000 in
theorem gX5_doParcel_X5_removeAll : GoodIn wsX5_doParcel (wsV RX5 76 RX5 yX5_removeAll wsX5_removeAll) := goodIn_app (goodIn_of _ (by decide +kernel)) ggX5_doParcel_X5_removeAll
set_option maxRecDepth 20000 in
theorem ggX5_doParcel_X5_remove : GoodIn wsX5_doParcel wsX5_remove := goodIn_r _ [30, 11, 12, 13, 5, 14, 1, 31, 32, 33, 34, 39, 40, 41, 42, 43, 44, 45, 46, 47, 48, 49, 50, 51] (by decide +kernel) (by decide +kernel)
set_option maxRecDepth 20000 in
theorem gX5_doParcel_X5_remove : GoodIn wsX5_doParcel (wsV RX5 63 RX5 yX5_remove wsX5_remove) := goodIn_app (goodIn_of _ (by decide +kernel)) ggX5_doParcel_X5_remove
set_option maxRecDepth 20000 in
theorem ggX5_doParcel_X5_comes : GoodIn wsX5_doParcel wsX5_comes := goodIn_r _ [38, 11, 12, 13, 5, 14, 1, 31, 32, 33, 34, 39, 40, 41, 42, 43, 44, 45, 46, 47, 48, 49, 50, 51] (by decide +kernel) (by decide +kernel)
set_option maxRecDepth 20000 in
theorem gX5_doParcel_X5_comes : GoodIn wsX5_doParcel (wsV RX5 79 RX5 yX5_comes wsX5_comes) := goodIn_app (goodIn_of _ (by decide +kernel)) ggX5_doParcel_X5_comes
theorem dX5_doParcel_0 : decode cX5_doParcel 0 = .ok (.iconst 0, 1) := by decide +kernel
theorem dX5_doParcel_1 : decode cX5_doParcel 1 = .ok (.istore 4, 2) := by decide +kernel
theorem dX5_doParcel_3 : decode cX5_doParcel 3 = .ok (.iload 4, 2) := by decide +kernel
theorem dX5_doParcel_5 : decode cX5_doParcel 5 = .ok (.aload_n 0, 1) := by decide +kernel
theorem dX5_doParcel_6 : decode cX5_doParcel 6 = .ok (.getfield 7, 3) := by decide +kernel
theorem dX5_doParcel_9 : decode cX5_doParcel 9 = .ok (.iconst 2, 1) := by decide +kernel
theorem dX5_doParcel_10 : decode cX5_doParcel 10 = .ok (.bipush 9, 2) := by decide +kernel
theorem dX5_doParcel_12 : decode cX5_doParcel 12 = .ok (.iload_n 2, 1) := by decide +kernel
theorem dX5_doParcel_13 : decode cX5_doParcel 13 = .ok (.imul, 1) := by decide +kernel
theorem dX5_doParcel_14 : decode cX5_doParcel 14 = .ok (.iadd, 1) := by decide +kernel
theorem dX5_doParcel_15 : decode cX5_doParcel 15 = .ok (.iaload, 1) := by decide +kernel
theorem dX5_doParcel_16 : decode cX5_doParcel 16 = .ok (.if_icmp .ge 101, 3) := by decide +kernel
theorem dX5_doParcel_19 : decode cX5_doParcel 19 = .ok (.aload_n 0, 1) := by decide +kernel
theorem dX5_doParcel_20 : decode cX5_doParcel 20 = .ok (.iload_n 2, 1) := by decide +kernel
theorem dX5_doParcel_21 : decode cX5_doParcel 21 = .ok (.iload 4, 2) := by decide +kernel
theorem dX5_doParcel_23 : decode cX5_doParcel 23 = .ok (.invokevirtual 70, 3) := by decide +kernel
theorem dX5_doParcel_26 : decode cX5_doParcel 26 = .ok (.bipush 100, 2) := by decide +kernel
theorem dX5_doParcel_28 : decode cX5_doParcel 28 = .ok (.irem, 1) := by decide +kernel
theorem dX5_doParcel_29 : decode cX5_doParcel 29 = .ok (.istore 5, 2) := by decide +kernel
theorem dX5_doParcel_31 : decode cX5_doParcel 31 = .ok (.aload_n 0, 1) := by decide +kernel
theorem dX5_doParcel_32 : decode cX5_doParcel 32 = .ok (.iload_n 2, 1) := by decide +kernel
theorem dX5_doParcel_33 : decode cX5_doParcel 33 = .ok (.iload 4, 2) := by decide +kernel
theorem dX5_doParcel_35 : decode cX5_doParcel 35 = .ok (.invokevirtual 70, 3) := by decide +kernel
theorem dX5_doParcel_38 : decode cX5_doParcel 38 = .ok (.bipush 100, 2) := by decide +kernel
theorem dX5_doParcel_40 : decode cX5_doParcel 40 = .ok (.if_icmp .lt 7, 3) := by decide +kernel
theorem dX5_doParcel_43 : decode cX5_doParcel 43 = .ok (.iconst 1, 1) := by decide +kernel
theorem dX5_doParcel_44 : decode cX5_doParcel 44 = .ok (.goto 4, 3) := by decide +kernel
theorem dX5_doParcel_47 : decode cX5_doParcel 47 = .ok (.iconst 0, 1) := by decide +kernel
theorem dX5_doParcel_48 : decode cX5_doParcel 48 = .ok (.istore 6, 2) := by decide +kernel
theorem dX5_doParcel_50 : decode cX5_doParcel 50 = .ok (.iload_n 3, 1) := by decide +kernel
theorem dX5_doParcel_51 : decode cX5_doParcel 51 = .ok (.ifCond .ne 8, 3) := by decide +kernel
theorem dX5_doParcel_54 : decode cX5_doParcel 54 = .ok (.iload 6, 2) := by decide +kernel
theorem dX5_doParcel_56 : decode cX5_doParcel 56 = .ok (.ifCond .eq 8, 3) := by decide +kernel
theorem dX5_doParcel_59 : decode cX5_doParcel 59 = .ok (.bipush (-6), 2) := by decide +kernel
theorem dX5_doParcel_61 : decode cX5_doParcel 61 = .ok (.goto 10, 3) := by decide +kernel
theorem dX5_doParcel_64 : decode cX5_doParcel 64 = .ok (.aload_n 0, 1) := by decide +kernel
theorem dX5_doParcel_65 : decode cX5_doParcel 65 = .ok (.iload_n 1, 1) := by decide +kernel
theorem dX5_doParcel_66 : decode cX5_doParcel 66 = .ok (.iload 5, 2) := by decide +kernel
theorem dX5_doParcel_68 : decode cX5_doParcel 68 = .ok (.invokevirtual 73, 3) := by decide +kernel
theorem dX5_doParcel_71 : decode cX5_doParcel 71 = .ok (.istore 7, 2) := by decide +kernel
theorem dX5_doParcel_73 : decode cX5_doParcel 73 = .ok (.iload_n 3, 1) := by decide +kernel
theorem dX5_doParcel_74 : decode cX5_doParcel 74 = .ok (.ifCond .eq 10, 3) := by decide +kernel
theorem dX5_doParcel_77 : decode cX5_doParcel 77 = .ok (.aload_n 0, 1) := by decide +kernel
theorem dX5_doParcel_78 : decode cX5_doParcel 78 = .ok (.iload_n 1, 1) := by decide +kernel
theorem dX5_doParcel_79 : decode cX5_doParcel 79 = .ok (.iload 5, 2) := by decide +kernel
theorem dX5_doParcel_81 : decode cX5_doParcel 81 = .ok (.invokevirtual 76, 3) := by decide +kernel
theorem dX5_doParcel_84 : decode cX5_doParcel 84 = .ok (.iload 7, 2) := by decide +kernel
theorem dX5_doParcel_86 : decode cX5_doParcel 86 = .ok (.bipush (-6), 2) := by decide +kernel
theorem dX5_doParcel_88 : decode cX5_doParcel 88 = .ok (.if_icmp .eq 10, 3) := by decide +kernel
theorem dX5_doParcel_91 : decode cX5_doParcel 91 = .ok (.aload_n 0, 1) := by decide +kernel
theorem dX5_doParcel_92 : decode cX5_doParcel 92 = .ok (.iload_n 1, 1) := by decide +kernel
theorem dX5_doParcel_93 : decode cX5_doParcel 93 = .ok (.iload 7, 2) := by decide +kernel
theorem dX5_doParcel_95 : decode cX5_doParcel 95 = .ok (.invokevirtual 63, 3) := by decide +kernel
theorem dX5_doParcel_98 : decode cX5_doParcel 98 = .ok (.iload 6, 2) := by decide +kernel
theorem dX5_doParcel_100 : decode cX5_doParcel 100 = .ok (.ifCond .eq 11, 3) := by decide +kernel
theorem dX5_doParcel_103 : decode cX5_doParcel 103 = .ok (.aload_n 0, 1) := by decide +kernel
theorem dX5_doParcel_104 : decode cX5_doParcel 104 = .ok (.iload_n 1, 1) := by decide +kernel
theorem dX5_doParcel_105 : decode cX5_doParcel 105 = .ok (.iload 5, 2) := by decide +kernel
theorem dX5_doParcel_107 : decode cX5_doParcel 107 = .ok (.iload_n 2, 1) := by decide +kernel
theorem dX5_doParcel_108 : decode cX5_doParcel 108 = .ok (.invokevirtual 79, 3) := by decide +kernel
theorem dX5_doParcel_111 : decode cX5_doParcel 111 = .ok (.iinc 4 1, 3) := by decide +kernel
theorem dX5_doParcel_114 : decode cX5_doParcel 114 = .ok (.goto (-111), 3) := by decide +kernel
theorem dX5_doParcel_117 : decode cX5_doParcel 117 = .ok (.return_, 1) := by decide +kernel
set_option maxRecDepth 20000 in
theorem ggX5_doSet_X5_doParcel : GoodIn wsX5_doSet wsX5_doParcel := goodIn_r _ [6, 1, 7, 8, 9, 5, 10, 11, 12, 13, 14, 15, 16, 17, 18, 19, 20, 21, 22, 23, 24, 25, 26, 27, 28, 29, 30, 31, 32, 33, 34, 35, 36, 37, 38, 39, 40, 41, 42, 43, 44, 45, 46, 47, 48, 49, 50, 51, 52, 53, 54, 55] (by decide +kernel) (by decide +kernel)
set_option maxRecDepth 20000 in
theorem gX5_doSet_X5_doParcel : GoodIn wsX5_doSet (wsV RX5 82 RX5 yX5_doParcel wsX5_doParcel) := goodIn_app (goodIn_of _ (by decide +kernel)) ggX5_doSet_X5_doParcel
theorem dX5_doSet_0 : decode cX5_doSet 0 = .ok (.iconst 0, 1) := by decide +kernel
theorem dX5_doSet_1 : decode cX5_doSet 1 = .ok (.istore_n 3, 1) := by decide +kernel
theorem dX5_doSet_2 : decode cX5_doSet 2 = .ok (.iload_n 3, 1) := by decide +kernel
theorem dX5_doSet_3 : decode cX5_doSet 3 = .ok (.aload_n 0, 1) := by decide +kernel
theorem dX5_doSet_4 : decode cX5_doSet 4 = .ok (.getfield 7, 3) := by decide +kernel
theorem dX5_doSet_7 : decode cX5_doSet 7 = .ok (.iconst 0, 1) := by decide +kernel
theorem dX5_doSet_8 : decode cX5_doSet 8 = .ok (.iaload, 1) := by decide +kernel
theorem dX5_doSet_9 : decode cX5_doSet 9 = .ok (.if_icmp .ge 25, 3) := by decide +kernel
theorem dX5_doSet_12 : decode cX5_doSet 12 = .ok (.iload_n 2, 1) := by decide +kernel
theorem dX5_doSet_13 : decode cX5_doSet 13 = .ok (.iload_n 3, 1) := by decide +kernel
theorem dX5_doSet_14 : decode cX5_doSet 14 = .ok (.ishr, 1) := by decide +kernel
theorem dX5_doSet_15 : decode cX5_doSet 15 = .ok (.iconst 1, 1) := by decide +kernel
theorem dX5_doSet_16 : decode cX5_doSet 16 = .ok (.iand, 1) := by decide +kernel
theorem dX5_doSet_17 : decode cX5_doSet 17 = .ok (.iconst 1, 1) := by decide +kernel
theorem dX5_doSet_18 : decode cX5_doSet 18 = .ok (.if_icmp .ne 10, 3) := by decide +kernel
theorem dX5_doSet_21 : decode cX5_doSet 21 = .ok (.aload_n 0, 1) := by decide +kernel
theorem dX5_doSet_22 : decode cX5_doSet 22 = .ok (.iload_n 1, 1) := by decide +kernel
theorem dX5_doSet_23 : decode cX5_doSet 23 = .ok (.iload_n 3, 1) := by decide +kernel
theorem dX5_doSet_24 : decode cX5_doSet 24 = .ok (.iconst 1, 1) := by decide +kernel
theorem dX5_doSet_25 : decode cX5_doSet 25 = .ok (.invokevirtual 82, 3) := by decide +kernel
theorem dX5_doSet_28 : decode cX5_doSet 28 = .ok (.iinc 3 1, 3) := by decide +kernel
theorem dX5_doSet_31 : decode cX5_doSet 31 = .ok (.goto (-29), 3) := by decide +kernel
theorem dX5_doSet_34 : decode cX5_doSet 34 = .ok (.return_, 1) := by decide +kernel
set_option maxRecDepth 20000 in
theorem ggX5_findIssues_X5_part : GoodIn wsX5_findIssues wsX5_part := goodIn_r _ [6, 7, 16, 17, 18, 19, 20, 21, 22, 23, 24, 25, 26, 27, 28] (by decide +kernel) (by decide +kernel)
set_option maxRecDepth 20000 in
theorem gX5_findIssues_X5_part : GoodIn wsX5_findIssues (wsV RX5 52 RX5 yX5_part wsX5_part) := goodIn_app (goodIn_of _ (by decide +kernel)) ggX5_findIssues_X5_part
set_option maxRecDepth 20000 in
theorem ggX5_findIssues_X5_numberOf : GoodIn wsX5_findIssues wsX5_numberOf := goodIn_r _ [11, 2, 3, 4, 5, 6, 7, 16, 17, 18, 19, 20, 21, 22, 23, 24, 25, 26, 27, 28] (by decide +kernel) (by decide +kernel)
set_option maxRecDepth 20000 in
theorem gX5_findIssues_X5_numberOf : GoodIn wsX5_findIssues (wsV RX5 60 RX5 yX5_numberOf wsX5_numberOf) := goodIn_app (goodIn_of _ (by decide +kernel)) ggX5_findIssues_X5_numberOf
set_option maxRecDepth 20000 in
theorem ggX5_findIssues_X5_issueOf : GoodIn wsX5_findIssues wsX5_issueOf := goodIn_r _ [15, 2, 3, 4, 5, 6, 7, 16, 17, 18, 19, 20, 21, 22, 23, 24, 25, 26, 27, 28] (by decide +kernel) (by decide +kernel)
set_option maxRecDepth 20000 in
theorem gX5_findIssues_X5_issueOf : GoodIn wsX5_findIssues (wsV RX5 67 RX5 yX5_issueOf wsX5_issueOf) := goodIn_app (goodIn_of _ (by decide +kernel)) ggX5_findIssues_X5_issueOf
theorem dX5_findIssues_0 : decode cX5_findIssues 0 = .ok (.iconst 0, 1) := by decide +kernel
theorem dX5_findIssues_1 : decode cX5_findIssues 1 = .ok (.istore_n 1, 1) := by decide +kernel
theorem dX5_findIssues_2 : decode cX5_findIssues 2 = .ok (.iload_n 1, 1) := by decide +kernel
theorem dX5_findIssues_3 : decode cX5_findIssues 3 = .ok (.bipush 100, 2) := by decide +kernel
theorem dX5_findIssues_5 : decode cX5_findIssues 5 = .ok (.if_icmp .ge 16, 3) := by decide +kernel
theorem dX5_findIssues_8 : decode cX5_findIssues 8 = .ok (.aload_n 0, 1) := by decide +kernel
theorem dX5_findIssues_9 : decode cX5_findIssues 9 = .ok (.getfield 37, 3) := by decide +kernel
theorem dX5_findIssues_12 : decode cX5_findIssues 12 = .ok (.iload_n 1, 1) := by decide +kernel
theorem dX5_findIssues_13 : decode cX5_findIssues 13 = .ok (.iconst 0, 1) := by decide +kernel
theorem dX5_findIssues_14 : decode cX5_findIssues 14 = .ok (.iastore, 1) := by decide +kernel
theorem dX5_findIssues_15 : decode cX5_findIssues 15 = .ok (.iinc 1 1, 3) := by decide +kernel
theorem dX5_findIssues_18 : decode cX5_findIssues 18 = .ok (.goto (-16), 3) := by decide +kernel
theorem dX5_findIssues_21 : decode cX5_findIssues 21 = .ok (.iconst 0, 1) := by decide +kernel
theorem dX5_findIssues_22 : decode cX5_findIssues 22 = .ok (.istore_n 1, 1) := by decide +kernel
theorem dX5_findIssues_23 : decode cX5_findIssues 23 = .ok (.iload_n 1, 1) := by decide +kernel
theorem dX5_findIssues_24 : decode cX5_findIssues 24 = .ok (.aload_n 0, 1) := by decide +kernel
theorem dX5_findIssues_25 : decode cX5_findIssues 25 = .ok (.bipush 8, 2) := by decide +kernel
theorem dX5_findIssues_27 : decode cX5_findIssues 27 = .ok (.iconst 0, 1) := by decide +kernel
theorem dX5_findIssues_28 : decode cX5_findIssues 28 = .ok (.invokevirtual 52, 3) := by decide +kernel
theorem dX5_findIssues_31 : decode cX5_findIssues 31 = .ok (.if_icmp .ge 30, 3) := by decide +kernel
theorem dX5_findIssues_34 : decode cX5_findIssues 34 = .ok (.aload_n 0, 1) := by decide +kernel
theorem dX5_findIssues_35 : decode cX5_findIssues 35 = .ok (.getfield 37, 3) := by decide +kernel
theorem dX5_findIssues_38 : decode cX5_findIssues 38 = .ok (.aload_n 0, 1) := by decide +kernel
theorem dX5_findIssues_39 : decode cX5_findIssues 39 = .ok (.bipush 8, 2) := by decide +kernel
theorem dX5_findIssues_41 : decode cX5_findIssues 41 = .ok (.iload_n 1, 1) := by decide +kernel
theorem dX5_findIssues_42 : decode cX5_findIssues 42 = .ok (.invokevirtual 60, 3) := by decide +kernel
theorem dX5_findIssues_45 : decode cX5_findIssues 45 = .ok (.aload_n 0, 1) := by decide +kernel
theorem dX5_findIssues_46 : decode cX5_findIssues 46 = .ok (.bipush 8, 2) := by decide +kernel
theorem dX5_findIssues_48 : decode cX5_findIssues 48 = .ok (.iload_n 1, 1) := by decide +kernel
theorem dX5_findIssues_49 : decode cX5_findIssues 49 = .ok (.invokevirtual 67, 3) := by decide +kernel
theorem dX5_findIssues_52 : decode cX5_findIssues 52 = .ok (.iconst 1, 1) := by decide +kernel
theorem dX5_findIssues_53 : decode cX5_findIssues 53 = .ok (.iadd, 1) := by decide +kernel
theorem dX5_findIssues_54 : decode cX5_findIssues 54 = .ok (.iastore, 1) := by decide +kernel
theorem dX5_findIssues_55 : decode cX5_findIssues 55 = .ok (.iinc 1 1, 3) := by decide +kernel
theorem dX5_findIssues_58 : decode cX5_findIssues 58 = .ok (.goto (-35), 3) := by decide +kernel
theorem dX5_findIssues_61 : decode cX5_findIssues 61 = .ok (.return_, 1) := by decide +kernel
set_option maxRecDepth 20000 in
theorem ggX5_findLeaves_X5_findIssues : GoodIn wsX5_findLeaves wsX5_findIssues := goodIn_r _ [8, 3, 9, 10, 11, 7, 12, 13, 14, 15, 16, 17, 18, 19, 20, 21, 22, 23, 24, 25, 26, 27, 28, 29, 30, 31, 32, 33, 34] (by decide +kernel) (by decide +kernel)
set_option maxRecDepth 20000 in
theorem gX5_findLeaves_X5_findIssues : GoodIn wsX5_findLeaves (wsV RX5 86 RX5 yX5_findIssues wsX5_findIssues) := goodIn_app (goodIn_of _ (by decide +kernel)) ggX5_findLeaves_X5_findIssues
set_option maxRecDepth 20000 in
theorem ggX5_findLeaves_X5_part : GoodIn wsX5_findLeaves wsX5_part := goodIn_r _ [12, 13, 22, 23, 24, 25, 26, 27, 28, 29, 30, 31, 32, 33, 34] (by decide +kernel) (by decide +kernel)
set_option maxRecDepth 20000 in
theorem gX5_findLeaves_X5_part : GoodIn wsX5_findLeaves (wsV RX5 52 RX5 yX5_part wsX5_part) := goodIn_app (goodIn_of _ (by decide +kernel)) ggX5_findLeaves_X5_part
set_option maxRecDepth 20000 in
theorem ggX5_findLeaves_X5_numberOf : GoodIn wsX5_findLeaves wsX5_numberOf := goodIn_r _ [17, 9, 10, 11, 7, 12, 13, 22, 23, 24, 25, 26, 27, 28, 29, 30, 31, 32, 33, 34] (by decide +kernel) (by decide +kernel)
set_option maxRecDepth 20000 in
theorem gX5_findLeaves_X5_numberOf : GoodIn wsX5_findLeaves (wsV RX5 60 RX5 yX5_numberOf wsX5_numberOf) := goodIn_app (goodIn_of _ (by decide +kernel)) ggX5_findLeaves_X5_numberOf
set_option maxRecDepth 20000 in
theorem ggX5_findLeaves_X5_issueOf : GoodIn wsX5_findLeaves wsX5_issueOf := goodIn_r _ [21, 9, 10, 11, 7, 12, 13, 22, 23, 24, 25, 26, 27, 28, 29, 30, 31, 32, 33, 34] (by decide +kernel) (by decide +kernel)
set_option maxRecDepth 20000 in
theorem gX5_findLeaves_X5_issueOf : GoodIn wsX5_findLeaves (wsV RX5 67 RX5 yX5_issueOf wsX5_issueOf) := goodIn_app (goodIn_of _ (by decide +kernel)) ggX5_findLeaves_X5_issueOf
theorem dX5_findLeaves_0 : decode cX5_findLeaves 0 = .ok (.aload_n 0, 1) := by decide +kernel
theorem dX5_findLeaves_1 : decode cX5_findLeaves 1 = .ok (.invokevirtual 86, 3) := by decide +kernel
theorem dX5_findLeaves_4 : decode cX5_findLeaves 4 = .ok (.iconst 0, 1) := by decide +kernel
theorem dX5_findLeaves_5 : decode cX5_findLeaves 5 = .ok (.istore_n 2, 1) := by decide +kernel
theorem dX5_findLeaves_6 : decode cX5_findLeaves 6 = .ok (.iload_n 2, 1) := by decide +kernel
theorem dX5_findLeaves_7 : decode cX5_findLeaves 7 = .ok (.bipush 100, 2) := by decide +kernel
theorem dX5_findLeaves_9 : decode cX5_findLeaves 9 = .ok (.if_icmp .ge 23, 3) := by decide +kernel
theorem dX5_findLeaves_12 : decode cX5_findLeaves 12 = .ok (.aload_n 0, 1) := by decide +kernel
theorem dX5_findLeaves_13 : decode cX5_findLeaves 13 = .ok (.getfield 31, 3) := by decide +kernel
theorem dX5_findLeaves_16 : decode cX5_findLeaves 16 = .ok (.iload_n 2, 1) := by decide +kernel
theorem dX5_findLeaves_17 : decode cX5_findLeaves 17 = .ok (.iconst 0, 1) := by decide +kernel
theorem dX5_findLeaves_18 : decode cX5_findLeaves 18 = .ok (.iastore, 1) := by decide +kernel
theorem dX5_findLeaves_19 : decode cX5_findLeaves 19 = .ok (.aload_n 0, 1) := by decide +kernel
theorem dX5_findLeaves_20 : decode cX5_findLeaves 20 = .ok (.getfield 34, 3) := by decide +kernel
theorem dX5_findLeaves_23 : decode cX5_findLeaves 23 = .ok (.iload_n 2, 1) := by decide +kernel
theorem dX5_findLeaves_24 : decode cX5_findLeaves 24 = .ok (.iconst 0, 1) := by decide +kernel
theorem dX5_findLeaves_25 : decode cX5_findLeaves 25 = .ok (.iastore, 1) := by decide +kernel
theorem dX5_findLeaves_26 : decode cX5_findLeaves 26 = .ok (.iinc 2 1, 3) := by decide +kernel
theorem dX5_findLeaves_29 : decode cX5_findLeaves 29 = .ok (.goto (-23), 3) := by decide +kernel
theorem dX5_findLeaves_32 : decode cX5_findLeaves 32 = .ok (.iconst 0, 1) := by decide +kernel
theorem dX5_findLeaves_33 : decode cX5_findLeaves 33 = .ok (.istore_n 2, 1) := by decide +kernel
theorem dX5_findLeaves_34 : decode cX5_findLeaves 34 = .ok (.iload_n 2, 1) := by decide +kernel
theorem dX5_findLeaves_35 : decode cX5_findLeaves 35 = .ok (.aload_n 0, 1) := by decide +kernel
theorem dX5_findLeaves_36 : decode cX5_findLeaves 36 = .ok (.iload_n 1, 1) := by decide +kernel
theorem dX5_findLeaves_37 : decode cX5_findLeaves 37 = .ok (.iconst 0, 1) := by decide +kernel
theorem dX5_findLeaves_38 : decode cX5_findLeaves 38 = .ok (.invokevirtual 52, 3) := by decide +kernel
theorem dX5_findLeaves_41 : decode cX5_findLeaves 41 = .ok (.if_icmp .ge 59, 3) := by decide +kernel
theorem dX5_findLeaves_44 : decode cX5_findLeaves 44 = .ok (.aload_n 0, 1) := by decide +kernel
theorem dX5_findLeaves_45 : decode cX5_findLeaves 45 = .ok (.iload_n 1, 1) := by decide +kernel
theorem dX5_findLeaves_46 : decode cX5_findLeaves 46 = .ok (.iload_n 2, 1) := by decide +kernel
theorem dX5_findLeaves_47 : decode cX5_findLeaves 47 = .ok (.invokevirtual 60, 3) := by decide +kernel
theorem dX5_findLeaves_50 : decode cX5_findLeaves 50 = .ok (.istore_n 3, 1) := by decide +kernel
theorem dX5_findLeaves_51 : decode cX5_findLeaves 51 = .ok (.aload_n 0, 1) := by decide +kernel
theorem dX5_findLeaves_52 : decode cX5_findLeaves 52 = .ok (.getfield 31, 3) := by decide +kernel
theorem dX5_findLeaves_55 : decode cX5_findLeaves 55 = .ok (.iload_n 3, 1) := by decide +kernel
theorem dX5_findLeaves_56 : decode cX5_findLeaves 56 = .ok (.dup2, 1) := by decide +kernel
theorem dX5_findLeaves_57 : decode cX5_findLeaves 57 = .ok (.iaload, 1) := by decide +kernel
theorem dX5_findLeaves_58 : decode cX5_findLeaves 58 = .ok (.iconst 1, 1) := by decide +kernel
theorem dX5_findLeaves_59 : decode cX5_findLeaves 59 = .ok (.iadd, 1) := by decide +kernel
theorem dX5_findLeaves_60 : decode cX5_findLeaves 60 = .ok (.iastore, 1) := by decide +kernel
theorem dX5_findLeaves_61 : decode cX5_findLeaves 61 = .ok (.aload_n 0, 1) := by decide +kernel
theorem dX5_findLeaves_62 : decode cX5_findLeaves 62 = .ok (.getfield 34, 3) := by decide +kernel
theorem dX5_findLeaves_65 : decode cX5_findLeaves 65 = .ok (.iload_n 3, 1) := by decide +kernel
theorem dX5_findLeaves_66 : decode cX5_findLeaves 66 = .ok (.aload_n 0, 1) := by decide +kernel
theorem dX5_findLeaves_67 : decode cX5_findLeaves 67 = .ok (.iload_n 1, 1) := by decide +kernel
theorem dX5_findLeaves_68 : decode cX5_findLeaves 68 = .ok (.iload_n 2, 1) := by decide +kernel
theorem dX5_findLeaves_69 : decode cX5_findLeaves 69 = .ok (.invokevirtual 67, 3) := by decide +kernel
theorem dX5_findLeaves_72 : decode cX5_findLeaves 72 = .ok (.iconst 1, 1) := by decide +kernel
theorem dX5_findLeaves_73 : decode cX5_findLeaves 73 = .ok (.iadd, 1) := by decide +kernel
theorem dX5_findLeaves_74 : decode cX5_findLeaves 74 = .ok (.aload_n 0, 1) := by decide +kernel
theorem dX5_findLeaves_75 : decode cX5_findLeaves 75 = .ok (.getfield 37, 3) := by decide +kernel
theorem dX5_findLeaves_78 : decode cX5_findLeaves 78 = .ok (.iload_n 3, 1) := by decide +kernel
theorem dX5_findLeaves_79 : decode cX5_findLeaves 79 = .ok (.iaload, 1) := by decide +kernel
theorem dX5_findLeaves_80 : decode cX5_findLeaves 80 = .ok (.if_icmp .ne 7, 3) := by decide +kernel
theorem dX5_findLeaves_83 : decode cX5_findLeaves 83 = .ok (.iconst 1, 1) := by decide +kernel
theorem dX5_findLeaves_84 : decode cX5_findLeaves 84 = .ok (.goto 9, 3) := by decide +kernel
theorem dX5_findLeaves_87 : decode cX5_findLeaves 87 = .ok (.aload_n 0, 1) := by decide +kernel
theorem dX5_findLeaves_88 : decode cX5_findLeaves 88 = .ok (.getfield 34, 3) := by decide +kernel
theorem dX5_findLeaves_91 : decode cX5_findLeaves 91 = .ok (.iload_n 3, 1) := by decide +kernel
theorem dX5_findLeaves_92 : decode cX5_findLeaves 92 = .ok (.iaload, 1) := by decide +kernel
theorem dX5_findLeaves_93 : decode cX5_findLeaves 93 = .ok (.iastore, 1) := by decide +kernel
theorem dX5_findLeaves_94 : decode cX5_findLeaves 94 = .ok (.iinc 2 1, 3) := by decide +kernel
theorem dX5_findLeaves_97 : decode cX5_findLeaves 97 = .ok (.goto (-63), 3) := by decide +kernel
theorem dX5_findLeaves_100 : decode cX5_findLeaves 100 = .ok (.return_, 1) := by decide +kernel
theorem dX5_surplusOf_0 : decode cX5_surplusOf 0 = .ok (.aload_n 0, 1) := by decide +kernel
theorem dX5_surplusOf_1 : decode cX5_surplusOf 1 = .ok (.getfield 37, 3) := by decide +kernel
theorem dX5_surplusOf_4 : decode cX5_surplusOf 4 = .ok (.iload_n 1, 1) := by decide +kernel
theorem dX5_surplusOf_5 : decode cX5_surplusOf 5 = .ok (.iaload, 1) := by decide +kernel
theorem dX5_surplusOf_6 : decode cX5_surplusOf 6 = .ok (.ifCond .eq 12, 3) := by decide +kernel
theorem dX5_surplusOf_9 : decode cX5_surplusOf 9 = .ok (.aload_n 0, 1) := by decide +kernel
theorem dX5_surplusOf_10 : decode cX5_surplusOf 10 = .ok (.getfield 31, 3) := by decide +kernel
theorem dX5_surplusOf_13 : decode cX5_surplusOf 13 = .ok (.iload_n 1, 1) := by decide +kernel
theorem dX5_surplusOf_14 : decode cX5_surplusOf 14 = .ok (.iaload, 1) := by decide +kernel
theorem dX5_surplusOf_15 : decode cX5_surplusOf 15 = .ok (.ifCond .ne 12, 3) := by decide +kernel
theorem dX5_surplusOf_18 : decode cX5_surplusOf 18 = .ok (.aload_n 0, 1) := by decide +kernel
theorem dX5_surplusOf_19 : decode cX5_surplusOf 19 = .ok (.getfield 31, 3) := by decide +kernel
theorem dX5_surplusOf_22 : decode cX5_surplusOf 22 = .ok (.iload_n 1, 1) := by decide +kernel
theorem dX5_surplusOf_23 : decode cX5_surplusOf 23 = .ok (.iaload, 1) := by decide +kernel
theorem dX5_surplusOf_24 : decode cX5_surplusOf 24 = .ok (.goto 11, 3) := by decide +kernel
theorem dX5_surplusOf_27 : decode cX5_surplusOf 27 = .ok (.aload_n 0, 1) := by decide +kernel
theorem dX5_surplusOf_28 : decode cX5_surplusOf 28 = .ok (.getfield 31, 3) := by decide +kernel
theorem dX5_surplusOf_31 : decode cX5_surplusOf 31 = .ok (.iload_n 1, 1) := by decide +kernel
theorem dX5_surplusOf_32 : decode cX5_surplusOf 32 = .ok (.iaload, 1) := by decide +kernel
theorem dX5_surplusOf_33 : decode cX5_surplusOf 33 = .ok (.iconst 1, 1) := by decide +kernel
theorem dX5_surplusOf_34 : decode cX5_surplusOf 34 = .ok (.isub, 1) := by decide +kernel
theorem dX5_surplusOf_35 : decode cX5_surplusOf 35 = .ok (.ireturn, 1) := by decide +kernel
theorem dX5_oldOf_0 : decode cX5_oldOf 0 = .ok (.aload_n 0, 1) := by decide +kernel
theorem dX5_oldOf_1 : decode cX5_oldOf 1 = .ok (.getfield 37, 3) := by decide +kernel
theorem dX5_oldOf_4 : decode cX5_oldOf 4 = .ok (.iload_n 1, 1) := by decide +kernel
theorem dX5_oldOf_5 : decode cX5_oldOf 5 = .ok (.iaload, 1) := by decide +kernel
theorem dX5_oldOf_6 : decode cX5_oldOf 6 = .ok (.ifCond .le 25, 3) := by decide +kernel
theorem dX5_oldOf_9 : decode cX5_oldOf 9 = .ok (.aload_n 0, 1) := by decide +kernel
theorem dX5_oldOf_10 : decode cX5_oldOf 10 = .ok (.getfield 31, 3) := by decide +kernel
theorem dX5_oldOf_13 : decode cX5_oldOf 13 = .ok (.iload_n 1, 1) := by decide +kernel
theorem dX5_oldOf_14 : decode cX5_oldOf 14 = .ok (.iaload, 1) := by decide +kernel
theorem dX5_oldOf_15 : decode cX5_oldOf 15 = .ok (.ifCond .le 16, 3) := by decide +kernel
theorem dX5_oldOf_18 : decode cX5_oldOf 18 = .ok (.aload_n 0, 1) := by decide +kernel
theorem dX5_oldOf_19 : decode cX5_oldOf 19 = .ok (.getfield 34, 3) := by decide +kernel
theorem dX5_oldOf_22 : decode cX5_oldOf 22 = .ok (.iload_n 1, 1) := by decide +kernel
theorem dX5_oldOf_23 : decode cX5_oldOf 23 = .ok (.iaload, 1) := by decide +kernel
theorem dX5_oldOf_24 : decode cX5_oldOf 24 = .ok (.ifCond .ne 7, 3) := by decide +kernel
theorem dX5_oldOf_27 : decode cX5_oldOf 27 = .ok (.iconst 1, 1) := by decide +kernel
theorem dX5_oldOf_28 : decode cX5_oldOf 28 = .ok (.goto 4, 3) := by decide +kernel
theorem dX5_oldOf_31 : decode cX5_oldOf 31 = .ok (.iconst 0, 1) := by decide +kernel
theorem dX5_oldOf_32 : decode cX5_oldOf 32 = .ok (.ireturn, 1) := by decide +kernel
theorem dX5_missingOf_0 : decode cX5_missingOf 0 = .ok (.aload_n 0, 1) := by decide +kernel
theorem dX5_missingOf_1 : decode cX5_missingOf 1 = .ok (.getfield 37, 3) := by decide +kernel
theorem dX5_missingOf_4 : decode cX5_missingOf 4 = .ok (.iload_n 1, 1) := by decide +kernel
theorem dX5_missingOf_5 : decode cX5_missingOf 5 = .ok (.iaload, 1) := by decide +kernel
theorem dX5_missingOf_6 : decode cX5_missingOf 6 = .ok (.ifCond .le 16, 3) := by decide +kernel
theorem dX5_missingOf_9 : decode cX5_missingOf 9 = .ok (.aload_n 0, 1) := by decide +kernel
theorem dX5_missingOf_10 : decode cX5_missingOf 10 = .ok (.getfield 31, 3) := by decide +kernel
theorem dX5_missingOf_13 : decode cX5_missingOf 13 = .ok (.iload_n 1, 1) := by decide +kernel
theorem dX5_missingOf_14 : decode cX5_missingOf 14 = .ok (.iaload, 1) := by decide +kernel
theorem dX5_missingOf_15 : decode cX5_missingOf 15 = .ok (.ifCond .ne 7, 3) := by decide +kernel
theorem dX5_missingOf_18 : decode cX5_missingOf 18 = .ok (.iconst 1, 1) := by decide +kernel
theorem dX5_missingOf_19 : decode cX5_missingOf 19 = .ok (.goto 4, 3) := by decide +kernel
theorem dX5_missingOf_22 : decode cX5_missingOf 22 = .ok (.iconst 0, 1) := by decide +kernel
theorem dX5_missingOf_23 : decode cX5_missingOf 23 = .ok (.ireturn, 1) := by decide +kernel
set_option maxRecDepth 20000 in
theorem ggX5_wrong_X5_findLeaves : GoodIn wsX5_wrong wsX5_findLeaves := goodIn_r _ [5, 6, 7, 8, 9, 10, 11, 4, 12, 13, 14, 15, 16, 17, 18, 19, 20, 21, 22, 23, 24, 25, 38, 39, 40, 41, 42, 43, 44, 45, 46, 47, 48, 49, 50] (by decide +kernel) (by decide +kernel)
set_option maxRecDepth 20000 in
theorem gX5_wrong_X5_findLeaves : GoodIn wsX5_wrong (wsV RX5 89 RX5 yX5_findLeaves wsX5_findLeaves) := goodIn_app (goodIn_of _ (by decide +kernel)) ggX5_wrong_X5_findLeaves
set_option maxRecDepth 20000 in
theorem ggX5_wrong_X5_surplusOf : GoodIn wsX5_wrong wsX5_surplusOf := goodIn_r _ [29, 8, 6, 38, 39, 40, 41, 42, 43, 44, 45, 46, 47, 48, 49, 50] (by decide +kernel) (by decide +kernel)
set_option maxRecDepth 20000 in
theorem gX5_wrong_X5_surplusOf : GoodIn wsX5_wrong (wsV RX5 93 RX5 yX5_surplusOf wsX5_surplusOf) := goodIn_app (goodIn_of _ (by decide +kernel)) ggX5_wrong_X5_surplusOf
set_option maxRecDepth 20000 in
theorem ggX5_wrong_X5_oldOf : GoodIn wsX5_wrong wsX5_oldOf := goodIn_r _ [33, 8, 6, 7, 38, 39, 40, 41, 42, 43, 44, 45, 46, 47, 48, 49, 50] (by decide +kernel) (by decide +kernel)
set_option maxRecDepth 20000 in
theorem gX5_wrong_X5_oldOf : GoodIn wsX5_wrong (wsV RX5 97 RX5 yX5_oldOf wsX5_oldOf) := goodIn_app (goodIn_of _ (by decide +kernel)) ggX5_wrong_X5_oldOf
set_option maxRecDepth 20000 in
theorem ggX5_wrong_X5_missingOf : GoodIn wsX5_wrong wsX5_missingOf := goodIn_r _ [37, 8, 6, 38, 39, 40, 41, 42, 43, 44, 45, 46, 47, 48, 49, 50] (by decide +kernel) (by decide +kernel)
set_option maxRecDepth 20000 in
theorem gX5_wrong_X5_missingOf : GoodIn wsX5_wrong (wsV RX5 100 RX5 yX5_missingOf wsX5_missingOf) := goodIn_app (goodIn_of _ (by decide +kernel)) ggX5_wrong_X5_missingOf
theorem dX5_wrong_0 : decode cX5_wrong 0 = .ok (.aload_n 0, 1) := by decide +kernel
theorem dX5_wrong_1 : decode cX5_wrong 1 = .ok (.iload_n 1, 1) := by decide +kernel
theorem dX5_wrong_2 : decode cX5_wrong 2 = .ok (.invokevirtual 89, 3) := by decide +kernel
theorem dX5_wrong_5 : decode cX5_wrong 5 = .ok (.iconst 0, 1) := by decide +kernel
theorem dX5_wrong_6 : decode cX5_wrong 6 = .ok (.istore_n 3, 1) := by decide +kernel
theorem dX5_wrong_7 : decode cX5_wrong 7 = .ok (.iconst 0, 1) := by decide +kernel
theorem dX5_wrong_8 : decode cX5_wrong 8 = .ok (.istore 4, 2) := by decide +kernel
theorem dX5_wrong_10 : decode cX5_wrong 10 = .ok (.iconst 0, 1) := by decide +kernel
theorem dX5_wrong_11 : decode cX5_wrong 11 = .ok (.istore 5, 2) := by decide +kernel
theorem dX5_wrong_13 : decode cX5_wrong 13 = .ok (.bipush 10, 2) := by decide +kernel
theorem dX5_wrong_15 : decode cX5_wrong 15 = .ok (.istore 6, 2) := by decide +kernel
theorem dX5_wrong_17 : decode cX5_wrong 17 = .ok (.iload 6, 2) := by decide +kernel
theorem dX5_wrong_19 : decode cX5_wrong 19 = .ok (.bipush 99, 2) := by decide +kernel
theorem dX5_wrong_21 : decode cX5_wrong 21 = .ok (.if_icmp .gt 40, 3) := by decide +kernel
theorem dX5_wrong_24 : decode cX5_wrong 24 = .ok (.iload_n 3, 1) := by decide +kernel
theorem dX5_wrong_25 : decode cX5_wrong 25 = .ok (.aload_n 0, 1) := by decide +kernel
theorem dX5_wrong_26 : decode cX5_wrong 26 = .ok (.iload 6, 2) := by decide +kernel
theorem dX5_wrong_28 : decode cX5_wrong 28 = .ok (.invokevirtual 93, 3) := by decide +kernel
theorem dX5_wrong_31 : decode cX5_wrong 31 = .ok (.iadd, 1) := by decide +kernel
theorem dX5_wrong_32 : decode cX5_wrong 32 = .ok (.istore_n 3, 1) := by decide +kernel
theorem dX5_wrong_33 : decode cX5_wrong 33 = .ok (.iload 4, 2) := by decide +kernel
theorem dX5_wrong_35 : decode cX5_wrong 35 = .ok (.aload_n 0, 1) := by decide +kernel
theorem dX5_wrong_36 : decode cX5_wrong 36 = .ok (.iload 6, 2) := by decide +kernel
theorem dX5_wrong_38 : decode cX5_wrong 38 = .ok (.invokevirtual 97, 3) := by decide +kernel
theorem dX5_wrong_41 : decode cX5_wrong 41 = .ok (.iadd, 1) := by decide +kernel
theorem dX5_wrong_42 : decode cX5_wrong 42 = .ok (.istore 4, 2) := by decide +kernel
theorem dX5_wrong_44 : decode cX5_wrong 44 = .ok (.iload 5, 2) := by decide +kernel
theorem dX5_wrong_46 : decode cX5_wrong 46 = .ok (.aload_n 0, 1) := by decide +kernel
theorem dX5_wrong_47 : decode cX5_wrong 47 = .ok (.iload 6, 2) := by decide +kernel
theorem dX5_wrong_49 : decode cX5_wrong 49 = .ok (.invokevirtual 100, 3) := by decide +kernel
theorem dX5_wrong_52 : decode cX5_wrong 52 = .ok (.iadd, 1) := by decide +kernel
theorem dX5_wrong_53 : decode cX5_wrong 53 = .ok (.istore 5, 2) := by decide +kernel
theorem dX5_wrong_55 : decode cX5_wrong 55 = .ok (.iinc 6 1, 3) := by decide +kernel
theorem dX5_wrong_58 : decode cX5_wrong 58 = .ok (.goto (-41), 3) := by decide +kernel
theorem dX5_wrong_61 : decode cX5_wrong 61 = .ok (.iload_n 2, 1) := by decide +kernel
theorem dX5_wrong_62 : decode cX5_wrong 62 = .ok (.ifCond .ne 7, 3) := by decide +kernel
theorem dX5_wrong_65 : decode cX5_wrong 65 = .ok (.iload_n 3, 1) := by decide +kernel
theorem dX5_wrong_66 : decode cX5_wrong 66 = .ok (.goto 30, 3) := by decide +kernel
theorem dX5_wrong_69 : decode cX5_wrong 69 = .ok (.iload_n 2, 1) := by decide +kernel
theorem dX5_wrong_70 : decode cX5_wrong 70 = .ok (.iconst 1, 1) := by decide +kernel
theorem dX5_wrong_71 : decode cX5_wrong 71 = .ok (.if_icmp .ne 8, 3) := by decide +kernel
theorem dX5_wrong_74 : decode cX5_wrong 74 = .ok (.iload 4, 2) := by decide +kernel
theorem dX5_wrong_76 : decode cX5_wrong 76 = .ok (.goto 20, 3) := by decide +kernel
theorem dX5_wrong_79 : decode cX5_wrong 79 = .ok (.iload_n 2, 1) := by decide +kernel
theorem dX5_wrong_80 : decode cX5_wrong 80 = .ok (.iconst 2, 1) := by decide +kernel
theorem dX5_wrong_81 : decode cX5_wrong 81 = .ok (.if_icmp .ne 8, 3) := by decide +kernel
theorem dX5_wrong_84 : decode cX5_wrong 84 = .ok (.iload 5, 2) := by decide +kernel
theorem dX5_wrong_86 : decode cX5_wrong 86 = .ok (.goto 10, 3) := by decide +kernel
theorem dX5_wrong_89 : decode cX5_wrong 89 = .ok (.iload_n 3, 1) := by decide +kernel
theorem dX5_wrong_90 : decode cX5_wrong 90 = .ok (.iload 4, 2) := by decide +kernel
theorem dX5_wrong_92 : decode cX5_wrong 92 = .ok (.iadd, 1) := by decide +kernel
theorem dX5_wrong_93 : decode cX5_wrong 93 = .ok (.iload 5, 2) := by decide +kernel
theorem dX5_wrong_95 : decode cX5_wrong 95 = .ok (.iadd, 1) := by decide +kernel
theorem dX5_wrong_96 : decode cX5_wrong 96 = .ok (.ireturn, 1) := by decide +kernel
set_option maxRecDepth 20000 in
theorem ggX5_isRight_X5_wrong : GoodIn wsX5_isRight wsX5_wrong := goodIn_r _ [5, 6, 7, 8, 4, 9, 10, 11, 12, 13, 14, 15, 16, 17, 18, 19, 20, 21, 22, 23, 24, 25, 26, 27, 28, 29, 30, 31, 32, 33, 34, 35, 36, 37, 38, 39, 40, 41, 42, 43, 44, 45, 46, 47, 48, 49, 50, 51, 52, 53, 54] (by decide +kernel) (by decide +kernel)
set_option maxRecDepth 20000 in
theorem gX5_isRight_X5_wrong : GoodIn wsX5_isRight (wsV RX5 103 RX5 yX5_wrong wsX5_wrong) := goodIn_app (goodIn_of _ (by decide +kernel)) ggX5_isRight_X5_wrong
theorem dX5_isRight_0 : decode cX5_isRight 0 = .ok (.aload_n 0, 1) := by decide +kernel
theorem dX5_isRight_1 : decode cX5_isRight 1 = .ok (.iload_n 1, 1) := by decide +kernel
theorem dX5_isRight_2 : decode cX5_isRight 2 = .ok (.iconst 3, 1) := by decide +kernel
theorem dX5_isRight_3 : decode cX5_isRight 3 = .ok (.invokevirtual 103, 3) := by decide +kernel
theorem dX5_isRight_6 : decode cX5_isRight 6 = .ok (.ifCond .ne 7, 3) := by decide +kernel
theorem dX5_isRight_9 : decode cX5_isRight 9 = .ok (.iconst 1, 1) := by decide +kernel
theorem dX5_isRight_10 : decode cX5_isRight 10 = .ok (.goto 4, 3) := by decide +kernel
theorem dX5_isRight_13 : decode cX5_isRight 13 = .ok (.iconst 0, 1) := by decide +kernel
theorem dX5_isRight_14 : decode cX5_isRight 14 = .ok (.ireturn, 1) := by decide +kernel
set_option maxRecDepth 20000 in
theorem ggX5_checkOf_X5_part : GoodIn wsX5_checkOf wsX5_part := goodIn_r _ [5, 6, 15, 16, 17, 18, 19, 20, 21, 22, 23, 24, 25, 26, 27] (by decide +kernel) (by decide +kernel)
set_option maxRecDepth 20000 in
theorem gX5_checkOf_X5_part : GoodIn wsX5_checkOf (wsV RX5 52 RX5 yX5_part wsX5_part) := goodIn_app (goodIn_of _ (by decide +kernel)) ggX5_checkOf_X5_part
set_option maxRecDepth 20000 in
theorem ggX5_checkOf_X5_numberOf : GoodIn wsX5_checkOf wsX5_numberOf := goodIn_r _ [10, 1, 2, 3, 4, 5, 6, 15, 16, 17, 18, 19, 20, 21, 22, 23, 24, 25, 26, 27] (by decide +kernel) (by decide +kernel)
set_option maxRecDepth 20000 in
theorem gX5_checkOf_X5_numberOf : GoodIn wsX5_checkOf (wsV RX5 60 RX5 yX5_numberOf wsX5_numberOf) := goodIn_app (goodIn_of _ (by decide +kernel)) ggX5_checkOf_X5_numberOf
set_option maxRecDepth 20000 in
theorem ggX5_checkOf_X5_issueOf : GoodIn wsX5_checkOf wsX5_issueOf := goodIn_r _ [14, 1, 2, 3, 4, 5, 6, 15, 16, 17, 18, 19, 20, 21, 22, 23, 24, 25, 26, 27] (by decide +kernel) (by decide +kernel)
set_option maxRecDepth 20000 in
theorem gX5_checkOf_X5_issueOf : GoodIn wsX5_checkOf (wsV RX5 67 RX5 yX5_issueOf wsX5_issueOf) := goodIn_app (goodIn_of _ (by decide +kernel)) ggX5_checkOf_X5_issueOf
theorem dX5_checkOf_0 : decode cX5_checkOf 0 = .ok (.iconst 0, 1) := by decide +kernel
theorem dX5_checkOf_1 : decode cX5_checkOf 1 = .ok (.istore_n 2, 1) := by decide +kernel
theorem dX5_checkOf_2 : decode cX5_checkOf 2 = .ok (.iconst 0, 1) := by decide +kernel
theorem dX5_checkOf_3 : decode cX5_checkOf 3 = .ok (.istore_n 3, 1) := by decide +kernel
theorem dX5_checkOf_4 : decode cX5_checkOf 4 = .ok (.iload_n 3, 1) := by decide +kernel
theorem dX5_checkOf_5 : decode cX5_checkOf 5 = .ok (.aload_n 0, 1) := by decide +kernel
theorem dX5_checkOf_6 : decode cX5_checkOf 6 = .ok (.iload_n 1, 1) := by decide +kernel
theorem dX5_checkOf_7 : decode cX5_checkOf 7 = .ok (.iconst 0, 1) := by decide +kernel
theorem dX5_checkOf_8 : decode cX5_checkOf 8 = .ok (.invokevirtual 52, 3) := by decide +kernel
theorem dX5_checkOf_11 : decode cX5_checkOf 11 = .ok (.if_icmp .ge 27, 3) := by decide +kernel
theorem dX5_checkOf_14 : decode cX5_checkOf 14 = .ok (.iload_n 2, 1) := by decide +kernel
theorem dX5_checkOf_15 : decode cX5_checkOf 15 = .ok (.aload_n 0, 1) := by decide +kernel
theorem dX5_checkOf_16 : decode cX5_checkOf 16 = .ok (.iload_n 1, 1) := by decide +kernel
theorem dX5_checkOf_17 : decode cX5_checkOf 17 = .ok (.iload_n 3, 1) := by decide +kernel
theorem dX5_checkOf_18 : decode cX5_checkOf 18 = .ok (.invokevirtual 60, 3) := by decide +kernel
theorem dX5_checkOf_21 : decode cX5_checkOf 21 = .ok (.aload_n 0, 1) := by decide +kernel
theorem dX5_checkOf_22 : decode cX5_checkOf 22 = .ok (.iload_n 1, 1) := by decide +kernel
theorem dX5_checkOf_23 : decode cX5_checkOf 23 = .ok (.iload_n 3, 1) := by decide +kernel
theorem dX5_checkOf_24 : decode cX5_checkOf 24 = .ok (.invokevirtual 67, 3) := by decide +kernel
theorem dX5_checkOf_27 : decode cX5_checkOf 27 = .ok (.iconst 1, 1) := by decide +kernel
theorem dX5_checkOf_28 : decode cX5_checkOf 28 = .ok (.iadd, 1) := by decide +kernel
theorem dX5_checkOf_29 : decode cX5_checkOf 29 = .ok (.imul, 1) := by decide +kernel
theorem dX5_checkOf_30 : decode cX5_checkOf 30 = .ok (.iadd, 1) := by decide +kernel
theorem dX5_checkOf_31 : decode cX5_checkOf 31 = .ok (.istore_n 2, 1) := by decide +kernel
theorem dX5_checkOf_32 : decode cX5_checkOf 32 = .ok (.iinc 3 1, 3) := by decide +kernel
theorem dX5_checkOf_35 : decode cX5_checkOf 35 = .ok (.goto (-31), 3) := by decide +kernel
theorem dX5_checkOf_38 : decode cX5_checkOf 38 = .ok (.iload_n 2, 1) := by decide +kernel
theorem dX5_checkOf_39 : decode cX5_checkOf 39 = .ok (.sipush 997, 3) := by decide +kernel
theorem dX5_checkOf_42 : decode cX5_checkOf 42 = .ok (.irem, 1) := by decide +kernel
theorem dX5_checkOf_43 : decode cX5_checkOf 43 = .ok (.ireturn, 1) := by decide +kernel
theorem dX5_comesTwice_0 : decode cX5_comesTwice 0 = .ok (.iconst 0, 1) := by decide +kernel
theorem dX5_comesTwice_1 : decode cX5_comesTwice 1 = .ok (.istore_n 1, 1) := by decide +kernel
theorem dX5_comesTwice_2 : decode cX5_comesTwice 2 = .ok (.iconst 0, 1) := by decide +kernel
theorem dX5_comesTwice_3 : decode cX5_comesTwice 3 = .ok (.istore_n 2, 1) := by decide +kernel
theorem dX5_comesTwice_4 : decode cX5_comesTwice 4 = .ok (.iload_n 2, 1) := by decide +kernel
theorem dX5_comesTwice_5 : decode cX5_comesTwice 5 = .ok (.aload_n 0, 1) := by decide +kernel
theorem dX5_comesTwice_6 : decode cX5_comesTwice 6 = .ok (.getfield 106, 3) := by decide +kernel
theorem dX5_comesTwice_9 : decode cX5_comesTwice 9 = .ok (.if_icmp .ge 53, 3) := by decide +kernel
theorem dX5_comesTwice_12 : decode cX5_comesTwice 12 = .ok (.iconst 0, 1) := by decide +kernel
theorem dX5_comesTwice_13 : decode cX5_comesTwice 13 = .ok (.istore_n 3, 1) := by decide +kernel
theorem dX5_comesTwice_14 : decode cX5_comesTwice 14 = .ok (.iload_n 3, 1) := by decide +kernel
theorem dX5_comesTwice_15 : decode cX5_comesTwice 15 = .ok (.iload_n 2, 1) := by decide +kernel
theorem dX5_comesTwice_16 : decode cX5_comesTwice 16 = .ok (.if_icmp .ge 40, 3) := by decide +kernel
theorem dX5_comesTwice_19 : decode cX5_comesTwice 19 = .ok (.iload_n 1, 1) := by decide +kernel
theorem dX5_comesTwice_20 : decode cX5_comesTwice 20 = .ok (.ifCond .ne 24, 3) := by decide +kernel
theorem dX5_comesTwice_23 : decode cX5_comesTwice 23 = .ok (.aload_n 0, 1) := by decide +kernel
theorem dX5_comesTwice_24 : decode cX5_comesTwice 24 = .ok (.getfield 28, 3) := by decide +kernel
theorem dX5_comesTwice_27 : decode cX5_comesTwice 27 = .ok (.iload_n 3, 1) := by decide +kernel
theorem dX5_comesTwice_28 : decode cX5_comesTwice 28 = .ok (.iaload, 1) := by decide +kernel
theorem dX5_comesTwice_29 : decode cX5_comesTwice 29 = .ok (.bipush 100, 2) := by decide +kernel
theorem dX5_comesTwice_31 : decode cX5_comesTwice 31 = .ok (.irem, 1) := by decide +kernel
theorem dX5_comesTwice_32 : decode cX5_comesTwice 32 = .ok (.aload_n 0, 1) := by decide +kernel
theorem dX5_comesTwice_33 : decode cX5_comesTwice 33 = .ok (.getfield 28, 3) := by decide +kernel
theorem dX5_comesTwice_36 : decode cX5_comesTwice 36 = .ok (.iload_n 2, 1) := by decide +kernel
theorem dX5_comesTwice_37 : decode cX5_comesTwice 37 = .ok (.iaload, 1) := by decide +kernel
theorem dX5_comesTwice_38 : decode cX5_comesTwice 38 = .ok (.bipush 100, 2) := by decide +kernel
theorem dX5_comesTwice_40 : decode cX5_comesTwice 40 = .ok (.irem, 1) := by decide +kernel
theorem dX5_comesTwice_41 : decode cX5_comesTwice 41 = .ok (.if_icmp .ne 7, 3) := by decide +kernel
theorem dX5_comesTwice_44 : decode cX5_comesTwice 44 = .ok (.iconst 1, 1) := by decide +kernel
theorem dX5_comesTwice_45 : decode cX5_comesTwice 45 = .ok (.goto 4, 3) := by decide +kernel
theorem dX5_comesTwice_48 : decode cX5_comesTwice 48 = .ok (.iconst 0, 1) := by decide +kernel
theorem dX5_comesTwice_49 : decode cX5_comesTwice 49 = .ok (.istore_n 1, 1) := by decide +kernel
theorem dX5_comesTwice_50 : decode cX5_comesTwice 50 = .ok (.iinc 3 1, 3) := by decide +kernel
theorem dX5_comesTwice_53 : decode cX5_comesTwice 53 = .ok (.goto (-39), 3) := by decide +kernel
theorem dX5_comesTwice_56 : decode cX5_comesTwice 56 = .ok (.iinc 2 1, 3) := by decide +kernel
theorem dX5_comesTwice_59 : decode cX5_comesTwice 59 = .ok (.goto (-55), 3) := by decide +kernel
theorem dX5_comesTwice_62 : decode cX5_comesTwice 62 = .ok (.iload_n 1, 1) := by decide +kernel
theorem dX5_comesTwice_63 : decode cX5_comesTwice 63 = .ok (.ireturn, 1) := by decide +kernel
set_option maxRecDepth 20000 in
theorem ggX5_issue_X5_findFault : GoodIn wsX5_issue wsX5_findFault := goodIn_r _ [9, 2, 4, 10, 3, 11, 12, 8, 13, 14, 15, 16, 70, 71, 72, 73, 74, 75, 76, 77, 78, 79, 80, 81, 82] (by decide +kernel) (by decide +kernel)
set_option maxRecDepth 20000 in
theorem gX5_issue_X5_findFault : GoodIn wsX5_issue (wsV RX5 109 RX5 yX5_findFault wsX5_findFault) := goodIn_app (goodIn_of _ (by decide +kernel)) ggX5_issue_X5_findFault
set_option maxRecDepth 20000 in
theorem ggX5_issue_X5_comesTwice : GoodIn wsX5_issue wsX5_comesTwice := goodIn_r _ [20, 2, 3, 70, 71, 72, 73, 74, 75, 76, 77, 78, 79, 80, 81, 82] (by decide +kernel) (by decide +kernel)
set_option maxRecDepth 20000 in
theorem gX5_issue_X5_comesTwice : GoodIn wsX5_issue (wsV RX5 113 RX5 yX5_comesTwice wsX5_comesTwice) := goodIn_app (goodIn_of _ (by decide +kernel)) ggX5_issue_X5_comesTwice
set_option maxRecDepth 20000 in
theorem ggX5_issue_X5_record : GoodIn wsX5_issue wsX5_record := goodIn_r _ [24, 25, 26, 1, 27, 28, 8, 29, 70, 71, 72, 73, 74, 75, 76, 77, 78, 79, 80, 81, 82] (by decide +kernel) (by decide +kernel)
set_option maxRecDepth 20000 in
theorem gX5_issue_X5_record : GoodIn wsX5_issue (wsV RX5 117 RX5 yX5_record wsX5_record) := goodIn_app (goodIn_of _ (by decide +kernel)) ggX5_issue_X5_record
set_option maxRecDepth 20000 in
theorem ggX5_issue_X5_doParcel : GoodIn wsX5_issue wsX5_doParcel := goodIn_r _ [33, 1, 34, 35, 36, 8, 37, 38, 39, 40, 41, 42, 43, 44, 45, 46, 47, 48, 49, 50, 51, 52, 53, 54, 55, 56, 57, 58, 59, 60, 61, 62, 63, 64, 65, 66, 67, 68, 69, 70, 71, 72, 73, 74, 75, 76, 77, 78, 79, 80, 81, 82] (by decide +kernel) (by decide +kernel)
set_option maxRecDepth 20000 in
theorem gX5_issue_X5_doParcel : GoodIn wsX5_issue (wsV RX5 82 RX5 yX5_doParcel wsX5_doParcel) := goodIn_app (goodIn_of _ (by decide +kernel)) ggX5_issue_X5_doParcel
set_option maxRecDepth 20000 in
theorem ggX5_issue_X5_part : GoodIn wsX5_issue wsX5_part := goodIn_r _ [45, 1, 70, 71, 72, 73, 74, 75, 76, 77, 78, 79, 80, 81, 82] (by decide +kernel) (by decide +kernel)
set_option maxRecDepth 20000 in
theorem gX5_issue_X5_part : GoodIn wsX5_issue (wsV RX5 52 RX5 yX5_part wsX5_part) := goodIn_app (goodIn_of _ (by decide +kernel)) ggX5_issue_X5_part
set_option maxRecDepth 20000 in
theorem ggX5_issue_X5_setPart : GoodIn wsX5_issue wsX5_setPart := goodIn_r _ [65, 1, 70, 71, 72, 73, 74, 75, 76, 77, 78, 79, 80, 81, 82] (by decide +kernel) (by decide +kernel)
set_option maxRecDepth 20000 in
theorem gX5_issue_X5_setPart : GoodIn wsX5_issue (wsV RX5 56 RX5 yX5_setPart wsX5_setPart) := goodIn_app (goodIn_of _ (by decide +kernel)) ggX5_issue_X5_setPart
theorem dX5_issue_0 : decode cX5_issue 0 = .ok (.aload_n 0, 1) := by decide +kernel
theorem dX5_issue_1 : decode cX5_issue 1 = .ok (.invokevirtual 109, 3) := by decide +kernel
theorem dX5_issue_4 : decode cX5_issue 4 = .ok (.bipush (-6), 2) := by decide +kernel
theorem dX5_issue_6 : decode cX5_issue 6 = .ok (.if_icmp .eq 6, 3) := by decide +kernel
theorem dX5_issue_9 : decode cX5_issue 9 = .ok (.bipush (-3), 2) := by decide +kernel
theorem dX5_issue_11 : decode cX5_issue 11 = .ok (.ireturn, 1) := by decide +kernel
theorem dX5_issue_12 : decode cX5_issue 12 = .ok (.aload_n 0, 1) := by decide +kernel
theorem dX5_issue_13 : decode cX5_issue 13 = .ok (.invokevirtual 113, 3) := by decide +kernel
theorem dX5_issue_16 : decode cX5_issue 16 = .ok (.ifCond .eq 6, 3) := by decide +kernel
theorem dX5_issue_19 : decode cX5_issue 19 = .ok (.bipush (-2), 2) := by decide +kernel
theorem dX5_issue_21 : decode cX5_issue 21 = .ok (.ireturn, 1) := by decide +kernel
theorem dX5_issue_22 : decode cX5_issue 22 = .ok (.aload_n 0, 1) := by decide +kernel
theorem dX5_issue_23 : decode cX5_issue 23 = .ok (.getfield 7, 3) := by decide +kernel
theorem dX5_issue_26 : decode cX5_issue 26 = .ok (.iconst 0, 1) := by decide +kernel
theorem dX5_issue_27 : decode cX5_issue 27 = .ok (.iaload, 1) := by decide +kernel
theorem dX5_issue_28 : decode cX5_issue 28 = .ok (.bipush 16, 2) := by decide +kernel
theorem dX5_issue_30 : decode cX5_issue 30 = .ok (.if_icmp .ne 6, 3) := by decide +kernel
theorem dX5_issue_33 : decode cX5_issue 33 = .ok (.bipush (-4), 2) := by decide +kernel
theorem dX5_issue_35 : decode cX5_issue 35 = .ok (.ireturn, 1) := by decide +kernel
theorem dX5_issue_36 : decode cX5_issue 36 = .ok (.aload_n 0, 1) := by decide +kernel
theorem dX5_issue_37 : decode cX5_issue 37 = .ok (.invokevirtual 117, 3) := by decide +kernel
theorem dX5_issue_40 : decode cX5_issue 40 = .ok (.aload_n 0, 1) := by decide +kernel
theorem dX5_issue_41 : decode cX5_issue 41 = .ok (.getfield 7, 3) := by decide +kernel
theorem dX5_issue_44 : decode cX5_issue 44 = .ok (.iconst 0, 1) := by decide +kernel
theorem dX5_issue_45 : decode cX5_issue 45 = .ok (.iaload, 1) := by decide +kernel
theorem dX5_issue_46 : decode cX5_issue 46 = .ok (.istore_n 1, 1) := by decide +kernel
theorem dX5_issue_47 : decode cX5_issue 47 = .ok (.aload_n 0, 1) := by decide +kernel
theorem dX5_issue_48 : decode cX5_issue 48 = .ok (.getfield 7, 3) := by decide +kernel
theorem dX5_issue_51 : decode cX5_issue 51 = .ok (.iconst 2, 1) := by decide +kernel
theorem dX5_issue_52 : decode cX5_issue 52 = .ok (.bipush 9, 2) := by decide +kernel
theorem dX5_issue_54 : decode cX5_issue 54 = .ok (.iload_n 1, 1) := by decide +kernel
theorem dX5_issue_55 : decode cX5_issue 55 = .ok (.imul, 1) := by decide +kernel
theorem dX5_issue_56 : decode cX5_issue 56 = .ok (.iadd, 1) := by decide +kernel
theorem dX5_issue_57 : decode cX5_issue 57 = .ok (.aload_n 0, 1) := by decide +kernel
theorem dX5_issue_58 : decode cX5_issue 58 = .ok (.getfield 106, 3) := by decide +kernel
theorem dX5_issue_61 : decode cX5_issue 61 = .ok (.iastore, 1) := by decide +kernel
theorem dX5_issue_62 : decode cX5_issue 62 = .ok (.iconst 0, 1) := by decide +kernel
theorem dX5_issue_63 : decode cX5_issue 63 = .ok (.istore_n 2, 1) := by decide +kernel
theorem dX5_issue_64 : decode cX5_issue 64 = .ok (.iload_n 2, 1) := by decide +kernel
theorem dX5_issue_65 : decode cX5_issue 65 = .ok (.bipush 8, 2) := by decide +kernel
theorem dX5_issue_67 : decode cX5_issue 67 = .ok (.if_icmp .ge 42, 3) := by decide +kernel
theorem dX5_issue_70 : decode cX5_issue 70 = .ok (.aload_n 0, 1) := by decide +kernel
theorem dX5_issue_71 : decode cX5_issue 71 = .ok (.getfield 7, 3) := by decide +kernel
theorem dX5_issue_74 : decode cX5_issue 74 = .ok (.iconst 2, 1) := by decide +kernel
theorem dX5_issue_75 : decode cX5_issue 75 = .ok (.bipush 9, 2) := by decide +kernel
theorem dX5_issue_77 : decode cX5_issue 77 = .ok (.iload_n 1, 1) := by decide +kernel
theorem dX5_issue_78 : decode cX5_issue 78 = .ok (.imul, 1) := by decide +kernel
theorem dX5_issue_79 : decode cX5_issue 79 = .ok (.iadd, 1) := by decide +kernel
theorem dX5_issue_80 : decode cX5_issue 80 = .ok (.iconst 1, 1) := by decide +kernel
theorem dX5_issue_81 : decode cX5_issue 81 = .ok (.iadd, 1) := by decide +kernel
theorem dX5_issue_82 : decode cX5_issue 82 = .ok (.iload_n 2, 1) := by decide +kernel
theorem dX5_issue_83 : decode cX5_issue 83 = .ok (.iadd, 1) := by decide +kernel
theorem dX5_issue_84 : decode cX5_issue 84 = .ok (.iload_n 2, 1) := by decide +kernel
theorem dX5_issue_85 : decode cX5_issue 85 = .ok (.aload_n 0, 1) := by decide +kernel
theorem dX5_issue_86 : decode cX5_issue 86 = .ok (.getfield 106, 3) := by decide +kernel
theorem dX5_issue_89 : decode cX5_issue 89 = .ok (.if_icmp .ge 12, 3) := by decide +kernel
theorem dX5_issue_92 : decode cX5_issue 92 = .ok (.aload_n 0, 1) := by decide +kernel
theorem dX5_issue_93 : decode cX5_issue 93 = .ok (.getfield 28, 3) := by decide +kernel
theorem dX5_issue_96 : decode cX5_issue 96 = .ok (.iload_n 2, 1) := by decide +kernel
theorem dX5_issue_97 : decode cX5_issue 97 = .ok (.iaload, 1) := by decide +kernel
theorem dX5_issue_98 : decode cX5_issue 98 = .ok (.goto 4, 3) := by decide +kernel
theorem dX5_issue_101 : decode cX5_issue 101 = .ok (.iconst 0, 1) := by decide +kernel
theorem dX5_issue_102 : decode cX5_issue 102 = .ok (.iastore, 1) := by decide +kernel
theorem dX5_issue_103 : decode cX5_issue 103 = .ok (.iinc 2 1, 3) := by decide +kernel
theorem dX5_issue_106 : decode cX5_issue 106 = .ok (.goto (-42), 3) := by decide +kernel
theorem dX5_issue_109 : decode cX5_issue 109 = .ok (.aload_n 0, 1) := by decide +kernel
theorem dX5_issue_110 : decode cX5_issue 110 = .ok (.getfield 7, 3) := by decide +kernel
theorem dX5_issue_113 : decode cX5_issue 113 = .ok (.iconst 0, 1) := by decide +kernel
theorem dX5_issue_114 : decode cX5_issue 114 = .ok (.dup2, 1) := by decide +kernel
theorem dX5_issue_115 : decode cX5_issue 115 = .ok (.iaload, 1) := by decide +kernel
theorem dX5_issue_116 : decode cX5_issue 116 = .ok (.iconst 1, 1) := by decide +kernel
theorem dX5_issue_117 : decode cX5_issue 117 = .ok (.iadd, 1) := by decide +kernel
theorem dX5_issue_118 : decode cX5_issue 118 = .ok (.iastore, 1) := by decide +kernel
theorem dX5_issue_119 : decode cX5_issue 119 = .ok (.aload_n 0, 1) := by decide +kernel
theorem dX5_issue_120 : decode cX5_issue 120 = .ok (.iconst 0, 1) := by decide +kernel
theorem dX5_issue_121 : decode cX5_issue 121 = .ok (.putfield 120, 3) := by decide +kernel
theorem dX5_issue_124 : decode cX5_issue 124 = .ok (.aload_n 0, 1) := by decide +kernel
theorem dX5_issue_125 : decode cX5_issue 125 = .ok (.bipush 8, 2) := by decide +kernel
theorem dX5_issue_127 : decode cX5_issue 127 = .ok (.iload_n 1, 1) := by decide +kernel
theorem dX5_issue_128 : decode cX5_issue 128 = .ok (.iconst 1, 1) := by decide +kernel
theorem dX5_issue_129 : decode cX5_issue 129 = .ok (.invokevirtual 82, 3) := by decide +kernel
theorem dX5_issue_132 : decode cX5_issue 132 = .ok (.iconst 0, 1) := by decide +kernel
theorem dX5_issue_133 : decode cX5_issue 133 = .ok (.istore_n 2, 1) := by decide +kernel
theorem dX5_issue_134 : decode cX5_issue 134 = .ok (.iload_n 2, 1) := by decide +kernel
theorem dX5_issue_135 : decode cX5_issue 135 = .ok (.aload_n 0, 1) := by decide +kernel
theorem dX5_issue_136 : decode cX5_issue 136 = .ok (.getfield 7, 3) := by decide +kernel
theorem dX5_issue_139 : decode cX5_issue 139 = .ok (.iconst 1, 1) := by decide +kernel
theorem dX5_issue_140 : decode cX5_issue 140 = .ok (.iaload, 1) := by decide +kernel
theorem dX5_issue_141 : decode cX5_issue 141 = .ok (.if_icmp .ge 25, 3) := by decide +kernel
theorem dX5_issue_144 : decode cX5_issue 144 = .ok (.aload_n 0, 1) := by decide +kernel
theorem dX5_issue_145 : decode cX5_issue 145 = .ok (.iload_n 2, 1) := by decide +kernel
theorem dX5_issue_146 : decode cX5_issue 146 = .ok (.iconst 1, 1) := by decide +kernel
theorem dX5_issue_147 : decode cX5_issue 147 = .ok (.aload_n 0, 1) := by decide +kernel
theorem dX5_issue_148 : decode cX5_issue 148 = .ok (.iload_n 2, 1) := by decide +kernel
theorem dX5_issue_149 : decode cX5_issue 149 = .ok (.iconst 1, 1) := by decide +kernel
theorem dX5_issue_150 : decode cX5_issue 150 = .ok (.invokevirtual 52, 3) := by decide +kernel
theorem dX5_issue_153 : decode cX5_issue 153 = .ok (.iconst 1, 1) := by decide +kernel
theorem dX5_issue_154 : decode cX5_issue 154 = .ok (.iload_n 1, 1) := by decide +kernel
theorem dX5_issue_155 : decode cX5_issue 155 = .ok (.ishl, 1) := by decide +kernel
theorem dX5_issue_156 : decode cX5_issue 156 = .ok (.ior, 1) := by decide +kernel
theorem dX5_issue_157 : decode cX5_issue 157 = .ok (.invokevirtual 56, 3) := by decide +kernel
theorem dX5_issue_160 : decode cX5_issue 160 = .ok (.iinc 2 1, 3) := by decide +kernel
theorem dX5_issue_163 : decode cX5_issue 163 = .ok (.goto (-29), 3) := by decide +kernel
theorem dX5_issue_166 : decode cX5_issue 166 = .ok (.iload_n 1, 1) := by decide +kernel
theorem dX5_issue_167 : decode cX5_issue 167 = .ok (.ireturn, 1) := by decide +kernel
set_option maxRecDepth 20000 in
theorem ggX5_own_X5_record : GoodIn wsX5_own wsX5_record := goodIn_r _ [6, 7, 8, 1, 9, 10, 5, 11, 20, 21, 22, 23, 24, 25, 26, 27, 28, 29, 30, 31, 32] (by decide +kernel) (by decide +kernel)
set_option maxRecDepth 20000 in
theorem gX5_own_X5_record : GoodIn wsX5_own (wsV RX5 117 RX5 yX5_record wsX5_record) := goodIn_app (goodIn_of _ (by decide +kernel)) ggX5_own_X5_record
set_option maxRecDepth 20000 in
theorem ggX5_own_X5_part : GoodIn wsX5_own wsX5_part := goodIn_r _ [15, 1, 20, 21, 22, 23, 24, 25, 26, 27, 28, 29, 30, 31, 32] (by decide +kernel) (by decide +kernel)
set_option maxRecDepth 20000 in
theorem gX5_own_X5_part : GoodIn wsX5_own (wsV RX5 52 RX5 yX5_part wsX5_part) := goodIn_app (goodIn_of _ (by decide +kernel)) ggX5_own_X5_part
set_option maxRecDepth 20000 in
theorem ggX5_own_X5_setPart : GoodIn wsX5_own wsX5_setPart := goodIn_r _ [19, 1, 20, 21, 22, 23, 24, 25, 26, 27, 28, 29, 30, 31, 32] (by decide +kernel) (by decide +kernel)
set_option maxRecDepth 20000 in
theorem gX5_own_X5_setPart : GoodIn wsX5_own (wsV RX5 56 RX5 yX5_setPart wsX5_setPart) := goodIn_app (goodIn_of _ (by decide +kernel)) ggX5_own_X5_setPart
theorem dX5_own_0 : decode cX5_own 0 = .ok (.aload_n 0, 1) := by decide +kernel
theorem dX5_own_1 : decode cX5_own 1 = .ok (.getfield 7, 3) := by decide +kernel
theorem dX5_own_4 : decode cX5_own 4 = .ok (.iconst 1, 1) := by decide +kernel
theorem dX5_own_5 : decode cX5_own 5 = .ok (.iaload, 1) := by decide +kernel
theorem dX5_own_6 : decode cX5_own 6 = .ok (.bipush 8, 2) := by decide +kernel
theorem dX5_own_8 : decode cX5_own 8 = .ok (.if_icmp .ne 6, 3) := by decide +kernel
theorem dX5_own_11 : decode cX5_own 11 = .ok (.bipush (-4), 2) := by decide +kernel
theorem dX5_own_13 : decode cX5_own 13 = .ok (.ireturn, 1) := by decide +kernel
theorem dX5_own_14 : decode cX5_own 14 = .ok (.aload_n 0, 1) := by decide +kernel
theorem dX5_own_15 : decode cX5_own 15 = .ok (.invokevirtual 117, 3) := by decide +kernel
theorem dX5_own_18 : decode cX5_own 18 = .ok (.aload_n 0, 1) := by decide +kernel
theorem dX5_own_19 : decode cX5_own 19 = .ok (.getfield 7, 3) := by decide +kernel
theorem dX5_own_22 : decode cX5_own 22 = .ok (.iconst 1, 1) := by decide +kernel
theorem dX5_own_23 : decode cX5_own 23 = .ok (.iaload, 1) := by decide +kernel
theorem dX5_own_24 : decode cX5_own 24 = .ok (.istore_n 1, 1) := by decide +kernel
theorem dX5_own_25 : decode cX5_own 25 = .ok (.iconst 0, 1) := by decide +kernel
theorem dX5_own_26 : decode cX5_own 26 = .ok (.istore_n 2, 1) := by decide +kernel
theorem dX5_own_27 : decode cX5_own 27 = .ok (.iload_n 2, 1) := by decide +kernel
theorem dX5_own_28 : decode cX5_own 28 = .ok (.bipush 63, 2) := by decide +kernel
theorem dX5_own_30 : decode cX5_own 30 = .ok (.if_icmp .ge 22, 3) := by decide +kernel
theorem dX5_own_33 : decode cX5_own 33 = .ok (.aload_n 0, 1) := by decide +kernel
theorem dX5_own_34 : decode cX5_own 34 = .ok (.iload_n 1, 1) := by decide +kernel
theorem dX5_own_35 : decode cX5_own 35 = .ok (.iload_n 2, 1) := by decide +kernel
theorem dX5_own_36 : decode cX5_own 36 = .ok (.aload_n 0, 1) := by decide +kernel
theorem dX5_own_37 : decode cX5_own 37 = .ok (.bipush 8, 2) := by decide +kernel
theorem dX5_own_39 : decode cX5_own 39 = .ok (.iload_n 2, 1) := by decide +kernel
theorem dX5_own_40 : decode cX5_own 40 = .ok (.invokevirtual 52, 3) := by decide +kernel
theorem dX5_own_43 : decode cX5_own 43 = .ok (.invokevirtual 56, 3) := by decide +kernel
theorem dX5_own_46 : decode cX5_own 46 = .ok (.iinc 2 1, 3) := by decide +kernel
theorem dX5_own_49 : decode cX5_own 49 = .ok (.goto (-22), 3) := by decide +kernel
theorem dX5_own_52 : decode cX5_own 52 = .ok (.aload_n 0, 1) := by decide +kernel
theorem dX5_own_53 : decode cX5_own 53 = .ok (.iload_n 1, 1) := by decide +kernel
theorem dX5_own_54 : decode cX5_own 54 = .ok (.iconst 1, 1) := by decide +kernel
theorem dX5_own_55 : decode cX5_own 55 = .ok (.iconst 0, 1) := by decide +kernel
theorem dX5_own_56 : decode cX5_own 56 = .ok (.invokevirtual 56, 3) := by decide +kernel
theorem dX5_own_59 : decode cX5_own 59 = .ok (.aload_n 0, 1) := by decide +kernel
theorem dX5_own_60 : decode cX5_own 60 = .ok (.iload_n 1, 1) := by decide +kernel
theorem dX5_own_61 : decode cX5_own 61 = .ok (.iconst 2, 1) := by decide +kernel
theorem dX5_own_62 : decode cX5_own 62 = .ok (.iconst 0, 1) := by decide +kernel
theorem dX5_own_63 : decode cX5_own 63 = .ok (.invokevirtual 56, 3) := by decide +kernel
theorem dX5_own_66 : decode cX5_own 66 = .ok (.aload_n 0, 1) := by decide +kernel
theorem dX5_own_67 : decode cX5_own 67 = .ok (.getfield 7, 3) := by decide +kernel
theorem dX5_own_70 : decode cX5_own 70 = .ok (.iconst 1, 1) := by decide +kernel
theorem dX5_own_71 : decode cX5_own 71 = .ok (.dup2, 1) := by decide +kernel
theorem dX5_own_72 : decode cX5_own 72 = .ok (.iaload, 1) := by decide +kernel
theorem dX5_own_73 : decode cX5_own 73 = .ok (.iconst 1, 1) := by decide +kernel
theorem dX5_own_74 : decode cX5_own 74 = .ok (.iadd, 1) := by decide +kernel
theorem dX5_own_75 : decode cX5_own 75 = .ok (.iastore, 1) := by decide +kernel
theorem dX5_own_76 : decode cX5_own 76 = .ok (.iload_n 1, 1) := by decide +kernel
theorem dX5_own_77 : decode cX5_own 77 = .ok (.ireturn, 1) := by decide +kernel
set_option maxRecDepth 20000 in
theorem ggX5_waits_X5_part : GoodIn wsX5_waits wsX5_part := goodIn_r _ [5, 6, 7, 8, 9, 10, 11, 12, 13, 14, 15, 16, 17, 18, 19] (by decide +kernel) (by decide +kernel)
set_option maxRecDepth 20000 in
theorem gX5_waits_X5_part : GoodIn wsX5_waits (wsV RX5 52 RX5 yX5_part wsX5_part) := goodIn_app (goodIn_of _ (by decide +kernel)) ggX5_waits_X5_part
theorem dX5_waits_0 : decode cX5_waits 0 = .ok (.aload_n 0, 1) := by decide +kernel
theorem dX5_waits_1 : decode cX5_waits 1 = .ok (.iload_n 1, 1) := by decide +kernel
theorem dX5_waits_2 : decode cX5_waits 2 = .ok (.iconst 1, 1) := by decide +kernel
theorem dX5_waits_3 : decode cX5_waits 3 = .ok (.invokevirtual 52, 3) := by decide +kernel
theorem dX5_waits_6 : decode cX5_waits 6 = .ok (.iload_n 2, 1) := by decide +kernel
theorem dX5_waits_7 : decode cX5_waits 7 = .ok (.ishr, 1) := by decide +kernel
theorem dX5_waits_8 : decode cX5_waits 8 = .ok (.iconst 1, 1) := by decide +kernel
theorem dX5_waits_9 : decode cX5_waits 9 = .ok (.iand, 1) := by decide +kernel
theorem dX5_waits_10 : decode cX5_waits 10 = .ok (.iconst 1, 1) := by decide +kernel
theorem dX5_waits_11 : decode cX5_waits 11 = .ok (.if_icmp .ne 7, 3) := by decide +kernel
theorem dX5_waits_14 : decode cX5_waits 14 = .ok (.iconst 1, 1) := by decide +kernel
theorem dX5_waits_15 : decode cX5_waits 15 = .ok (.goto 4, 3) := by decide +kernel
theorem dX5_waits_18 : decode cX5_waits 18 = .ok (.iconst 0, 1) := by decide +kernel
theorem dX5_waits_19 : decode cX5_waits 19 = .ok (.ireturn, 1) := by decide +kernel
set_option maxRecDepth 20000 in
theorem ggX5_done_X5_isOwner : GoodIn wsX5_done wsX5_isOwner := goodIn_r _ [5, 6, 7, 8, 4, 9, 67, 68, 69, 70, 71, 72, 73, 74, 75, 76, 77, 78, 79] (by decide +kernel) (by decide +kernel)
set_option maxRecDepth 20000 in
theorem gX5_done_X5_isOwner : GoodIn wsX5_done (wsV RX5 123 RX5 yX5_isOwner wsX5_isOwner) := goodIn_app (goodIn_of _ (by decide +kernel)) ggX5_done_X5_isOwner
set_option maxRecDepth 20000 in
theorem ggX5_done_X5_isParcel : GoodIn wsX5_done wsX5_isParcel := goodIn_r _ [13, 6, 7, 8, 4, 9, 67, 68, 69, 70, 71, 72, 73, 74, 75, 76, 77, 78, 79] (by decide +kernel) (by decide +kernel)
set_option maxRecDepth 20000 in
theorem gX5_done_X5_isParcel : GoodIn wsX5_done (wsV RX5 127 RX5 yX5_isParcel wsX5_isParcel) := goodIn_app (goodIn_of _ (by decide +kernel)) ggX5_done_X5_isParcel
set_option maxRecDepth 20000 in
theorem ggX5_done_X5_waits : GoodIn wsX5_done wsX5_waits := goodIn_r _ [17, 18, 19, 20, 4, 21, 6, 67, 68, 69, 70, 71, 72, 73, 74, 75, 76, 77, 78, 79] (by decide +kernel) (by decide +kernel)
set_option maxRecDepth 20000 in
theorem gX5_done_X5_waits : GoodIn wsX5_done (wsV RX5 130 RX5 yX5_waits wsX5_waits) := goodIn_app (goodIn_of _ (by decide +kernel)) ggX5_done_X5_waits
set_option maxRecDepth 20000 in
theorem ggX5_done_X5_record : GoodIn wsX5_done wsX5_record := goodIn_r _ [25, 26, 27, 6, 28, 29, 4, 30, 67, 68, 69, 70, 71, 72, 73, 74, 75, 76, 77, 78, 79] (by decide +kernel) (by decide +kernel)
set_option maxRecDepth 20000 in
theorem gX5_done_X5_record : GoodIn wsX5_done (wsV RX5 117 RX5 yX5_record wsX5_record) := goodIn_app (goodIn_of _ (by decide +kernel)) ggX5_done_X5_record
set_option maxRecDepth 20000 in
theorem ggX5_done_X5_doParcel : GoodIn wsX5_done wsX5_doParcel := goodIn_r _ [34, 6, 35, 36, 37, 4, 38, 39, 40, 41, 42, 18, 19, 20, 21, 43, 44, 45, 46, 47, 48, 49, 50, 51, 52, 53, 54, 55, 56, 57, 58, 59, 60, 61, 62, 63, 64, 65, 66, 67, 68, 69, 70, 71, 72, 73, 74, 75, 76, 77, 78, 79] (by decide +kernel) (by decide +kernel)
set_option maxRecDepth 20000 in
theorem gX5_done_X5_doParcel : GoodIn wsX5_done (wsV RX5 82 RX5 yX5_doParcel wsX5_doParcel) := goodIn_app (goodIn_of _ (by decide +kernel)) ggX5_done_X5_doParcel
set_option maxRecDepth 20000 in
theorem ggX5_done_X5_part : GoodIn wsX5_done wsX5_part := goodIn_r _ [21, 6, 67, 68, 69, 70, 71, 72, 73, 74, 75, 76, 77, 78, 79] (by decide +kernel) (by decide +kernel)
set_option maxRecDepth 20000 in
theorem gX5_done_X5_part : GoodIn wsX5_done (wsV RX5 52 RX5 yX5_part wsX5_part) := goodIn_app (goodIn_of _ (by decide +kernel)) ggX5_done_X5_part
set_option maxRecDepth 20000 in
theorem ggX5_done_X5_setPart : GoodIn wsX5_done wsX5_setPart := goodIn_r _ [62, 6, 67, 68, 69, 70, 71, 72, 73, 74, 75, 76, 77, 78, 79] (by decide +kernel) (by decide +kernel)
set_option maxRecDepth 20000 in
theorem gX5_done_X5_setPart : GoodIn wsX5_done (wsV RX5 56 RX5 yX5_setPart wsX5_setPart) := goodIn_app (goodIn_of _ (by decide +kernel)) ggX5_done_X5_setPart
theorem dX5_done_0 : decode cX5_done 0 = .ok (.aload_n 0, 1) := by decide +kernel
theorem dX5_done_1 : decode cX5_done 1 = .ok (.iload_n 1, 1) := by decide +kernel
theorem dX5_done_2 : decode cX5_done 2 = .ok (.invokevirtual 123, 3) := by decide +kernel
theorem dX5_done_5 : decode cX5_done 5 = .ok (.ifCond .eq 11, 3) := by decide +kernel
theorem dX5_done_8 : decode cX5_done 8 = .ok (.aload_n 0, 1) := by decide +kernel
theorem dX5_done_9 : decode cX5_done 9 = .ok (.iload_n 2, 1) := by decide +kernel
theorem dX5_done_10 : decode cX5_done 10 = .ok (.invokevirtual 127, 3) := by decide +kernel
theorem dX5_done_13 : decode cX5_done 13 = .ok (.ifCond .ne 5, 3) := by decide +kernel
theorem dX5_done_16 : decode cX5_done 16 = .ok (.iconst (-1), 1) := by decide +kernel
theorem dX5_done_17 : decode cX5_done 17 = .ok (.ireturn, 1) := by decide +kernel
theorem dX5_done_18 : decode cX5_done 18 = .ok (.aload_n 0, 1) := by decide +kernel
theorem dX5_done_19 : decode cX5_done 19 = .ok (.iload_n 1, 1) := by decide +kernel
theorem dX5_done_20 : decode cX5_done 20 = .ok (.iload_n 2, 1) := by decide +kernel
theorem dX5_done_21 : decode cX5_done 21 = .ok (.invokevirtual 130, 3) := by decide +kernel
theorem dX5_done_24 : decode cX5_done 24 = .ok (.ifCond .ne 6, 3) := by decide +kernel
theorem dX5_done_27 : decode cX5_done 27 = .ok (.bipush (-5), 2) := by decide +kernel
theorem dX5_done_29 : decode cX5_done 29 = .ok (.ireturn, 1) := by decide +kernel
theorem dX5_done_30 : decode cX5_done 30 = .ok (.aload_n 0, 1) := by decide +kernel
theorem dX5_done_31 : decode cX5_done 31 = .ok (.invokevirtual 117, 3) := by decide +kernel
theorem dX5_done_34 : decode cX5_done 34 = .ok (.aload_n 0, 1) := by decide +kernel
theorem dX5_done_35 : decode cX5_done 35 = .ok (.iload_n 1, 1) := by decide +kernel
theorem dX5_done_36 : decode cX5_done 36 = .ok (.iload_n 2, 1) := by decide +kernel
theorem dX5_done_37 : decode cX5_done 37 = .ok (.iload_n 3, 1) := by decide +kernel
theorem dX5_done_38 : decode cX5_done 38 = .ok (.invokevirtual 82, 3) := by decide +kernel
theorem dX5_done_41 : decode cX5_done 41 = .ok (.aload_n 0, 1) := by decide +kernel
theorem dX5_done_42 : decode cX5_done 42 = .ok (.iload_n 1, 1) := by decide +kernel
theorem dX5_done_43 : decode cX5_done 43 = .ok (.iconst 1, 1) := by decide +kernel
theorem dX5_done_44 : decode cX5_done 44 = .ok (.aload_n 0, 1) := by decide +kernel
theorem dX5_done_45 : decode cX5_done 45 = .ok (.iload_n 1, 1) := by decide +kernel
theorem dX5_done_46 : decode cX5_done 46 = .ok (.iconst 1, 1) := by decide +kernel
theorem dX5_done_47 : decode cX5_done 47 = .ok (.invokevirtual 52, 3) := by decide +kernel
theorem dX5_done_50 : decode cX5_done 50 = .ok (.iconst 1, 1) := by decide +kernel
theorem dX5_done_51 : decode cX5_done 51 = .ok (.iload_n 2, 1) := by decide +kernel
theorem dX5_done_52 : decode cX5_done 52 = .ok (.ishl, 1) := by decide +kernel
