theorem dX0_init_0 : decode cX0_init 0 = .ok (.aload_n 0, 1) := by decide +kernel
theorem dX0_init_1 : decode cX0_init 1 = .ok (.invokespecial 3, 3) := by decide +kernel
theorem dX0_init_4 : decode cX0_init 4 = .ok (.aload_n 0, 1) := by decide +kernel
theorem dX0_init_5 : decode cX0_init 5 = .ok (.bipush 60, 2) := by decide +kernel
theorem dX0_init_7 : decode cX0_init 7 = .ok (.newarray .int, 2) := by decide +kernel
theorem dX0_init_9 : decode cX0_init 9 = .ok (.putfield 9, 3) := by decide +kernel
theorem dX0_init_12 : decode cX0_init 12 = .ok (.return_, 1) := by decide +kernel
theorem dX0_leafWith_0 : decode cX0_leafWith 0 = .ok (.iload_n 0, 1) := by decide +kernel
theorem dX0_leafWith_1 : decode cX0_leafWith 1 = .ok (.bipush 16, 2) := by decide +kernel
theorem dX0_leafWith_3 : decode cX0_leafWith 3 = .ok (.imul, 1) := by decide +kernel
theorem dX0_leafWith_4 : decode cX0_leafWith 4 = .ok (.iload_n 1, 1) := by decide +kernel
theorem dX0_leafWith_5 : decode cX0_leafWith 5 = .ok (.iadd, 1) := by decide +kernel
theorem dX0_leafWith_6 : decode cX0_leafWith 6 = .ok (.ireturn, 1) := by decide +kernel
theorem dX0_numberOf_0 : decode cX0_numberOf 0 = .ok (.iload_n 0, 1) := by decide +kernel
theorem dX0_numberOf_1 : decode cX0_numberOf 1 = .ok (.bipush 16, 2) := by decide +kernel
theorem dX0_numberOf_3 : decode cX0_numberOf 3 = .ok (.idiv, 1) := by decide +kernel
theorem dX0_numberOf_4 : decode cX0_numberOf 4 = .ok (.ireturn, 1) := by decide +kernel
theorem dX0_issueOf_0 : decode cX0_issueOf 0 = .ok (.iload_n 0, 1) := by decide +kernel
theorem dX0_issueOf_1 : decode cX0_issueOf 1 = .ok (.bipush 16, 2) := by decide +kernel
theorem dX0_issueOf_3 : decode cX0_issueOf 3 = .ok (.irem, 1) := by decide +kernel
theorem dX0_issueOf_4 : decode cX0_issueOf 4 = .ok (.ireturn, 1) := by decide +kernel
theorem dX0_copy_0 : decode cX0_copy 0 = .ok (.aload_n 1, 1) := by decide +kernel
theorem dX0_copy_1 : decode cX0_copy 1 = .ok (.getfield 9, 3) := by decide +kernel
theorem dX0_copy_4 : decode cX0_copy 4 = .ok (.iconst 0, 1) := by decide +kernel
theorem dX0_copy_5 : decode cX0_copy 5 = .ok (.aload_n 0, 1) := by decide +kernel
theorem dX0_copy_6 : decode cX0_copy 6 = .ok (.getfield 9, 3) := by decide +kernel
theorem dX0_copy_9 : decode cX0_copy 9 = .ok (.iconst 0, 1) := by decide +kernel
theorem dX0_copy_10 : decode cX0_copy 10 = .ok (.aload_n 1, 1) := by decide +kernel
theorem dX0_copy_11 : decode cX0_copy 11 = .ok (.getfield 15, 3) := by decide +kernel
theorem dX0_copy_14 : decode cX0_copy 14 = .ok (.invokestatic 19, 3) := by decide +kernel
theorem dX0_copy_17 : decode cX0_copy 17 = .ok (.aload_n 0, 1) := by decide +kernel
theorem dX0_copy_18 : decode cX0_copy 18 = .ok (.aload_n 1, 1) := by decide +kernel
theorem dX0_copy_19 : decode cX0_copy 19 = .ok (.getfield 15, 3) := by decide +kernel
theorem dX0_copy_22 : decode cX0_copy 22 = .ok (.putfield 15, 3) := by decide +kernel
theorem dX0_copy_25 : decode cX0_copy 25 = .ok (.return_, 1) := by decide +kernel
theorem dX0_placeOf_0 : decode cX0_placeOf 0 = .ok (.iconst 0, 1) := by decide +kernel
theorem dX0_placeOf_1 : decode cX0_placeOf 1 = .ok (.istore_n 2, 1) := by decide +kernel
theorem dX0_placeOf_2 : decode cX0_placeOf 2 = .ok (.iload_n 2, 1) := by decide +kernel
theorem dX0_placeOf_3 : decode cX0_placeOf 3 = .ok (.aload_n 0, 1) := by decide +kernel
theorem dX0_placeOf_4 : decode cX0_placeOf 4 = .ok (.getfield 15, 3) := by decide +kernel
theorem dX0_placeOf_7 : decode cX0_placeOf 7 = .ok (.if_icmp .ge 21, 3) := by decide +kernel
theorem dX0_placeOf_10 : decode cX0_placeOf 10 = .ok (.aload_n 0, 1) := by decide +kernel
theorem dX0_placeOf_11 : decode cX0_placeOf 11 = .ok (.getfield 9, 3) := by decide +kernel
theorem dX0_placeOf_14 : decode cX0_placeOf 14 = .ok (.iload_n 2, 1) := by decide +kernel
theorem dX0_placeOf_15 : decode cX0_placeOf 15 = .ok (.iaload, 1) := by decide +kernel
theorem dX0_placeOf_16 : decode cX0_placeOf 16 = .ok (.iload_n 1, 1) := by decide +kernel
theorem dX0_placeOf_17 : decode cX0_placeOf 17 = .ok (.if_icmp .lt 5, 3) := by decide +kernel
theorem dX0_placeOf_20 : decode cX0_placeOf 20 = .ok (.iload_n 2, 1) := by decide +kernel
theorem dX0_placeOf_21 : decode cX0_placeOf 21 = .ok (.ireturn, 1) := by decide +kernel
theorem dX0_placeOf_22 : decode cX0_placeOf 22 = .ok (.iinc 2 1, 3) := by decide +kernel
theorem dX0_placeOf_25 : decode cX0_placeOf 25 = .ok (.goto (-23), 3) := by decide +kernel
theorem dX0_placeOf_28 : decode cX0_placeOf 28 = .ok (.aload_n 0, 1) := by decide +kernel
theorem dX0_placeOf_29 : decode cX0_placeOf 29 = .ok (.getfield 15, 3) := by decide +kernel
theorem dX0_placeOf_32 : decode cX0_placeOf 32 = .ok (.ireturn, 1) := by decide +kernel
set_option maxRecDepth 20000 in
theorem ggX0_start_X0_leafWith : GoodIn wsX0_start wsX0_leafWith := goodIn_r _ [4] (by decide +kernel) (by decide +kernel)
set_option maxRecDepth 20000 in
theorem gX0_start_X0_leafWith : GoodIn wsX0_start (va_wsS RX0 25 yX0_leafWith wsX0_leafWith) := goodIn_app (goodIn_of _ (by decide +kernel)) ggX0_start_X0_leafWith
set_option maxRecDepth 20000 in
theorem ggX0_start_X0_placeOf : GoodIn wsX0_start wsX0_placeOf := goodIn_r _ [8, 9, 10, 11, 12] (by decide +kernel) (by decide +kernel)
set_option maxRecDepth 20000 in
theorem gX0_start_X0_placeOf : GoodIn wsX0_start (wsV RX0 29 RX0 yX0_placeOf wsX0_placeOf) := goodIn_app (goodIn_of _ (by decide +kernel)) ggX0_start_X0_placeOf
theorem dX0_start_0 : decode cX0_start 0 = .ok (.aload_n 0, 1) := by decide +kernel
theorem dX0_start_1 : decode cX0_start 1 = .ok (.iload_n 1, 1) := by decide +kernel
theorem dX0_start_2 : decode cX0_start 2 = .ok (.iconst 0, 1) := by decide +kernel
theorem dX0_start_3 : decode cX0_start 3 = .ok (.invokestatic 25, 3) := by decide +kernel
theorem dX0_start_6 : decode cX0_start 6 = .ok (.invokevirtual 29, 3) := by decide +kernel
theorem dX0_start_9 : decode cX0_start 9 = .ok (.ireturn, 1) := by decide +kernel
set_option maxRecDepth 20000 in
theorem ggX0_end_X0_numberOf : GoodIn wsX0_end wsX0_numberOf := goodIn_r _ [6] (by decide +kernel) (by decide +kernel)
set_option maxRecDepth 20000 in
theorem gX0_end_X0_numberOf : GoodIn wsX0_end (va_wsS RX0 33 yX0_numberOf wsX0_numberOf) := goodIn_app (goodIn_of _ (by decide +kernel)) ggX0_end_X0_numberOf
theorem dX0_end_0 : decode cX0_end 0 = .ok (.iload_n 2, 1) := by decide +kernel
theorem dX0_end_1 : decode cX0_end 1 = .ok (.istore_n 3, 1) := by decide +kernel
theorem dX0_end_2 : decode cX0_end 2 = .ok (.iload_n 3, 1) := by decide +kernel
theorem dX0_end_3 : decode cX0_end 3 = .ok (.aload_n 0, 1) := by decide +kernel
theorem dX0_end_4 : decode cX0_end 4 = .ok (.getfield 15, 3) := by decide +kernel
theorem dX0_end_7 : decode cX0_end 7 = .ok (.if_icmp .ge 24, 3) := by decide +kernel
theorem dX0_end_10 : decode cX0_end 10 = .ok (.aload_n 0, 1) := by decide +kernel
theorem dX0_end_11 : decode cX0_end 11 = .ok (.getfield 9, 3) := by decide +kernel
theorem dX0_end_14 : decode cX0_end 14 = .ok (.iload_n 3, 1) := by decide +kernel
theorem dX0_end_15 : decode cX0_end 15 = .ok (.iaload, 1) := by decide +kernel
theorem dX0_end_16 : decode cX0_end 16 = .ok (.invokestatic 33, 3) := by decide +kernel
theorem dX0_end_19 : decode cX0_end 19 = .ok (.iload_n 1, 1) := by decide +kernel
theorem dX0_end_20 : decode cX0_end 20 = .ok (.if_icmp .eq 5, 3) := by decide +kernel
theorem dX0_end_23 : decode cX0_end 23 = .ok (.iload_n 3, 1) := by decide +kernel
theorem dX0_end_24 : decode cX0_end 24 = .ok (.ireturn, 1) := by decide +kernel
theorem dX0_end_25 : decode cX0_end 25 = .ok (.iinc 3 1, 3) := by decide +kernel
theorem dX0_end_28 : decode cX0_end 28 = .ok (.goto (-26), 3) := by decide +kernel
theorem dX0_end_31 : decode cX0_end 31 = .ok (.aload_n 0, 1) := by decide +kernel
theorem dX0_end_32 : decode cX0_end 32 = .ok (.getfield 15, 3) := by decide +kernel
theorem dX0_end_35 : decode cX0_end 35 = .ok (.ireturn, 1) := by decide +kernel
theorem dX0_removeRange_0 : decode cX0_removeRange 0 = .ok (.aload_n 0, 1) := by decide +kernel
theorem dX0_removeRange_1 : decode cX0_removeRange 1 = .ok (.getfield 9, 3) := by decide +kernel
theorem dX0_removeRange_4 : decode cX0_removeRange 4 = .ok (.iload_n 2, 1) := by decide +kernel
theorem dX0_removeRange_5 : decode cX0_removeRange 5 = .ok (.aload_n 0, 1) := by decide +kernel
theorem dX0_removeRange_6 : decode cX0_removeRange 6 = .ok (.getfield 9, 3) := by decide +kernel
theorem dX0_removeRange_9 : decode cX0_removeRange 9 = .ok (.iload_n 1, 1) := by decide +kernel
theorem dX0_removeRange_10 : decode cX0_removeRange 10 = .ok (.aload_n 0, 1) := by decide +kernel
theorem dX0_removeRange_11 : decode cX0_removeRange 11 = .ok (.getfield 15, 3) := by decide +kernel
theorem dX0_removeRange_14 : decode cX0_removeRange 14 = .ok (.iload_n 2, 1) := by decide +kernel
theorem dX0_removeRange_15 : decode cX0_removeRange 15 = .ok (.isub, 1) := by decide +kernel
theorem dX0_removeRange_16 : decode cX0_removeRange 16 = .ok (.invokestatic 19, 3) := by decide +kernel
theorem dX0_removeRange_19 : decode cX0_removeRange 19 = .ok (.aload_n 0, 1) := by decide +kernel
theorem dX0_removeRange_20 : decode cX0_removeRange 20 = .ok (.dup, 1) := by decide +kernel
theorem dX0_removeRange_21 : decode cX0_removeRange 21 = .ok (.getfield 15, 3) := by decide +kernel
theorem dX0_removeRange_24 : decode cX0_removeRange 24 = .ok (.iload_n 2, 1) := by decide +kernel
theorem dX0_removeRange_25 : decode cX0_removeRange 25 = .ok (.iload_n 1, 1) := by decide +kernel
theorem dX0_removeRange_26 : decode cX0_removeRange 26 = .ok (.isub, 1) := by decide +kernel
theorem dX0_removeRange_27 : decode cX0_removeRange 27 = .ok (.isub, 1) := by decide +kernel
theorem dX0_removeRange_28 : decode cX0_removeRange 28 = .ok (.putfield 15, 3) := by decide +kernel
theorem dX0_removeRange_31 : decode cX0_removeRange 31 = .ok (.return_, 1) := by decide +kernel
set_option maxRecDepth 20000 in
theorem ggX0_insert_X0_leafWith : GoodIn wsX0_insert wsX0_leafWith := goodIn_r _ [10] (by decide +kernel) (by decide +kernel)
set_option maxRecDepth 20000 in
theorem gX0_insert_X0_leafWith : GoodIn wsX0_insert (va_wsS RX0 25 yX0_leafWith wsX0_leafWith) := goodIn_app (goodIn_of _ (by decide +kernel)) ggX0_insert_X0_leafWith
set_option maxRecDepth 20000 in
theorem ggX0_insert_X0_placeOf : GoodIn wsX0_insert wsX0_placeOf := goodIn_r _ [14, 1, 2, 15, 16] (by decide +kernel) (by decide +kernel)
set_option maxRecDepth 20000 in
theorem gX0_insert_X0_placeOf : GoodIn wsX0_insert (wsV RX0 29 RX0 yX0_placeOf wsX0_placeOf) := goodIn_app (goodIn_of _ (by decide +kernel)) ggX0_insert_X0_placeOf
theorem dX0_insert_0 : decode cX0_insert 0 = .ok (.aload_n 0, 1) := by decide +kernel
theorem dX0_insert_1 : decode cX0_insert 1 = .ok (.getfield 15, 3) := by decide +kernel
theorem dX0_insert_4 : decode cX0_insert 4 = .ok (.bipush 60, 2) := by decide +kernel
theorem dX0_insert_6 : decode cX0_insert 6 = .ok (.if_icmp .lt 4, 3) := by decide +kernel
theorem dX0_insert_9 : decode cX0_insert 9 = .ok (.return_, 1) := by decide +kernel
theorem dX0_insert_10 : decode cX0_insert 10 = .ok (.iload_n 1, 1) := by decide +kernel
theorem dX0_insert_11 : decode cX0_insert 11 = .ok (.iload_n 2, 1) := by decide +kernel
theorem dX0_insert_12 : decode cX0_insert 12 = .ok (.invokestatic 25, 3) := by decide +kernel
theorem dX0_insert_15 : decode cX0_insert 15 = .ok (.istore_n 3, 1) := by decide +kernel
theorem dX0_insert_16 : decode cX0_insert 16 = .ok (.aload_n 0, 1) := by decide +kernel
theorem dX0_insert_17 : decode cX0_insert 17 = .ok (.iload_n 3, 1) := by decide +kernel
theorem dX0_insert_18 : decode cX0_insert 18 = .ok (.invokevirtual 29, 3) := by decide +kernel
theorem dX0_insert_21 : decode cX0_insert 21 = .ok (.istore 4, 2) := by decide +kernel
theorem dX0_insert_23 : decode cX0_insert 23 = .ok (.aload_n 0, 1) := by decide +kernel
theorem dX0_insert_24 : decode cX0_insert 24 = .ok (.getfield 9, 3) := by decide +kernel
theorem dX0_insert_27 : decode cX0_insert 27 = .ok (.iload 4, 2) := by decide +kernel
theorem dX0_insert_29 : decode cX0_insert 29 = .ok (.aload_n 0, 1) := by decide +kernel
theorem dX0_insert_30 : decode cX0_insert 30 = .ok (.getfield 9, 3) := by decide +kernel
theorem dX0_insert_33 : decode cX0_insert 33 = .ok (.iload 4, 2) := by decide +kernel
theorem dX0_insert_35 : decode cX0_insert 35 = .ok (.iconst 1, 1) := by decide +kernel
theorem dX0_insert_36 : decode cX0_insert 36 = .ok (.iadd, 1) := by decide +kernel
theorem dX0_insert_37 : decode cX0_insert 37 = .ok (.aload_n 0, 1) := by decide +kernel
theorem dX0_insert_38 : decode cX0_insert 38 = .ok (.getfield 15, 3) := by decide +kernel
theorem dX0_insert_41 : decode cX0_insert 41 = .ok (.iload 4, 2) := by decide +kernel
theorem dX0_insert_43 : decode cX0_insert 43 = .ok (.isub, 1) := by decide +kernel
theorem dX0_insert_44 : decode cX0_insert 44 = .ok (.invokestatic 19, 3) := by decide +kernel
theorem dX0_insert_47 : decode cX0_insert 47 = .ok (.aload_n 0, 1) := by decide +kernel
theorem dX0_insert_48 : decode cX0_insert 48 = .ok (.getfield 9, 3) := by decide +kernel
theorem dX0_insert_51 : decode cX0_insert 51 = .ok (.iload 4, 2) := by decide +kernel
theorem dX0_insert_53 : decode cX0_insert 53 = .ok (.iload_n 3, 1) := by decide +kernel
theorem dX0_insert_54 : decode cX0_insert 54 = .ok (.iastore, 1) := by decide +kernel
theorem dX0_insert_55 : decode cX0_insert 55 = .ok (.aload_n 0, 1) := by decide +kernel
theorem dX0_insert_56 : decode cX0_insert 56 = .ok (.dup, 1) := by decide +kernel
theorem dX0_insert_57 : decode cX0_insert 57 = .ok (.getfield 15, 3) := by decide +kernel
theorem dX0_insert_60 : decode cX0_insert 60 = .ok (.iconst 1, 1) := by decide +kernel
theorem dX0_insert_61 : decode cX0_insert 61 = .ok (.iadd, 1) := by decide +kernel
theorem dX0_insert_62 : decode cX0_insert 62 = .ok (.putfield 15, 3) := by decide +kernel
theorem dX0_insert_65 : decode cX0_insert 65 = .ok (.return_, 1) := by decide +kernel
set_option maxRecDepth 20000 in
theorem ggX0_removeAll_X0_start : GoodIn wsX0_removeAll wsX0_start := goodIn_r _ [5, 6, 7, 4, 8, 9, 10, 11, 12, 13, 14, 30, 31] (by decide +kernel) (by decide +kernel)
set_option maxRecDepth 20000 in
theorem gX0_removeAll_X0_start : GoodIn wsX0_removeAll (wsV RX0 36 RX0 yX0_start wsX0_start) := goodIn_app (goodIn_of _ (by decide +kernel)) ggX0_removeAll_X0_start
set_option maxRecDepth 20000 in
theorem ggX0_removeAll_X0_end : GoodIn wsX0_removeAll wsX0_end := goodIn_r _ [18, 13, 14, 19, 20, 4, 21, 30, 31] (by decide +kernel) (by decide +kernel)
set_option maxRecDepth 20000 in
theorem gX0_removeAll_X0_end : GoodIn wsX0_removeAll (wsV RX0 39 RX0 yX0_end wsX0_end) := goodIn_app (goodIn_of _ (by decide +kernel)) ggX0_removeAll_X0_end
set_option maxRecDepth 20000 in
theorem ggX0_removeAll_X0_removeRange : GoodIn wsX0_removeAll wsX0_removeRange := goodIn_r _ [25, 14, 13, 26, 27, 28, 29, 30, 31] (by decide +kernel) (by decide +kernel)
set_option maxRecDepth 20000 in
theorem gX0_removeAll_X0_removeRange : GoodIn wsX0_removeAll (wsV RX0 42 RX0 yX0_removeRange wsX0_removeRange) := goodIn_app (goodIn_of _ (by decide +kernel)) ggX0_removeAll_X0_removeRange
theorem dX0_removeAll_0 : decode cX0_removeAll 0 = .ok (.aload_n 0, 1) := by decide +kernel
theorem dX0_removeAll_1 : decode cX0_removeAll 1 = .ok (.iload_n 1, 1) := by decide +kernel
theorem dX0_removeAll_2 : decode cX0_removeAll 2 = .ok (.invokevirtual 36, 3) := by decide +kernel
theorem dX0_removeAll_5 : decode cX0_removeAll 5 = .ok (.istore_n 2, 1) := by decide +kernel
theorem dX0_removeAll_6 : decode cX0_removeAll 6 = .ok (.aload_n 0, 1) := by decide +kernel
theorem dX0_removeAll_7 : decode cX0_removeAll 7 = .ok (.iload_n 2, 1) := by decide +kernel
theorem dX0_removeAll_8 : decode cX0_removeAll 8 = .ok (.aload_n 0, 1) := by decide +kernel
theorem dX0_removeAll_9 : decode cX0_removeAll 9 = .ok (.iload_n 1, 1) := by decide +kernel
theorem dX0_removeAll_10 : decode cX0_removeAll 10 = .ok (.iload_n 2, 1) := by decide +kernel
theorem dX0_removeAll_11 : decode cX0_removeAll 11 = .ok (.invokevirtual 39, 3) := by decide +kernel
theorem dX0_removeAll_14 : decode cX0_removeAll 14 = .ok (.invokevirtual 42, 3) := by decide +kernel
theorem dX0_removeAll_17 : decode cX0_removeAll 17 = .ok (.return_, 1) := by decide +kernel
set_option maxRecDepth 20000 in
theorem ggX0_removeEarliest_X0_start : GoodIn wsX0_removeEarliest wsX0_start := goodIn_r _ [9, 10, 11, 8, 12, 13, 14, 15, 16, 17, 18, 34, 35] (by decide +kernel) (by decide +kernel)
set_option maxRecDepth 20000 in
theorem gX0_removeEarliest_X0_start : GoodIn wsX0_removeEarliest (wsV RX0 36 RX0 yX0_start wsX0_start) := goodIn_app (goodIn_of _ (by decide +kernel)) ggX0_removeEarliest_X0_start
set_option maxRecDepth 20000 in
theorem ggX0_removeEarliest_X0_end : GoodIn wsX0_removeEarliest wsX0_end := goodIn_r _ [22, 17, 18, 23, 24, 8, 25, 34, 35] (by decide +kernel) (by decide +kernel)
set_option maxRecDepth 20000 in
theorem gX0_removeEarliest_X0_end : GoodIn wsX0_removeEarliest (wsV RX0 39 RX0 yX0_end wsX0_end) := goodIn_app (goodIn_of _ (by decide +kernel)) ggX0_removeEarliest_X0_end
set_option maxRecDepth 20000 in
theorem ggX0_removeEarliest_X0_removeRange : GoodIn wsX0_removeEarliest wsX0_removeRange := goodIn_r _ [29, 18, 17, 30, 31, 32, 33, 34, 35] (by decide +kernel) (by decide +kernel)
set_option maxRecDepth 20000 in
theorem gX0_removeEarliest_X0_removeRange : GoodIn wsX0_removeEarliest (wsV RX0 42 RX0 yX0_removeRange wsX0_removeRange) := goodIn_app (goodIn_of _ (by decide +kernel)) ggX0_removeEarliest_X0_removeRange
theorem dX0_removeEarliest_0 : decode cX0_removeEarliest 0 = .ok (.aload_n 0, 1) := by decide +kernel
theorem dX0_removeEarliest_1 : decode cX0_removeEarliest 1 = .ok (.iload_n 1, 1) := by decide +kernel
theorem dX0_removeEarliest_2 : decode cX0_removeEarliest 2 = .ok (.invokevirtual 36, 3) := by decide +kernel
theorem dX0_removeEarliest_5 : decode cX0_removeEarliest 5 = .ok (.istore_n 2, 1) := by decide +kernel
theorem dX0_removeEarliest_6 : decode cX0_removeEarliest 6 = .ok (.aload_n 0, 1) := by decide +kernel
theorem dX0_removeEarliest_7 : decode cX0_removeEarliest 7 = .ok (.iload_n 2, 1) := by decide +kernel
theorem dX0_removeEarliest_8 : decode cX0_removeEarliest 8 = .ok (.iload_n 2, 1) := by decide +kernel
theorem dX0_removeEarliest_9 : decode cX0_removeEarliest 9 = .ok (.iconst 1, 1) := by decide +kernel
theorem dX0_removeEarliest_10 : decode cX0_removeEarliest 10 = .ok (.iadd, 1) := by decide +kernel
theorem dX0_removeEarliest_11 : decode cX0_removeEarliest 11 = .ok (.aload_n 0, 1) := by decide +kernel
theorem dX0_removeEarliest_12 : decode cX0_removeEarliest 12 = .ok (.iload_n 1, 1) := by decide +kernel
theorem dX0_removeEarliest_13 : decode cX0_removeEarliest 13 = .ok (.iload_n 2, 1) := by decide +kernel
theorem dX0_removeEarliest_14 : decode cX0_removeEarliest 14 = .ok (.invokevirtual 39, 3) := by decide +kernel
theorem dX0_removeEarliest_17 : decode cX0_removeEarliest 17 = .ok (.invokestatic 46, 3) := by decide +kernel
theorem dX0_removeEarliest_20 : decode cX0_removeEarliest 20 = .ok (.invokevirtual 42, 3) := by decide +kernel
theorem dX0_removeEarliest_23 : decode cX0_removeEarliest 23 = .ok (.return_, 1) := by decide +kernel
set_option maxRecDepth 20000 in
theorem ggX0_remove_X0_holds : GoodIn wsX0_remove wsX0_holds := goodIn_r _ [5, 6, 7, 8, 9, 4, 10, 11, 12, 13, 14, 23, 24] (by decide +kernel) (by decide +kernel)
set_option maxRecDepth 20000 in
theorem gX0_remove_X0_holds : GoodIn wsX0_remove (wsV RX0 51 RX0 yX0_holds wsX0_holds) := goodIn_app (goodIn_of _ (by decide +kernel)) ggX0_remove_X0_holds
set_option maxRecDepth 20000 in
theorem ggX0_remove_X0_leafWith : GoodIn wsX0_remove wsX0_leafWith := goodIn_r _ [10] (by decide +kernel) (by decide +kernel)
set_option maxRecDepth 20000 in
theorem gX0_remove_X0_leafWith : GoodIn wsX0_remove (va_wsS RX0 25 yX0_leafWith wsX0_leafWith) := goodIn_app (goodIn_of _ (by decide +kernel)) ggX0_remove_X0_leafWith
set_option maxRecDepth 20000 in
theorem ggX0_remove_X0_placeOf : GoodIn wsX0_remove wsX0_placeOf := goodIn_r _ [14, 6, 7, 23, 24] (by decide +kernel) (by decide +kernel)
set_option maxRecDepth 20000 in
theorem gX0_remove_X0_placeOf : GoodIn wsX0_remove (wsV RX0 29 RX0 yX0_placeOf wsX0_placeOf) := goodIn_app (goodIn_of _ (by decide +kernel)) ggX0_remove_X0_placeOf
set_option maxRecDepth 20000 in
theorem ggX0_remove_X0_removeRange : GoodIn wsX0_remove wsX0_removeRange := goodIn_r _ [18, 7, 6, 19, 20, 21, 22, 23, 24] (by decide +kernel) (by decide +kernel)
set_option maxRecDepth 20000 in
theorem gX0_remove_X0_removeRange : GoodIn wsX0_remove (wsV RX0 42 RX0 yX0_removeRange wsX0_removeRange) := goodIn_app (goodIn_of _ (by decide +kernel)) ggX0_remove_X0_removeRange
theorem dX0_remove_0 : decode cX0_remove 0 = .ok (.aload_n 0, 1) := by decide +kernel
theorem dX0_remove_1 : decode cX0_remove 1 = .ok (.iload_n 1, 1) := by decide +kernel
theorem dX0_remove_2 : decode cX0_remove 2 = .ok (.iload_n 2, 1) := by decide +kernel
theorem dX0_remove_3 : decode cX0_remove 3 = .ok (.invokevirtual 51, 3) := by decide +kernel
theorem dX0_remove_6 : decode cX0_remove 6 = .ok (.ifCond .eq 21, 3) := by decide +kernel
theorem dX0_remove_9 : decode cX0_remove 9 = .ok (.aload_n 0, 1) := by decide +kernel
theorem dX0_remove_10 : decode cX0_remove 10 = .ok (.iload_n 1, 1) := by decide +kernel
theorem dX0_remove_11 : decode cX0_remove 11 = .ok (.iload_n 2, 1) := by decide +kernel
theorem dX0_remove_12 : decode cX0_remove 12 = .ok (.invokestatic 25, 3) := by decide +kernel
theorem dX0_remove_15 : decode cX0_remove 15 = .ok (.invokevirtual 29, 3) := by decide +kernel
theorem dX0_remove_18 : decode cX0_remove 18 = .ok (.istore_n 3, 1) := by decide +kernel
theorem dX0_remove_19 : decode cX0_remove 19 = .ok (.aload_n 0, 1) := by decide +kernel
theorem dX0_remove_20 : decode cX0_remove 20 = .ok (.iload_n 3, 1) := by decide +kernel
theorem dX0_remove_21 : decode cX0_remove 21 = .ok (.iload_n 3, 1) := by decide +kernel
theorem dX0_remove_22 : decode cX0_remove 22 = .ok (.iconst 1, 1) := by decide +kernel
theorem dX0_remove_23 : decode cX0_remove 23 = .ok (.iadd, 1) := by decide +kernel
theorem dX0_remove_24 : decode cX0_remove 24 = .ok (.invokevirtual 42, 3) := by decide +kernel
theorem dX0_remove_27 : decode cX0_remove 27 = .ok (.return_, 1) := by decide +kernel
set_option maxRecDepth 20000 in
theorem ggX0_holds_X0_leafWith : GoodIn wsX0_holds wsX0_leafWith := goodIn_r _ [6] (by decide +kernel) (by decide +kernel)
set_option maxRecDepth 20000 in
theorem gX0_holds_X0_leafWith : GoodIn wsX0_holds (va_wsS RX0 25 yX0_leafWith wsX0_leafWith) := goodIn_app (goodIn_of _ (by decide +kernel)) ggX0_holds_X0_leafWith
set_option maxRecDepth 20000 in
theorem ggX0_holds_X0_placeOf : GoodIn wsX0_holds wsX0_placeOf := goodIn_r _ [10, 1, 2, 11, 12] (by decide +kernel) (by decide +kernel)
set_option maxRecDepth 20000 in
theorem gX0_holds_X0_placeOf : GoodIn wsX0_holds (wsV RX0 29 RX0 yX0_placeOf wsX0_placeOf) := goodIn_app (goodIn_of _ (by decide +kernel)) ggX0_holds_X0_placeOf
theorem dX0_holds_0 : decode cX0_holds 0 = .ok (.iload_n 1, 1) := by decide +kernel
theorem dX0_holds_1 : decode cX0_holds 1 = .ok (.iload_n 2, 1) := by decide +kernel
theorem dX0_holds_2 : decode cX0_holds 2 = .ok (.invokestatic 25, 3) := by decide +kernel
theorem dX0_holds_5 : decode cX0_holds 5 = .ok (.istore_n 3, 1) := by decide +kernel
theorem dX0_holds_6 : decode cX0_holds 6 = .ok (.aload_n 0, 1) := by decide +kernel
theorem dX0_holds_7 : decode cX0_holds 7 = .ok (.iload_n 3, 1) := by decide +kernel
theorem dX0_holds_8 : decode cX0_holds 8 = .ok (.invokevirtual 29, 3) := by decide +kernel
theorem dX0_holds_11 : decode cX0_holds 11 = .ok (.istore 4, 2) := by decide +kernel
theorem dX0_holds_13 : decode cX0_holds 13 = .ok (.iload 4, 2) := by decide +kernel
theorem dX0_holds_15 : decode cX0_holds 15 = .ok (.aload_n 0, 1) := by decide +kernel
theorem dX0_holds_16 : decode cX0_holds 16 = .ok (.getfield 15, 3) := by decide +kernel
theorem dX0_holds_19 : decode cX0_holds 19 = .ok (.if_icmp .ge 18, 3) := by decide +kernel
theorem dX0_holds_22 : decode cX0_holds 22 = .ok (.aload_n 0, 1) := by decide +kernel
theorem dX0_holds_23 : decode cX0_holds 23 = .ok (.getfield 9, 3) := by decide +kernel
theorem dX0_holds_26 : decode cX0_holds 26 = .ok (.iload 4, 2) := by decide +kernel
theorem dX0_holds_28 : decode cX0_holds 28 = .ok (.iaload, 1) := by decide +kernel
theorem dX0_holds_29 : decode cX0_holds 29 = .ok (.iload_n 3, 1) := by decide +kernel
theorem dX0_holds_30 : decode cX0_holds 30 = .ok (.if_icmp .ne 7, 3) := by decide +kernel
theorem dX0_holds_33 : decode cX0_holds 33 = .ok (.iconst 1, 1) := by decide +kernel
theorem dX0_holds_34 : decode cX0_holds 34 = .ok (.goto 4, 3) := by decide +kernel
theorem dX0_holds_37 : decode cX0_holds 37 = .ok (.iconst 0, 1) := by decide +kernel
theorem dX0_holds_38 : decode cX0_holds 38 = .ok (.ireturn, 1) := by decide +kernel
set_option maxRecDepth 20000 in
theorem ggX0_held_X0_start : GoodIn wsX0_held wsX0_start := goodIn_r _ [5, 6, 7, 4, 8, 9, 10, 11, 12, 13, 14, 22, 23] (by decide +kernel) (by decide +kernel)
set_option maxRecDepth 20000 in
theorem gX0_held_X0_start : GoodIn wsX0_held (wsV RX0 36 RX0 yX0_start wsX0_start) := goodIn_app (goodIn_of _ (by decide +kernel)) ggX0_held_X0_start
set_option maxRecDepth 20000 in
theorem ggX0_held_X0_end : GoodIn wsX0_held wsX0_end := goodIn_r _ [18, 13, 14, 19, 20, 4, 21, 22, 23] (by decide +kernel) (by decide +kernel)
set_option maxRecDepth 20000 in
theorem gX0_held_X0_end : GoodIn wsX0_held (wsV RX0 39 RX0 yX0_end wsX0_end) := goodIn_app (goodIn_of _ (by decide +kernel)) ggX0_held_X0_end
theorem dX0_held_0 : decode cX0_held 0 = .ok (.aload_n 0, 1) := by decide +kernel
theorem dX0_held_1 : decode cX0_held 1 = .ok (.iload_n 1, 1) := by decide +kernel
theorem dX0_held_2 : decode cX0_held 2 = .ok (.invokevirtual 36, 3) := by decide +kernel
theorem dX0_held_5 : decode cX0_held 5 = .ok (.istore_n 2, 1) := by decide +kernel
theorem dX0_held_6 : decode cX0_held 6 = .ok (.aload_n 0, 1) := by decide +kernel
theorem dX0_held_7 : decode cX0_held 7 = .ok (.iload_n 1, 1) := by decide +kernel
theorem dX0_held_8 : decode cX0_held 8 = .ok (.iload_n 2, 1) := by decide +kernel
theorem dX0_held_9 : decode cX0_held 9 = .ok (.invokevirtual 39, 3) := by decide +kernel
theorem dX0_held_12 : decode cX0_held 12 = .ok (.iload_n 2, 1) := by decide +kernel
theorem dX0_held_13 : decode cX0_held 13 = .ok (.isub, 1) := by decide +kernel
theorem dX0_held_14 : decode cX0_held 14 = .ok (.ireturn, 1) := by decide +kernel
set_option maxRecDepth 20000 in
theorem ggX0_earliestIssue_X0_start : GoodIn wsX0_earliestIssue wsX0_start := goodIn_r _ [6, 7, 8, 5, 9, 10, 11, 12, 13, 14, 1, 25, 26] (by decide +kernel) (by decide +kernel)
set_option maxRecDepth 20000 in
theorem gX0_earliestIssue_X0_start : GoodIn wsX0_earliestIssue (wsV RX0 36 RX0 yX0_start wsX0_start) := goodIn_app (goodIn_of _ (by decide +kernel)) ggX0_earliestIssue_X0_start
set_option maxRecDepth 20000 in
theorem ggX0_earliestIssue_X0_end : GoodIn wsX0_earliestIssue wsX0_end := goodIn_r _ [18, 14, 1, 19, 20, 5, 21, 25, 26] (by decide +kernel) (by decide +kernel)
set_option maxRecDepth 20000 in
theorem gX0_earliestIssue_X0_end : GoodIn wsX0_earliestIssue (wsV RX0 39 RX0 yX0_end wsX0_end) := goodIn_app (goodIn_of _ (by decide +kernel)) ggX0_earliestIssue_X0_end
set_option maxRecDepth 20000 in
theorem ggX0_earliestIssue_X0_issueOf : GoodIn wsX0_earliestIssue wsX0_issueOf := goodIn_r _ [24] (by decide +kernel) (by decide +kernel)
set_option maxRecDepth 20000 in
theorem gX0_earliestIssue_X0_issueOf : GoodIn wsX0_earliestIssue (va_wsS RX0 55 yX0_issueOf wsX0_issueOf) := goodIn_app (goodIn_of _ (by decide +kernel)) ggX0_earliestIssue_X0_issueOf
theorem dX0_earliestIssue_0 : decode cX0_earliestIssue 0 = .ok (.aload_n 0, 1) := by decide +kernel
theorem dX0_earliestIssue_1 : decode cX0_earliestIssue 1 = .ok (.iload_n 1, 1) := by decide +kernel
theorem dX0_earliestIssue_2 : decode cX0_earliestIssue 2 = .ok (.invokevirtual 36, 3) := by decide +kernel
theorem dX0_earliestIssue_5 : decode cX0_earliestIssue 5 = .ok (.istore_n 2, 1) := by decide +kernel
theorem dX0_earliestIssue_6 : decode cX0_earliestIssue 6 = .ok (.aload_n 0, 1) := by decide +kernel
theorem dX0_earliestIssue_7 : decode cX0_earliestIssue 7 = .ok (.iload_n 1, 1) := by decide +kernel
theorem dX0_earliestIssue_8 : decode cX0_earliestIssue 8 = .ok (.iload_n 2, 1) := by decide +kernel
theorem dX0_earliestIssue_9 : decode cX0_earliestIssue 9 = .ok (.invokevirtual 39, 3) := by decide +kernel
theorem dX0_earliestIssue_12 : decode cX0_earliestIssue 12 = .ok (.iload_n 2, 1) := by decide +kernel
theorem dX0_earliestIssue_13 : decode cX0_earliestIssue 13 = .ok (.if_icmp .le 15, 3) := by decide +kernel
theorem dX0_earliestIssue_16 : decode cX0_earliestIssue 16 = .ok (.aload_n 0, 1) := by decide +kernel
theorem dX0_earliestIssue_17 : decode cX0_earliestIssue 17 = .ok (.getfield 9, 3) := by decide +kernel
theorem dX0_earliestIssue_20 : decode cX0_earliestIssue 20 = .ok (.iload_n 2, 1) := by decide +kernel
theorem dX0_earliestIssue_21 : decode cX0_earliestIssue 21 = .ok (.iaload, 1) := by decide +kernel
theorem dX0_earliestIssue_22 : decode cX0_earliestIssue 22 = .ok (.invokestatic 55, 3) := by decide +kernel
theorem dX0_earliestIssue_25 : decode cX0_earliestIssue 25 = .ok (.goto 5, 3) := by decide +kernel
theorem dX0_earliestIssue_28 : decode cX0_earliestIssue 28 = .ok (.bipush (-6), 2) := by decide +kernel
theorem dX0_earliestIssue_30 : decode cX0_earliestIssue 30 = .ok (.ireturn, 1) := by decide +kernel
set_option maxRecDepth 20000 in
theorem ggX0_latestIssue_X0_start : GoodIn wsX0_latestIssue wsX0_start := goodIn_r _ [6, 7, 8, 5, 9, 10, 11, 12, 13, 14, 1, 25, 26] (by decide +kernel) (by decide +kernel)
set_option maxRecDepth 20000 in
theorem gX0_latestIssue_X0_start : GoodIn wsX0_latestIssue (wsV RX0 36 RX0 yX0_start wsX0_start) := goodIn_app (goodIn_of _ (by decide +kernel)) ggX0_latestIssue_X0_start
set_option maxRecDepth 20000 in
theorem ggX0_latestIssue_X0_end : GoodIn wsX0_latestIssue wsX0_end := goodIn_r _ [18, 14, 1, 19, 20, 5, 21, 25, 26] (by decide +kernel) (by decide +kernel)
set_option maxRecDepth 20000 in
theorem gX0_latestIssue_X0_end : GoodIn wsX0_latestIssue (wsV RX0 39 RX0 yX0_end wsX0_end) := goodIn_app (goodIn_of _ (by decide +kernel)) ggX0_latestIssue_X0_end
set_option maxRecDepth 20000 in
theorem ggX0_latestIssue_X0_issueOf : GoodIn wsX0_latestIssue wsX0_issueOf := goodIn_r _ [24] (by decide +kernel) (by decide +kernel)
set_option maxRecDepth 20000 in
theorem gX0_latestIssue_X0_issueOf : GoodIn wsX0_latestIssue (va_wsS RX0 55 yX0_issueOf wsX0_issueOf) := goodIn_app (goodIn_of _ (by decide +kernel)) ggX0_latestIssue_X0_issueOf
theorem dX0_latestIssue_0 : decode cX0_latestIssue 0 = .ok (.aload_n 0, 1) := by decide +kernel
theorem dX0_latestIssue_1 : decode cX0_latestIssue 1 = .ok (.iload_n 1, 1) := by decide +kernel
theorem dX0_latestIssue_2 : decode cX0_latestIssue 2 = .ok (.invokevirtual 36, 3) := by decide +kernel
theorem dX0_latestIssue_5 : decode cX0_latestIssue 5 = .ok (.istore_n 2, 1) := by decide +kernel
theorem dX0_latestIssue_6 : decode cX0_latestIssue 6 = .ok (.aload_n 0, 1) := by decide +kernel
theorem dX0_latestIssue_7 : decode cX0_latestIssue 7 = .ok (.iload_n 1, 1) := by decide +kernel
theorem dX0_latestIssue_8 : decode cX0_latestIssue 8 = .ok (.iload_n 2, 1) := by decide +kernel
theorem dX0_latestIssue_9 : decode cX0_latestIssue 9 = .ok (.invokevirtual 39, 3) := by decide +kernel
theorem dX0_latestIssue_12 : decode cX0_latestIssue 12 = .ok (.istore_n 3, 1) := by decide +kernel
theorem dX0_latestIssue_13 : decode cX0_latestIssue 13 = .ok (.iload_n 3, 1) := by decide +kernel
theorem dX0_latestIssue_14 : decode cX0_latestIssue 14 = .ok (.iload_n 2, 1) := by decide +kernel
theorem dX0_latestIssue_15 : decode cX0_latestIssue 15 = .ok (.if_icmp .le 17, 3) := by decide +kernel
theorem dX0_latestIssue_18 : decode cX0_latestIssue 18 = .ok (.aload_n 0, 1) := by decide +kernel
theorem dX0_latestIssue_19 : decode cX0_latestIssue 19 = .ok (.getfield 9, 3) := by decide +kernel
theorem dX0_latestIssue_22 : decode cX0_latestIssue 22 = .ok (.iload_n 3, 1) := by decide +kernel
theorem dX0_latestIssue_23 : decode cX0_latestIssue 23 = .ok (.iconst 1, 1) := by decide +kernel
theorem dX0_latestIssue_24 : decode cX0_latestIssue 24 = .ok (.isub, 1) := by decide +kernel
theorem dX0_latestIssue_25 : decode cX0_latestIssue 25 = .ok (.iaload, 1) := by decide +kernel
theorem dX0_latestIssue_26 : decode cX0_latestIssue 26 = .ok (.invokestatic 55, 3) := by decide +kernel
theorem dX0_latestIssue_29 : decode cX0_latestIssue 29 = .ok (.goto 5, 3) := by decide +kernel
theorem dX0_latestIssue_32 : decode cX0_latestIssue 32 = .ok (.bipush (-6), 2) := by decide +kernel
theorem dX0_latestIssue_34 : decode cX0_latestIssue 34 = .ok (.ireturn, 1) := by decide +kernel
set_option maxRecDepth 20000 in
theorem ggX0_leavesOf_X0_issueOf : GoodIn wsX0_leavesOf wsX0_issueOf := goodIn_r _ [6] (by decide +kernel) (by decide +kernel)
set_option maxRecDepth 20000 in
theorem gX0_leavesOf_X0_issueOf : GoodIn wsX0_leavesOf (va_wsS RX0 55 yX0_issueOf wsX0_issueOf) := goodIn_app (goodIn_of _ (by decide +kernel)) ggX0_leavesOf_X0_issueOf
theorem dX0_leavesOf_0 : decode cX0_leavesOf 0 = .ok (.iconst 0, 1) := by decide +kernel
theorem dX0_leavesOf_1 : decode cX0_leavesOf 1 = .ok (.istore_n 2, 1) := by decide +kernel
theorem dX0_leavesOf_2 : decode cX0_leavesOf 2 = .ok (.iconst 0, 1) := by decide +kernel
theorem dX0_leavesOf_3 : decode cX0_leavesOf 3 = .ok (.istore_n 3, 1) := by decide +kernel
theorem dX0_leavesOf_4 : decode cX0_leavesOf 4 = .ok (.iload_n 3, 1) := by decide +kernel
theorem dX0_leavesOf_5 : decode cX0_leavesOf 5 = .ok (.aload_n 0, 1) := by decide +kernel
theorem dX0_leavesOf_6 : decode cX0_leavesOf 6 = .ok (.getfield 15, 3) := by decide +kernel
theorem dX0_leavesOf_9 : decode cX0_leavesOf 9 = .ok (.if_icmp .ge 25, 3) := by decide +kernel
theorem dX0_leavesOf_12 : decode cX0_leavesOf 12 = .ok (.aload_n 0, 1) := by decide +kernel
theorem dX0_leavesOf_13 : decode cX0_leavesOf 13 = .ok (.getfield 9, 3) := by decide +kernel
theorem dX0_leavesOf_16 : decode cX0_leavesOf 16 = .ok (.iload_n 3, 1) := by decide +kernel
theorem dX0_leavesOf_17 : decode cX0_leavesOf 17 = .ok (.iaload, 1) := by decide +kernel
theorem dX0_leavesOf_18 : decode cX0_leavesOf 18 = .ok (.invokestatic 55, 3) := by decide +kernel
theorem dX0_leavesOf_21 : decode cX0_leavesOf 21 = .ok (.iload_n 1, 1) := by decide +kernel
theorem dX0_leavesOf_22 : decode cX0_leavesOf 22 = .ok (.if_icmp .ne 6, 3) := by decide +kernel
theorem dX0_leavesOf_25 : decode cX0_leavesOf 25 = .ok (.iinc 2 1, 3) := by decide +kernel
theorem dX0_leavesOf_28 : decode cX0_leavesOf 28 = .ok (.iinc 3 1, 3) := by decide +kernel
theorem dX0_leavesOf_31 : decode cX0_leavesOf 31 = .ok (.goto (-27), 3) := by decide +kernel
theorem dX0_leavesOf_34 : decode cX0_leavesOf 34 = .ok (.iload_n 2, 1) := by decide +kernel
theorem dX0_leavesOf_35 : decode cX0_leavesOf 35 = .ok (.ireturn, 1) := by decide +kernel
set_option maxRecDepth 20000 in
theorem ggX0_checkNumber_X0_numberOf : GoodIn wsX0_checkNumber wsX0_numberOf := goodIn_r _ [6] (by decide +kernel) (by decide +kernel)
set_option maxRecDepth 20000 in
theorem gX0_checkNumber_X0_numberOf : GoodIn wsX0_checkNumber (va_wsS RX0 33 yX0_numberOf wsX0_numberOf) := goodIn_app (goodIn_of _ (by decide +kernel)) ggX0_checkNumber_X0_numberOf
set_option maxRecDepth 20000 in
theorem ggX0_checkNumber_X0_issueOf : GoodIn wsX0_checkNumber wsX0_issueOf := goodIn_r _ [9] (by decide +kernel) (by decide +kernel)
set_option maxRecDepth 20000 in
theorem gX0_checkNumber_X0_issueOf : GoodIn wsX0_checkNumber (va_wsS RX0 55 yX0_issueOf wsX0_issueOf) := goodIn_app (goodIn_of _ (by decide +kernel)) ggX0_checkNumber_X0_issueOf
theorem dX0_checkNumber_0 : decode cX0_checkNumber 0 = .ok (.iconst 0, 1) := by decide +kernel
theorem dX0_checkNumber_1 : decode cX0_checkNumber 1 = .ok (.istore_n 1, 1) := by decide +kernel
theorem dX0_checkNumber_2 : decode cX0_checkNumber 2 = .ok (.iconst 0, 1) := by decide +kernel
theorem dX0_checkNumber_3 : decode cX0_checkNumber 3 = .ok (.istore_n 2, 1) := by decide +kernel
theorem dX0_checkNumber_4 : decode cX0_checkNumber 4 = .ok (.iload_n 2, 1) := by decide +kernel
theorem dX0_checkNumber_5 : decode cX0_checkNumber 5 = .ok (.aload_n 0, 1) := by decide +kernel
theorem dX0_checkNumber_6 : decode cX0_checkNumber 6 = .ok (.getfield 15, 3) := by decide +kernel
theorem dX0_checkNumber_9 : decode cX0_checkNumber 9 = .ok (.if_icmp .ge 33, 3) := by decide +kernel
theorem dX0_checkNumber_12 : decode cX0_checkNumber 12 = .ok (.iload_n 1, 1) := by decide +kernel
theorem dX0_checkNumber_13 : decode cX0_checkNumber 13 = .ok (.aload_n 0, 1) := by decide +kernel
theorem dX0_checkNumber_14 : decode cX0_checkNumber 14 = .ok (.getfield 9, 3) := by decide +kernel
theorem dX0_checkNumber_17 : decode cX0_checkNumber 17 = .ok (.iload_n 2, 1) := by decide +kernel
theorem dX0_checkNumber_18 : decode cX0_checkNumber 18 = .ok (.iaload, 1) := by decide +kernel
theorem dX0_checkNumber_19 : decode cX0_checkNumber 19 = .ok (.invokestatic 33, 3) := by decide +kernel
theorem dX0_checkNumber_22 : decode cX0_checkNumber 22 = .ok (.aload_n 0, 1) := by decide +kernel
theorem dX0_checkNumber_23 : decode cX0_checkNumber 23 = .ok (.getfield 9, 3) := by decide +kernel
theorem dX0_checkNumber_26 : decode cX0_checkNumber 26 = .ok (.iload_n 2, 1) := by decide +kernel
theorem dX0_checkNumber_27 : decode cX0_checkNumber 27 = .ok (.iaload, 1) := by decide +kernel
theorem dX0_checkNumber_28 : decode cX0_checkNumber 28 = .ok (.invokestatic 55, 3) := by decide +kernel
theorem dX0_checkNumber_31 : decode cX0_checkNumber 31 = .ok (.iconst 1, 1) := by decide +kernel
theorem dX0_checkNumber_32 : decode cX0_checkNumber 32 = .ok (.iadd, 1) := by decide +kernel
theorem dX0_checkNumber_33 : decode cX0_checkNumber 33 = .ok (.imul, 1) := by decide +kernel
theorem dX0_checkNumber_34 : decode cX0_checkNumber 34 = .ok (.iadd, 1) := by decide +kernel
theorem dX0_checkNumber_35 : decode cX0_checkNumber 35 = .ok (.istore_n 1, 1) := by decide +kernel
theorem dX0_checkNumber_36 : decode cX0_checkNumber 36 = .ok (.iinc 2 1, 3) := by decide +kernel
theorem dX0_checkNumber_39 : decode cX0_checkNumber 39 = .ok (.goto (-35), 3) := by decide +kernel
theorem dX0_checkNumber_42 : decode cX0_checkNumber 42 = .ok (.iload_n 1, 1) := by decide +kernel
theorem dX0_checkNumber_43 : decode cX0_checkNumber 43 = .ok (.sipush 997, 3) := by decide +kernel
theorem dX0_checkNumber_46 : decode cX0_checkNumber 46 = .ok (.irem, 1) := by decide +kernel
theorem dX0_checkNumber_47 : decode cX0_checkNumber 47 = .ok (.ireturn, 1) := by decide +kernel
theorem dX0_isSameAs_0 : decode cX0_isSameAs 0 = .ok (.aload_n 0, 1) := by decide +kernel
theorem dX0_isSameAs_1 : decode cX0_isSameAs 1 = .ok (.getfield 15, 3) := by decide +kernel
theorem dX0_isSameAs_4 : decode cX0_isSameAs 4 = .ok (.aload_n 1, 1) := by decide +kernel
theorem dX0_isSameAs_5 : decode cX0_isSameAs 5 = .ok (.getfield 15, 3) := by decide +kernel
theorem dX0_isSameAs_8 : decode cX0_isSameAs 8 = .ok (.if_icmp .eq 5, 3) := by decide +kernel
theorem dX0_isSameAs_11 : decode cX0_isSameAs 11 = .ok (.iconst 0, 1) := by decide +kernel
theorem dX0_isSameAs_12 : decode cX0_isSameAs 12 = .ok (.ireturn, 1) := by decide +kernel
theorem dX0_isSameAs_13 : decode cX0_isSameAs 13 = .ok (.iconst 0, 1) := by decide +kernel
theorem dX0_isSameAs_14 : decode cX0_isSameAs 14 = .ok (.istore_n 2, 1) := by decide +kernel
theorem dX0_isSameAs_15 : decode cX0_isSameAs 15 = .ok (.iload_n 2, 1) := by decide +kernel
theorem dX0_isSameAs_16 : decode cX0_isSameAs 16 = .ok (.aload_n 0, 1) := by decide +kernel
theorem dX0_isSameAs_17 : decode cX0_isSameAs 17 = .ok (.getfield 15, 3) := by decide +kernel
theorem dX0_isSameAs_20 : decode cX0_isSameAs 20 = .ok (.if_icmp .ge 26, 3) := by decide +kernel
theorem dX0_isSameAs_23 : decode cX0_isSameAs 23 = .ok (.aload_n 0, 1) := by decide +kernel
theorem dX0_isSameAs_24 : decode cX0_isSameAs 24 = .ok (.getfield 9, 3) := by decide +kernel
theorem dX0_isSameAs_27 : decode cX0_isSameAs 27 = .ok (.iload_n 2, 1) := by decide +kernel
theorem dX0_isSameAs_28 : decode cX0_isSameAs 28 = .ok (.iaload, 1) := by decide +kernel
theorem dX0_isSameAs_29 : decode cX0_isSameAs 29 = .ok (.aload_n 1, 1) := by decide +kernel
theorem dX0_isSameAs_30 : decode cX0_isSameAs 30 = .ok (.getfield 9, 3) := by decide +kernel
theorem dX0_isSameAs_33 : decode cX0_isSameAs 33 = .ok (.iload_n 2, 1) := by decide +kernel
theorem dX0_isSameAs_34 : decode cX0_isSameAs 34 = .ok (.iaload, 1) := by decide +kernel
theorem dX0_isSameAs_35 : decode cX0_isSameAs 35 = .ok (.if_icmp .eq 5, 3) := by decide +kernel
theorem dX0_isSameAs_38 : decode cX0_isSameAs 38 = .ok (.iconst 0, 1) := by decide +kernel
theorem dX0_isSameAs_39 : decode cX0_isSameAs 39 = .ok (.ireturn, 1) := by decide +kernel
theorem dX0_isSameAs_40 : decode cX0_isSameAs 40 = .ok (.iinc 2 1, 3) := by decide +kernel
theorem dX0_isSameAs_43 : decode cX0_isSameAs 43 = .ok (.goto (-28), 3) := by decide +kernel
theorem dX0_isSameAs_46 : decode cX0_isSameAs 46 = .ok (.iconst 1, 1) := by decide +kernel
theorem dX0_isSameAs_47 : decode cX0_isSameAs 47 = .ok (.ireturn, 1) := by decide +kernel
set_option maxRecDepth 20000 in
theorem ggX0_difference_X0_held : GoodIn wsX0_difference wsX0_held := goodIn_r _ [5, 6, 7, 8, 4, 9, 10, 11, 12, 13, 14, 15, 16, 17, 18, 19, 20, 21, 22, 23, 24, 25, 37, 38] (by decide +kernel) (by decide +kernel)
set_option maxRecDepth 20000 in
theorem gX0_difference_X0_held : GoodIn wsX0_difference (wsV RX0 58 RX0 yX0_held wsX0_held) := goodIn_app (goodIn_of _ (by decide +kernel)) ggX0_difference_X0_held
set_option maxRecDepth 20000 in
theorem ggX0_difference_X0_earliestIssue : GoodIn wsX0_difference wsX0_earliestIssue := goodIn_r _ [29, 18, 6, 7, 8, 4, 9, 10, 11, 12, 13, 14, 15, 16, 17, 19, 20, 21, 22, 23, 24, 25, 30, 31, 32, 37, 38] (by decide +kernel) (by decide +kernel)
set_option maxRecDepth 20000 in
theorem gX0_difference_X0_earliestIssue : GoodIn wsX0_difference (wsV RX0 61 RX0 yX0_earliestIssue wsX0_earliestIssue) := goodIn_app (goodIn_of _ (by decide +kernel)) ggX0_difference_X0_earliestIssue
set_option maxRecDepth 20000 in
theorem ggX0_difference_X0_holds : GoodIn wsX0_difference wsX0_holds := goodIn_r _ [36, 17, 18, 10, 11, 4, 12, 13, 14, 15, 16, 37, 38] (by decide +kernel) (by decide +kernel)
set_option maxRecDepth 20000 in
theorem gX0_difference_X0_holds : GoodIn wsX0_difference (wsV RX0 51 RX0 yX0_holds wsX0_holds) := goodIn_app (goodIn_of _ (by decide +kernel)) ggX0_difference_X0_holds
theorem dX0_difference_0 : decode cX0_difference 0 = .ok (.aload_n 0, 1) := by decide +kernel
theorem dX0_difference_1 : decode cX0_difference 1 = .ok (.iload_n 2, 1) := by decide +kernel
theorem dX0_difference_2 : decode cX0_difference 2 = .ok (.invokevirtual 58, 3) := by decide +kernel
theorem dX0_difference_5 : decode cX0_difference 5 = .ok (.istore 4, 2) := by decide +kernel
theorem dX0_difference_7 : decode cX0_difference 7 = .ok (.aload_n 1, 1) := by decide +kernel
theorem dX0_difference_8 : decode cX0_difference 8 = .ok (.iload_n 2, 1) := by decide +kernel
theorem dX0_difference_9 : decode cX0_difference 9 = .ok (.invokevirtual 61, 3) := by decide +kernel
theorem dX0_difference_12 : decode cX0_difference 12 = .ok (.istore 5, 2) := by decide +kernel
theorem dX0_difference_14 : decode cX0_difference 14 = .ok (.iload 5, 2) := by decide +kernel
theorem dX0_difference_16 : decode cX0_difference 16 = .ok (.bipush (-6), 2) := by decide +kernel
theorem dX0_difference_18 : decode cX0_difference 18 = .ok (.if_icmp .ne 15, 3) := by decide +kernel
theorem dX0_difference_21 : decode cX0_difference 21 = .ok (.iload_n 3, 1) := by decide +kernel
theorem dX0_difference_22 : decode cX0_difference 22 = .ok (.iconst 3, 1) := by decide +kernel
theorem dX0_difference_23 : decode cX0_difference 23 = .ok (.if_icmp .ne 8, 3) := by decide +kernel
theorem dX0_difference_26 : decode cX0_difference 26 = .ok (.iload 4, 2) := by decide +kernel
theorem dX0_difference_28 : decode cX0_difference 28 = .ok (.goto 4, 3) := by decide +kernel
theorem dX0_difference_31 : decode cX0_difference 31 = .ok (.iconst 0, 1) := by decide +kernel
theorem dX0_difference_32 : decode cX0_difference 32 = .ok (.ireturn, 1) := by decide +kernel
theorem dX0_difference_33 : decode cX0_difference 33 = .ok (.iload 4, 2) := by decide +kernel
theorem dX0_difference_35 : decode cX0_difference 35 = .ok (.ifCond .ne 14, 3) := by decide +kernel
theorem dX0_difference_38 : decode cX0_difference 38 = .ok (.iload_n 3, 1) := by decide +kernel
theorem dX0_difference_39 : decode cX0_difference 39 = .ok (.iconst 5, 1) := by decide +kernel
theorem dX0_difference_40 : decode cX0_difference 40 = .ok (.if_icmp .ne 7, 3) := by decide +kernel
theorem dX0_difference_43 : decode cX0_difference 43 = .ok (.iconst 1, 1) := by decide +kernel
theorem dX0_difference_44 : decode cX0_difference 44 = .ok (.goto 4, 3) := by decide +kernel
theorem dX0_difference_47 : decode cX0_difference 47 = .ok (.iconst 0, 1) := by decide +kernel
theorem dX0_difference_48 : decode cX0_difference 48 = .ok (.ireturn, 1) := by decide +kernel
theorem dX0_difference_49 : decode cX0_difference 49 = .ok (.iload_n 3, 1) := by decide +kernel
theorem dX0_difference_50 : decode cX0_difference 50 = .ok (.iconst 3, 1) := by decide +kernel
theorem dX0_difference_51 : decode cX0_difference 51 = .ok (.if_icmp .ne 8, 3) := by decide +kernel
theorem dX0_difference_54 : decode cX0_difference 54 = .ok (.iload 4, 2) := by decide +kernel
theorem dX0_difference_56 : decode cX0_difference 56 = .ok (.iconst 1, 1) := by decide +kernel
theorem dX0_difference_57 : decode cX0_difference 57 = .ok (.isub, 1) := by decide +kernel
theorem dX0_difference_58 : decode cX0_difference 58 = .ok (.ireturn, 1) := by decide +kernel
theorem dX0_difference_59 : decode cX0_difference 59 = .ok (.iload_n 3, 1) := by decide +kernel
theorem dX0_difference_60 : decode cX0_difference 60 = .ok (.iconst 4, 1) := by decide +kernel
theorem dX0_difference_61 : decode cX0_difference 61 = .ok (.if_icmp .ne 17, 3) := by decide +kernel
theorem dX0_difference_64 : decode cX0_difference 64 = .ok (.aload_n 0, 1) := by decide +kernel
theorem dX0_difference_65 : decode cX0_difference 65 = .ok (.iload_n 2, 1) := by decide +kernel
theorem dX0_difference_66 : decode cX0_difference 66 = .ok (.iload 5, 2) := by decide +kernel
theorem dX0_difference_68 : decode cX0_difference 68 = .ok (.invokevirtual 51, 3) := by decide +kernel
theorem dX0_difference_71 : decode cX0_difference 71 = .ok (.ifCond .ne 7, 3) := by decide +kernel
theorem dX0_difference_74 : decode cX0_difference 74 = .ok (.iconst 1, 1) := by decide +kernel
theorem dX0_difference_75 : decode cX0_difference 75 = .ok (.goto 4, 3) := by decide +kernel
theorem dX0_difference_78 : decode cX0_difference 78 = .ok (.iconst 0, 1) := by decide +kernel
theorem dX0_difference_79 : decode cX0_difference 79 = .ok (.ireturn, 1) := by decide +kernel
set_option maxRecDepth 20000 in
theorem ggX0_differences_X0_difference : GoodIn wsX0_differences wsX0_difference := goodIn_r _ [5, 6, 7, 8, 4, 9, 10, 11, 12, 13, 14, 15, 16, 17, 18, 19, 20, 21, 22, 23, 24, 25, 26, 27, 28, 29, 30, 31, 32, 33, 34, 35, 36, 37, 38, 39, 40, 41, 42] (by decide +kernel) (by decide +kernel)
set_option maxRecDepth 20000 in
theorem gX0_differences_X0_difference : GoodIn wsX0_differences (wsV RX0 64 RX0 yX0_difference wsX0_difference) := goodIn_app (goodIn_of _ (by decide +kernel)) ggX0_differences_X0_difference
theorem dX0_differences_0 : decode cX0_differences 0 = .ok (.iconst 0, 1) := by decide +kernel
theorem dX0_differences_1 : decode cX0_differences 1 = .ok (.istore_n 3, 1) := by decide +kernel
theorem dX0_differences_2 : decode cX0_differences 2 = .ok (.bipush 10, 2) := by decide +kernel
theorem dX0_differences_4 : decode cX0_differences 4 = .ok (.istore 4, 2) := by decide +kernel
theorem dX0_differences_6 : decode cX0_differences 6 = .ok (.iload 4, 2) := by decide +kernel
theorem dX0_differences_8 : decode cX0_differences 8 = .ok (.bipush 99, 2) := by decide +kernel
theorem dX0_differences_10 : decode cX0_differences 10 = .ok (.if_icmp .gt 20, 3) := by decide +kernel
theorem dX0_differences_13 : decode cX0_differences 13 = .ok (.iload_n 3, 1) := by decide +kernel
theorem dX0_differences_14 : decode cX0_differences 14 = .ok (.aload_n 0, 1) := by decide +kernel
theorem dX0_differences_15 : decode cX0_differences 15 = .ok (.aload_n 1, 1) := by decide +kernel
theorem dX0_differences_16 : decode cX0_differences 16 = .ok (.iload 4, 2) := by decide +kernel
theorem dX0_differences_18 : decode cX0_differences 18 = .ok (.iload_n 2, 1) := by decide +kernel
theorem dX0_differences_19 : decode cX0_differences 19 = .ok (.invokevirtual 64, 3) := by decide +kernel
theorem dX0_differences_22 : decode cX0_differences 22 = .ok (.iadd, 1) := by decide +kernel
theorem dX0_differences_23 : decode cX0_differences 23 = .ok (.istore_n 3, 1) := by decide +kernel
theorem dX0_differences_24 : decode cX0_differences 24 = .ok (.iinc 4 1, 3) := by decide +kernel
theorem dX0_differences_27 : decode cX0_differences 27 = .ok (.goto (-21), 3) := by decide +kernel
theorem dX0_differences_30 : decode cX0_differences 30 = .ok (.iload_n 3, 1) := by decide +kernel
theorem dX0_differences_31 : decode cX0_differences 31 = .ok (.ireturn, 1) := by decide +kernel
set_option maxRecDepth 20000 in
theorem ggX0_wrong_X0_differences : GoodIn wsX0_wrong wsX0_differences := goodIn_r _ [5, 6, 7, 8, 4, 9, 10, 11, 12, 13, 14, 15, 16, 17, 18, 19, 20, 21, 22, 23, 24, 25, 26, 27, 28, 29, 30, 31, 32, 33, 34, 35, 36, 37, 38, 39, 40, 41, 42, 43, 44, 45, 46] (by decide +kernel) (by decide +kernel)
set_option maxRecDepth 20000 in
theorem gX0_wrong_X0_differences : GoodIn wsX0_wrong (wsV RX0 68 RX0 yX0_differences wsX0_differences) := goodIn_app (goodIn_of _ (by decide +kernel)) ggX0_wrong_X0_differences
theorem dX0_wrong_0 : decode cX0_wrong 0 = .ok (.aload_n 0, 1) := by decide +kernel
theorem dX0_wrong_1 : decode cX0_wrong 1 = .ok (.aload_n 1, 1) := by decide +kernel
theorem dX0_wrong_2 : decode cX0_wrong 2 = .ok (.iconst 3, 1) := by decide +kernel
theorem dX0_wrong_3 : decode cX0_wrong 3 = .ok (.invokevirtual 68, 3) := by decide +kernel
theorem dX0_wrong_6 : decode cX0_wrong 6 = .ok (.aload_n 0, 1) := by decide +kernel
theorem dX0_wrong_7 : decode cX0_wrong 7 = .ok (.aload_n 1, 1) := by decide +kernel
theorem dX0_wrong_8 : decode cX0_wrong 8 = .ok (.iconst 4, 1) := by decide +kernel
theorem dX0_wrong_9 : decode cX0_wrong 9 = .ok (.invokevirtual 68, 3) := by decide +kernel
theorem dX0_wrong_12 : decode cX0_wrong 12 = .ok (.iadd, 1) := by decide +kernel
theorem dX0_wrong_13 : decode cX0_wrong 13 = .ok (.aload_n 0, 1) := by decide +kernel
theorem dX0_wrong_14 : decode cX0_wrong 14 = .ok (.aload_n 1, 1) := by decide +kernel
theorem dX0_wrong_15 : decode cX0_wrong 15 = .ok (.iconst 5, 1) := by decide +kernel
theorem dX0_wrong_16 : decode cX0_wrong 16 = .ok (.invokevirtual 68, 3) := by decide +kernel
theorem dX0_wrong_19 : decode cX0_wrong 19 = .ok (.iadd, 1) := by decide +kernel
theorem dX0_wrong_20 : decode cX0_wrong 20 = .ok (.ireturn, 1) := by decide +kernel
set_option maxRecDepth 20000 in
theorem ggX1_init_X3_init : GoodIn wsX1_init wsX3_init := goodIn_r _ [10, 11, 2, 3, 12, 13, 14, 15, 16, 17, 18, 19, 20, 21, 22, 23, 24, 25, 29, 30, 31, 32, 33, 34, 35, 36, 37, 38] (by decide +kernel) (by decide +kernel)
set_option maxRecDepth 20000 in
theorem gX1_init_X3_init : GoodIn wsX1_init (wsX3_init) := ggX1_init_X3_init
theorem dX1_init_0 : decode cX1_init 0 = .ok (.aload_n 0, 1) := by decide +kernel
theorem dX1_init_1 : decode cX1_init 1 = .ok (.invokespecial 3, 3) := by decide +kernel
theorem dX1_init_4 : decode cX1_init 4 = .ok (.aload_n 0, 1) := by decide +kernel
theorem dX1_init_5 : decode cX1_init 5 = .ok (.bipush 6, 2) := by decide +kernel
theorem dX1_init_7 : decode cX1_init 7 = .ok (.anewarray 9, 3) := by decide +kernel
theorem dX1_init_10 : decode cX1_init 10 = .ok (.putfield 11, 3) := by decide +kernel
theorem dX1_init_13 : decode cX1_init 13 = .ok (.iconst 0, 1) := by decide +kernel
theorem dX1_init_14 : decode cX1_init 14 = .ok (.istore_n 1, 1) := by decide +kernel
theorem dX1_init_15 : decode cX1_init 15 = .ok (.iload_n 1, 1) := by decide +kernel
theorem dX1_init_16 : decode cX1_init 16 = .ok (.aload_n 0, 1) := by decide +kernel
theorem dX1_init_17 : decode cX1_init 17 = .ok (.getfield 11, 3) := by decide +kernel
theorem dX1_init_20 : decode cX1_init 20 = .ok (.arraylength, 1) := by decide +kernel
theorem dX1_init_21 : decode cX1_init 21 = .ok (.if_icmp .ge 22, 3) := by decide +kernel
theorem dX1_init_24 : decode cX1_init 24 = .ok (.aload_n 0, 1) := by decide +kernel
theorem dX1_init_25 : decode cX1_init 25 = .ok (.getfield 11, 3) := by decide +kernel
theorem dX1_init_28 : decode cX1_init 28 = .ok (.iload_n 1, 1) := by decide +kernel
theorem dX1_init_29 : decode cX1_init 29 = .ok (.new 9, 3) := by decide +kernel
theorem dX1_init_32 : decode cX1_init 32 = .ok (.dup, 1) := by decide +kernel
theorem dX1_init_33 : decode cX1_init 33 = .ok (.invokespecial 17, 3) := by decide +kernel
theorem dX1_init_36 : decode cX1_init 36 = .ok (.aastore, 1) := by decide +kernel
theorem dX1_init_37 : decode cX1_init 37 = .ok (.iinc 1 1, 3) := by decide +kernel
theorem dX1_init_40 : decode cX1_init 40 = .ok (.goto (-25), 3) := by decide +kernel
theorem dX1_init_43 : decode cX1_init 43 = .ok (.return_, 1) := by decide +kernel
set_option maxRecDepth 20000 in
theorem ggX1_record_X3_copy : GoodIn wsX1_record wsX3_copy := goodIn_r _ [8, 9, 10, 11, 12, 13, 14, 15, 16, 17, 18, 19, 20, 21, 22, 23, 24, 25, 26, 27, 28, 32, 33, 34, 35, 36, 37, 38, 39, 40, 41] (by decide +kernel) (by decide +kernel)
set_option maxRecDepth 20000 in
theorem gX1_record_X3_copy : GoodIn wsX1_record (wsV RX1 25 RX3 yX3_copy wsX3_copy) := goodIn_app (goodIn_of _ (by decide +kernel)) ggX1_record_X3_copy
theorem dX1_record_0 : decode cX1_record 0 = .ok (.aload_n 0, 1) := by decide +kernel
theorem dX1_record_1 : decode cX1_record 1 = .ok (.getfield 11, 3) := by decide +kernel
theorem dX1_record_4 : decode cX1_record 4 = .ok (.aload_n 0, 1) := by decide +kernel
theorem dX1_record_5 : decode cX1_record 5 = .ok (.getfield 18, 3) := by decide +kernel
theorem dX1_record_8 : decode cX1_record 8 = .ok (.aload_n 0, 1) := by decide +kernel
theorem dX1_record_9 : decode cX1_record 9 = .ok (.getfield 22, 3) := by decide +kernel
theorem dX1_record_12 : decode cX1_record 12 = .ok (.iadd, 1) := by decide +kernel
theorem dX1_record_13 : decode cX1_record 13 = .ok (.bipush 6, 2) := by decide +kernel
theorem dX1_record_15 : decode cX1_record 15 = .ok (.irem, 1) := by decide +kernel
theorem dX1_record_16 : decode cX1_record 16 = .ok (.aaload, 1) := by decide +kernel
theorem dX1_record_17 : decode cX1_record 17 = .ok (.aload_n 1, 1) := by decide +kernel
theorem dX1_record_18 : decode cX1_record 18 = .ok (.invokevirtual 25, 3) := by decide +kernel
theorem dX1_record_21 : decode cX1_record 21 = .ok (.aload_n 0, 1) := by decide +kernel
theorem dX1_record_22 : decode cX1_record 22 = .ok (.getfield 22, 3) := by decide +kernel
theorem dX1_record_25 : decode cX1_record 25 = .ok (.bipush 6, 2) := by decide +kernel
theorem dX1_record_27 : decode cX1_record 27 = .ok (.if_icmp .ge 16, 3) := by decide +kernel
theorem dX1_record_30 : decode cX1_record 30 = .ok (.aload_n 0, 1) := by decide +kernel
theorem dX1_record_31 : decode cX1_record 31 = .ok (.dup, 1) := by decide +kernel
theorem dX1_record_32 : decode cX1_record 32 = .ok (.getfield 22, 3) := by decide +kernel
theorem dX1_record_35 : decode cX1_record 35 = .ok (.iconst 1, 1) := by decide +kernel
theorem dX1_record_36 : decode cX1_record 36 = .ok (.iadd, 1) := by decide +kernel
theorem dX1_record_37 : decode cX1_record 37 = .ok (.putfield 22, 3) := by decide +kernel
theorem dX1_record_40 : decode cX1_record 40 = .ok (.goto 16, 3) := by decide +kernel
theorem dX1_record_43 : decode cX1_record 43 = .ok (.aload_n 0, 1) := by decide +kernel
theorem dX1_record_44 : decode cX1_record 44 = .ok (.aload_n 0, 1) := by decide +kernel
theorem dX1_record_45 : decode cX1_record 45 = .ok (.getfield 18, 3) := by decide +kernel
theorem dX1_record_48 : decode cX1_record 48 = .ok (.iconst 1, 1) := by decide +kernel
theorem dX1_record_49 : decode cX1_record 49 = .ok (.iadd, 1) := by decide +kernel
theorem dX1_record_50 : decode cX1_record 50 = .ok (.bipush 6, 2) := by decide +kernel
theorem dX1_record_52 : decode cX1_record 52 = .ok (.irem, 1) := by decide +kernel
theorem dX1_record_53 : decode cX1_record 53 = .ok (.putfield 18, 3) := by decide +kernel
theorem dX1_record_56 : decode cX1_record 56 = .ok (.return_, 1) := by decide +kernel
theorem dX2_init_0 : decode cX2_init 0 = .ok (.aload_n 0, 1) := by decide +kernel
theorem dX2_init_1 : decode cX2_init 1 = .ok (.invokespecial 5, 3) := by decide +kernel
theorem dX2_init_4 : decode cX2_init 4 = .ok (.aload_n 0, 1) := by decide +kernel
theorem dX2_init_5 : decode cX2_init 5 = .ok (.bipush 48, 2) := by decide +kernel
theorem dX2_init_7 : decode cX2_init 7 = .ok (.newarray .char, 2) := by decide +kernel
theorem dX2_init_9 : decode cX2_init 9 = .ok (.putfield 11, 3) := by decide +kernel
theorem dX2_init_12 : decode cX2_init 12 = .ok (.return_, 1) := by decide +kernel
theorem dX2_charactersIn_0 : decode cX2_charactersIn 0 = .ok (.lload_n 0, 1) := by decide +kernel
theorem dX2_charactersIn_1 : decode cX2_charactersIn 1 = .ok (.lstore_n 2, 1) := by decide +kernel
theorem dX2_charactersIn_2 : decode cX2_charactersIn 2 = .ok (.iconst 0, 1) := by decide +kernel
theorem dX2_charactersIn_3 : decode cX2_charactersIn 3 = .ok (.istore 4, 2) := by decide +kernel
theorem dX2_charactersIn_5 : decode cX2_charactersIn 5 = .ok (.iload 4, 2) := by decide +kernel
theorem dX2_charactersIn_7 : decode cX2_charactersIn 7 = .ok (.bipush 8, 2) := by decide +kernel
theorem dX2_charactersIn_9 : decode cX2_charactersIn 9 = .ok (.if_icmp .ge 47, 3) := by decide +kernel
theorem dX2_charactersIn_12 : decode cX2_charactersIn 12 = .ok (.lload_n 2, 1) := by decide +kernel
theorem dX2_charactersIn_13 : decode cX2_charactersIn 13 = .ok (.lconst 0, 1) := by decide +kernel
theorem dX2_charactersIn_14 : decode cX2_charactersIn 14 = .ok (.lcmp, 1) := by decide +kernel
theorem dX2_charactersIn_15 : decode cX2_charactersIn 15 = .ok (.ifCond .eq 41, 3) := by decide +kernel
theorem dX2_charactersIn_18 : decode cX2_charactersIn 18 = .ok (.lload_n 2, 1) := by decide +kernel
theorem dX2_charactersIn_19 : decode cX2_charactersIn 19 = .ok (.ldc2_w 15, 3) := by decide +kernel
theorem dX2_charactersIn_22 : decode cX2_charactersIn 22 = .ok (.land, 1) := by decide +kernel
theorem dX2_charactersIn_23 : decode cX2_charactersIn 23 = .ok (.lstore 5, 2) := by decide +kernel
theorem dX2_charactersIn_25 : decode cX2_charactersIn 25 = .ok (.lload 5, 2) := by decide +kernel
theorem dX2_charactersIn_27 : decode cX2_charactersIn 27 = .ok (.ldc2_w 17, 3) := by decide +kernel
theorem dX2_charactersIn_30 : decode cX2_charactersIn 30 = .ok (.lcmp, 1) := by decide +kernel
theorem dX2_charactersIn_31 : decode cX2_charactersIn 31 = .ok (.ifCond .lt 12, 3) := by decide +kernel
theorem dX2_charactersIn_34 : decode cX2_charactersIn 34 = .ok (.lload 5, 2) := by decide +kernel
theorem dX2_charactersIn_36 : decode cX2_charactersIn 36 = .ok (.ldc2_w 19, 3) := by decide +kernel
theorem dX2_charactersIn_39 : decode cX2_charactersIn 39 = .ok (.lcmp, 1) := by decide +kernel
theorem dX2_charactersIn_40 : decode cX2_charactersIn 40 = .ok (.ifCond .le 5, 3) := by decide +kernel
theorem dX2_charactersIn_43 : decode cX2_charactersIn 43 = .ok (.iconst 0, 1) := by decide +kernel
theorem dX2_charactersIn_44 : decode cX2_charactersIn 44 = .ok (.ireturn, 1) := by decide +kernel
theorem dX2_charactersIn_45 : decode cX2_charactersIn 45 = .ok (.lload_n 2, 1) := by decide +kernel
theorem dX2_charactersIn_46 : decode cX2_charactersIn 46 = .ok (.bipush 8, 2) := by decide +kernel
theorem dX2_charactersIn_48 : decode cX2_charactersIn 48 = .ok (.lushr, 1) := by decide +kernel
theorem dX2_charactersIn_49 : decode cX2_charactersIn 49 = .ok (.lstore_n 2, 1) := by decide +kernel
theorem dX2_charactersIn_50 : decode cX2_charactersIn 50 = .ok (.iinc 4 1, 3) := by decide +kernel
theorem dX2_charactersIn_53 : decode cX2_charactersIn 53 = .ok (.goto (-48), 3) := by decide +kernel
theorem dX2_charactersIn_56 : decode cX2_charactersIn 56 = .ok (.iload 4, 2) := by decide +kernel
theorem dX2_charactersIn_58 : decode cX2_charactersIn 58 = .ok (.ireturn, 1) := by decide +kernel
theorem dX2_append_0 : decode cX2_append 0 = .ok (.lload_n 1, 1) := by decide +kernel
theorem dX2_append_1 : decode cX2_append 1 = .ok (.lstore 4, 2) := by decide +kernel
theorem dX2_append_3 : decode cX2_append 3 = .ok (.aload_n 0, 1) := by decide +kernel
theorem dX2_append_4 : decode cX2_append 4 = .ok (.getfield 21, 3) := by decide +kernel
theorem dX2_append_7 : decode cX2_append 7 = .ok (.iload_n 3, 1) := by decide +kernel
theorem dX2_append_8 : decode cX2_append 8 = .ok (.iadd, 1) := by decide +kernel
theorem dX2_append_9 : decode cX2_append 9 = .ok (.iconst 1, 1) := by decide +kernel
theorem dX2_append_10 : decode cX2_append 10 = .ok (.isub, 1) := by decide +kernel
theorem dX2_append_11 : decode cX2_append 11 = .ok (.istore 6, 2) := by decide +kernel
theorem dX2_append_13 : decode cX2_append 13 = .ok (.iload 6, 2) := by decide +kernel
theorem dX2_append_15 : decode cX2_append 15 = .ok (.aload_n 0, 1) := by decide +kernel
theorem dX2_append_16 : decode cX2_append 16 = .ok (.getfield 21, 3) := by decide +kernel
theorem dX2_append_19 : decode cX2_append 19 = .ok (.if_icmp .lt 31, 3) := by decide +kernel
theorem dX2_append_22 : decode cX2_append 22 = .ok (.aload_n 0, 1) := by decide +kernel
theorem dX2_append_23 : decode cX2_append 23 = .ok (.getfield 11, 3) := by decide +kernel
theorem dX2_append_26 : decode cX2_append 26 = .ok (.iload 6, 2) := by decide +kernel
theorem dX2_append_28 : decode cX2_append 28 = .ok (.lload 4, 2) := by decide +kernel
theorem dX2_append_30 : decode cX2_append 30 = .ok (.ldc2_w 15, 3) := by decide +kernel
theorem dX2_append_33 : decode cX2_append 33 = .ok (.land, 1) := by decide +kernel
theorem dX2_append_34 : decode cX2_append 34 = .ok (.l2i, 1) := by decide +kernel
theorem dX2_append_35 : decode cX2_append 35 = .ok (.i2c, 1) := by decide +kernel
theorem dX2_append_36 : decode cX2_append 36 = .ok (.castore, 1) := by decide +kernel
theorem dX2_append_37 : decode cX2_append 37 = .ok (.lload 4, 2) := by decide +kernel
theorem dX2_append_39 : decode cX2_append 39 = .ok (.bipush 8, 2) := by decide +kernel
theorem dX2_append_41 : decode cX2_append 41 = .ok (.lushr, 1) := by decide +kernel
theorem dX2_append_42 : decode cX2_append 42 = .ok (.lstore 4, 2) := by decide +kernel
theorem dX2_append_44 : decode cX2_append 44 = .ok (.iinc 6 (-1), 3) := by decide +kernel
theorem dX2_append_47 : decode cX2_append 47 = .ok (.goto (-34), 3) := by decide +kernel
theorem dX2_append_50 : decode cX2_append 50 = .ok (.aload_n 0, 1) := by decide +kernel
theorem dX2_append_51 : decode cX2_append 51 = .ok (.dup, 1) := by decide +kernel
theorem dX2_append_52 : decode cX2_append 52 = .ok (.getfield 21, 3) := by decide +kernel
theorem dX2_append_55 : decode cX2_append 55 = .ok (.iload_n 3, 1) := by decide +kernel
theorem dX2_append_56 : decode cX2_append 56 = .ok (.iadd, 1) := by decide +kernel
theorem dX2_append_57 : decode cX2_append 57 = .ok (.putfield 21, 3) := by decide +kernel
theorem dX2_append_60 : decode cX2_append 60 = .ok (.return_, 1) := by decide +kernel
theorem dX2_empty_0 : decode cX2_empty 0 = .ok (.aload_n 0, 1) := by decide +kernel
theorem dX2_empty_1 : decode cX2_empty 1 = .ok (.iconst 0, 1) := by decide +kernel
theorem dX2_empty_2 : decode cX2_empty 2 = .ok (.putfield 21, 3) := by decide +kernel
theorem dX2_empty_5 : decode cX2_empty 5 = .ok (.return_, 1) := by decide +kernel
set_option maxRecDepth 20000 in
theorem ggX2_firstFault_X2_canStand : GoodIn wsX2_firstFault wsX2_canStand := goodIn_r _ [6] (by decide +kernel) (by decide +kernel)
set_option maxRecDepth 20000 in
theorem gX2_firstFault_X2_canStand : GoodIn wsX2_firstFault (va_wsS RX2 25 yX2_canStand wsX2_canStand) := goodIn_app (goodIn_of _ (by decide +kernel)) ggX2_firstFault_X2_canStand
theorem dX2_firstFault_0 : decode cX2_firstFault 0 = .ok (.iconst 0, 1) := by decide +kernel
theorem dX2_firstFault_1 : decode cX2_firstFault 1 = .ok (.istore_n 1, 1) := by decide +kernel
theorem dX2_firstFault_2 : decode cX2_firstFault 2 = .ok (.iload_n 1, 1) := by decide +kernel
theorem dX2_firstFault_3 : decode cX2_firstFault 3 = .ok (.aload_n 0, 1) := by decide +kernel
theorem dX2_firstFault_4 : decode cX2_firstFault 4 = .ok (.getfield 21, 3) := by decide +kernel
theorem dX2_firstFault_7 : decode cX2_firstFault 7 = .ok (.if_icmp .ge 24, 3) := by decide +kernel
