theorem dX5_done_53 : decode cX5_done 53 = .ok (.iconst (-1), 1) := by decide +kernel
theorem dX5_done_54 : decode cX5_done 54 = .ok (.ixor, 1) := by decide +kernel
theorem dX5_done_55 : decode cX5_done 55 = .ok (.iand, 1) := by decide +kernel
theorem dX5_done_56 : decode cX5_done 56 = .ok (.invokevirtual 56, 3) := by decide +kernel
theorem dX5_done_59 : decode cX5_done 59 = .ok (.aload_n 0, 1) := by decide +kernel
theorem dX5_done_60 : decode cX5_done 60 = .ok (.iload_n 1, 1) := by decide +kernel
theorem dX5_done_61 : decode cX5_done 61 = .ok (.iconst 0, 1) := by decide +kernel
theorem dX5_done_62 : decode cX5_done 62 = .ok (.invokevirtual 52, 3) := by decide +kernel
theorem dX5_done_65 : decode cX5_done 65 = .ok (.ireturn, 1) := by decide +kernel
set_option maxRecDepth 20000 in
theorem ggX5_doAll_X5_isOwner : GoodIn wsX5_doAll wsX5_isOwner := goodIn_r _ [5, 6, 7, 8, 4, 9, 66, 67, 68, 69, 70, 71, 72, 73, 74, 75, 76, 77, 78] (by decide +kernel) (by decide +kernel)
set_option maxRecDepth 20000 in
theorem gX5_doAll_X5_isOwner : GoodIn wsX5_doAll (wsV RX5 123 RX5 yX5_isOwner wsX5_isOwner) := goodIn_app (goodIn_of _ (by decide +kernel)) ggX5_doAll_X5_isOwner
set_option maxRecDepth 20000 in
theorem ggX5_doAll_X5_record : GoodIn wsX5_doAll wsX5_record := goodIn_r _ [13, 14, 15, 6, 16, 17, 4, 18, 66, 67, 68, 69, 70, 71, 72, 73, 74, 75, 76, 77, 78] (by decide +kernel) (by decide +kernel)
set_option maxRecDepth 20000 in
theorem gX5_doAll_X5_record : GoodIn wsX5_doAll (wsV RX5 117 RX5 yX5_record wsX5_record) := goodIn_app (goodIn_of _ (by decide +kernel)) ggX5_doAll_X5_record
set_option maxRecDepth 20000 in
theorem ggX5_doAll_X5_part : GoodIn wsX5_doAll wsX5_part := goodIn_r _ [22, 6, 66, 67, 68, 69, 70, 71, 72, 73, 74, 75, 76, 77, 78] (by decide +kernel) (by decide +kernel)
set_option maxRecDepth 20000 in
theorem gX5_doAll_X5_part : GoodIn wsX5_doAll (wsV RX5 52 RX5 yX5_part wsX5_part) := goodIn_app (goodIn_of _ (by decide +kernel)) ggX5_doAll_X5_part
set_option maxRecDepth 20000 in
theorem ggX5_doAll_X5_doSet : GoodIn wsX5_doAll wsX5_doSet := goodIn_r _ [26, 6, 27, 28, 29, 4, 30, 31, 32, 33, 34, 35, 36, 37, 38, 19, 20, 21, 22, 39, 40, 41, 42, 43, 44, 45, 46, 47, 48, 49, 50, 51, 52, 53, 54, 55, 56, 57, 58, 59, 60, 61, 62, 66, 67, 68, 69, 70, 71, 72, 73, 74, 75, 76, 77, 78] (by decide +kernel) (by decide +kernel)
set_option maxRecDepth 20000 in
theorem gX5_doAll_X5_doSet : GoodIn wsX5_doAll (wsV RX5 134 RX5 yX5_doSet wsX5_doSet) := goodIn_app (goodIn_of _ (by decide +kernel)) ggX5_doAll_X5_doSet
set_option maxRecDepth 20000 in
theorem ggX5_doAll_X5_setPart : GoodIn wsX5_doAll wsX5_setPart := goodIn_r _ [58, 6, 66, 67, 68, 69, 70, 71, 72, 73, 74, 75, 76, 77, 78] (by decide +kernel) (by decide +kernel)
set_option maxRecDepth 20000 in
theorem gX5_doAll_X5_setPart : GoodIn wsX5_doAll (wsV RX5 56 RX5 yX5_setPart wsX5_setPart) := goodIn_app (goodIn_of _ (by decide +kernel)) ggX5_doAll_X5_setPart
set_option maxRecDepth 20000 in
theorem ggX5_doAll_X5_bits : GoodIn wsX5_doAll wsX5_bits := goodIn_r _ [65] (by decide +kernel) (by decide +kernel)
set_option maxRecDepth 20000 in
theorem gX5_doAll_X5_bits : GoodIn wsX5_doAll (va_wsS RX5 137 yX5_bits wsX5_bits) := goodIn_app (goodIn_of _ (by decide +kernel)) ggX5_doAll_X5_bits
theorem dX5_doAll_0 : decode cX5_doAll 0 = .ok (.aload_n 0, 1) := by decide +kernel
theorem dX5_doAll_1 : decode cX5_doAll 1 = .ok (.iload_n 1, 1) := by decide +kernel
theorem dX5_doAll_2 : decode cX5_doAll 2 = .ok (.invokevirtual 123, 3) := by decide +kernel
theorem dX5_doAll_5 : decode cX5_doAll 5 = .ok (.ifCond .ne 5, 3) := by decide +kernel
theorem dX5_doAll_8 : decode cX5_doAll 8 = .ok (.iconst (-1), 1) := by decide +kernel
theorem dX5_doAll_9 : decode cX5_doAll 9 = .ok (.ireturn, 1) := by decide +kernel
theorem dX5_doAll_10 : decode cX5_doAll 10 = .ok (.aload_n 0, 1) := by decide +kernel
theorem dX5_doAll_11 : decode cX5_doAll 11 = .ok (.invokevirtual 117, 3) := by decide +kernel
theorem dX5_doAll_14 : decode cX5_doAll 14 = .ok (.aload_n 0, 1) := by decide +kernel
theorem dX5_doAll_15 : decode cX5_doAll 15 = .ok (.iload_n 1, 1) := by decide +kernel
theorem dX5_doAll_16 : decode cX5_doAll 16 = .ok (.iconst 1, 1) := by decide +kernel
theorem dX5_doAll_17 : decode cX5_doAll 17 = .ok (.invokevirtual 52, 3) := by decide +kernel
theorem dX5_doAll_20 : decode cX5_doAll 20 = .ok (.istore_n 2, 1) := by decide +kernel
theorem dX5_doAll_21 : decode cX5_doAll 21 = .ok (.aload_n 0, 1) := by decide +kernel
theorem dX5_doAll_22 : decode cX5_doAll 22 = .ok (.iload_n 1, 1) := by decide +kernel
theorem dX5_doAll_23 : decode cX5_doAll 23 = .ok (.iload_n 2, 1) := by decide +kernel
theorem dX5_doAll_24 : decode cX5_doAll 24 = .ok (.invokevirtual 134, 3) := by decide +kernel
theorem dX5_doAll_27 : decode cX5_doAll 27 = .ok (.aload_n 0, 1) := by decide +kernel
theorem dX5_doAll_28 : decode cX5_doAll 28 = .ok (.iload_n 1, 1) := by decide +kernel
theorem dX5_doAll_29 : decode cX5_doAll 29 = .ok (.iconst 1, 1) := by decide +kernel
theorem dX5_doAll_30 : decode cX5_doAll 30 = .ok (.iconst 0, 1) := by decide +kernel
theorem dX5_doAll_31 : decode cX5_doAll 31 = .ok (.invokevirtual 56, 3) := by decide +kernel
theorem dX5_doAll_34 : decode cX5_doAll 34 = .ok (.iload_n 2, 1) := by decide +kernel
theorem dX5_doAll_35 : decode cX5_doAll 35 = .ok (.invokestatic 137, 3) := by decide +kernel
theorem dX5_doAll_38 : decode cX5_doAll 38 = .ok (.ireturn, 1) := by decide +kernel
set_option maxRecDepth 20000 in
theorem ggX5_lose_X5_isOwner : GoodIn wsX5_lose wsX5_isOwner := goodIn_r _ [5, 6, 7, 8, 4, 9, 38, 39, 40, 41, 42, 43, 44, 45, 46, 47, 48, 49, 50] (by decide +kernel) (by decide +kernel)
set_option maxRecDepth 20000 in
theorem gX5_lose_X5_isOwner : GoodIn wsX5_lose (wsV RX5 123 RX5 yX5_isOwner wsX5_isOwner) := goodIn_app (goodIn_of _ (by decide +kernel)) ggX5_lose_X5_isOwner
set_option maxRecDepth 20000 in
theorem ggX5_lose_X5_isParcel : GoodIn wsX5_lose wsX5_isParcel := goodIn_r _ [13, 6, 7, 8, 4, 9, 38, 39, 40, 41, 42, 43, 44, 45, 46, 47, 48, 49, 50] (by decide +kernel) (by decide +kernel)
set_option maxRecDepth 20000 in
theorem gX5_lose_X5_isParcel : GoodIn wsX5_lose (wsV RX5 127 RX5 yX5_isParcel wsX5_isParcel) := goodIn_app (goodIn_of _ (by decide +kernel)) ggX5_lose_X5_isParcel
set_option maxRecDepth 20000 in
theorem ggX5_lose_X5_waits : GoodIn wsX5_lose wsX5_waits := goodIn_r _ [17, 18, 19, 20, 4, 21, 6, 38, 39, 40, 41, 42, 43, 44, 45, 46, 47, 48, 49, 50] (by decide +kernel) (by decide +kernel)
set_option maxRecDepth 20000 in
theorem gX5_lose_X5_waits : GoodIn wsX5_lose (wsV RX5 130 RX5 yX5_waits wsX5_waits) := goodIn_app (goodIn_of _ (by decide +kernel)) ggX5_lose_X5_waits
set_option maxRecDepth 20000 in
theorem ggX5_lose_X5_record : GoodIn wsX5_lose wsX5_record := goodIn_r _ [25, 26, 27, 6, 28, 29, 4, 30, 38, 39, 40, 41, 42, 43, 44, 45, 46, 47, 48, 49, 50] (by decide +kernel) (by decide +kernel)
set_option maxRecDepth 20000 in
theorem gX5_lose_X5_record : GoodIn wsX5_lose (wsV RX5 117 RX5 yX5_record wsX5_record) := goodIn_app (goodIn_of _ (by decide +kernel)) ggX5_lose_X5_record
set_option maxRecDepth 20000 in
theorem ggX5_lose_X5_part : GoodIn wsX5_lose wsX5_part := goodIn_r _ [21, 6, 38, 39, 40, 41, 42, 43, 44, 45, 46, 47, 48, 49, 50] (by decide +kernel) (by decide +kernel)
set_option maxRecDepth 20000 in
theorem gX5_lose_X5_part : GoodIn wsX5_lose (wsV RX5 52 RX5 yX5_part wsX5_part) := goodIn_app (goodIn_of _ (by decide +kernel)) ggX5_lose_X5_part
set_option maxRecDepth 20000 in
theorem ggX5_lose_X5_setPart : GoodIn wsX5_lose wsX5_setPart := goodIn_r _ [34, 6, 38, 39, 40, 41, 42, 43, 44, 45, 46, 47, 48, 49, 50] (by decide +kernel) (by decide +kernel)
set_option maxRecDepth 20000 in
theorem gX5_lose_X5_setPart : GoodIn wsX5_lose (wsV RX5 56 RX5 yX5_setPart wsX5_setPart) := goodIn_app (goodIn_of _ (by decide +kernel)) ggX5_lose_X5_setPart
set_option maxRecDepth 20000 in
theorem ggX5_lose_X5_bits : GoodIn wsX5_lose wsX5_bits := goodIn_r _ [37] (by decide +kernel) (by decide +kernel)
set_option maxRecDepth 20000 in
theorem gX5_lose_X5_bits : GoodIn wsX5_lose (va_wsS RX5 137 yX5_bits wsX5_bits) := goodIn_app (goodIn_of _ (by decide +kernel)) ggX5_lose_X5_bits
theorem dX5_lose_0 : decode cX5_lose 0 = .ok (.aload_n 0, 1) := by decide +kernel
theorem dX5_lose_1 : decode cX5_lose 1 = .ok (.iload_n 1, 1) := by decide +kernel
theorem dX5_lose_2 : decode cX5_lose 2 = .ok (.invokevirtual 123, 3) := by decide +kernel
theorem dX5_lose_5 : decode cX5_lose 5 = .ok (.ifCond .eq 11, 3) := by decide +kernel
theorem dX5_lose_8 : decode cX5_lose 8 = .ok (.aload_n 0, 1) := by decide +kernel
theorem dX5_lose_9 : decode cX5_lose 9 = .ok (.iload_n 2, 1) := by decide +kernel
theorem dX5_lose_10 : decode cX5_lose 10 = .ok (.invokevirtual 127, 3) := by decide +kernel
theorem dX5_lose_13 : decode cX5_lose 13 = .ok (.ifCond .ne 5, 3) := by decide +kernel
theorem dX5_lose_16 : decode cX5_lose 16 = .ok (.iconst (-1), 1) := by decide +kernel
theorem dX5_lose_17 : decode cX5_lose 17 = .ok (.ireturn, 1) := by decide +kernel
theorem dX5_lose_18 : decode cX5_lose 18 = .ok (.aload_n 0, 1) := by decide +kernel
theorem dX5_lose_19 : decode cX5_lose 19 = .ok (.iload_n 1, 1) := by decide +kernel
theorem dX5_lose_20 : decode cX5_lose 20 = .ok (.iload_n 2, 1) := by decide +kernel
theorem dX5_lose_21 : decode cX5_lose 21 = .ok (.invokevirtual 130, 3) := by decide +kernel
theorem dX5_lose_24 : decode cX5_lose 24 = .ok (.ifCond .ne 6, 3) := by decide +kernel
theorem dX5_lose_27 : decode cX5_lose 27 = .ok (.bipush (-5), 2) := by decide +kernel
theorem dX5_lose_29 : decode cX5_lose 29 = .ok (.ireturn, 1) := by decide +kernel
theorem dX5_lose_30 : decode cX5_lose 30 = .ok (.aload_n 0, 1) := by decide +kernel
theorem dX5_lose_31 : decode cX5_lose 31 = .ok (.invokevirtual 117, 3) := by decide +kernel
theorem dX5_lose_34 : decode cX5_lose 34 = .ok (.aload_n 0, 1) := by decide +kernel
theorem dX5_lose_35 : decode cX5_lose 35 = .ok (.iload_n 1, 1) := by decide +kernel
theorem dX5_lose_36 : decode cX5_lose 36 = .ok (.iconst 1, 1) := by decide +kernel
theorem dX5_lose_37 : decode cX5_lose 37 = .ok (.aload_n 0, 1) := by decide +kernel
theorem dX5_lose_38 : decode cX5_lose 38 = .ok (.iload_n 1, 1) := by decide +kernel
theorem dX5_lose_39 : decode cX5_lose 39 = .ok (.iconst 1, 1) := by decide +kernel
theorem dX5_lose_40 : decode cX5_lose 40 = .ok (.invokevirtual 52, 3) := by decide +kernel
theorem dX5_lose_43 : decode cX5_lose 43 = .ok (.iconst 1, 1) := by decide +kernel
theorem dX5_lose_44 : decode cX5_lose 44 = .ok (.iload_n 2, 1) := by decide +kernel
theorem dX5_lose_45 : decode cX5_lose 45 = .ok (.ishl, 1) := by decide +kernel
theorem dX5_lose_46 : decode cX5_lose 46 = .ok (.iconst (-1), 1) := by decide +kernel
theorem dX5_lose_47 : decode cX5_lose 47 = .ok (.ixor, 1) := by decide +kernel
theorem dX5_lose_48 : decode cX5_lose 48 = .ok (.iand, 1) := by decide +kernel
theorem dX5_lose_49 : decode cX5_lose 49 = .ok (.invokevirtual 56, 3) := by decide +kernel
theorem dX5_lose_52 : decode cX5_lose 52 = .ok (.aload_n 0, 1) := by decide +kernel
theorem dX5_lose_53 : decode cX5_lose 53 = .ok (.iload_n 1, 1) := by decide +kernel
theorem dX5_lose_54 : decode cX5_lose 54 = .ok (.iconst 2, 1) := by decide +kernel
theorem dX5_lose_55 : decode cX5_lose 55 = .ok (.aload_n 0, 1) := by decide +kernel
theorem dX5_lose_56 : decode cX5_lose 56 = .ok (.iload_n 1, 1) := by decide +kernel
theorem dX5_lose_57 : decode cX5_lose 57 = .ok (.iconst 2, 1) := by decide +kernel
theorem dX5_lose_58 : decode cX5_lose 58 = .ok (.invokevirtual 52, 3) := by decide +kernel
theorem dX5_lose_61 : decode cX5_lose 61 = .ok (.iconst 1, 1) := by decide +kernel
theorem dX5_lose_62 : decode cX5_lose 62 = .ok (.iload_n 2, 1) := by decide +kernel
theorem dX5_lose_63 : decode cX5_lose 63 = .ok (.ishl, 1) := by decide +kernel
theorem dX5_lose_64 : decode cX5_lose 64 = .ok (.ior, 1) := by decide +kernel
theorem dX5_lose_65 : decode cX5_lose 65 = .ok (.invokevirtual 56, 3) := by decide +kernel
theorem dX5_lose_68 : decode cX5_lose 68 = .ok (.aload_n 0, 1) := by decide +kernel
theorem dX5_lose_69 : decode cX5_lose 69 = .ok (.iload_n 1, 1) := by decide +kernel
theorem dX5_lose_70 : decode cX5_lose 70 = .ok (.iconst 1, 1) := by decide +kernel
theorem dX5_lose_71 : decode cX5_lose 71 = .ok (.invokevirtual 52, 3) := by decide +kernel
theorem dX5_lose_74 : decode cX5_lose 74 = .ok (.invokestatic 137, 3) := by decide +kernel
theorem dX5_lose_77 : decode cX5_lose 77 = .ok (.ireturn, 1) := by decide +kernel
set_option maxRecDepth 20000 in
theorem ggX5_again_X5_isOwner : GoodIn wsX5_again wsX5_isOwner := goodIn_r _ [5, 6, 7, 8, 4, 9, 38, 39, 40, 41, 42, 43, 44, 45, 46, 47, 48, 49, 50] (by decide +kernel) (by decide +kernel)
set_option maxRecDepth 20000 in
theorem gX5_again_X5_isOwner : GoodIn wsX5_again (wsV RX5 123 RX5 yX5_isOwner wsX5_isOwner) := goodIn_app (goodIn_of _ (by decide +kernel)) ggX5_again_X5_isOwner
set_option maxRecDepth 20000 in
theorem ggX5_again_X5_isParcel : GoodIn wsX5_again wsX5_isParcel := goodIn_r _ [13, 6, 7, 8, 4, 9, 38, 39, 40, 41, 42, 43, 44, 45, 46, 47, 48, 49, 50] (by decide +kernel) (by decide +kernel)
set_option maxRecDepth 20000 in
theorem gX5_again_X5_isParcel : GoodIn wsX5_again (wsV RX5 127 RX5 yX5_isParcel wsX5_isParcel) := goodIn_app (goodIn_of _ (by decide +kernel)) ggX5_again_X5_isParcel
set_option maxRecDepth 20000 in
theorem ggX5_again_X5_waits : GoodIn wsX5_again wsX5_waits := goodIn_r _ [17, 18, 19, 20, 4, 21, 6, 38, 39, 40, 41, 42, 43, 44, 45, 46, 47, 48, 49, 50] (by decide +kernel) (by decide +kernel)
set_option maxRecDepth 20000 in
theorem gX5_again_X5_waits : GoodIn wsX5_again (wsV RX5 130 RX5 yX5_waits wsX5_waits) := goodIn_app (goodIn_of _ (by decide +kernel)) ggX5_again_X5_waits
set_option maxRecDepth 20000 in
theorem ggX5_again_X5_record : GoodIn wsX5_again wsX5_record := goodIn_r _ [25, 26, 27, 6, 28, 29, 4, 30, 38, 39, 40, 41, 42, 43, 44, 45, 46, 47, 48, 49, 50] (by decide +kernel) (by decide +kernel)
set_option maxRecDepth 20000 in
theorem gX5_again_X5_record : GoodIn wsX5_again (wsV RX5 117 RX5 yX5_record wsX5_record) := goodIn_app (goodIn_of _ (by decide +kernel)) ggX5_again_X5_record
set_option maxRecDepth 20000 in
theorem ggX5_again_X5_part : GoodIn wsX5_again wsX5_part := goodIn_r _ [21, 6, 38, 39, 40, 41, 42, 43, 44, 45, 46, 47, 48, 49, 50] (by decide +kernel) (by decide +kernel)
set_option maxRecDepth 20000 in
theorem gX5_again_X5_part : GoodIn wsX5_again (wsV RX5 52 RX5 yX5_part wsX5_part) := goodIn_app (goodIn_of _ (by decide +kernel)) ggX5_again_X5_part
set_option maxRecDepth 20000 in
theorem ggX5_again_X5_setPart : GoodIn wsX5_again wsX5_setPart := goodIn_r _ [34, 6, 38, 39, 40, 41, 42, 43, 44, 45, 46, 47, 48, 49, 50] (by decide +kernel) (by decide +kernel)
set_option maxRecDepth 20000 in
theorem gX5_again_X5_setPart : GoodIn wsX5_again (wsV RX5 56 RX5 yX5_setPart wsX5_setPart) := goodIn_app (goodIn_of _ (by decide +kernel)) ggX5_again_X5_setPart
set_option maxRecDepth 20000 in
theorem ggX5_again_X5_bits : GoodIn wsX5_again wsX5_bits := goodIn_r _ [37] (by decide +kernel) (by decide +kernel)
set_option maxRecDepth 20000 in
theorem gX5_again_X5_bits : GoodIn wsX5_again (va_wsS RX5 137 yX5_bits wsX5_bits) := goodIn_app (goodIn_of _ (by decide +kernel)) ggX5_again_X5_bits
theorem dX5_again_0 : decode cX5_again 0 = .ok (.aload_n 0, 1) := by decide +kernel
theorem dX5_again_1 : decode cX5_again 1 = .ok (.iload_n 1, 1) := by decide +kernel
theorem dX5_again_2 : decode cX5_again 2 = .ok (.invokevirtual 123, 3) := by decide +kernel
theorem dX5_again_5 : decode cX5_again 5 = .ok (.ifCond .eq 11, 3) := by decide +kernel
theorem dX5_again_8 : decode cX5_again 8 = .ok (.aload_n 0, 1) := by decide +kernel
theorem dX5_again_9 : decode cX5_again 9 = .ok (.iload_n 2, 1) := by decide +kernel
theorem dX5_again_10 : decode cX5_again 10 = .ok (.invokevirtual 127, 3) := by decide +kernel
theorem dX5_again_13 : decode cX5_again 13 = .ok (.ifCond .ne 5, 3) := by decide +kernel
theorem dX5_again_16 : decode cX5_again 16 = .ok (.iconst (-1), 1) := by decide +kernel
theorem dX5_again_17 : decode cX5_again 17 = .ok (.ireturn, 1) := by decide +kernel
theorem dX5_again_18 : decode cX5_again 18 = .ok (.aload_n 0, 1) := by decide +kernel
theorem dX5_again_19 : decode cX5_again 19 = .ok (.iload_n 1, 1) := by decide +kernel
theorem dX5_again_20 : decode cX5_again 20 = .ok (.iload_n 2, 1) := by decide +kernel
theorem dX5_again_21 : decode cX5_again 21 = .ok (.invokevirtual 130, 3) := by decide +kernel
theorem dX5_again_24 : decode cX5_again 24 = .ok (.ifCond .eq 6, 3) := by decide +kernel
theorem dX5_again_27 : decode cX5_again 27 = .ok (.bipush (-5), 2) := by decide +kernel
theorem dX5_again_29 : decode cX5_again 29 = .ok (.ireturn, 1) := by decide +kernel
theorem dX5_again_30 : decode cX5_again 30 = .ok (.aload_n 0, 1) := by decide +kernel
theorem dX5_again_31 : decode cX5_again 31 = .ok (.invokevirtual 117, 3) := by decide +kernel
theorem dX5_again_34 : decode cX5_again 34 = .ok (.aload_n 0, 1) := by decide +kernel
theorem dX5_again_35 : decode cX5_again 35 = .ok (.iload_n 1, 1) := by decide +kernel
theorem dX5_again_36 : decode cX5_again 36 = .ok (.iconst 1, 1) := by decide +kernel
theorem dX5_again_37 : decode cX5_again 37 = .ok (.aload_n 0, 1) := by decide +kernel
theorem dX5_again_38 : decode cX5_again 38 = .ok (.iload_n 1, 1) := by decide +kernel
theorem dX5_again_39 : decode cX5_again 39 = .ok (.iconst 1, 1) := by decide +kernel
theorem dX5_again_40 : decode cX5_again 40 = .ok (.invokevirtual 52, 3) := by decide +kernel
theorem dX5_again_43 : decode cX5_again 43 = .ok (.iconst 1, 1) := by decide +kernel
theorem dX5_again_44 : decode cX5_again 44 = .ok (.iload_n 2, 1) := by decide +kernel
theorem dX5_again_45 : decode cX5_again 45 = .ok (.ishl, 1) := by decide +kernel
theorem dX5_again_46 : decode cX5_again 46 = .ok (.ior, 1) := by decide +kernel
theorem dX5_again_47 : decode cX5_again 47 = .ok (.invokevirtual 56, 3) := by decide +kernel
theorem dX5_again_50 : decode cX5_again 50 = .ok (.aload_n 0, 1) := by decide +kernel
theorem dX5_again_51 : decode cX5_again 51 = .ok (.iload_n 1, 1) := by decide +kernel
theorem dX5_again_52 : decode cX5_again 52 = .ok (.iconst 2, 1) := by decide +kernel
theorem dX5_again_53 : decode cX5_again 53 = .ok (.aload_n 0, 1) := by decide +kernel
theorem dX5_again_54 : decode cX5_again 54 = .ok (.iload_n 1, 1) := by decide +kernel
theorem dX5_again_55 : decode cX5_again 55 = .ok (.iconst 2, 1) := by decide +kernel
theorem dX5_again_56 : decode cX5_again 56 = .ok (.invokevirtual 52, 3) := by decide +kernel
theorem dX5_again_59 : decode cX5_again 59 = .ok (.iconst 1, 1) := by decide +kernel
theorem dX5_again_60 : decode cX5_again 60 = .ok (.iload_n 2, 1) := by decide +kernel
theorem dX5_again_61 : decode cX5_again 61 = .ok (.ishl, 1) := by decide +kernel
theorem dX5_again_62 : decode cX5_again 62 = .ok (.iconst (-1), 1) := by decide +kernel
theorem dX5_again_63 : decode cX5_again 63 = .ok (.ixor, 1) := by decide +kernel
theorem dX5_again_64 : decode cX5_again 64 = .ok (.iand, 1) := by decide +kernel
theorem dX5_again_65 : decode cX5_again 65 = .ok (.invokevirtual 56, 3) := by decide +kernel
theorem dX5_again_68 : decode cX5_again 68 = .ok (.aload_n 0, 1) := by decide +kernel
theorem dX5_again_69 : decode cX5_again 69 = .ok (.iload_n 1, 1) := by decide +kernel
theorem dX5_again_70 : decode cX5_again 70 = .ok (.iconst 1, 1) := by decide +kernel
theorem dX5_again_71 : decode cX5_again 71 = .ok (.invokevirtual 52, 3) := by decide +kernel
theorem dX5_again_74 : decode cX5_again 74 = .ok (.invokestatic 137, 3) := by decide +kernel
theorem dX5_again_77 : decode cX5_again 77 = .ok (.ireturn, 1) := by decide +kernel
set_option maxRecDepth 20000 in
theorem ggX5_leafWith_X5_part : GoodIn wsX5_leafWith wsX5_part := goodIn_r _ [5, 6, 15, 16, 17, 18, 19, 20, 21, 22, 23, 24, 25, 26, 27] (by decide +kernel) (by decide +kernel)
set_option maxRecDepth 20000 in
theorem gX5_leafWith_X5_part : GoodIn wsX5_leafWith (wsV RX5 52 RX5 yX5_part wsX5_part) := goodIn_app (goodIn_of _ (by decide +kernel)) ggX5_leafWith_X5_part
set_option maxRecDepth 20000 in
theorem ggX5_leafWith_X5_numberOf : GoodIn wsX5_leafWith wsX5_numberOf := goodIn_r _ [10, 1, 2, 3, 4, 5, 6, 15, 16, 17, 18, 19, 20, 21, 22, 23, 24, 25, 26, 27] (by decide +kernel) (by decide +kernel)
set_option maxRecDepth 20000 in
theorem gX5_leafWith_X5_numberOf : GoodIn wsX5_leafWith (wsV RX5 60 RX5 yX5_numberOf wsX5_numberOf) := goodIn_app (goodIn_of _ (by decide +kernel)) ggX5_leafWith_X5_numberOf
set_option maxRecDepth 20000 in
theorem ggX5_leafWith_X5_issueOf : GoodIn wsX5_leafWith wsX5_issueOf := goodIn_r _ [14, 1, 2, 3, 4, 5, 6, 15, 16, 17, 18, 19, 20, 21, 22, 23, 24, 25, 26, 27] (by decide +kernel) (by decide +kernel)
set_option maxRecDepth 20000 in
theorem gX5_leafWith_X5_issueOf : GoodIn wsX5_leafWith (wsV RX5 67 RX5 yX5_issueOf wsX5_issueOf) := goodIn_app (goodIn_of _ (by decide +kernel)) ggX5_leafWith_X5_issueOf
theorem dX5_leafWith_0 : decode cX5_leafWith 0 = .ok (.bipush (-6), 2) := by decide +kernel
theorem dX5_leafWith_2 : decode cX5_leafWith 2 = .ok (.istore 4, 2) := by decide +kernel
theorem dX5_leafWith_4 : decode cX5_leafWith 4 = .ok (.aload_n 0, 1) := by decide +kernel
theorem dX5_leafWith_5 : decode cX5_leafWith 5 = .ok (.iload_n 1, 1) := by decide +kernel
theorem dX5_leafWith_6 : decode cX5_leafWith 6 = .ok (.iconst 0, 1) := by decide +kernel
theorem dX5_leafWith_7 : decode cX5_leafWith 7 = .ok (.invokevirtual 52, 3) := by decide +kernel
theorem dX5_leafWith_10 : decode cX5_leafWith 10 = .ok (.iconst 1, 1) := by decide +kernel
theorem dX5_leafWith_11 : decode cX5_leafWith 11 = .ok (.isub, 1) := by decide +kernel
theorem dX5_leafWith_12 : decode cX5_leafWith 12 = .ok (.istore 5, 2) := by decide +kernel
theorem dX5_leafWith_14 : decode cX5_leafWith 14 = .ok (.iload 5, 2) := by decide +kernel
theorem dX5_leafWith_16 : decode cX5_leafWith 16 = .ok (.ifCond .lt 40, 3) := by decide +kernel
theorem dX5_leafWith_19 : decode cX5_leafWith 19 = .ok (.aload_n 0, 1) := by decide +kernel
theorem dX5_leafWith_20 : decode cX5_leafWith 20 = .ok (.iload_n 1, 1) := by decide +kernel
theorem dX5_leafWith_21 : decode cX5_leafWith 21 = .ok (.iload 5, 2) := by decide +kernel
theorem dX5_leafWith_23 : decode cX5_leafWith 23 = .ok (.invokevirtual 60, 3) := by decide +kernel
theorem dX5_leafWith_26 : decode cX5_leafWith 26 = .ok (.iload_n 2, 1) := by decide +kernel
theorem dX5_leafWith_27 : decode cX5_leafWith 27 = .ok (.if_icmp .ne 19, 3) := by decide +kernel
theorem dX5_leafWith_30 : decode cX5_leafWith 30 = .ok (.aload_n 0, 1) := by decide +kernel
theorem dX5_leafWith_31 : decode cX5_leafWith 31 = .ok (.iload_n 1, 1) := by decide +kernel
theorem dX5_leafWith_32 : decode cX5_leafWith 32 = .ok (.iload 5, 2) := by decide +kernel
theorem dX5_leafWith_34 : decode cX5_leafWith 34 = .ok (.invokevirtual 67, 3) := by decide +kernel
theorem dX5_leafWith_37 : decode cX5_leafWith 37 = .ok (.iload_n 3, 1) := by decide +kernel
theorem dX5_leafWith_38 : decode cX5_leafWith 38 = .ok (.if_icmp .ne 8, 3) := by decide +kernel
theorem dX5_leafWith_41 : decode cX5_leafWith 41 = .ok (.iload 5, 2) := by decide +kernel
theorem dX5_leafWith_43 : decode cX5_leafWith 43 = .ok (.goto 5, 3) := by decide +kernel
theorem dX5_leafWith_46 : decode cX5_leafWith 46 = .ok (.iload 4, 2) := by decide +kernel
theorem dX5_leafWith_48 : decode cX5_leafWith 48 = .ok (.istore 4, 2) := by decide +kernel
theorem dX5_leafWith_50 : decode cX5_leafWith 50 = .ok (.iinc 5 (-1), 3) := by decide +kernel
theorem dX5_leafWith_53 : decode cX5_leafWith 53 = .ok (.goto (-39), 3) := by decide +kernel
theorem dX5_leafWith_56 : decode cX5_leafWith 56 = .ok (.iload 4, 2) := by decide +kernel
theorem dX5_leafWith_58 : decode cX5_leafWith 58 = .ok (.ireturn, 1) := by decide +kernel
set_option maxRecDepth 20000 in
theorem ggX5_isNumber_X5_within : GoodIn wsX5_isNumber wsX5_within := goodIn_r _ [4] (by decide +kernel) (by decide +kernel)
set_option maxRecDepth 20000 in
theorem gX5_isNumber_X5_within : GoodIn wsX5_isNumber (va_wsS RX5 48 yX5_within wsX5_within) := goodIn_app (goodIn_of _ (by decide +kernel)) ggX5_isNumber_X5_within
theorem dX5_isNumber_0 : decode cX5_isNumber 0 = .ok (.iload_n 0, 1) := by decide +kernel
theorem dX5_isNumber_1 : decode cX5_isNumber 1 = .ok (.bipush 10, 2) := by decide +kernel
theorem dX5_isNumber_3 : decode cX5_isNumber 3 = .ok (.bipush 99, 2) := by decide +kernel
theorem dX5_isNumber_5 : decode cX5_isNumber 5 = .ok (.invokestatic 48, 3) := by decide +kernel
theorem dX5_isNumber_8 : decode cX5_isNumber 8 = .ok (.ireturn, 1) := by decide +kernel
set_option maxRecDepth 20000 in
theorem ggX5_hand_X5_isOwner : GoodIn wsX5_hand wsX5_isOwner := goodIn_r _ [5, 6, 7, 8, 4, 9, 54, 55, 56, 57, 58, 59, 60, 61, 62, 63, 64, 65, 66] (by decide +kernel) (by decide +kernel)
set_option maxRecDepth 20000 in
theorem gX5_hand_X5_isOwner : GoodIn wsX5_hand (wsV RX5 123 RX5 yX5_isOwner wsX5_isOwner) := goodIn_app (goodIn_of _ (by decide +kernel)) ggX5_hand_X5_isOwner
set_option maxRecDepth 20000 in
theorem ggX5_hand_X5_isParcel : GoodIn wsX5_hand wsX5_isParcel := goodIn_r _ [13, 6, 7, 8, 4, 9, 54, 55, 56, 57, 58, 59, 60, 61, 62, 63, 64, 65, 66] (by decide +kernel) (by decide +kernel)
set_option maxRecDepth 20000 in
theorem gX5_hand_X5_isParcel : GoodIn wsX5_hand (wsV RX5 127 RX5 yX5_isParcel wsX5_isParcel) := goodIn_app (goodIn_of _ (by decide +kernel)) ggX5_hand_X5_isParcel
set_option maxRecDepth 20000 in
theorem ggX5_hand_X5_isNumber : GoodIn wsX5_hand wsX5_isNumber := goodIn_r _ [16, 7, 8, 4, 9] (by decide +kernel) (by decide +kernel)
set_option maxRecDepth 20000 in
theorem gX5_hand_X5_isNumber : GoodIn wsX5_hand (va_wsS RX5 140 yX5_isNumber wsX5_isNumber) := goodIn_app (goodIn_of _ (by decide +kernel)) ggX5_hand_X5_isNumber
set_option maxRecDepth 20000 in
theorem ggX5_hand_X5_leafWith : GoodIn wsX5_hand wsX5_leafWith := goodIn_r _ [20, 21, 22, 23, 4, 24, 6, 25, 26, 27, 28, 29, 30, 31, 32, 54, 55, 56, 57, 58, 59, 60, 61, 62, 63, 64, 65, 66] (by decide +kernel) (by decide +kernel)
set_option maxRecDepth 20000 in
theorem gX5_hand_X5_leafWith : GoodIn wsX5_hand (wsV RX5 143 RX5 yX5_leafWith wsX5_leafWith) := goodIn_app (goodIn_of _ (by decide +kernel)) ggX5_hand_X5_leafWith
set_option maxRecDepth 20000 in
theorem ggX5_hand_X5_part : GoodIn wsX5_hand wsX5_part := goodIn_r _ [24, 6, 54, 55, 56, 57, 58, 59, 60, 61, 62, 63, 64, 65, 66] (by decide +kernel) (by decide +kernel)
set_option maxRecDepth 20000 in
theorem gX5_hand_X5_part : GoodIn wsX5_hand (wsV RX5 52 RX5 yX5_part wsX5_part) := goodIn_app (goodIn_of _ (by decide +kernel)) ggX5_hand_X5_part
set_option maxRecDepth 20000 in
theorem ggX5_hand_X5_record : GoodIn wsX5_hand wsX5_record := goodIn_r _ [36, 37, 38, 6, 39, 40, 4, 41, 54, 55, 56, 57, 58, 59, 60, 61, 62, 63, 64, 65, 66] (by decide +kernel) (by decide +kernel)
set_option maxRecDepth 20000 in
theorem gX5_hand_X5_record : GoodIn wsX5_hand (wsV RX5 117 RX5 yX5_record wsX5_record) := goodIn_app (goodIn_of _ (by decide +kernel)) ggX5_hand_X5_record
set_option maxRecDepth 20000 in
theorem ggX5_hand_X5_comes : GoodIn wsX5_hand wsX5_comes := goodIn_r _ [45, 21, 22, 23, 4, 24, 6, 46, 47, 48, 49, 54, 55, 56, 57, 58, 59, 60, 61, 62, 63, 64, 65, 66] (by decide +kernel) (by decide +kernel)
set_option maxRecDepth 20000 in
theorem gX5_hand_X5_comes : GoodIn wsX5_hand (wsV RX5 79 RX5 yX5_comes wsX5_comes) := goodIn_app (goodIn_of _ (by decide +kernel)) ggX5_hand_X5_comes
set_option maxRecDepth 20000 in
theorem ggX5_hand_X5_remove : GoodIn wsX5_hand wsX5_remove := goodIn_r _ [53, 21, 22, 23, 4, 24, 6, 46, 47, 48, 49, 54, 55, 56, 57, 58, 59, 60, 61, 62, 63, 64, 65, 66] (by decide +kernel) (by decide +kernel)
set_option maxRecDepth 20000 in
theorem gX5_hand_X5_remove : GoodIn wsX5_hand (wsV RX5 63 RX5 yX5_remove wsX5_remove) := goodIn_app (goodIn_of _ (by decide +kernel)) ggX5_hand_X5_remove
theorem dX5_hand_0 : decode cX5_hand 0 = .ok (.aload_n 0, 1) := by decide +kernel
theorem dX5_hand_1 : decode cX5_hand 1 = .ok (.iload_n 1, 1) := by decide +kernel
theorem dX5_hand_2 : decode cX5_hand 2 = .ok (.invokevirtual 123, 3) := by decide +kernel
theorem dX5_hand_5 : decode cX5_hand 5 = .ok (.ifCond .eq 11, 3) := by decide +kernel
theorem dX5_hand_8 : decode cX5_hand 8 = .ok (.aload_n 0, 1) := by decide +kernel
theorem dX5_hand_9 : decode cX5_hand 9 = .ok (.iload_n 3, 1) := by decide +kernel
theorem dX5_hand_10 : decode cX5_hand 10 = .ok (.invokevirtual 127, 3) := by decide +kernel
theorem dX5_hand_13 : decode cX5_hand 13 = .ok (.ifCond .ne 5, 3) := by decide +kernel
theorem dX5_hand_16 : decode cX5_hand 16 = .ok (.iconst (-1), 1) := by decide +kernel
theorem dX5_hand_17 : decode cX5_hand 17 = .ok (.ireturn, 1) := by decide +kernel
theorem dX5_hand_18 : decode cX5_hand 18 = .ok (.iload_n 2, 1) := by decide +kernel
theorem dX5_hand_19 : decode cX5_hand 19 = .ok (.invokestatic 140, 3) := by decide +kernel
theorem dX5_hand_22 : decode cX5_hand 22 = .ok (.ifCond .ne 6, 3) := by decide +kernel
theorem dX5_hand_25 : decode cX5_hand 25 = .ok (.bipush (-2), 2) := by decide +kernel
theorem dX5_hand_27 : decode cX5_hand 27 = .ok (.ireturn, 1) := by decide +kernel
theorem dX5_hand_28 : decode cX5_hand 28 = .ok (.aload_n 0, 1) := by decide +kernel
theorem dX5_hand_29 : decode cX5_hand 29 = .ok (.iload_n 1, 1) := by decide +kernel
theorem dX5_hand_30 : decode cX5_hand 30 = .ok (.iload_n 2, 1) := by decide +kernel
theorem dX5_hand_31 : decode cX5_hand 31 = .ok (.iload_n 3, 1) := by decide +kernel
theorem dX5_hand_32 : decode cX5_hand 32 = .ok (.invokevirtual 143, 3) := by decide +kernel
theorem dX5_hand_35 : decode cX5_hand 35 = .ok (.istore 5, 2) := by decide +kernel
theorem dX5_hand_37 : decode cX5_hand 37 = .ok (.iload 4, 2) := by decide +kernel
theorem dX5_hand_39 : decode cX5_hand 39 = .ok (.ifCond .eq 17, 3) := by decide +kernel
theorem dX5_hand_42 : decode cX5_hand 42 = .ok (.aload_n 0, 1) := by decide +kernel
theorem dX5_hand_43 : decode cX5_hand 43 = .ok (.iload_n 1, 1) := by decide +kernel
theorem dX5_hand_44 : decode cX5_hand 44 = .ok (.iconst 0, 1) := by decide +kernel
theorem dX5_hand_45 : decode cX5_hand 45 = .ok (.invokevirtual 52, 3) := by decide +kernel
theorem dX5_hand_48 : decode cX5_hand 48 = .ok (.bipush 60, 2) := by decide +kernel
theorem dX5_hand_50 : decode cX5_hand 50 = .ok (.if_icmp .ne 16, 3) := by decide +kernel
theorem dX5_hand_53 : decode cX5_hand 53 = .ok (.goto 10, 3) := by decide +kernel
theorem dX5_hand_56 : decode cX5_hand 56 = .ok (.iload 5, 2) := by decide +kernel
theorem dX5_hand_58 : decode cX5_hand 58 = .ok (.bipush (-6), 2) := by decide +kernel
theorem dX5_hand_60 : decode cX5_hand 60 = .ok (.if_icmp .ne 6, 3) := by decide +kernel
theorem dX5_hand_63 : decode cX5_hand 63 = .ok (.bipush (-5), 2) := by decide +kernel
theorem dX5_hand_65 : decode cX5_hand 65 = .ok (.ireturn, 1) := by decide +kernel
theorem dX5_hand_66 : decode cX5_hand 66 = .ok (.aload_n 0, 1) := by decide +kernel
theorem dX5_hand_67 : decode cX5_hand 67 = .ok (.invokevirtual 117, 3) := by decide +kernel
theorem dX5_hand_70 : decode cX5_hand 70 = .ok (.iload 4, 2) := by decide +kernel
theorem dX5_hand_72 : decode cX5_hand 72 = .ok (.ifCond .eq 13, 3) := by decide +kernel
theorem dX5_hand_75 : decode cX5_hand 75 = .ok (.aload_n 0, 1) := by decide +kernel
theorem dX5_hand_76 : decode cX5_hand 76 = .ok (.iload_n 1, 1) := by decide +kernel
theorem dX5_hand_77 : decode cX5_hand 77 = .ok (.iload_n 2, 1) := by decide +kernel
theorem dX5_hand_78 : decode cX5_hand 78 = .ok (.iload_n 3, 1) := by decide +kernel
theorem dX5_hand_79 : decode cX5_hand 79 = .ok (.invokevirtual 79, 3) := by decide +kernel
theorem dX5_hand_82 : decode cX5_hand 82 = .ok (.goto 10, 3) := by decide +kernel
theorem dX5_hand_85 : decode cX5_hand 85 = .ok (.aload_n 0, 1) := by decide +kernel
theorem dX5_hand_86 : decode cX5_hand 86 = .ok (.iload_n 1, 1) := by decide +kernel
theorem dX5_hand_87 : decode cX5_hand 87 = .ok (.iload 5, 2) := by decide +kernel
theorem dX5_hand_89 : decode cX5_hand 89 = .ok (.invokevirtual 63, 3) := by decide +kernel
theorem dX5_hand_92 : decode cX5_hand 92 = .ok (.aload_n 0, 1) := by decide +kernel
theorem dX5_hand_93 : decode cX5_hand 93 = .ok (.iload_n 1, 1) := by decide +kernel
theorem dX5_hand_94 : decode cX5_hand 94 = .ok (.iconst 0, 1) := by decide +kernel
theorem dX5_hand_95 : decode cX5_hand 95 = .ok (.invokevirtual 52, 3) := by decide +kernel
theorem dX5_hand_98 : decode cX5_hand 98 = .ok (.ireturn, 1) := by decide +kernel
set_option maxRecDepth 20000 in
theorem ggX5_ownersWith_X5_part : GoodIn wsX5_ownersWith wsX5_part := goodIn_r _ [6, 1, 7, 8, 9, 10, 11, 12, 13, 14, 15, 16, 17, 18, 19] (by decide +kernel) (by decide +kernel)
set_option maxRecDepth 20000 in
theorem gX5_ownersWith_X5_part : GoodIn wsX5_ownersWith (wsV RX5 52 RX5 yX5_part wsX5_part) := goodIn_app (goodIn_of _ (by decide +kernel)) ggX5_ownersWith_X5_part
theorem dX5_ownersWith_0 : decode cX5_ownersWith 0 = .ok (.iconst 0, 1) := by decide +kernel
theorem dX5_ownersWith_1 : decode cX5_ownersWith 1 = .ok (.istore_n 3, 1) := by decide +kernel
theorem dX5_ownersWith_2 : decode cX5_ownersWith 2 = .ok (.iconst 0, 1) := by decide +kernel
theorem dX5_ownersWith_3 : decode cX5_ownersWith 3 = .ok (.istore 4, 2) := by decide +kernel
theorem dX5_ownersWith_5 : decode cX5_ownersWith 5 = .ok (.iload 4, 2) := by decide +kernel
theorem dX5_ownersWith_7 : decode cX5_ownersWith 7 = .ok (.aload_n 0, 1) := by decide +kernel
theorem dX5_ownersWith_8 : decode cX5_ownersWith 8 = .ok (.getfield 7, 3) := by decide +kernel
theorem dX5_ownersWith_11 : decode cX5_ownersWith 11 = .ok (.iconst 1, 1) := by decide +kernel
theorem dX5_ownersWith_12 : decode cX5_ownersWith 12 = .ok (.iaload, 1) := by decide +kernel
theorem dX5_ownersWith_13 : decode cX5_ownersWith 13 = .ok (.if_icmp .ge 35, 3) := by decide +kernel
theorem dX5_ownersWith_16 : decode cX5_ownersWith 16 = .ok (.iload_n 3, 1) := by decide +kernel
theorem dX5_ownersWith_17 : decode cX5_ownersWith 17 = .ok (.aload_n 0, 1) := by decide +kernel
theorem dX5_ownersWith_18 : decode cX5_ownersWith 18 = .ok (.iload 4, 2) := by decide +kernel
theorem dX5_ownersWith_20 : decode cX5_ownersWith 20 = .ok (.iload_n 2, 1) := by decide +kernel
theorem dX5_ownersWith_21 : decode cX5_ownersWith 21 = .ok (.invokevirtual 52, 3) := by decide +kernel
theorem dX5_ownersWith_24 : decode cX5_ownersWith 24 = .ok (.iload_n 1, 1) := by decide +kernel
theorem dX5_ownersWith_25 : decode cX5_ownersWith 25 = .ok (.ishr, 1) := by decide +kernel
theorem dX5_ownersWith_26 : decode cX5_ownersWith 26 = .ok (.iconst 1, 1) := by decide +kernel
theorem dX5_ownersWith_27 : decode cX5_ownersWith 27 = .ok (.iand, 1) := by decide +kernel
theorem dX5_ownersWith_28 : decode cX5_ownersWith 28 = .ok (.iconst 1, 1) := by decide +kernel
theorem dX5_ownersWith_29 : decode cX5_ownersWith 29 = .ok (.if_icmp .ne 10, 3) := by decide +kernel
theorem dX5_ownersWith_32 : decode cX5_ownersWith 32 = .ok (.iconst 1, 1) := by decide +kernel
theorem dX5_ownersWith_33 : decode cX5_ownersWith 33 = .ok (.iload 4, 2) := by decide +kernel
theorem dX5_ownersWith_35 : decode cX5_ownersWith 35 = .ok (.ishl, 1) := by decide +kernel
theorem dX5_ownersWith_36 : decode cX5_ownersWith 36 = .ok (.goto 4, 3) := by decide +kernel
theorem dX5_ownersWith_39 : decode cX5_ownersWith 39 = .ok (.iconst 0, 1) := by decide +kernel
theorem dX5_ownersWith_40 : decode cX5_ownersWith 40 = .ok (.ior, 1) := by decide +kernel
theorem dX5_ownersWith_41 : decode cX5_ownersWith 41 = .ok (.istore_n 3, 1) := by decide +kernel
theorem dX5_ownersWith_42 : decode cX5_ownersWith 42 = .ok (.iinc 4 1, 3) := by decide +kernel
theorem dX5_ownersWith_45 : decode cX5_ownersWith 45 = .ok (.goto (-40), 3) := by decide +kernel
theorem dX5_ownersWith_48 : decode cX5_ownersWith 48 = .ok (.iload_n 3, 1) := by decide +kernel
theorem dX5_ownersWith_49 : decode cX5_ownersWith 49 = .ok (.ireturn, 1) := by decide +kernel
set_option maxRecDepth 20000 in
theorem ggX5_parcel_X5_isParcel : GoodIn wsX5_parcel wsX5_isParcel := goodIn_r _ [6, 1, 7, 8, 5, 9, 22, 23, 24, 25, 26, 27, 28, 29, 30, 31, 32, 33, 34] (by decide +kernel) (by decide +kernel)
set_option maxRecDepth 20000 in
theorem gX5_parcel_X5_isParcel : GoodIn wsX5_parcel (wsV RX5 127 RX5 yX5_isParcel wsX5_isParcel) := goodIn_app (goodIn_of _ (by decide +kernel)) ggX5_parcel_X5_isParcel
set_option maxRecDepth 20000 in
theorem ggX5_parcel_X5_within : GoodIn wsX5_parcel wsX5_within := goodIn_r _ [9] (by decide +kernel) (by decide +kernel)
set_option maxRecDepth 20000 in
theorem gX5_parcel_X5_within : GoodIn wsX5_parcel (va_wsS RX5 48 yX5_within wsX5_within) := goodIn_app (goodIn_of _ (by decide +kernel)) ggX5_parcel_X5_within
set_option maxRecDepth 20000 in
theorem ggX5_parcel_X5_ownersWith : GoodIn wsX5_parcel wsX5_ownersWith := goodIn_r _ [13, 1, 14, 15, 16, 5, 17, 22, 23, 24, 25, 26, 27, 28, 29, 30, 31, 32, 33, 34] (by decide +kernel) (by decide +kernel)
set_option maxRecDepth 20000 in
theorem gX5_parcel_X5_ownersWith : GoodIn wsX5_parcel (wsV RX5 147 RX5 yX5_ownersWith wsX5_ownersWith) := goodIn_app (goodIn_of _ (by decide +kernel)) ggX5_parcel_X5_ownersWith
set_option maxRecDepth 20000 in
theorem ggX5_parcel_X5_orderOf : GoodIn wsX5_parcel wsX5_orderOf := goodIn_r _ [21, 1, 22, 23, 24, 25, 26, 27, 28, 29, 30, 31, 32, 33, 34] (by decide +kernel) (by decide +kernel)
set_option maxRecDepth 20000 in
theorem gX5_parcel_X5_orderOf : GoodIn wsX5_parcel (wsV RX5 70 RX5 yX5_orderOf wsX5_orderOf) := goodIn_app (goodIn_of _ (by decide +kernel)) ggX5_parcel_X5_orderOf
theorem dX5_parcel_0 : decode cX5_parcel 0 = .ok (.aload_n 0, 1) := by decide +kernel
theorem dX5_parcel_1 : decode cX5_parcel 1 = .ok (.iload_n 1, 1) := by decide +kernel
theorem dX5_parcel_2 : decode cX5_parcel 2 = .ok (.invokevirtual 127, 3) := by decide +kernel
theorem dX5_parcel_5 : decode cX5_parcel 5 = .ok (.ifCond .ne 5, 3) := by decide +kernel
theorem dX5_parcel_8 : decode cX5_parcel 8 = .ok (.iconst (-1), 1) := by decide +kernel
theorem dX5_parcel_9 : decode cX5_parcel 9 = .ok (.ireturn, 1) := by decide +kernel
theorem dX5_parcel_10 : decode cX5_parcel 10 = .ok (.iload_n 2, 1) := by decide +kernel
theorem dX5_parcel_11 : decode cX5_parcel 11 = .ok (.iconst 0, 1) := by decide +kernel
theorem dX5_parcel_12 : decode cX5_parcel 12 = .ok (.bipush 10, 2) := by decide +kernel
theorem dX5_parcel_14 : decode cX5_parcel 14 = .ok (.invokestatic 48, 3) := by decide +kernel
theorem dX5_parcel_17 : decode cX5_parcel 17 = .ok (.ifCond .ne 6, 3) := by decide +kernel
theorem dX5_parcel_20 : decode cX5_parcel 20 = .ok (.bipush (-2), 2) := by decide +kernel
theorem dX5_parcel_22 : decode cX5_parcel 22 = .ok (.ireturn, 1) := by decide +kernel
theorem dX5_parcel_23 : decode cX5_parcel 23 = .ok (.aload_n 0, 1) := by decide +kernel
theorem dX5_parcel_24 : decode cX5_parcel 24 = .ok (.getfield 7, 3) := by decide +kernel
theorem dX5_parcel_27 : decode cX5_parcel 27 = .ok (.iconst 2, 1) := by decide +kernel
theorem dX5_parcel_28 : decode cX5_parcel 28 = .ok (.bipush 9, 2) := by decide +kernel
theorem dX5_parcel_30 : decode cX5_parcel 30 = .ok (.iload_n 1, 1) := by decide +kernel
theorem dX5_parcel_31 : decode cX5_parcel 31 = .ok (.imul, 1) := by decide +kernel
theorem dX5_parcel_32 : decode cX5_parcel 32 = .ok (.iadd, 1) := by decide +kernel
theorem dX5_parcel_33 : decode cX5_parcel 33 = .ok (.iaload, 1) := by decide +kernel
theorem dX5_parcel_34 : decode cX5_parcel 34 = .ok (.istore_n 3, 1) := by decide +kernel
theorem dX5_parcel_35 : decode cX5_parcel 35 = .ok (.iload_n 2, 1) := by decide +kernel
theorem dX5_parcel_36 : decode cX5_parcel 36 = .ok (.bipush 8, 2) := by decide +kernel
theorem dX5_parcel_38 : decode cX5_parcel 38 = .ok (.if_icmp .le 20, 3) := by decide +kernel
theorem dX5_parcel_41 : decode cX5_parcel 41 = .ok (.aload_n 0, 1) := by decide +kernel
theorem dX5_parcel_42 : decode cX5_parcel 42 = .ok (.iload_n 1, 1) := by decide +kernel
theorem dX5_parcel_43 : decode cX5_parcel 43 = .ok (.iload_n 2, 1) := by decide +kernel
theorem dX5_parcel_44 : decode cX5_parcel 44 = .ok (.bipush 9, 2) := by decide +kernel
theorem dX5_parcel_46 : decode cX5_parcel 46 = .ok (.if_icmp .ne 7, 3) := by decide +kernel
theorem dX5_parcel_49 : decode cX5_parcel 49 = .ok (.iconst 1, 1) := by decide +kernel
theorem dX5_parcel_50 : decode cX5_parcel 50 = .ok (.goto 4, 3) := by decide +kernel
theorem dX5_parcel_53 : decode cX5_parcel 53 = .ok (.iconst 2, 1) := by decide +kernel
theorem dX5_parcel_54 : decode cX5_parcel 54 = .ok (.invokevirtual 147, 3) := by decide +kernel
theorem dX5_parcel_57 : decode cX5_parcel 57 = .ok (.ireturn, 1) := by decide +kernel
theorem dX5_parcel_58 : decode cX5_parcel 58 = .ok (.iload_n 2, 1) := by decide +kernel
theorem dX5_parcel_59 : decode cX5_parcel 59 = .ok (.ifCond .ne 7, 3) := by decide +kernel
theorem dX5_parcel_62 : decode cX5_parcel 62 = .ok (.iload_n 3, 1) := by decide +kernel
theorem dX5_parcel_63 : decode cX5_parcel 63 = .ok (.goto 21, 3) := by decide +kernel
theorem dX5_parcel_66 : decode cX5_parcel 66 = .ok (.iload_n 2, 1) := by decide +kernel
theorem dX5_parcel_67 : decode cX5_parcel 67 = .ok (.iload_n 3, 1) := by decide +kernel
theorem dX5_parcel_68 : decode cX5_parcel 68 = .ok (.if_icmp .gt 14, 3) := by decide +kernel
theorem dX5_parcel_71 : decode cX5_parcel 71 = .ok (.aload_n 0, 1) := by decide +kernel
theorem dX5_parcel_72 : decode cX5_parcel 72 = .ok (.iload_n 1, 1) := by decide +kernel
theorem dX5_parcel_73 : decode cX5_parcel 73 = .ok (.iload_n 2, 1) := by decide +kernel
theorem dX5_parcel_74 : decode cX5_parcel 74 = .ok (.iconst 1, 1) := by decide +kernel
theorem dX5_parcel_75 : decode cX5_parcel 75 = .ok (.isub, 1) := by decide +kernel
theorem dX5_parcel_76 : decode cX5_parcel 76 = .ok (.invokevirtual 70, 3) := by decide +kernel
theorem dX5_parcel_79 : decode cX5_parcel 79 = .ok (.goto 5, 3) := by decide +kernel
theorem dX5_parcel_82 : decode cX5_parcel 82 = .ok (.bipush (-6), 2) := by decide +kernel
theorem dX5_parcel_84 : decode cX5_parcel 84 = .ok (.ireturn, 1) := by decide +kernel
set_option maxRecDepth 20000 in
theorem ggX5_text_X5_isNumber : GoodIn wsX5_text wsX5_isNumber := goodIn_r _ [5, 6, 7, 4, 8] (by decide +kernel) (by decide +kernel)
set_option maxRecDepth 20000 in
theorem gX5_text_X5_isNumber : GoodIn wsX5_text (va_wsS RX5 140 yX5_isNumber wsX5_isNumber) := goodIn_app (goodIn_of _ (by decide +kernel)) ggX5_text_X5_isNumber
set_option maxRecDepth 20000 in
theorem ggX5_text_X5_findIssues : GoodIn wsX5_text wsX5_findIssues := goodIn_r _ [12, 1, 13, 14, 15, 4, 16, 17, 18, 19, 20, 21, 22, 23, 24, 25, 26, 27, 28, 29, 30, 31, 32, 33, 34, 35, 36, 37, 38] (by decide +kernel) (by decide +kernel)
set_option maxRecDepth 20000 in
theorem gX5_text_X5_findIssues : GoodIn wsX5_text (wsV RX5 86 RX5 yX5_findIssues wsX5_findIssues) := goodIn_app (goodIn_of _ (by decide +kernel)) ggX5_text_X5_findIssues
theorem dX5_text_0 : decode cX5_text 0 = .ok (.iload_n 1, 1) := by decide +kernel
theorem dX5_text_1 : decode cX5_text 1 = .ok (.invokestatic 140, 3) := by decide +kernel
theorem dX5_text_4 : decode cX5_text 4 = .ok (.ifCond .ne 6, 3) := by decide +kernel
theorem dX5_text_7 : decode cX5_text 7 = .ok (.bipush (-2), 2) := by decide +kernel
theorem dX5_text_9 : decode cX5_text 9 = .ok (.ireturn, 1) := by decide +kernel
theorem dX5_text_10 : decode cX5_text 10 = .ok (.aload_n 0, 1) := by decide +kernel
theorem dX5_text_11 : decode cX5_text 11 = .ok (.invokevirtual 86, 3) := by decide +kernel
theorem dX5_text_14 : decode cX5_text 14 = .ok (.aload_n 0, 1) := by decide +kernel
theorem dX5_text_15 : decode cX5_text 15 = .ok (.getfield 37, 3) := by decide +kernel
theorem dX5_text_18 : decode cX5_text 18 = .ok (.iload_n 1, 1) := by decide +kernel
theorem dX5_text_19 : decode cX5_text 19 = .ok (.iaload, 1) := by decide +kernel
theorem dX5_text_20 : decode cX5_text 20 = .ok (.ifCond .ne 8, 3) := by decide +kernel
theorem dX5_text_23 : decode cX5_text 23 = .ok (.bipush (-6), 2) := by decide +kernel
theorem dX5_text_25 : decode cX5_text 25 = .ok (.goto 11, 3) := by decide +kernel
theorem dX5_text_28 : decode cX5_text 28 = .ok (.aload_n 0, 1) := by decide +kernel
theorem dX5_text_29 : decode cX5_text 29 = .ok (.getfield 37, 3) := by decide +kernel
theorem dX5_text_32 : decode cX5_text 32 = .ok (.iload_n 1, 1) := by decide +kernel
theorem dX5_text_33 : decode cX5_text 33 = .ok (.iaload, 1) := by decide +kernel
theorem dX5_text_34 : decode cX5_text 34 = .ok (.iconst 1, 1) := by decide +kernel
theorem dX5_text_35 : decode cX5_text 35 = .ok (.isub, 1) := by decide +kernel
theorem dX5_text_36 : decode cX5_text 36 = .ok (.ireturn, 1) := by decide +kernel
set_option maxRecDepth 20000 in
theorem ggX5_issueIn_X5_part : GoodIn wsX5_issueIn wsX5_part := goodIn_r _ [5, 6, 15, 16, 17, 18, 19, 20, 21, 22, 23, 24, 25, 26, 27] (by decide +kernel) (by decide +kernel)
set_option maxRecDepth 20000 in
theorem gX5_issueIn_X5_part : GoodIn wsX5_issueIn (wsV RX5 52 RX5 yX5_part wsX5_part) := goodIn_app (goodIn_of _ (by decide +kernel)) ggX5_issueIn_X5_part
set_option maxRecDepth 20000 in
theorem ggX5_issueIn_X5_issueOf : GoodIn wsX5_issueIn wsX5_issueOf := goodIn_r _ [10, 1, 2, 3, 4, 5, 6, 15, 16, 17, 18, 19, 20, 21, 22, 23, 24, 25, 26, 27] (by decide +kernel) (by decide +kernel)
set_option maxRecDepth 20000 in
theorem gX5_issueIn_X5_issueOf : GoodIn wsX5_issueIn (wsV RX5 67 RX5 yX5_issueOf wsX5_issueOf) := goodIn_app (goodIn_of _ (by decide +kernel)) ggX5_issueIn_X5_issueOf
set_option maxRecDepth 20000 in
theorem ggX5_issueIn_X5_numberOf : GoodIn wsX5_issueIn wsX5_numberOf := goodIn_r _ [14, 1, 2, 3, 4, 5, 6, 15, 16, 17, 18, 19, 20, 21, 22, 23, 24, 25, 26, 27] (by decide +kernel) (by decide +kernel)
set_option maxRecDepth 20000 in
theorem gX5_issueIn_X5_numberOf : GoodIn wsX5_issueIn (wsV RX5 60 RX5 yX5_numberOf wsX5_numberOf) := goodIn_app (goodIn_of _ (by decide +kernel)) ggX5_issueIn_X5_numberOf
theorem dX5_issueIn_0 : decode cX5_issueIn 0 = .ok (.bipush (-6), 2) := by decide +kernel
theorem dX5_issueIn_2 : decode cX5_issueIn 2 = .ok (.istore 4, 2) := by decide +kernel
theorem dX5_issueIn_4 : decode cX5_issueIn 4 = .ok (.iconst 0, 1) := by decide +kernel
theorem dX5_issueIn_5 : decode cX5_issueIn 5 = .ok (.istore 5, 2) := by decide +kernel
theorem dX5_issueIn_7 : decode cX5_issueIn 7 = .ok (.iload 5, 2) := by decide +kernel
theorem dX5_issueIn_9 : decode cX5_issueIn 9 = .ok (.aload_n 0, 1) := by decide +kernel
theorem dX5_issueIn_10 : decode cX5_issueIn 10 = .ok (.iload_n 1, 1) := by decide +kernel
theorem dX5_issueIn_11 : decode cX5_issueIn 11 = .ok (.iconst 0, 1) := by decide +kernel
theorem dX5_issueIn_12 : decode cX5_issueIn 12 = .ok (.invokevirtual 52, 3) := by decide +kernel
theorem dX5_issueIn_15 : decode cX5_issueIn 15 = .ok (.if_icmp .ge 78, 3) := by decide +kernel
theorem dX5_issueIn_18 : decode cX5_issueIn 18 = .ok (.aload_n 0, 1) := by decide +kernel
theorem dX5_issueIn_19 : decode cX5_issueIn 19 = .ok (.iload_n 1, 1) := by decide +kernel
theorem dX5_issueIn_20 : decode cX5_issueIn 20 = .ok (.iload 5, 2) := by decide +kernel
theorem dX5_issueIn_22 : decode cX5_issueIn 22 = .ok (.invokevirtual 67, 3) := by decide +kernel
theorem dX5_issueIn_25 : decode cX5_issueIn 25 = .ok (.istore 6, 2) := by decide +kernel
theorem dX5_issueIn_27 : decode cX5_issueIn 27 = .ok (.aload_n 0, 1) := by decide +kernel
theorem dX5_issueIn_28 : decode cX5_issueIn 28 = .ok (.iload_n 1, 1) := by decide +kernel
theorem dX5_issueIn_29 : decode cX5_issueIn 29 = .ok (.iload 5, 2) := by decide +kernel
theorem dX5_issueIn_31 : decode cX5_issueIn 31 = .ok (.invokevirtual 60, 3) := by decide +kernel
theorem dX5_issueIn_34 : decode cX5_issueIn 34 = .ok (.iload_n 2, 1) := by decide +kernel
theorem dX5_issueIn_35 : decode cX5_issueIn 35 = .ok (.if_icmp .ne 35, 3) := by decide +kernel
theorem dX5_issueIn_38 : decode cX5_issueIn 38 = .ok (.iload 4, 2) := by decide +kernel
theorem dX5_issueIn_40 : decode cX5_issueIn 40 = .ok (.bipush (-6), 2) := by decide +kernel
theorem dX5_issueIn_42 : decode cX5_issueIn 42 = .ok (.if_icmp .eq 24, 3) := by decide +kernel
theorem dX5_issueIn_45 : decode cX5_issueIn 45 = .ok (.iload_n 3, 1) := by decide +kernel
theorem dX5_issueIn_46 : decode cX5_issueIn 46 = .ok (.ifCond .eq 13, 3) := by decide +kernel
theorem dX5_issueIn_49 : decode cX5_issueIn 49 = .ok (.iload 6, 2) := by decide +kernel
theorem dX5_issueIn_51 : decode cX5_issueIn 51 = .ok (.iload 4, 2) := by decide +kernel
theorem dX5_issueIn_53 : decode cX5_issueIn 53 = .ok (.if_icmp .le 17, 3) := by decide +kernel
theorem dX5_issueIn_56 : decode cX5_issueIn 56 = .ok (.goto 10, 3) := by decide +kernel
theorem dX5_issueIn_59 : decode cX5_issueIn 59 = .ok (.iload 6, 2) := by decide +kernel
theorem dX5_issueIn_61 : decode cX5_issueIn 61 = .ok (.iload 4, 2) := by decide +kernel
theorem dX5_issueIn_63 : decode cX5_issueIn 63 = .ok (.if_icmp .ge 7, 3) := by decide +kernel
theorem dX5_issueIn_66 : decode cX5_issueIn 66 = .ok (.iconst 1, 1) := by decide +kernel
theorem dX5_issueIn_67 : decode cX5_issueIn 67 = .ok (.goto 4, 3) := by decide +kernel
theorem dX5_issueIn_70 : decode cX5_issueIn 70 = .ok (.iconst 0, 1) := by decide +kernel
theorem dX5_issueIn_71 : decode cX5_issueIn 71 = .ok (.istore 7, 2) := by decide +kernel
theorem dX5_issueIn_73 : decode cX5_issueIn 73 = .ok (.iload 7, 2) := by decide +kernel
theorem dX5_issueIn_75 : decode cX5_issueIn 75 = .ok (.ifCond .eq 8, 3) := by decide +kernel
theorem dX5_issueIn_78 : decode cX5_issueIn 78 = .ok (.iload 6, 2) := by decide +kernel
theorem dX5_issueIn_80 : decode cX5_issueIn 80 = .ok (.goto 5, 3) := by decide +kernel
theorem dX5_issueIn_83 : decode cX5_issueIn 83 = .ok (.iload 4, 2) := by decide +kernel
theorem dX5_issueIn_85 : decode cX5_issueIn 85 = .ok (.istore 4, 2) := by decide +kernel
theorem dX5_issueIn_87 : decode cX5_issueIn 87 = .ok (.iinc 5 1, 3) := by decide +kernel
theorem dX5_issueIn_90 : decode cX5_issueIn 90 = .ok (.goto (-83), 3) := by decide +kernel
theorem dX5_issueIn_93 : decode cX5_issueIn 93 = .ok (.iload 4, 2) := by decide +kernel
theorem dX5_issueIn_95 : decode cX5_issueIn 95 = .ok (.ireturn, 1) := by decide +kernel
set_option maxRecDepth 20000 in
theorem ggX5_leaf_X5_isOwner : GoodIn wsX5_leaf wsX5_isOwner := goodIn_r _ [6, 7, 8, 9, 5, 10, 52, 53, 54, 55, 56, 57, 58, 59, 60, 61, 62, 63, 64] (by decide +kernel) (by decide +kernel)
set_option maxRecDepth 20000 in
theorem gX5_leaf_X5_isOwner : GoodIn wsX5_leaf (wsV RX5 123 RX5 yX5_isOwner wsX5_isOwner) := goodIn_app (goodIn_of _ (by decide +kernel)) ggX5_leaf_X5_isOwner
set_option maxRecDepth 20000 in
theorem ggX5_leaf_X5_isNumber : GoodIn wsX5_leaf wsX5_isNumber := goodIn_r _ [13, 8, 9, 5, 10] (by decide +kernel) (by decide +kernel)
set_option maxRecDepth 20000 in
theorem gX5_leaf_X5_isNumber : GoodIn wsX5_leaf (va_wsS RX5 140 yX5_isNumber wsX5_isNumber) := goodIn_app (goodIn_of _ (by decide +kernel)) ggX5_leaf_X5_isNumber
set_option maxRecDepth 20000 in
theorem ggX5_leaf_X5_findLeaves : GoodIn wsX5_leaf wsX5_findLeaves := goodIn_r _ [17, 1, 18, 19, 20, 21, 22, 5, 23, 24, 25, 26, 27, 7, 28, 29, 30, 31, 32, 33, 34, 35, 52, 53, 54, 55, 56, 57, 58, 59, 60, 61, 62, 63, 64] (by decide +kernel) (by decide +kernel)
set_option maxRecDepth 20000 in
theorem gX5_leaf_X5_findLeaves : GoodIn wsX5_leaf (wsV RX5 89 RX5 yX5_findLeaves wsX5_findLeaves) := goodIn_app (goodIn_of _ (by decide +kernel)) ggX5_leaf_X5_findLeaves
set_option maxRecDepth 20000 in
theorem ggX5_leaf_X5_issueIn : GoodIn wsX5_leaf wsX5_issueIn := goodIn_r _ [39, 24, 25, 26, 5, 27, 7, 32, 33, 34, 35, 28, 29, 30, 31, 52, 53, 54, 55, 56, 57, 58, 59, 60, 61, 62, 63, 64] (by decide +kernel) (by decide +kernel)
set_option maxRecDepth 20000 in
theorem gX5_leaf_X5_issueIn : GoodIn wsX5_leaf (wsV RX5 150 RX5 yX5_issueIn wsX5_issueIn) := goodIn_app (goodIn_of _ (by decide +kernel)) ggX5_leaf_X5_issueIn
set_option maxRecDepth 20000 in
theorem ggX5_leaf_X5_surplusOf : GoodIn wsX5_leaf wsX5_surplusOf := goodIn_r _ [43, 19, 1, 52, 53, 54, 55, 56, 57, 58, 59, 60, 61, 62, 63, 64] (by decide +kernel) (by decide +kernel)
set_option maxRecDepth 20000 in
theorem gX5_leaf_X5_surplusOf : GoodIn wsX5_leaf (wsV RX5 93 RX5 yX5_surplusOf wsX5_surplusOf) := goodIn_app (goodIn_of _ (by decide +kernel)) ggX5_leaf_X5_surplusOf
set_option maxRecDepth 20000 in
theorem ggX5_leaf_X5_oldOf : GoodIn wsX5_leaf wsX5_oldOf := goodIn_r _ [47, 19, 1, 18, 52, 53, 54, 55, 56, 57, 58, 59, 60, 61, 62, 63, 64] (by decide +kernel) (by decide +kernel)
set_option maxRecDepth 20000 in
theorem gX5_leaf_X5_oldOf : GoodIn wsX5_leaf (wsV RX5 97 RX5 yX5_oldOf wsX5_oldOf) := goodIn_app (goodIn_of _ (by decide +kernel)) ggX5_leaf_X5_oldOf
set_option maxRecDepth 20000 in
theorem ggX5_leaf_X5_missingOf : GoodIn wsX5_leaf wsX5_missingOf := goodIn_r _ [51, 19, 1, 52, 53, 54, 55, 56, 57, 58, 59, 60, 61, 62, 63, 64] (by decide +kernel) (by decide +kernel)
set_option maxRecDepth 20000 in
theorem gX5_leaf_X5_missingOf : GoodIn wsX5_leaf (wsV RX5 100 RX5 yX5_missingOf wsX5_missingOf) := goodIn_app (goodIn_of _ (by decide +kernel)) ggX5_leaf_X5_missingOf
theorem dX5_leaf_0 : decode cX5_leaf 0 = .ok (.aload_n 0, 1) := by decide +kernel
theorem dX5_leaf_1 : decode cX5_leaf 1 = .ok (.iload_n 1, 1) := by decide +kernel
theorem dX5_leaf_2 : decode cX5_leaf 2 = .ok (.invokevirtual 123, 3) := by decide +kernel
theorem dX5_leaf_5 : decode cX5_leaf 5 = .ok (.ifCond .ne 5, 3) := by decide +kernel
theorem dX5_leaf_8 : decode cX5_leaf 8 = .ok (.iconst (-1), 1) := by decide +kernel
theorem dX5_leaf_9 : decode cX5_leaf 9 = .ok (.ireturn, 1) := by decide +kernel
theorem dX5_leaf_10 : decode cX5_leaf 10 = .ok (.iload_n 2, 1) := by decide +kernel
theorem dX5_leaf_11 : decode cX5_leaf 11 = .ok (.invokestatic 140, 3) := by decide +kernel
theorem dX5_leaf_14 : decode cX5_leaf 14 = .ok (.ifCond .ne 6, 3) := by decide +kernel
theorem dX5_leaf_17 : decode cX5_leaf 17 = .ok (.bipush (-2), 2) := by decide +kernel
theorem dX5_leaf_19 : decode cX5_leaf 19 = .ok (.ireturn, 1) := by decide +kernel
theorem dX5_leaf_20 : decode cX5_leaf 20 = .ok (.aload_n 0, 1) := by decide +kernel
theorem dX5_leaf_21 : decode cX5_leaf 21 = .ok (.iload_n 1, 1) := by decide +kernel
theorem dX5_leaf_22 : decode cX5_leaf 22 = .ok (.invokevirtual 89, 3) := by decide +kernel
theorem dX5_leaf_25 : decode cX5_leaf 25 = .ok (.iload_n 3, 1) := by decide +kernel
theorem dX5_leaf_26 : decode cX5_leaf 26 = .ok (.tableswitch 79 0 5 #[38, 45, 53, 61, 67, 73], 38) := by decide +kernel
theorem dX5_leaf_64 : decode cX5_leaf 64 = .ok (.aload_n 0, 1) := by decide +kernel
theorem dX5_leaf_65 : decode cX5_leaf 65 = .ok (.getfield 31, 3) := by decide +kernel
theorem dX5_leaf_68 : decode cX5_leaf 68 = .ok (.iload_n 2, 1) := by decide +kernel
theorem dX5_leaf_69 : decode cX5_leaf 69 = .ok (.iaload, 1) := by decide +kernel
theorem dX5_leaf_70 : decode cX5_leaf 70 = .ok (.ireturn, 1) := by decide +kernel
theorem dX5_leaf_71 : decode cX5_leaf 71 = .ok (.aload_n 0, 1) := by decide +kernel
theorem dX5_leaf_72 : decode cX5_leaf 72 = .ok (.iload_n 1, 1) := by decide +kernel
theorem dX5_leaf_73 : decode cX5_leaf 73 = .ok (.iload_n 2, 1) := by decide +kernel
theorem dX5_leaf_74 : decode cX5_leaf 74 = .ok (.iconst 0, 1) := by decide +kernel
theorem dX5_leaf_75 : decode cX5_leaf 75 = .ok (.invokevirtual 150, 3) := by decide +kernel
theorem dX5_leaf_78 : decode cX5_leaf 78 = .ok (.ireturn, 1) := by decide +kernel
theorem dX5_leaf_79 : decode cX5_leaf 79 = .ok (.aload_n 0, 1) := by decide +kernel
theorem dX5_leaf_80 : decode cX5_leaf 80 = .ok (.iload_n 1, 1) := by decide +kernel
theorem dX5_leaf_81 : decode cX5_leaf 81 = .ok (.iload_n 2, 1) := by decide +kernel
theorem dX5_leaf_82 : decode cX5_leaf 82 = .ok (.iconst 1, 1) := by decide +kernel
theorem dX5_leaf_83 : decode cX5_leaf 83 = .ok (.invokevirtual 150, 3) := by decide +kernel
theorem dX5_leaf_86 : decode cX5_leaf 86 = .ok (.ireturn, 1) := by decide +kernel
theorem dX5_leaf_87 : decode cX5_leaf 87 = .ok (.aload_n 0, 1) := by decide +kernel
theorem dX5_leaf_88 : decode cX5_leaf 88 = .ok (.iload_n 2, 1) := by decide +kernel
theorem dX5_leaf_89 : decode cX5_leaf 89 = .ok (.invokevirtual 93, 3) := by decide +kernel
theorem dX5_leaf_92 : decode cX5_leaf 92 = .ok (.ireturn, 1) := by decide +kernel
theorem dX5_leaf_93 : decode cX5_leaf 93 = .ok (.aload_n 0, 1) := by decide +kernel
theorem dX5_leaf_94 : decode cX5_leaf 94 = .ok (.iload_n 2, 1) := by decide +kernel
theorem dX5_leaf_95 : decode cX5_leaf 95 = .ok (.invokevirtual 97, 3) := by decide +kernel
theorem dX5_leaf_98 : decode cX5_leaf 98 = .ok (.ireturn, 1) := by decide +kernel
theorem dX5_leaf_99 : decode cX5_leaf 99 = .ok (.aload_n 0, 1) := by decide +kernel
theorem dX5_leaf_100 : decode cX5_leaf 100 = .ok (.iload_n 2, 1) := by decide +kernel
theorem dX5_leaf_101 : decode cX5_leaf 101 = .ok (.invokevirtual 100, 3) := by decide +kernel
theorem dX5_leaf_104 : decode cX5_leaf 104 = .ok (.ireturn, 1) := by decide +kernel
theorem dX5_leaf_105 : decode cX5_leaf 105 = .ok (.bipush (-2), 2) := by decide +kernel
theorem dX5_leaf_107 : decode cX5_leaf 107 = .ok (.ireturn, 1) := by decide +kernel
set_option maxRecDepth 20000 in
theorem ggX5_of_X5_isOwner : GoodIn wsX5_of wsX5_isOwner := goodIn_r _ [5, 6, 7, 8, 4, 9, 57, 58, 59, 60, 61, 62, 63, 64, 65, 66, 67, 68, 69] (by decide +kernel) (by decide +kernel)
set_option maxRecDepth 20000 in
theorem gX5_of_X5_isOwner : GoodIn wsX5_of (wsV RX5 123 RX5 yX5_isOwner wsX5_isOwner) := goodIn_app (goodIn_of _ (by decide +kernel)) ggX5_of_X5_isOwner
set_option maxRecDepth 20000 in
theorem ggX5_of_X5_part : GoodIn wsX5_of wsX5_part := goodIn_r _ [13, 6, 57, 58, 59, 60, 61, 62, 63, 64, 65, 66, 67, 68, 69] (by decide +kernel) (by decide +kernel)
set_option maxRecDepth 20000 in
theorem gX5_of_X5_part : GoodIn wsX5_of (wsV RX5 52 RX5 yX5_part wsX5_part) := goodIn_app (goodIn_of _ (by decide +kernel)) ggX5_of_X5_part
set_option maxRecDepth 20000 in
theorem ggX5_of_X5_wrong : GoodIn wsX5_of wsX5_wrong := goodIn_r _ [17, 18, 19, 20, 4, 21, 22, 23, 24, 25, 26, 27, 28, 10, 11, 12, 13, 6, 29, 30, 31, 32, 33, 34, 35, 36, 37, 38, 39, 40, 41, 42, 43, 44, 45, 46, 47, 48, 57, 58, 59, 60, 61, 62, 63, 64, 65, 66, 67, 68, 69] (by decide +kernel) (by decide +kernel)
set_option maxRecDepth 20000 in
theorem gX5_of_X5_wrong : GoodIn wsX5_of (wsV RX5 103 RX5 yX5_wrong wsX5_wrong) := goodIn_app (goodIn_of _ (by decide +kernel)) ggX5_of_X5_wrong
set_option maxRecDepth 20000 in
theorem ggX5_of_X5_isRight : GoodIn wsX5_of wsX5_isRight := goodIn_r _ [52, 14, 15, 16, 4, 17, 18, 19, 20, 21, 22, 23, 24, 25, 26, 27, 28, 10, 11, 12, 13, 6, 29, 30, 31, 32, 33, 34, 35, 36, 37, 38, 39, 40, 41, 42, 43, 44, 45, 46, 47, 48, 57, 58, 59, 60, 61, 62, 63, 64, 65, 66, 67, 68, 69] (by decide +kernel) (by decide +kernel)
set_option maxRecDepth 20000 in
theorem gX5_of_X5_isRight : GoodIn wsX5_of (wsV RX5 154 RX5 yX5_isRight wsX5_isRight) := goodIn_app (goodIn_of _ (by decide +kernel)) ggX5_of_X5_isRight
set_option maxRecDepth 20000 in
theorem ggX5_of_X5_checkOf : GoodIn wsX5_of wsX5_checkOf := goodIn_r _ [56, 10, 11, 12, 4, 13, 6, 29, 30, 31, 32, 33, 34, 35, 36, 57, 58, 59, 60, 61, 62, 63, 64, 65, 66, 67, 68, 69] (by decide +kernel) (by decide +kernel)
set_option maxRecDepth 20000 in
theorem gX5_of_X5_checkOf : GoodIn wsX5_of (wsV RX5 157 RX5 yX5_checkOf wsX5_checkOf) := goodIn_app (goodIn_of _ (by decide +kernel)) ggX5_of_X5_checkOf
theorem dX5_of_0 : decode cX5_of 0 = .ok (.aload_n 0, 1) := by decide +kernel
theorem dX5_of_1 : decode cX5_of 1 = .ok (.iload_n 1, 1) := by decide +kernel
theorem dX5_of_2 : decode cX5_of 2 = .ok (.invokevirtual 123, 3) := by decide +kernel
theorem dX5_of_5 : decode cX5_of 5 = .ok (.ifCond .ne 5, 3) := by decide +kernel
theorem dX5_of_8 : decode cX5_of 8 = .ok (.iconst (-1), 1) := by decide +kernel
theorem dX5_of_9 : decode cX5_of 9 = .ok (.ireturn, 1) := by decide +kernel
theorem dX5_of_10 : decode cX5_of 10 = .ok (.iload_n 2, 1) := by decide +kernel
theorem dX5_of_11 : decode cX5_of 11 = .ok (.tableswitch 81 0 7 #[45, 45, 45, 52, 52, 52, 61, 75], 45) := by decide +kernel
theorem dX5_of_56 : decode cX5_of 56 = .ok (.aload_n 0, 1) := by decide +kernel
theorem dX5_of_57 : decode cX5_of 57 = .ok (.iload_n 1, 1) := by decide +kernel
theorem dX5_of_58 : decode cX5_of 58 = .ok (.iload_n 2, 1) := by decide +kernel
theorem dX5_of_59 : decode cX5_of 59 = .ok (.invokevirtual 52, 3) := by decide +kernel
theorem dX5_of_62 : decode cX5_of 62 = .ok (.ireturn, 1) := by decide +kernel
theorem dX5_of_63 : decode cX5_of 63 = .ok (.aload_n 0, 1) := by decide +kernel
theorem dX5_of_64 : decode cX5_of 64 = .ok (.iload_n 1, 1) := by decide +kernel
theorem dX5_of_65 : decode cX5_of 65 = .ok (.iload_n 2, 1) := by decide +kernel
theorem dX5_of_66 : decode cX5_of 66 = .ok (.iconst 3, 1) := by decide +kernel
theorem dX5_of_67 : decode cX5_of 67 = .ok (.isub, 1) := by decide +kernel
theorem dX5_of_68 : decode cX5_of 68 = .ok (.invokevirtual 103, 3) := by decide +kernel
theorem dX5_of_71 : decode cX5_of 71 = .ok (.ireturn, 1) := by decide +kernel
theorem dX5_of_72 : decode cX5_of 72 = .ok (.aload_n 0, 1) := by decide +kernel
theorem dX5_of_73 : decode cX5_of 73 = .ok (.iload_n 1, 1) := by decide +kernel
theorem dX5_of_74 : decode cX5_of 74 = .ok (.invokevirtual 154, 3) := by decide +kernel
theorem dX5_of_77 : decode cX5_of 77 = .ok (.ifCond .eq 7, 3) := by decide +kernel
theorem dX5_of_80 : decode cX5_of 80 = .ok (.iconst 1, 1) := by decide +kernel
theorem dX5_of_81 : decode cX5_of 81 = .ok (.goto 4, 3) := by decide +kernel
theorem dX5_of_84 : decode cX5_of 84 = .ok (.iconst 0, 1) := by decide +kernel
theorem dX5_of_85 : decode cX5_of 85 = .ok (.ireturn, 1) := by decide +kernel
theorem dX5_of_86 : decode cX5_of 86 = .ok (.aload_n 0, 1) := by decide +kernel
theorem dX5_of_87 : decode cX5_of 87 = .ok (.iload_n 1, 1) := by decide +kernel
theorem dX5_of_88 : decode cX5_of 88 = .ok (.invokevirtual 157, 3) := by decide +kernel
theorem dX5_of_91 : decode cX5_of 91 = .ok (.ireturn, 1) := by decide +kernel
theorem dX5_of_92 : decode cX5_of 92 = .ok (.bipush (-2), 2) := by decide +kernel
theorem dX5_of_94 : decode cX5_of 94 = .ok (.ireturn, 1) := by decide +kernel
set_option maxRecDepth 20000 in
theorem ggX5_rightOwners_X5_isRight : GoodIn wsX5_rightOwners wsX5_isRight := goodIn_r _ [6, 7, 8, 9, 5, 10, 11, 12, 13, 14, 15, 16, 17, 18, 19, 20, 21, 22, 23, 24, 25, 1, 26, 27, 28, 29, 30, 31, 32, 33, 34, 35, 36, 37, 38, 39, 40, 41, 42, 43, 44, 45, 46, 47, 48, 49, 50, 51, 52, 53, 54, 55, 56, 57, 58] (by decide +kernel) (by decide +kernel)
set_option maxRecDepth 20000 in
theorem gX5_rightOwners_X5_isRight : GoodIn wsX5_rightOwners (wsV RX5 154 RX5 yX5_isRight wsX5_isRight) := goodIn_app (goodIn_of _ (by decide +kernel)) ggX5_rightOwners_X5_isRight
theorem dX5_rightOwners_0 : decode cX5_rightOwners 0 = .ok (.iconst 0, 1) := by decide +kernel
theorem dX5_rightOwners_1 : decode cX5_rightOwners 1 = .ok (.istore_n 1, 1) := by decide +kernel
theorem dX5_rightOwners_2 : decode cX5_rightOwners 2 = .ok (.iconst 0, 1) := by decide +kernel
theorem dX5_rightOwners_3 : decode cX5_rightOwners 3 = .ok (.istore_n 2, 1) := by decide +kernel
theorem dX5_rightOwners_4 : decode cX5_rightOwners 4 = .ok (.iload_n 2, 1) := by decide +kernel
theorem dX5_rightOwners_5 : decode cX5_rightOwners 5 = .ok (.aload_n 0, 1) := by decide +kernel
theorem dX5_rightOwners_6 : decode cX5_rightOwners 6 = .ok (.getfield 7, 3) := by decide +kernel
theorem dX5_rightOwners_9 : decode cX5_rightOwners 9 = .ok (.iconst 1, 1) := by decide +kernel
theorem dX5_rightOwners_10 : decode cX5_rightOwners 10 = .ok (.iaload, 1) := by decide +kernel
theorem dX5_rightOwners_11 : decode cX5_rightOwners 11 = .ok (.if_icmp .ge 27, 3) := by decide +kernel
theorem dX5_rightOwners_14 : decode cX5_rightOwners 14 = .ok (.iload_n 1, 1) := by decide +kernel
theorem dX5_rightOwners_15 : decode cX5_rightOwners 15 = .ok (.aload_n 0, 1) := by decide +kernel
theorem dX5_rightOwners_16 : decode cX5_rightOwners 16 = .ok (.iload_n 2, 1) := by decide +kernel
theorem dX5_rightOwners_17 : decode cX5_rightOwners 17 = .ok (.invokevirtual 154, 3) := by decide +kernel
theorem dX5_rightOwners_20 : decode cX5_rightOwners 20 = .ok (.ifCond .eq 9, 3) := by decide +kernel
theorem dX5_rightOwners_23 : decode cX5_rightOwners 23 = .ok (.iconst 1, 1) := by decide +kernel
theorem dX5_rightOwners_24 : decode cX5_rightOwners 24 = .ok (.iload_n 2, 1) := by decide +kernel
theorem dX5_rightOwners_25 : decode cX5_rightOwners 25 = .ok (.ishl, 1) := by decide +kernel
theorem dX5_rightOwners_26 : decode cX5_rightOwners 26 = .ok (.goto 4, 3) := by decide +kernel
theorem dX5_rightOwners_29 : decode cX5_rightOwners 29 = .ok (.iconst 0, 1) := by decide +kernel
theorem dX5_rightOwners_30 : decode cX5_rightOwners 30 = .ok (.ior, 1) := by decide +kernel
theorem dX5_rightOwners_31 : decode cX5_rightOwners 31 = .ok (.istore_n 1, 1) := by decide +kernel
theorem dX5_rightOwners_32 : decode cX5_rightOwners 32 = .ok (.iinc 2 1, 3) := by decide +kernel
theorem dX5_rightOwners_35 : decode cX5_rightOwners 35 = .ok (.goto (-31), 3) := by decide +kernel
theorem dX5_rightOwners_38 : decode cX5_rightOwners 38 = .ok (.iload_n 1, 1) := by decide +kernel
theorem dX5_rightOwners_39 : decode cX5_rightOwners 39 = .ok (.ireturn, 1) := by decide +kernel
set_option maxRecDepth 20000 in
theorem ggX5_inText_X5_part : GoodIn wsX5_inText wsX5_part := goodIn_r _ [5, 6, 11, 12, 13, 14, 15, 16, 17, 18, 19, 20, 21, 22, 23] (by decide +kernel) (by decide +kernel)
set_option maxRecDepth 20000 in
theorem gX5_inText_X5_part : GoodIn wsX5_inText (wsV RX5 52 RX5 yX5_part wsX5_part) := goodIn_app (goodIn_of _ (by decide +kernel)) ggX5_inText_X5_part
set_option maxRecDepth 20000 in
theorem ggX5_inText_X5_issueOf : GoodIn wsX5_inText wsX5_issueOf := goodIn_r _ [10, 1, 2, 3, 4, 5, 6, 11, 12, 13, 14, 15, 16, 17, 18, 19, 20, 21, 22, 23] (by decide +kernel) (by decide +kernel)
set_option maxRecDepth 20000 in
theorem gX5_inText_X5_issueOf : GoodIn wsX5_inText (wsV RX5 67 RX5 yX5_issueOf wsX5_issueOf) := goodIn_app (goodIn_of _ (by decide +kernel)) ggX5_inText_X5_issueOf
theorem dX5_inText_0 : decode cX5_inText 0 = .ok (.iconst 0, 1) := by decide +kernel
theorem dX5_inText_1 : decode cX5_inText 1 = .ok (.istore_n 2, 1) := by decide +kernel
theorem dX5_inText_2 : decode cX5_inText 2 = .ok (.iconst 0, 1) := by decide +kernel
theorem dX5_inText_3 : decode cX5_inText 3 = .ok (.istore_n 3, 1) := by decide +kernel
theorem dX5_inText_4 : decode cX5_inText 4 = .ok (.iload_n 3, 1) := by decide +kernel
theorem dX5_inText_5 : decode cX5_inText 5 = .ok (.aload_n 0, 1) := by decide +kernel
theorem dX5_inText_6 : decode cX5_inText 6 = .ok (.bipush 8, 2) := by decide +kernel
theorem dX5_inText_8 : decode cX5_inText 8 = .ok (.iconst 0, 1) := by decide +kernel
theorem dX5_inText_9 : decode cX5_inText 9 = .ok (.invokevirtual 52, 3) := by decide +kernel
theorem dX5_inText_12 : decode cX5_inText 12 = .ok (.if_icmp .ge 28, 3) := by decide +kernel
theorem dX5_inText_15 : decode cX5_inText 15 = .ok (.iload_n 2, 1) := by decide +kernel
theorem dX5_inText_16 : decode cX5_inText 16 = .ok (.aload_n 0, 1) := by decide +kernel
theorem dX5_inText_17 : decode cX5_inText 17 = .ok (.bipush 8, 2) := by decide +kernel
theorem dX5_inText_19 : decode cX5_inText 19 = .ok (.iload_n 3, 1) := by decide +kernel
theorem dX5_inText_20 : decode cX5_inText 20 = .ok (.invokevirtual 67, 3) := by decide +kernel
theorem dX5_inText_23 : decode cX5_inText 23 = .ok (.iload_n 1, 1) := by decide +kernel
theorem dX5_inText_24 : decode cX5_inText 24 = .ok (.if_icmp .ne 7, 3) := by decide +kernel
theorem dX5_inText_27 : decode cX5_inText 27 = .ok (.iconst 1, 1) := by decide +kernel
theorem dX5_inText_28 : decode cX5_inText 28 = .ok (.goto 4, 3) := by decide +kernel
theorem dX5_inText_31 : decode cX5_inText 31 = .ok (.iconst 0, 1) := by decide +kernel
theorem dX5_inText_32 : decode cX5_inText 32 = .ok (.iadd, 1) := by decide +kernel
theorem dX5_inText_33 : decode cX5_inText 33 = .ok (.istore_n 2, 1) := by decide +kernel
theorem dX5_inText_34 : decode cX5_inText 34 = .ok (.iinc 3 1, 3) := by decide +kernel
theorem dX5_inText_37 : decode cX5_inText 37 = .ok (.goto (-33), 3) := by decide +kernel
theorem dX5_inText_40 : decode cX5_inText 40 = .ok (.iload_n 2, 1) := by decide +kernel
theorem dX5_inText_41 : decode cX5_inText 41 = .ok (.ireturn, 1) := by decide +kernel
set_option maxRecDepth 20000 in
theorem ggX5_mostInText_X5_inText : GoodIn wsX5_mostInText wsX5_inText := goodIn_r _ [6, 7, 8, 9, 5, 10, 1, 11, 12, 13, 14, 15, 16, 17, 18, 19, 20, 21, 22, 23, 24, 25, 26, 27] (by decide +kernel) (by decide +kernel)
set_option maxRecDepth 20000 in
theorem gX5_mostInText_X5_inText : GoodIn wsX5_mostInText (wsV RX5 160 RX5 yX5_inText wsX5_inText) := goodIn_app (goodIn_of _ (by decide +kernel)) ggX5_mostInText_X5_inText
theorem dX5_mostInText_0 : decode cX5_mostInText 0 = .ok (.bipush (-6), 2) := by decide +kernel
theorem dX5_mostInText_2 : decode cX5_mostInText 2 = .ok (.istore_n 1, 1) := by decide +kernel
theorem dX5_mostInText_3 : decode cX5_mostInText 3 = .ok (.iconst 0, 1) := by decide +kernel
theorem dX5_mostInText_4 : decode cX5_mostInText 4 = .ok (.istore_n 2, 1) := by decide +kernel
theorem dX5_mostInText_5 : decode cX5_mostInText 5 = .ok (.iconst 0, 1) := by decide +kernel
theorem dX5_mostInText_6 : decode cX5_mostInText 6 = .ok (.istore_n 3, 1) := by decide +kernel
theorem dX5_mostInText_7 : decode cX5_mostInText 7 = .ok (.iload_n 3, 1) := by decide +kernel
theorem dX5_mostInText_8 : decode cX5_mostInText 8 = .ok (.aload_n 0, 1) := by decide +kernel
