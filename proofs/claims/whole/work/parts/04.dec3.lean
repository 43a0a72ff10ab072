theorem dX4_mending_12 : decode cX4_mending 12 = .ok (.ireturn, 1) := by decide +kernel
theorem dX4_mending_13 : decode cX4_mending 13 = .ok (.aload_n 0, 1) := by decide +kernel
theorem dX4_mending_14 : decode cX4_mending 14 = .ok (.getfield 40, 3) := by decide +kernel
theorem dX4_mending_17 : decode cX4_mending 17 = .ok (.iconst 0, 1) := by decide +kernel
theorem dX4_mending_18 : decode cX4_mending 18 = .ok (.aaload, 1) := by decide +kernel
theorem dX4_mending_19 : decode cX4_mending 19 = .ok (.aload_n 0, 1) := by decide +kernel
theorem dX4_mending_20 : decode cX4_mending 20 = .ok (.getfield 10, 3) := by decide +kernel
theorem dX4_mending_23 : decode cX4_mending 23 = .ok (.getfield 89, 3) := by decide +kernel
theorem dX4_mending_26 : decode cX4_mending 26 = .ok (.iload_n 1, 1) := by decide +kernel
theorem dX4_mending_27 : decode cX4_mending 27 = .ok (.aaload, 1) := by decide +kernel
theorem dX4_mending_28 : decode cX4_mending 28 = .ok (.invokevirtual 187, 3) := by decide +kernel
theorem dX4_mending_31 : decode cX4_mending 31 = .ok (.iconst 0, 1) := by decide +kernel
theorem dX4_mending_32 : decode cX4_mending 32 = .ok (.istore_n 2, 1) := by decide +kernel
theorem dX4_mending_33 : decode cX4_mending 33 = .ok (.iload_n 2, 1) := by decide +kernel
theorem dX4_mending_34 : decode cX4_mending 34 = .ok (.iconst 3, 1) := by decide +kernel
theorem dX4_mending_35 : decode cX4_mending 35 = .ok (.if_icmp .gt 32, 3) := by decide +kernel
theorem dX4_mending_38 : decode cX4_mending 38 = .ok (.aload_n 0, 1) := by decide +kernel
theorem dX4_mending_39 : decode cX4_mending 39 = .ok (.getfield 10, 3) := by decide +kernel
theorem dX4_mending_42 : decode cX4_mending 42 = .ok (.aload_n 0, 1) := by decide +kernel
theorem dX4_mending_43 : decode cX4_mending 43 = .ok (.getfield 40, 3) := by decide +kernel
theorem dX4_mending_46 : decode cX4_mending 46 = .ok (.iconst 0, 1) := by decide +kernel
theorem dX4_mending_47 : decode cX4_mending 47 = .ok (.iconst 0, 1) := by decide +kernel
theorem dX4_mending_48 : decode cX4_mending 48 = .ok (.iload_n 2, 1) := by decide +kernel
theorem dX4_mending_49 : decode cX4_mending 49 = .ok (.invokestatic 191, 3) := by decide +kernel
theorem dX4_mending_52 : decode cX4_mending 52 = .ok (.istore_n 3, 1) := by decide +kernel
theorem dX4_mending_53 : decode cX4_mending 53 = .ok (.iload_n 3, 1) := by decide +kernel
theorem dX4_mending_54 : decode cX4_mending 54 = .ok (.bipush (-6), 2) := by decide +kernel
theorem dX4_mending_56 : decode cX4_mending 56 = .ok (.if_icmp .eq 5, 3) := by decide +kernel
theorem dX4_mending_59 : decode cX4_mending 59 = .ok (.iload_n 3, 1) := by decide +kernel
theorem dX4_mending_60 : decode cX4_mending 60 = .ok (.ireturn, 1) := by decide +kernel
theorem dX4_mending_61 : decode cX4_mending 61 = .ok (.iinc 2 1, 3) := by decide +kernel
theorem dX4_mending_64 : decode cX4_mending 64 = .ok (.goto (-31), 3) := by decide +kernel
theorem dX4_mending_67 : decode cX4_mending 67 = .ok (.bipush (-6), 2) := by decide +kernel
theorem dX4_mending_69 : decode cX4_mending 69 = .ok (.ireturn, 1) := by decide +kernel
set_option maxRecDepth 20000 in
theorem ggX4_rightFrom_X3_hasOwner : GoodIn wsX4_rightFrom wsX3_hasOwner := goodIn_r _ [6, 7, 80, 81, 82, 83, 84, 85, 86, 87] (by decide +kernel) (by decide +kernel)
set_option maxRecDepth 20000 in
theorem gX4_rightFrom_X3_hasOwner : GoodIn wsX4_rightFrom (wsV RX4 74 RX3 yX3_hasOwner wsX3_hasOwner) := goodIn_app (goodIn_of _ (by decide +kernel)) ggX4_rightFrom_X3_hasOwner
set_option maxRecDepth 20000 in
theorem ggX4_rightFrom_X4_tried : GoodIn wsX4_rightFrom wsX4_tried := goodIn_r _ [12, 13, 1, 14, 15, 16, 17, 18, 19, 20, 21, 22, 23, 24, 25, 26, 27, 5, 28, 29, 30, 31, 32, 33, 34, 35, 36, 37, 38, 39, 40, 41, 42, 43, 44, 45, 46, 47, 48, 49, 50, 51, 52, 53, 54, 55, 56, 57, 58, 59, 60, 61, 62, 63, 64, 65, 66, 67, 68, 69, 74, 75, 76, 77, 78, 79, 80, 81, 82, 83, 84, 85, 86, 87, 88, 89] (by decide +kernel) (by decide +kernel)
set_option maxRecDepth 20000 in
theorem gX4_rightFrom_X4_tried : GoodIn wsX4_rightFrom (wsV RX4 179 RX4 yX4_tried wsX4_tried) := goodIn_app (goodIn_of _ (by decide +kernel)) ggX4_rightFrom_X4_tried
set_option maxRecDepth 20000 in
theorem ggX4_rightFrom_X0_isSameAs : GoodIn wsX4_rightFrom wsX0_isSameAs := goodIn_r _ [73, 20, 19, 88, 89] (by decide +kernel) (by decide +kernel)
set_option maxRecDepth 20000 in
theorem gX4_rightFrom_X0_isSameAs : GoodIn wsX4_rightFrom (wsV RX4 159 RX0 yX0_isSameAs wsX0_isSameAs) := goodIn_app (goodIn_of _ (by decide +kernel)) ggX4_rightFrom_X0_isSameAs
theorem dX4_rightFrom_0 : decode cX4_rightFrom 0 = .ok (.aload_n 0, 1) := by decide +kernel
theorem dX4_rightFrom_1 : decode cX4_rightFrom 1 = .ok (.getfield 10, 3) := by decide +kernel
theorem dX4_rightFrom_4 : decode cX4_rightFrom 4 = .ok (.iload_n 1, 1) := by decide +kernel
theorem dX4_rightFrom_5 : decode cX4_rightFrom 5 = .ok (.invokevirtual 74, 3) := by decide +kernel
theorem dX4_rightFrom_8 : decode cX4_rightFrom 8 = .ok (.ifCond .ne 5, 3) := by decide +kernel
theorem dX4_rightFrom_11 : decode cX4_rightFrom 11 = .ok (.iconst (-1), 1) := by decide +kernel
theorem dX4_rightFrom_12 : decode cX4_rightFrom 12 = .ok (.ireturn, 1) := by decide +kernel
theorem dX4_rightFrom_13 : decode cX4_rightFrom 13 = .ok (.aload_n 0, 1) := by decide +kernel
theorem dX4_rightFrom_14 : decode cX4_rightFrom 14 = .ok (.getfield 10, 3) := by decide +kernel
theorem dX4_rightFrom_17 : decode cX4_rightFrom 17 = .ok (.getfield 53, 3) := by decide +kernel
theorem dX4_rightFrom_20 : decode cX4_rightFrom 20 = .ok (.istore_n 2, 1) := by decide +kernel
theorem dX4_rightFrom_21 : decode cX4_rightFrom 21 = .ok (.iload_n 2, 1) := by decide +kernel
theorem dX4_rightFrom_22 : decode cX4_rightFrom 22 = .ok (.ifCond .lt 44, 3) := by decide +kernel
theorem dX4_rightFrom_25 : decode cX4_rightFrom 25 = .ok (.iconst 1, 1) := by decide +kernel
theorem dX4_rightFrom_26 : decode cX4_rightFrom 26 = .ok (.aload_n 0, 1) := by decide +kernel
theorem dX4_rightFrom_27 : decode cX4_rightFrom 27 = .ok (.getfield 10, 3) := by decide +kernel
theorem dX4_rightFrom_30 : decode cX4_rightFrom 30 = .ok (.getfield 53, 3) := by decide +kernel
theorem dX4_rightFrom_33 : decode cX4_rightFrom 33 = .ok (.ishl, 1) := by decide +kernel
theorem dX4_rightFrom_34 : decode cX4_rightFrom 34 = .ok (.iconst 1, 1) := by decide +kernel
theorem dX4_rightFrom_35 : decode cX4_rightFrom 35 = .ok (.iload_n 2, 1) := by decide +kernel
theorem dX4_rightFrom_36 : decode cX4_rightFrom 36 = .ok (.ishl, 1) := by decide +kernel
theorem dX4_rightFrom_37 : decode cX4_rightFrom 37 = .ok (.isub, 1) := by decide +kernel
theorem dX4_rightFrom_38 : decode cX4_rightFrom 38 = .ok (.istore_n 3, 1) := by decide +kernel
theorem dX4_rightFrom_39 : decode cX4_rightFrom 39 = .ok (.aload_n 0, 1) := by decide +kernel
theorem dX4_rightFrom_40 : decode cX4_rightFrom 40 = .ok (.iload_n 1, 1) := by decide +kernel
theorem dX4_rightFrom_41 : decode cX4_rightFrom 41 = .ok (.iload_n 3, 1) := by decide +kernel
theorem dX4_rightFrom_42 : decode cX4_rightFrom 42 = .ok (.invokevirtual 179, 3) := by decide +kernel
theorem dX4_rightFrom_45 : decode cX4_rightFrom 45 = .ok (.aload_n 0, 1) := by decide +kernel
theorem dX4_rightFrom_46 : decode cX4_rightFrom 46 = .ok (.getfield 10, 3) := by decide +kernel
theorem dX4_rightFrom_49 : decode cX4_rightFrom 49 = .ok (.getfield 138, 3) := by decide +kernel
theorem dX4_rightFrom_52 : decode cX4_rightFrom 52 = .ok (.invokevirtual 159, 3) := by decide +kernel
theorem dX4_rightFrom_55 : decode cX4_rightFrom 55 = .ok (.ifCond .eq 5, 3) := by decide +kernel
theorem dX4_rightFrom_58 : decode cX4_rightFrom 58 = .ok (.iload_n 2, 1) := by decide +kernel
theorem dX4_rightFrom_59 : decode cX4_rightFrom 59 = .ok (.ireturn, 1) := by decide +kernel
theorem dX4_rightFrom_60 : decode cX4_rightFrom 60 = .ok (.iinc 2 (-1), 3) := by decide +kernel
theorem dX4_rightFrom_63 : decode cX4_rightFrom 63 = .ok (.goto (-42), 3) := by decide +kernel
theorem dX4_rightFrom_66 : decode cX4_rightFrom 66 = .ok (.bipush (-6), 2) := by decide +kernel
theorem dX4_rightFrom_68 : decode cX4_rightFrom 68 = .ok (.ireturn, 1) := by decide +kernel
set_option maxRecDepth 20000 in
theorem ggX4_put_X2_charactersIn : GoodIn wsX4_put wsX2_charactersIn := goodIn_r _ [5, 6, 7, 8] (by decide +kernel) (by decide +kernel)
set_option maxRecDepth 20000 in
theorem gX4_put_X2_charactersIn : GoodIn wsX4_put (va_wsS RX4 195 yX2_charactersIn wsX2_charactersIn) := goodIn_app (goodIn_of _ (by decide +kernel)) ggX4_put_X2_charactersIn
set_option maxRecDepth 20000 in
theorem ggX4_put_X2_append : GoodIn wsX4_put wsX2_append := goodIn_r _ [12, 13, 14, 6, 21, 22] (by decide +kernel) (by decide +kernel)
set_option maxRecDepth 20000 in
theorem gX4_put_X2_append : GoodIn wsX4_put (wsV RX4 199 RX2 yX2_append wsX2_append) := goodIn_app (goodIn_of _ (by decide +kernel)) ggX4_put_X2_append
theorem dX4_put_0 : decode cX4_put 0 = .ok (.lload_n 1, 1) := by decide +kernel
theorem dX4_put_1 : decode cX4_put 1 = .ok (.invokestatic 195, 3) := by decide +kernel
theorem dX4_put_4 : decode cX4_put 4 = .ok (.istore_n 3, 1) := by decide +kernel
theorem dX4_put_5 : decode cX4_put 5 = .ok (.iload_n 3, 1) := by decide +kernel
theorem dX4_put_6 : decode cX4_put 6 = .ok (.ifCond .ne 6, 3) := by decide +kernel
theorem dX4_put_9 : decode cX4_put 9 = .ok (.bipush (-2), 2) := by decide +kernel
theorem dX4_put_11 : decode cX4_put 11 = .ok (.ireturn, 1) := by decide +kernel
theorem dX4_put_12 : decode cX4_put 12 = .ok (.aload_n 0, 1) := by decide +kernel
theorem dX4_put_13 : decode cX4_put 13 = .ok (.getfield 34, 3) := by decide +kernel
theorem dX4_put_16 : decode cX4_put 16 = .ok (.getfield 175, 3) := by decide +kernel
theorem dX4_put_19 : decode cX4_put 19 = .ok (.iload_n 3, 1) := by decide +kernel
theorem dX4_put_20 : decode cX4_put 20 = .ok (.iadd, 1) := by decide +kernel
theorem dX4_put_21 : decode cX4_put 21 = .ok (.bipush 48, 2) := by decide +kernel
theorem dX4_put_23 : decode cX4_put 23 = .ok (.if_icmp .le 6, 3) := by decide +kernel
theorem dX4_put_26 : decode cX4_put 26 = .ok (.bipush (-4), 2) := by decide +kernel
theorem dX4_put_28 : decode cX4_put 28 = .ok (.ireturn, 1) := by decide +kernel
theorem dX4_put_29 : decode cX4_put 29 = .ok (.aload_n 0, 1) := by decide +kernel
theorem dX4_put_30 : decode cX4_put 30 = .ok (.getfield 34, 3) := by decide +kernel
theorem dX4_put_33 : decode cX4_put 33 = .ok (.lload_n 1, 1) := by decide +kernel
theorem dX4_put_34 : decode cX4_put 34 = .ok (.iload_n 3, 1) := by decide +kernel
theorem dX4_put_35 : decode cX4_put 35 = .ok (.invokevirtual 199, 3) := by decide +kernel
theorem dX4_put_38 : decode cX4_put 38 = .ok (.aload_n 0, 1) := by decide +kernel
theorem dX4_put_39 : decode cX4_put 39 = .ok (.getfield 34, 3) := by decide +kernel
theorem dX4_put_42 : decode cX4_put 42 = .ok (.getfield 175, 3) := by decide +kernel
theorem dX4_put_45 : decode cX4_put 45 = .ok (.ireturn, 1) := by decide +kernel
set_option maxRecDepth 20000 in
theorem ggX4_wipe_X2_empty : GoodIn wsX4_wipe wsX2_empty := goodIn_r _ [6, 7, 14, 15] (by decide +kernel) (by decide +kernel)
set_option maxRecDepth 20000 in
theorem gX4_wipe_X2_empty : GoodIn wsX4_wipe (wsV RX4 65 RX2 yX2_empty wsX2_empty) := goodIn_app (goodIn_of _ (by decide +kernel)) ggX4_wipe_X2_empty
theorem dX4_wipe_0 : decode cX4_wipe 0 = .ok (.aload_n 0, 1) := by decide +kernel
theorem dX4_wipe_1 : decode cX4_wipe 1 = .ok (.getfield 34, 3) := by decide +kernel
theorem dX4_wipe_4 : decode cX4_wipe 4 = .ok (.getfield 175, 3) := by decide +kernel
theorem dX4_wipe_7 : decode cX4_wipe 7 = .ok (.istore_n 1, 1) := by decide +kernel
theorem dX4_wipe_8 : decode cX4_wipe 8 = .ok (.aload_n 0, 1) := by decide +kernel
theorem dX4_wipe_9 : decode cX4_wipe 9 = .ok (.getfield 34, 3) := by decide +kernel
theorem dX4_wipe_12 : decode cX4_wipe 12 = .ok (.invokevirtual 65, 3) := by decide +kernel
theorem dX4_wipe_15 : decode cX4_wipe 15 = .ok (.iload_n 1, 1) := by decide +kernel
theorem dX4_wipe_16 : decode cX4_wipe 16 = .ok (.ireturn, 1) := by decide +kernel
set_option maxRecDepth 20000 in
theorem ggX4_fault_X2_firstFault : GoodIn wsX4_fault wsX2_firstFault := goodIn_r _ [6, 7, 8, 9, 10, 5, 11, 18, 19] (by decide +kernel) (by decide +kernel)
set_option maxRecDepth 20000 in
theorem gX4_fault_X2_firstFault : GoodIn wsX4_fault (wsV RX4 45 RX2 yX2_firstFault wsX2_firstFault) := goodIn_app (goodIn_of _ (by decide +kernel)) ggX4_fault_X2_firstFault
theorem dX4_fault_0 : decode cX4_fault 0 = .ok (.aload_n 0, 1) := by decide +kernel
theorem dX4_fault_1 : decode cX4_fault 1 = .ok (.getfield 34, 3) := by decide +kernel
theorem dX4_fault_4 : decode cX4_fault 4 = .ok (.invokevirtual 45, 3) := by decide +kernel
theorem dX4_fault_7 : decode cX4_fault 7 = .ok (.ireturn, 1) := by decide +kernel
set_option maxRecDepth 20000 in
theorem ggX4_undo_X1_takeBack : GoodIn wsX4_undo wsX1_takeBack := goodIn_r _ [7, 8, 9, 10, 11, 12, 13, 14, 15, 16, 17, 18, 19, 20, 21, 22, 23, 24, 25, 26, 27, 28, 29, 30, 31, 32, 33, 34, 35, 42, 43, 44, 45, 46, 47, 48, 49, 50, 51, 52, 53, 54] (by decide +kernel) (by decide +kernel)
set_option maxRecDepth 20000 in
theorem gX4_undo_X1_takeBack : GoodIn wsX4_undo (wsV RX4 203 RX1 yX1_takeBack wsX1_takeBack) := goodIn_app (goodIn_of _ (by decide +kernel)) ggX4_undo_X1_takeBack
theorem dX4_undo_0 : decode cX4_undo 0 = .ok (.aload_n 0, 1) := by decide +kernel
theorem dX4_undo_1 : decode cX4_undo 1 = .ok (.getfield 19, 3) := by decide +kernel
theorem dX4_undo_4 : decode cX4_undo 4 = .ok (.getfield 178, 3) := by decide +kernel
theorem dX4_undo_7 : decode cX4_undo 7 = .ok (.ifCond .ne 6, 3) := by decide +kernel
theorem dX4_undo_10 : decode cX4_undo 10 = .ok (.bipush (-5), 2) := by decide +kernel
theorem dX4_undo_12 : decode cX4_undo 12 = .ok (.ireturn, 1) := by decide +kernel
theorem dX4_undo_13 : decode cX4_undo 13 = .ok (.aload_n 0, 1) := by decide +kernel
theorem dX4_undo_14 : decode cX4_undo 14 = .ok (.getfield 19, 3) := by decide +kernel
theorem dX4_undo_17 : decode cX4_undo 17 = .ok (.aload_n 0, 1) := by decide +kernel
theorem dX4_undo_18 : decode cX4_undo 18 = .ok (.getfield 10, 3) := by decide +kernel
theorem dX4_undo_21 : decode cX4_undo 21 = .ok (.invokevirtual 203, 3) := by decide +kernel
theorem dX4_undo_24 : decode cX4_undo 24 = .ok (.aload_n 0, 1) := by decide +kernel
theorem dX4_undo_25 : decode cX4_undo 25 = .ok (.getfield 19, 3) := by decide +kernel
theorem dX4_undo_28 : decode cX4_undo 28 = .ok (.getfield 178, 3) := by decide +kernel
theorem dX4_undo_31 : decode cX4_undo 31 = .ok (.ireturn, 1) := by decide +kernel
set_option maxRecDepth 20000 in
theorem ggX4_save_X4_isSlot : GoodIn wsX4_save wsX4_isSlot := goodIn_r _ [7] (by decide +kernel) (by decide +kernel)
set_option maxRecDepth 20000 in
theorem gX4_save_X4_isSlot : GoodIn wsX4_save (va_wsS RX4 206 yX4_isSlot wsX4_isSlot) := goodIn_app (goodIn_of _ (by decide +kernel)) ggX4_save_X4_isSlot
set_option maxRecDepth 20000 in
theorem ggX4_save_X3_copy : GoodIn wsX4_save wsX3_copy := goodIn_r _ [12, 13, 14, 15, 16, 17, 18, 19, 20, 21, 22, 23, 24, 25, 26, 27, 28, 29, 30, 31, 32, 39, 40, 41, 42, 43, 44, 45, 46, 47, 48] (by decide +kernel) (by decide +kernel)
set_option maxRecDepth 20000 in
theorem gX4_save_X3_copy : GoodIn wsX4_save (wsV RX4 209 RX3 yX3_copy wsX3_copy) := goodIn_app (goodIn_of _ (by decide +kernel)) ggX4_save_X3_copy
theorem dX4_save_0 : decode cX4_save 0 = .ok (.iload_n 1, 1) := by decide +kernel
theorem dX4_save_1 : decode cX4_save 1 = .ok (.invokestatic 206, 3) := by decide +kernel
theorem dX4_save_4 : decode cX4_save 4 = .ok (.ifCond .ne 6, 3) := by decide +kernel
theorem dX4_save_7 : decode cX4_save 7 = .ok (.bipush (-2), 2) := by decide +kernel
theorem dX4_save_9 : decode cX4_save 9 = .ok (.ireturn, 1) := by decide +kernel
theorem dX4_save_10 : decode cX4_save 10 = .ok (.aload_n 0, 1) := by decide +kernel
theorem dX4_save_11 : decode cX4_save 11 = .ok (.getfield 23, 3) := by decide +kernel
theorem dX4_save_14 : decode cX4_save 14 = .ok (.iload_n 1, 1) := by decide +kernel
theorem dX4_save_15 : decode cX4_save 15 = .ok (.aaload, 1) := by decide +kernel
theorem dX4_save_16 : decode cX4_save 16 = .ok (.aload_n 0, 1) := by decide +kernel
theorem dX4_save_17 : decode cX4_save 17 = .ok (.getfield 10, 3) := by decide +kernel
theorem dX4_save_20 : decode cX4_save 20 = .ok (.invokevirtual 209, 3) := by decide +kernel
theorem dX4_save_23 : decode cX4_save 23 = .ok (.aload_n 0, 1) := by decide +kernel
theorem dX4_save_24 : decode cX4_save 24 = .ok (.getfield 27, 3) := by decide +kernel
theorem dX4_save_27 : decode cX4_save 27 = .ok (.iload_n 1, 1) := by decide +kernel
theorem dX4_save_28 : decode cX4_save 28 = .ok (.iconst 1, 1) := by decide +kernel
theorem dX4_save_29 : decode cX4_save 29 = .ok (.bastore, 1) := by decide +kernel
theorem dX4_save_30 : decode cX4_save 30 = .ok (.aload_n 0, 1) := by decide +kernel
theorem dX4_save_31 : decode cX4_save 31 = .ok (.getfield 10, 3) := by decide +kernel
theorem dX4_save_34 : decode cX4_save 34 = .ok (.getfield 53, 3) := by decide +kernel
theorem dX4_save_37 : decode cX4_save 37 = .ok (.ireturn, 1) := by decide +kernel
set_option maxRecDepth 20000 in
theorem ggX4_restore_X4_isSlot : GoodIn wsX4_restore wsX4_isSlot := goodIn_r _ [8] (by decide +kernel) (by decide +kernel)
set_option maxRecDepth 20000 in
theorem gX4_restore_X4_isSlot : GoodIn wsX4_restore (va_wsS RX4 206 yX4_isSlot wsX4_isSlot) := goodIn_app (goodIn_of _ (by decide +kernel)) ggX4_restore_X4_isSlot
set_option maxRecDepth 20000 in
theorem ggX4_restore_X1_record : GoodIn wsX4_restore wsX1_record := goodIn_r _ [13, 14, 15, 16, 17, 18, 19, 20, 21, 22, 23, 24, 25, 26, 27, 28, 29, 30, 31, 32, 33, 34, 35, 36, 37, 38, 39, 40, 41, 57, 58, 59, 49, 50, 51, 52, 53, 54, 55, 56, 60, 61] (by decide +kernel) (by decide +kernel)
set_option maxRecDepth 20000 in
theorem gX4_restore_X1_record : GoodIn wsX4_restore (wsV RX4 57 RX1 yX1_record wsX1_record) := goodIn_app (goodIn_of _ (by decide +kernel)) ggX4_restore_X1_record
set_option maxRecDepth 20000 in
theorem ggX4_restore_X3_copy : GoodIn wsX4_restore wsX3_copy := goodIn_r _ [21, 22, 23, 24, 25, 26, 27, 28, 29, 30, 31, 32, 33, 34, 35, 36, 37, 38, 39, 40, 41, 49, 50, 51, 52, 53, 54, 55, 56, 60, 61] (by decide +kernel) (by decide +kernel)
set_option maxRecDepth 20000 in
theorem gX4_restore_X3_copy : GoodIn wsX4_restore (wsV RX4 209 RX3 yX3_copy wsX3_copy) := goodIn_app (goodIn_of _ (by decide +kernel)) ggX4_restore_X3_copy
theorem dX4_restore_0 : decode cX4_restore 0 = .ok (.iload_n 1, 1) := by decide +kernel
theorem dX4_restore_1 : decode cX4_restore 1 = .ok (.invokestatic 206, 3) := by decide +kernel
theorem dX4_restore_4 : decode cX4_restore 4 = .ok (.ifCond .ne 6, 3) := by decide +kernel
theorem dX4_restore_7 : decode cX4_restore 7 = .ok (.bipush (-2), 2) := by decide +kernel
theorem dX4_restore_9 : decode cX4_restore 9 = .ok (.ireturn, 1) := by decide +kernel
theorem dX4_restore_10 : decode cX4_restore 10 = .ok (.aload_n 0, 1) := by decide +kernel
theorem dX4_restore_11 : decode cX4_restore 11 = .ok (.getfield 27, 3) := by decide +kernel
theorem dX4_restore_14 : decode cX4_restore 14 = .ok (.iload_n 1, 1) := by decide +kernel
theorem dX4_restore_15 : decode cX4_restore 15 = .ok (.baload, 1) := by decide +kernel
theorem dX4_restore_16 : decode cX4_restore 16 = .ok (.ifCond .ne 6, 3) := by decide +kernel
theorem dX4_restore_19 : decode cX4_restore 19 = .ok (.bipush (-5), 2) := by decide +kernel
theorem dX4_restore_21 : decode cX4_restore 21 = .ok (.ireturn, 1) := by decide +kernel
theorem dX4_restore_22 : decode cX4_restore 22 = .ok (.aload_n 0, 1) := by decide +kernel
theorem dX4_restore_23 : decode cX4_restore 23 = .ok (.getfield 19, 3) := by decide +kernel
theorem dX4_restore_26 : decode cX4_restore 26 = .ok (.aload_n 0, 1) := by decide +kernel
theorem dX4_restore_27 : decode cX4_restore 27 = .ok (.getfield 10, 3) := by decide +kernel
theorem dX4_restore_30 : decode cX4_restore 30 = .ok (.invokevirtual 57, 3) := by decide +kernel
theorem dX4_restore_33 : decode cX4_restore 33 = .ok (.aload_n 0, 1) := by decide +kernel
theorem dX4_restore_34 : decode cX4_restore 34 = .ok (.getfield 10, 3) := by decide +kernel
theorem dX4_restore_37 : decode cX4_restore 37 = .ok (.aload_n 0, 1) := by decide +kernel
theorem dX4_restore_38 : decode cX4_restore 38 = .ok (.getfield 23, 3) := by decide +kernel
theorem dX4_restore_41 : decode cX4_restore 41 = .ok (.iload_n 1, 1) := by decide +kernel
theorem dX4_restore_42 : decode cX4_restore 42 = .ok (.aaload, 1) := by decide +kernel
theorem dX4_restore_43 : decode cX4_restore 43 = .ok (.invokevirtual 209, 3) := by decide +kernel
theorem dX4_restore_46 : decode cX4_restore 46 = .ok (.aload_n 0, 1) := by decide +kernel
theorem dX4_restore_47 : decode cX4_restore 47 = .ok (.getfield 10, 3) := by decide +kernel
theorem dX4_restore_50 : decode cX4_restore 50 = .ok (.getfield 53, 3) := by decide +kernel
theorem dX4_restore_53 : decode cX4_restore 53 = .ok (.ireturn, 1) := by decide +kernel
theorem dX4_isNumber_0 : decode cX4_isNumber 0 = .ok (.iload_n 0, 1) := by decide +kernel
theorem dX4_isNumber_1 : decode cX4_isNumber 1 = .ok (.bipush 10, 2) := by decide +kernel
theorem dX4_isNumber_3 : decode cX4_isNumber 3 = .ok (.if_icmp .lt 13, 3) := by decide +kernel
theorem dX4_isNumber_6 : decode cX4_isNumber 6 = .ok (.iload_n 0, 1) := by decide +kernel
theorem dX4_isNumber_7 : decode cX4_isNumber 7 = .ok (.bipush 99, 2) := by decide +kernel
theorem dX4_isNumber_9 : decode cX4_isNumber 9 = .ok (.if_icmp .gt 7, 3) := by decide +kernel
theorem dX4_isNumber_12 : decode cX4_isNumber 12 = .ok (.iconst 1, 1) := by decide +kernel
theorem dX4_isNumber_13 : decode cX4_isNumber 13 = .ok (.goto 4, 3) := by decide +kernel
theorem dX4_isNumber_16 : decode cX4_isNumber 16 = .ok (.iconst 0, 1) := by decide +kernel
theorem dX4_isNumber_17 : decode cX4_isNumber 17 = .ok (.ireturn, 1) := by decide +kernel
theorem dX4_isSlot_0 : decode cX4_isSlot 0 = .ok (.iload_n 0, 1) := by decide +kernel
theorem dX4_isSlot_1 : decode cX4_isSlot 1 = .ok (.ifCond .lt 12, 3) := by decide +kernel
theorem dX4_isSlot_4 : decode cX4_isSlot 4 = .ok (.iload_n 0, 1) := by decide +kernel
theorem dX4_isSlot_5 : decode cX4_isSlot 5 = .ok (.iconst 2, 1) := by decide +kernel
theorem dX4_isSlot_6 : decode cX4_isSlot 6 = .ok (.if_icmp .ge 7, 3) := by decide +kernel
theorem dX4_isSlot_9 : decode cX4_isSlot 9 = .ok (.iconst 1, 1) := by decide +kernel
theorem dX4_isSlot_10 : decode cX4_isSlot 10 = .ok (.goto 4, 3) := by decide +kernel
theorem dX4_isSlot_13 : decode cX4_isSlot 13 = .ok (.iconst 0, 1) := by decide +kernel
theorem dX4_isSlot_14 : decode cX4_isSlot 14 = .ok (.ireturn, 1) := by decide +kernel
set_option maxRecDepth 20000 in
theorem ggX4_tried_X0_copy : GoodIn wsX4_tried wsX0_copy := goodIn_r _ [7, 8, 9, 10, 11, 12, 13, 74, 75] (by decide +kernel) (by decide +kernel)
set_option maxRecDepth 20000 in
theorem gX4_tried_X0_copy : GoodIn wsX4_tried (wsV RX4 187 RX0 yX0_copy wsX0_copy) := goodIn_app (goodIn_of _ (by decide +kernel)) ggX4_tried_X0_copy
set_option maxRecDepth 20000 in
theorem ggX4_tried_X3_doSetWithCare : GoodIn wsX4_tried wsX3_doSetWithCare := goodIn_r _ [18, 19, 20, 21, 22, 17, 23, 24, 25, 26, 27, 28, 29, 30, 31, 32, 6, 33, 34, 35, 36, 37, 38, 39, 40, 41, 42, 43, 44, 9, 8, 45, 46, 47, 48, 49, 50, 51, 52, 53, 54, 55, 10, 11, 12, 13, 56, 57, 58, 59, 66, 67, 68, 69, 70, 71, 72, 73, 74, 75] (by decide +kernel) (by decide +kernel)
set_option maxRecDepth 20000 in
theorem gX4_tried_X3_doSetWithCare : GoodIn wsX4_tried (wsV RX4 102 RX3 yX3_doSetWithCare wsX3_doSetWithCare) := goodIn_app (goodIn_of _ (by decide +kernel)) ggX4_tried_X3_doSetWithCare
theorem dX4_tried_0 : decode cX4_tried 0 = .ok (.aload_n 0, 1) := by decide +kernel
theorem dX4_tried_1 : decode cX4_tried 1 = .ok (.getfield 40, 3) := by decide +kernel
theorem dX4_tried_4 : decode cX4_tried 4 = .ok (.iconst 0, 1) := by decide +kernel
theorem dX4_tried_5 : decode cX4_tried 5 = .ok (.aaload, 1) := by decide +kernel
theorem dX4_tried_6 : decode cX4_tried 6 = .ok (.astore_n 3, 1) := by decide +kernel
theorem dX4_tried_7 : decode cX4_tried 7 = .ok (.aload_n 3, 1) := by decide +kernel
theorem dX4_tried_8 : decode cX4_tried 8 = .ok (.aload_n 0, 1) := by decide +kernel
theorem dX4_tried_9 : decode cX4_tried 9 = .ok (.getfield 10, 3) := by decide +kernel
theorem dX4_tried_12 : decode cX4_tried 12 = .ok (.getfield 89, 3) := by decide +kernel
theorem dX4_tried_15 : decode cX4_tried 15 = .ok (.iload_n 1, 1) := by decide +kernel
theorem dX4_tried_16 : decode cX4_tried 16 = .ok (.aaload, 1) := by decide +kernel
theorem dX4_tried_17 : decode cX4_tried 17 = .ok (.invokevirtual 187, 3) := by decide +kernel
theorem dX4_tried_20 : decode cX4_tried 20 = .ok (.aload_n 0, 1) := by decide +kernel
theorem dX4_tried_21 : decode cX4_tried 21 = .ok (.getfield 10, 3) := by decide +kernel
theorem dX4_tried_24 : decode cX4_tried 24 = .ok (.aload_n 3, 1) := by decide +kernel
theorem dX4_tried_25 : decode cX4_tried 25 = .ok (.iload_n 2, 1) := by decide +kernel
theorem dX4_tried_26 : decode cX4_tried 26 = .ok (.invokevirtual 102, 3) := by decide +kernel
theorem dX4_tried_29 : decode cX4_tried 29 = .ok (.aload_n 3, 1) := by decide +kernel
theorem dX4_tried_30 : decode cX4_tried 30 = .ok (.areturn, 1) := by decide +kernel
set_option maxRecDepth 20000 in
theorem ggX4_lowestMending_X0_isSameAs : GoodIn wsX4_lowestMending wsX0_isSameAs := goodIn_r _ [9, 10, 11, 72, 73] (by decide +kernel) (by decide +kernel)
set_option maxRecDepth 20000 in
theorem gX4_lowestMending_X0_isSameAs : GoodIn wsX4_lowestMending (wsV RX4 159 RX0 yX0_isSameAs wsX0_isSameAs) := goodIn_app (goodIn_of _ (by decide +kernel)) ggX4_lowestMending_X0_isSameAs
set_option maxRecDepth 20000 in
theorem ggX4_lowestMending_X0_copy : GoodIn wsX4_lowestMending wsX0_copy := goodIn_r _ [15, 11, 10, 16, 17, 18, 19, 72, 73] (by decide +kernel) (by decide +kernel)
set_option maxRecDepth 20000 in
theorem gX4_lowestMending_X0_copy : GoodIn wsX4_lowestMending (wsV RX4 187 RX0 yX0_copy wsX0_copy) := goodIn_app (goodIn_of _ (by decide +kernel)) ggX4_lowestMending_X0_copy
set_option maxRecDepth 20000 in
theorem ggX4_lowestMending_X3_doWithCare : GoodIn wsX4_lowestMending wsX3_doWithCare := goodIn_r _ [24, 25, 26, 27, 28, 23, 29, 30, 31, 32, 33, 8, 34, 35, 36, 37, 38, 39, 40, 41, 42, 43, 44, 45, 10, 11, 46, 47, 48, 49, 50, 51, 52, 53, 54, 55, 56, 16, 17, 18, 19, 57, 58, 59, 60, 64, 65, 66, 67, 68, 69, 70, 71, 72, 73] (by decide +kernel) (by decide +kernel)
set_option maxRecDepth 20000 in
theorem gX4_lowestMending_X3_doWithCare : GoodIn wsX4_lowestMending (wsV RX4 92 RX3 yX3_doWithCare wsX3_doWithCare) := goodIn_app (goodIn_of _ (by decide +kernel)) ggX4_lowestMending_X3_doWithCare
set_option maxRecDepth 20000 in
theorem ggX4_lowestMending_X4_lowestMending : GoodIn wsX4_lowestMending wsX4_lowestMending := goodIn_r _ [0, 1, 2, 3, 4, 5, 6, 7, 8, 9, 10, 11, 12, 13, 14, 15, 16, 17, 18, 19, 20, 21, 22, 23, 24, 25, 26, 27, 28, 29, 30, 31, 32, 33, 34, 35, 36, 37, 38, 39, 40, 41, 42, 43, 44, 45, 46, 47, 48, 49, 50, 51, 52, 53, 54, 55, 56, 57, 58, 59, 60, 61, 62, 63, 64, 65, 66, 67, 68, 69, 70, 71, 72, 73] (by decide +kernel) (by decide +kernel)
set_option maxRecDepth 20000 in
theorem gX4_lowestMending_X4_lowestMending : GoodIn wsX4_lowestMending (va_wsS RX4 191 yX4_lowestMending wsX4_lowestMending) := goodIn_app (goodIn_of _ (by decide +kernel)) ggX4_lowestMending_X4_lowestMending
theorem dX4_lowestMending_0 : decode cX4_lowestMending 0 = .ok (.iload 4, 2) := by decide +kernel
theorem dX4_lowestMending_2 : decode cX4_lowestMending 2 = .ok (.ifCond .le 8, 3) := by decide +kernel
theorem dX4_lowestMending_5 : decode cX4_lowestMending 5 = .ok (.iload_n 2, 1) := by decide +kernel
theorem dX4_lowestMending_6 : decode cX4_lowestMending 6 = .ok (.iconst 3, 1) := by decide +kernel
theorem dX4_lowestMending_7 : decode cX4_lowestMending 7 = .ok (.if_icmp .lt 23, 3) := by decide +kernel
theorem dX4_lowestMending_10 : decode cX4_lowestMending 10 = .ok (.aload_n 1, 1) := by decide +kernel
theorem dX4_lowestMending_11 : decode cX4_lowestMending 11 = .ok (.iload_n 2, 1) := by decide +kernel
theorem dX4_lowestMending_12 : decode cX4_lowestMending 12 = .ok (.aaload, 1) := by decide +kernel
theorem dX4_lowestMending_13 : decode cX4_lowestMending 13 = .ok (.aload_n 0, 1) := by decide +kernel
theorem dX4_lowestMending_14 : decode cX4_lowestMending 14 = .ok (.getfield 138, 3) := by decide +kernel
theorem dX4_lowestMending_17 : decode cX4_lowestMending 17 = .ok (.invokevirtual 159, 3) := by decide +kernel
theorem dX4_lowestMending_20 : decode cX4_lowestMending 20 = .ok (.ifCond .eq 7, 3) := by decide +kernel
theorem dX4_lowestMending_23 : decode cX4_lowestMending 23 = .ok (.iconst 0, 1) := by decide +kernel
theorem dX4_lowestMending_24 : decode cX4_lowestMending 24 = .ok (.goto 5, 3) := by decide +kernel
theorem dX4_lowestMending_27 : decode cX4_lowestMending 27 = .ok (.bipush (-6), 2) := by decide +kernel
theorem dX4_lowestMending_29 : decode cX4_lowestMending 29 = .ok (.ireturn, 1) := by decide +kernel
theorem dX4_lowestMending_30 : decode cX4_lowestMending 30 = .ok (.bipush (-6), 2) := by decide +kernel
theorem dX4_lowestMending_32 : decode cX4_lowestMending 32 = .ok (.istore 5, 2) := by decide +kernel
theorem dX4_lowestMending_34 : decode cX4_lowestMending 34 = .ok (.iload_n 3, 1) := by decide +kernel
theorem dX4_lowestMending_35 : decode cX4_lowestMending 35 = .ok (.istore 6, 2) := by decide +kernel
theorem dX4_lowestMending_37 : decode cX4_lowestMending 37 = .ok (.iload 6, 2) := by decide +kernel
theorem dX4_lowestMending_39 : decode cX4_lowestMending 39 = .ok (.aload_n 0, 1) := by decide +kernel
theorem dX4_lowestMending_40 : decode cX4_lowestMending 40 = .ok (.getfield 53, 3) := by decide +kernel
theorem dX4_lowestMending_43 : decode cX4_lowestMending 43 = .ok (.if_icmp .ge 86, 3) := by decide +kernel
theorem dX4_lowestMending_46 : decode cX4_lowestMending 46 = .ok (.aload_n 1, 1) := by decide +kernel
theorem dX4_lowestMending_47 : decode cX4_lowestMending 47 = .ok (.iload_n 2, 1) := by decide +kernel
theorem dX4_lowestMending_48 : decode cX4_lowestMending 48 = .ok (.iconst 1, 1) := by decide +kernel
theorem dX4_lowestMending_49 : decode cX4_lowestMending 49 = .ok (.iadd, 1) := by decide +kernel
theorem dX4_lowestMending_50 : decode cX4_lowestMending 50 = .ok (.aaload, 1) := by decide +kernel
theorem dX4_lowestMending_51 : decode cX4_lowestMending 51 = .ok (.aload_n 1, 1) := by decide +kernel
theorem dX4_lowestMending_52 : decode cX4_lowestMending 52 = .ok (.iload_n 2, 1) := by decide +kernel
theorem dX4_lowestMending_53 : decode cX4_lowestMending 53 = .ok (.aaload, 1) := by decide +kernel
theorem dX4_lowestMending_54 : decode cX4_lowestMending 54 = .ok (.invokevirtual 187, 3) := by decide +kernel
theorem dX4_lowestMending_57 : decode cX4_lowestMending 57 = .ok (.aload_n 0, 1) := by decide +kernel
theorem dX4_lowestMending_58 : decode cX4_lowestMending 58 = .ok (.aload_n 1, 1) := by decide +kernel
theorem dX4_lowestMending_59 : decode cX4_lowestMending 59 = .ok (.iload_n 2, 1) := by decide +kernel
theorem dX4_lowestMending_60 : decode cX4_lowestMending 60 = .ok (.iconst 1, 1) := by decide +kernel
theorem dX4_lowestMending_61 : decode cX4_lowestMending 61 = .ok (.iadd, 1) := by decide +kernel
theorem dX4_lowestMending_62 : decode cX4_lowestMending 62 = .ok (.aaload, 1) := by decide +kernel
theorem dX4_lowestMending_63 : decode cX4_lowestMending 63 = .ok (.iload 6, 2) := by decide +kernel
theorem dX4_lowestMending_65 : decode cX4_lowestMending 65 = .ok (.invokevirtual 92, 3) := by decide +kernel
theorem dX4_lowestMending_68 : decode cX4_lowestMending 68 = .ok (.aload_n 0, 1) := by decide +kernel
theorem dX4_lowestMending_69 : decode cX4_lowestMending 69 = .ok (.aload_n 1, 1) := by decide +kernel
theorem dX4_lowestMending_70 : decode cX4_lowestMending 70 = .ok (.iload_n 2, 1) := by decide +kernel
theorem dX4_lowestMending_71 : decode cX4_lowestMending 71 = .ok (.iconst 1, 1) := by decide +kernel
theorem dX4_lowestMending_72 : decode cX4_lowestMending 72 = .ok (.iadd, 1) := by decide +kernel
theorem dX4_lowestMending_73 : decode cX4_lowestMending 73 = .ok (.iload 6, 2) := by decide +kernel
theorem dX4_lowestMending_75 : decode cX4_lowestMending 75 = .ok (.iconst 1, 1) := by decide +kernel
theorem dX4_lowestMending_76 : decode cX4_lowestMending 76 = .ok (.iadd, 1) := by decide +kernel
theorem dX4_lowestMending_77 : decode cX4_lowestMending 77 = .ok (.iload 4, 2) := by decide +kernel
theorem dX4_lowestMending_79 : decode cX4_lowestMending 79 = .ok (.iconst 1, 1) := by decide +kernel
theorem dX4_lowestMending_80 : decode cX4_lowestMending 80 = .ok (.isub, 1) := by decide +kernel
theorem dX4_lowestMending_81 : decode cX4_lowestMending 81 = .ok (.invokestatic 191, 3) := by decide +kernel
theorem dX4_lowestMending_84 : decode cX4_lowestMending 84 = .ok (.istore 7, 2) := by decide +kernel
theorem dX4_lowestMending_86 : decode cX4_lowestMending 86 = .ok (.iload 7, 2) := by decide +kernel
theorem dX4_lowestMending_88 : decode cX4_lowestMending 88 = .ok (.bipush (-6), 2) := by decide +kernel
theorem dX4_lowestMending_90 : decode cX4_lowestMending 90 = .ok (.if_icmp .eq 33, 3) := by decide +kernel
theorem dX4_lowestMending_93 : decode cX4_lowestMending 93 = .ok (.iload 7, 2) := by decide +kernel
theorem dX4_lowestMending_95 : decode cX4_lowestMending 95 = .ok (.iconst 1, 1) := by decide +kernel
theorem dX4_lowestMending_96 : decode cX4_lowestMending 96 = .ok (.iload 6, 2) := by decide +kernel
theorem dX4_lowestMending_98 : decode cX4_lowestMending 98 = .ok (.ishl, 1) := by decide +kernel
theorem dX4_lowestMending_99 : decode cX4_lowestMending 99 = .ok (.ior, 1) := by decide +kernel
theorem dX4_lowestMending_100 : decode cX4_lowestMending 100 = .ok (.istore 8, 2) := by decide +kernel
theorem dX4_lowestMending_102 : decode cX4_lowestMending 102 = .ok (.iload 5, 2) := by decide +kernel
theorem dX4_lowestMending_104 : decode cX4_lowestMending 104 = .ok (.bipush (-6), 2) := by decide +kernel
theorem dX4_lowestMending_106 : decode cX4_lowestMending 106 = .ok (.if_icmp .ne 8, 3) := by decide +kernel
theorem dX4_lowestMending_109 : decode cX4_lowestMending 109 = .ok (.iload 8, 2) := by decide +kernel
theorem dX4_lowestMending_111 : decode cX4_lowestMending 111 = .ok (.goto 10, 3) := by decide +kernel
theorem dX4_lowestMending_114 : decode cX4_lowestMending 114 = .ok (.iload 5, 2) := by decide +kernel
theorem dX4_lowestMending_116 : decode cX4_lowestMending 116 = .ok (.iload 8, 2) := by decide +kernel
theorem dX4_lowestMending_118 : decode cX4_lowestMending 118 = .ok (.invokestatic 211, 3) := by decide +kernel
theorem dX4_lowestMending_121 : decode cX4_lowestMending 121 = .ok (.istore 5, 2) := by decide +kernel
theorem dX4_lowestMending_123 : decode cX4_lowestMending 123 = .ok (.iinc 6 1, 3) := by decide +kernel
theorem dX4_lowestMending_126 : decode cX4_lowestMending 126 = .ok (.goto (-89), 3) := by decide +kernel
theorem dX4_lowestMending_129 : decode cX4_lowestMending 129 = .ok (.iload 5, 2) := by decide +kernel
theorem dX4_lowestMending_131 : decode cX4_lowestMending 131 = .ok (.ireturn, 1) := by decide +kernel
theorem dX5_init_0 : decode cX5_init 0 = .ok (.aload_n 0, 1) := by decide +kernel
theorem dX5_init_1 : decode cX5_init 1 = .ok (.invokespecial 1, 3) := by decide +kernel
theorem dX5_init_4 : decode cX5_init 4 = .ok (.aload_n 0, 1) := by decide +kernel
theorem dX5_init_5 : decode cX5_init 5 = .ok (.sipush 713, 3) := by decide +kernel
theorem dX5_init_8 : decode cX5_init 8 = .ok (.newarray .int, 2) := by decide +kernel
theorem dX5_init_10 : decode cX5_init 10 = .ok (.putfield 7, 3) := by decide +kernel
theorem dX5_init_13 : decode cX5_init 13 = .ok (.aload_n 0, 1) := by decide +kernel
theorem dX5_init_14 : decode cX5_init 14 = .ok (.sipush 713, 3) := by decide +kernel
theorem dX5_init_17 : decode cX5_init 17 = .ok (.newarray .int, 2) := by decide +kernel
theorem dX5_init_19 : decode cX5_init 19 = .ok (.putfield 13, 3) := by decide +kernel
theorem dX5_init_22 : decode cX5_init 22 = .ok (.aload_n 0, 1) := by decide +kernel
theorem dX5_init_23 : decode cX5_init 23 = .ok (.sipush 4278, 3) := by decide +kernel
theorem dX5_init_26 : decode cX5_init 26 = .ok (.newarray .int, 2) := by decide +kernel
theorem dX5_init_28 : decode cX5_init 28 = .ok (.putfield 16, 3) := by decide +kernel
theorem dX5_init_31 : decode cX5_init 31 = .ok (.aload_n 0, 1) := by decide +kernel
theorem dX5_init_32 : decode cX5_init 32 = .ok (.sipush 1426, 3) := by decide +kernel
theorem dX5_init_35 : decode cX5_init 35 = .ok (.newarray .int, 2) := by decide +kernel
theorem dX5_init_37 : decode cX5_init 37 = .ok (.putfield 19, 3) := by decide +kernel
theorem dX5_init_40 : decode cX5_init 40 = .ok (.aload_n 0, 1) := by decide +kernel
theorem dX5_init_41 : decode cX5_init 41 = .ok (.iconst 2, 1) := by decide +kernel
theorem dX5_init_42 : decode cX5_init 42 = .ok (.newarray .int, 2) := by decide +kernel
theorem dX5_init_44 : decode cX5_init 44 = .ok (.putfield 22, 3) := by decide +kernel
theorem dX5_init_47 : decode cX5_init 47 = .ok (.aload_n 0, 1) := by decide +kernel
theorem dX5_init_48 : decode cX5_init 48 = .ok (.bipush 48, 2) := by decide +kernel
theorem dX5_init_50 : decode cX5_init 50 = .ok (.newarray .int, 2) := by decide +kernel
theorem dX5_init_52 : decode cX5_init 52 = .ok (.putfield 25, 3) := by decide +kernel
theorem dX5_init_55 : decode cX5_init 55 = .ok (.aload_n 0, 1) := by decide +kernel
theorem dX5_init_56 : decode cX5_init 56 = .ok (.bipush 8, 2) := by decide +kernel
theorem dX5_init_58 : decode cX5_init 58 = .ok (.newarray .int, 2) := by decide +kernel
theorem dX5_init_60 : decode cX5_init 60 = .ok (.putfield 28, 3) := by decide +kernel
theorem dX5_init_63 : decode cX5_init 63 = .ok (.aload_n 0, 1) := by decide +kernel
theorem dX5_init_64 : decode cX5_init 64 = .ok (.bipush 100, 2) := by decide +kernel
theorem dX5_init_66 : decode cX5_init 66 = .ok (.newarray .int, 2) := by decide +kernel
theorem dX5_init_68 : decode cX5_init 68 = .ok (.putfield 31, 3) := by decide +kernel
theorem dX5_init_71 : decode cX5_init 71 = .ok (.aload_n 0, 1) := by decide +kernel
theorem dX5_init_72 : decode cX5_init 72 = .ok (.bipush 100, 2) := by decide +kernel
theorem dX5_init_74 : decode cX5_init 74 = .ok (.newarray .int, 2) := by decide +kernel
theorem dX5_init_76 : decode cX5_init 76 = .ok (.putfield 34, 3) := by decide +kernel
theorem dX5_init_79 : decode cX5_init 79 = .ok (.aload_n 0, 1) := by decide +kernel
theorem dX5_init_80 : decode cX5_init 80 = .ok (.bipush 100, 2) := by decide +kernel
theorem dX5_init_82 : decode cX5_init 82 = .ok (.newarray .int, 2) := by decide +kernel
theorem dX5_init_84 : decode cX5_init 84 = .ok (.putfield 37, 3) := by decide +kernel
theorem dX5_init_87 : decode cX5_init 87 = .ok (.aload_n 0, 1) := by decide +kernel
theorem dX5_init_88 : decode cX5_init 88 = .ok (.getfield 7, 3) := by decide +kernel
theorem dX5_init_91 : decode cX5_init 91 = .ok (.iconst 0, 1) := by decide +kernel
theorem dX5_init_92 : decode cX5_init 92 = .ok (.iconst 0, 1) := by decide +kernel
theorem dX5_init_93 : decode cX5_init 93 = .ok (.iastore, 1) := by decide +kernel
theorem dX5_init_94 : decode cX5_init 94 = .ok (.return_, 1) := by decide +kernel
theorem dX5_moves_0 : decode cX5_moves 0 = .ok (.iconst 0, 1) := by decide +kernel
theorem dX5_moves_1 : decode cX5_moves 1 = .ok (.istore 4, 2) := by decide +kernel
theorem dX5_moves_3 : decode cX5_moves 3 = .ok (.iload 4, 2) := by decide +kernel
theorem dX5_moves_5 : decode cX5_moves 5 = .ok (.sipush 713, 3) := by decide +kernel
theorem dX5_moves_8 : decode cX5_moves 8 = .ok (.if_icmp .ge 21, 3) := by decide +kernel
theorem dX5_moves_11 : decode cX5_moves 11 = .ok (.aload_n 2, 1) := by decide +kernel
theorem dX5_moves_12 : decode cX5_moves 12 = .ok (.iload_n 3, 1) := by decide +kernel
theorem dX5_moves_13 : decode cX5_moves 13 = .ok (.iload 4, 2) := by decide +kernel
theorem dX5_moves_15 : decode cX5_moves 15 = .ok (.iadd, 1) := by decide +kernel
theorem dX5_moves_16 : decode cX5_moves 16 = .ok (.aload_n 0, 1) := by decide +kernel
theorem dX5_moves_17 : decode cX5_moves 17 = .ok (.iload_n 1, 1) := by decide +kernel
theorem dX5_moves_18 : decode cX5_moves 18 = .ok (.iload 4, 2) := by decide +kernel
theorem dX5_moves_20 : decode cX5_moves 20 = .ok (.iadd, 1) := by decide +kernel
theorem dX5_moves_21 : decode cX5_moves 21 = .ok (.iaload, 1) := by decide +kernel
theorem dX5_moves_22 : decode cX5_moves 22 = .ok (.iastore, 1) := by decide +kernel
theorem dX5_moves_23 : decode cX5_moves 23 = .ok (.iinc 4 1, 3) := by decide +kernel
theorem dX5_moves_26 : decode cX5_moves 26 = .ok (.goto (-23), 3) := by decide +kernel
theorem dX5_moves_29 : decode cX5_moves 29 = .ok (.return_, 1) := by decide +kernel
theorem dX5_within_0 : decode cX5_within 0 = .ok (.iload_n 0, 1) := by decide +kernel
theorem dX5_within_1 : decode cX5_within 1 = .ok (.iload_n 1, 1) := by decide +kernel
theorem dX5_within_2 : decode cX5_within 2 = .ok (.if_icmp .lt 12, 3) := by decide +kernel
theorem dX5_within_5 : decode cX5_within 5 = .ok (.iload_n 0, 1) := by decide +kernel
theorem dX5_within_6 : decode cX5_within 6 = .ok (.iload_n 2, 1) := by decide +kernel
theorem dX5_within_7 : decode cX5_within 7 = .ok (.if_icmp .gt 7, 3) := by decide +kernel
theorem dX5_within_10 : decode cX5_within 10 = .ok (.iconst 1, 1) := by decide +kernel
theorem dX5_within_11 : decode cX5_within 11 = .ok (.goto 4, 3) := by decide +kernel
theorem dX5_within_14 : decode cX5_within 14 = .ok (.iconst 0, 1) := by decide +kernel
theorem dX5_within_15 : decode cX5_within 15 = .ok (.ireturn, 1) := by decide +kernel
set_option maxRecDepth 20000 in
theorem ggX5_record_X5_moves : GoodIn wsX5_record wsX5_moves := goodIn_r _ [7] (by decide +kernel) (by decide +kernel)
set_option maxRecDepth 20000 in
theorem gX5_record_X5_moves : GoodIn wsX5_record (va_wsS RX5 44 yX5_moves wsX5_moves) := goodIn_app (goodIn_of _ (by decide +kernel)) ggX5_record_X5_moves
theorem dX5_record_0 : decode cX5_record 0 = .ok (.aload_n 0, 1) := by decide +kernel
theorem dX5_record_1 : decode cX5_record 1 = .ok (.getfield 40, 3) := by decide +kernel
theorem dX5_record_4 : decode cX5_record 4 = .ok (.bipush 6, 2) := by decide +kernel
theorem dX5_record_6 : decode cX5_record 6 = .ok (.if_icmp .ne 44, 3) := by decide +kernel
theorem dX5_record_9 : decode cX5_record 9 = .ok (.iconst 0, 1) := by decide +kernel
theorem dX5_record_10 : decode cX5_record 10 = .ok (.istore_n 1, 1) := by decide +kernel
theorem dX5_record_11 : decode cX5_record 11 = .ok (.iload_n 1, 1) := by decide +kernel
theorem dX5_record_12 : decode cX5_record 12 = .ok (.sipush 3565, 3) := by decide +kernel
theorem dX5_record_15 : decode cX5_record 15 = .ok (.if_icmp .ge 25, 3) := by decide +kernel
theorem dX5_record_18 : decode cX5_record 18 = .ok (.aload_n 0, 1) := by decide +kernel
theorem dX5_record_19 : decode cX5_record 19 = .ok (.getfield 16, 3) := by decide +kernel
theorem dX5_record_22 : decode cX5_record 22 = .ok (.iload_n 1, 1) := by decide +kernel
theorem dX5_record_23 : decode cX5_record 23 = .ok (.aload_n 0, 1) := by decide +kernel
theorem dX5_record_24 : decode cX5_record 24 = .ok (.getfield 16, 3) := by decide +kernel
theorem dX5_record_27 : decode cX5_record 27 = .ok (.iload_n 1, 1) := by decide +kernel
theorem dX5_record_28 : decode cX5_record 28 = .ok (.sipush 713, 3) := by decide +kernel
theorem dX5_record_31 : decode cX5_record 31 = .ok (.iadd, 1) := by decide +kernel
theorem dX5_record_32 : decode cX5_record 32 = .ok (.iaload, 1) := by decide +kernel
theorem dX5_record_33 : decode cX5_record 33 = .ok (.iastore, 1) := by decide +kernel
theorem dX5_record_34 : decode cX5_record 34 = .ok (.iinc 1 1, 3) := by decide +kernel
theorem dX5_record_37 : decode cX5_record 37 = .ok (.goto (-26), 3) := by decide +kernel
theorem dX5_record_40 : decode cX5_record 40 = .ok (.aload_n 0, 1) := by decide +kernel
theorem dX5_record_41 : decode cX5_record 41 = .ok (.dup, 1) := by decide +kernel
theorem dX5_record_42 : decode cX5_record 42 = .ok (.getfield 40, 3) := by decide +kernel
theorem dX5_record_45 : decode cX5_record 45 = .ok (.iconst 1, 1) := by decide +kernel
theorem dX5_record_46 : decode cX5_record 46 = .ok (.isub, 1) := by decide +kernel
theorem dX5_record_47 : decode cX5_record 47 = .ok (.putfield 40, 3) := by decide +kernel
theorem dX5_record_50 : decode cX5_record 50 = .ok (.aload_n 0, 1) := by decide +kernel
theorem dX5_record_51 : decode cX5_record 51 = .ok (.getfield 7, 3) := by decide +kernel
theorem dX5_record_54 : decode cX5_record 54 = .ok (.iconst 0, 1) := by decide +kernel
theorem dX5_record_55 : decode cX5_record 55 = .ok (.aload_n 0, 1) := by decide +kernel
theorem dX5_record_56 : decode cX5_record 56 = .ok (.getfield 16, 3) := by decide +kernel
theorem dX5_record_59 : decode cX5_record 59 = .ok (.aload_n 0, 1) := by decide +kernel
theorem dX5_record_60 : decode cX5_record 60 = .ok (.getfield 40, 3) := by decide +kernel
theorem dX5_record_63 : decode cX5_record 63 = .ok (.sipush 713, 3) := by decide +kernel
theorem dX5_record_66 : decode cX5_record 66 = .ok (.imul, 1) := by decide +kernel
theorem dX5_record_67 : decode cX5_record 67 = .ok (.invokestatic 44, 3) := by decide +kernel
theorem dX5_record_70 : decode cX5_record 70 = .ok (.aload_n 0, 1) := by decide +kernel
theorem dX5_record_71 : decode cX5_record 71 = .ok (.dup, 1) := by decide +kernel
theorem dX5_record_72 : decode cX5_record 72 = .ok (.getfield 40, 3) := by decide +kernel
theorem dX5_record_75 : decode cX5_record 75 = .ok (.iconst 1, 1) := by decide +kernel
theorem dX5_record_76 : decode cX5_record 76 = .ok (.iadd, 1) := by decide +kernel
theorem dX5_record_77 : decode cX5_record 77 = .ok (.putfield 40, 3) := by decide +kernel
theorem dX5_record_80 : decode cX5_record 80 = .ok (.return_, 1) := by decide +kernel
set_option maxRecDepth 20000 in
theorem ggX5_isOwner_X5_within : GoodIn wsX5_isOwner wsX5_within := goodIn_r _ [5] (by decide +kernel) (by decide +kernel)
set_option maxRecDepth 20000 in
theorem gX5_isOwner_X5_within : GoodIn wsX5_isOwner (va_wsS RX5 48 yX5_within wsX5_within) := goodIn_app (goodIn_of _ (by decide +kernel)) ggX5_isOwner_X5_within
theorem dX5_isOwner_0 : decode cX5_isOwner 0 = .ok (.iload_n 1, 1) := by decide +kernel
theorem dX5_isOwner_1 : decode cX5_isOwner 1 = .ok (.iconst 0, 1) := by decide +kernel
theorem dX5_isOwner_2 : decode cX5_isOwner 2 = .ok (.aload_n 0, 1) := by decide +kernel
theorem dX5_isOwner_3 : decode cX5_isOwner 3 = .ok (.getfield 7, 3) := by decide +kernel
theorem dX5_isOwner_6 : decode cX5_isOwner 6 = .ok (.iconst 1, 1) := by decide +kernel
theorem dX5_isOwner_7 : decode cX5_isOwner 7 = .ok (.iaload, 1) := by decide +kernel
theorem dX5_isOwner_8 : decode cX5_isOwner 8 = .ok (.iconst 1, 1) := by decide +kernel
theorem dX5_isOwner_9 : decode cX5_isOwner 9 = .ok (.isub, 1) := by decide +kernel
theorem dX5_isOwner_10 : decode cX5_isOwner 10 = .ok (.invokestatic 48, 3) := by decide +kernel
theorem dX5_isOwner_13 : decode cX5_isOwner 13 = .ok (.ireturn, 1) := by decide +kernel
set_option maxRecDepth 20000 in
theorem ggX5_isParcel_X5_within : GoodIn wsX5_isParcel wsX5_within := goodIn_r _ [5] (by decide +kernel) (by decide +kernel)
set_option maxRecDepth 20000 in
theorem gX5_isParcel_X5_within : GoodIn wsX5_isParcel (va_wsS RX5 48 yX5_within wsX5_within) := goodIn_app (goodIn_of _ (by decide +kernel)) ggX5_isParcel_X5_within
theorem dX5_isParcel_0 : decode cX5_isParcel 0 = .ok (.iload_n 1, 1) := by decide +kernel
theorem dX5_isParcel_1 : decode cX5_isParcel 1 = .ok (.iconst 0, 1) := by decide +kernel
theorem dX5_isParcel_2 : decode cX5_isParcel 2 = .ok (.aload_n 0, 1) := by decide +kernel
theorem dX5_isParcel_3 : decode cX5_isParcel 3 = .ok (.getfield 7, 3) := by decide +kernel
theorem dX5_isParcel_6 : decode cX5_isParcel 6 = .ok (.iconst 0, 1) := by decide +kernel
theorem dX5_isParcel_7 : decode cX5_isParcel 7 = .ok (.iaload, 1) := by decide +kernel
theorem dX5_isParcel_8 : decode cX5_isParcel 8 = .ok (.iconst 1, 1) := by decide +kernel
theorem dX5_isParcel_9 : decode cX5_isParcel 9 = .ok (.isub, 1) := by decide +kernel
theorem dX5_isParcel_10 : decode cX5_isParcel 10 = .ok (.invokestatic 48, 3) := by decide +kernel
theorem dX5_isParcel_13 : decode cX5_isParcel 13 = .ok (.ireturn, 1) := by decide +kernel
theorem dX5_part_0 : decode cX5_part 0 = .ok (.aload_n 0, 1) := by decide +kernel
theorem dX5_part_1 : decode cX5_part 1 = .ok (.getfield 7, 3) := by decide +kernel
theorem dX5_part_4 : decode cX5_part 4 = .ok (.sipush 146, 3) := by decide +kernel
theorem dX5_part_7 : decode cX5_part 7 = .ok (.bipush 63, 2) := by decide +kernel
theorem dX5_part_9 : decode cX5_part 9 = .ok (.iload_n 1, 1) := by decide +kernel
theorem dX5_part_10 : decode cX5_part 10 = .ok (.imul, 1) := by decide +kernel
theorem dX5_part_11 : decode cX5_part 11 = .ok (.iadd, 1) := by decide +kernel
theorem dX5_part_12 : decode cX5_part 12 = .ok (.iload_n 2, 1) := by decide +kernel
theorem dX5_part_13 : decode cX5_part 13 = .ok (.iadd, 1) := by decide +kernel
theorem dX5_part_14 : decode cX5_part 14 = .ok (.iaload, 1) := by decide +kernel
theorem dX5_part_15 : decode cX5_part 15 = .ok (.ireturn, 1) := by decide +kernel
theorem dX5_setPart_0 : decode cX5_setPart 0 = .ok (.aload_n 0, 1) := by decide +kernel
theorem dX5_setPart_1 : decode cX5_setPart 1 = .ok (.getfield 7, 3) := by decide +kernel
theorem dX5_setPart_4 : decode cX5_setPart 4 = .ok (.sipush 146, 3) := by decide +kernel
theorem dX5_setPart_7 : decode cX5_setPart 7 = .ok (.bipush 63, 2) := by decide +kernel
theorem dX5_setPart_9 : decode cX5_setPart 9 = .ok (.iload_n 1, 1) := by decide +kernel
theorem dX5_setPart_10 : decode cX5_setPart 10 = .ok (.imul, 1) := by decide +kernel
theorem dX5_setPart_11 : decode cX5_setPart 11 = .ok (.iadd, 1) := by decide +kernel
theorem dX5_setPart_12 : decode cX5_setPart 12 = .ok (.iload_n 2, 1) := by decide +kernel
theorem dX5_setPart_13 : decode cX5_setPart 13 = .ok (.iadd, 1) := by decide +kernel
theorem dX5_setPart_14 : decode cX5_setPart 14 = .ok (.iload_n 3, 1) := by decide +kernel
theorem dX5_setPart_15 : decode cX5_setPart 15 = .ok (.iastore, 1) := by decide +kernel
theorem dX5_setPart_16 : decode cX5_setPart 16 = .ok (.return_, 1) := by decide +kernel
set_option maxRecDepth 20000 in
theorem ggX5_numberOf_X5_part : GoodIn wsX5_numberOf wsX5_part := goodIn_r _ [5, 6, 7, 8, 9, 10, 11, 12, 13, 14, 15, 16, 17, 18, 19] (by decide +kernel) (by decide +kernel)
set_option maxRecDepth 20000 in
theorem gX5_numberOf_X5_part : GoodIn wsX5_numberOf (wsV RX5 52 RX5 yX5_part wsX5_part) := goodIn_app (goodIn_of _ (by decide +kernel)) ggX5_numberOf_X5_part
theorem dX5_numberOf_0 : decode cX5_numberOf 0 = .ok (.aload_n 0, 1) := by decide +kernel
theorem dX5_numberOf_1 : decode cX5_numberOf 1 = .ok (.iload_n 1, 1) := by decide +kernel
theorem dX5_numberOf_2 : decode cX5_numberOf 2 = .ok (.iconst 3, 1) := by decide +kernel
theorem dX5_numberOf_3 : decode cX5_numberOf 3 = .ok (.iload_n 2, 1) := by decide +kernel
theorem dX5_numberOf_4 : decode cX5_numberOf 4 = .ok (.iadd, 1) := by decide +kernel
theorem dX5_numberOf_5 : decode cX5_numberOf 5 = .ok (.invokevirtual 52, 3) := by decide +kernel
theorem dX5_numberOf_8 : decode cX5_numberOf 8 = .ok (.bipush 16, 2) := by decide +kernel
theorem dX5_numberOf_10 : decode cX5_numberOf 10 = .ok (.idiv, 1) := by decide +kernel
theorem dX5_numberOf_11 : decode cX5_numberOf 11 = .ok (.ireturn, 1) := by decide +kernel
set_option maxRecDepth 20000 in
theorem ggX5_issueOf_X5_part : GoodIn wsX5_issueOf wsX5_part := goodIn_r _ [5, 6, 7, 8, 9, 10, 11, 12, 13, 14, 15, 16, 17, 18, 19] (by decide +kernel) (by decide +kernel)
set_option maxRecDepth 20000 in
theorem gX5_issueOf_X5_part : GoodIn wsX5_issueOf (wsV RX5 52 RX5 yX5_part wsX5_part) := goodIn_app (goodIn_of _ (by decide +kernel)) ggX5_issueOf_X5_part
theorem dX5_issueOf_0 : decode cX5_issueOf 0 = .ok (.aload_n 0, 1) := by decide +kernel
theorem dX5_issueOf_1 : decode cX5_issueOf 1 = .ok (.iload_n 1, 1) := by decide +kernel
theorem dX5_issueOf_2 : decode cX5_issueOf 2 = .ok (.iconst 3, 1) := by decide +kernel
theorem dX5_issueOf_3 : decode cX5_issueOf 3 = .ok (.iload_n 2, 1) := by decide +kernel
theorem dX5_issueOf_4 : decode cX5_issueOf 4 = .ok (.iadd, 1) := by decide +kernel
theorem dX5_issueOf_5 : decode cX5_issueOf 5 = .ok (.invokevirtual 52, 3) := by decide +kernel
theorem dX5_issueOf_8 : decode cX5_issueOf 8 = .ok (.bipush 16, 2) := by decide +kernel
theorem dX5_issueOf_10 : decode cX5_issueOf 10 = .ok (.irem, 1) := by decide +kernel
theorem dX5_issueOf_11 : decode cX5_issueOf 11 = .ok (.ireturn, 1) := by decide +kernel
theorem dX5_orderOf_0 : decode cX5_orderOf 0 = .ok (.aload_n 0, 1) := by decide +kernel
theorem dX5_orderOf_1 : decode cX5_orderOf 1 = .ok (.getfield 7, 3) := by decide +kernel
theorem dX5_orderOf_4 : decode cX5_orderOf 4 = .ok (.iconst 2, 1) := by decide +kernel
theorem dX5_orderOf_5 : decode cX5_orderOf 5 = .ok (.bipush 9, 2) := by decide +kernel
theorem dX5_orderOf_7 : decode cX5_orderOf 7 = .ok (.iload_n 1, 1) := by decide +kernel
theorem dX5_orderOf_8 : decode cX5_orderOf 8 = .ok (.imul, 1) := by decide +kernel
theorem dX5_orderOf_9 : decode cX5_orderOf 9 = .ok (.iadd, 1) := by decide +kernel
theorem dX5_orderOf_10 : decode cX5_orderOf 10 = .ok (.iconst 1, 1) := by decide +kernel
theorem dX5_orderOf_11 : decode cX5_orderOf 11 = .ok (.iadd, 1) := by decide +kernel
theorem dX5_orderOf_12 : decode cX5_orderOf 12 = .ok (.iload_n 2, 1) := by decide +kernel
theorem dX5_orderOf_13 : decode cX5_orderOf 13 = .ok (.iadd, 1) := by decide +kernel
theorem dX5_orderOf_14 : decode cX5_orderOf 14 = .ok (.iaload, 1) := by decide +kernel
theorem dX5_orderOf_15 : decode cX5_orderOf 15 = .ok (.ireturn, 1) := by decide +kernel
theorem dX5_bits_0 : decode cX5_bits 0 = .ok (.iconst 0, 1) := by decide +kernel
theorem dX5_bits_1 : decode cX5_bits 1 = .ok (.istore_n 1, 1) := by decide +kernel
theorem dX5_bits_2 : decode cX5_bits 2 = .ok (.iconst 0, 1) := by decide +kernel
theorem dX5_bits_3 : decode cX5_bits 3 = .ok (.istore_n 2, 1) := by decide +kernel
theorem dX5_bits_4 : decode cX5_bits 4 = .ok (.iload_n 2, 1) := by decide +kernel
theorem dX5_bits_5 : decode cX5_bits 5 = .ok (.bipush 16, 2) := by decide +kernel
theorem dX5_bits_7 : decode cX5_bits 7 = .ok (.if_icmp .ge 17, 3) := by decide +kernel
theorem dX5_bits_10 : decode cX5_bits 10 = .ok (.iload_n 1, 1) := by decide +kernel
theorem dX5_bits_11 : decode cX5_bits 11 = .ok (.iload_n 0, 1) := by decide +kernel
theorem dX5_bits_12 : decode cX5_bits 12 = .ok (.iload_n 2, 1) := by decide +kernel
theorem dX5_bits_13 : decode cX5_bits 13 = .ok (.ishr, 1) := by decide +kernel
theorem dX5_bits_14 : decode cX5_bits 14 = .ok (.iconst 1, 1) := by decide +kernel
theorem dX5_bits_15 : decode cX5_bits 15 = .ok (.iand, 1) := by decide +kernel
theorem dX5_bits_16 : decode cX5_bits 16 = .ok (.iadd, 1) := by decide +kernel
theorem dX5_bits_17 : decode cX5_bits 17 = .ok (.istore_n 1, 1) := by decide +kernel
theorem dX5_bits_18 : decode cX5_bits 18 = .ok (.iinc 2 1, 3) := by decide +kernel
theorem dX5_bits_21 : decode cX5_bits 21 = .ok (.goto (-17), 3) := by decide +kernel
theorem dX5_bits_24 : decode cX5_bits 24 = .ok (.iload_n 1, 1) := by decide +kernel
theorem dX5_bits_25 : decode cX5_bits 25 = .ok (.ireturn, 1) := by decide +kernel
set_option maxRecDepth 20000 in
theorem ggX5_remove_X5_part : GoodIn wsX5_remove wsX5_part := goodIn_r _ [5, 6, 11, 12, 13, 14, 15, 16, 17, 18, 19, 20, 21, 22, 23] (by decide +kernel) (by decide +kernel)
set_option maxRecDepth 20000 in
theorem gX5_remove_X5_part : GoodIn wsX5_remove (wsV RX5 52 RX5 yX5_part wsX5_part) := goodIn_app (goodIn_of _ (by decide +kernel)) ggX5_remove_X5_part
set_option maxRecDepth 20000 in
theorem ggX5_remove_X5_setPart : GoodIn wsX5_remove wsX5_setPart := goodIn_r _ [10, 6, 11, 12, 13, 14, 15, 16, 17, 18, 19, 20, 21, 22, 23] (by decide +kernel) (by decide +kernel)
set_option maxRecDepth 20000 in
theorem gX5_remove_X5_setPart : GoodIn wsX5_remove (wsV RX5 56 RX5 yX5_setPart wsX5_setPart) := goodIn_app (goodIn_of _ (by decide +kernel)) ggX5_remove_X5_setPart
theorem dX5_remove_0 : decode cX5_remove 0 = .ok (.iload_n 2, 1) := by decide +kernel
theorem dX5_remove_1 : decode cX5_remove 1 = .ok (.istore_n 3, 1) := by decide +kernel
theorem dX5_remove_2 : decode cX5_remove 2 = .ok (.iload_n 3, 1) := by decide +kernel
theorem dX5_remove_3 : decode cX5_remove 3 = .ok (.aload_n 0, 1) := by decide +kernel
theorem dX5_remove_4 : decode cX5_remove 4 = .ok (.iload_n 1, 1) := by decide +kernel
theorem dX5_remove_5 : decode cX5_remove 5 = .ok (.iconst 0, 1) := by decide +kernel
theorem dX5_remove_6 : decode cX5_remove 6 = .ok (.invokevirtual 52, 3) := by decide +kernel
theorem dX5_remove_9 : decode cX5_remove 9 = .ok (.iconst 1, 1) := by decide +kernel
theorem dX5_remove_10 : decode cX5_remove 10 = .ok (.isub, 1) := by decide +kernel
theorem dX5_remove_11 : decode cX5_remove 11 = .ok (.if_icmp .ge 27, 3) := by decide +kernel
theorem dX5_remove_14 : decode cX5_remove 14 = .ok (.aload_n 0, 1) := by decide +kernel
theorem dX5_remove_15 : decode cX5_remove 15 = .ok (.iload_n 1, 1) := by decide +kernel
theorem dX5_remove_16 : decode cX5_remove 16 = .ok (.iconst 3, 1) := by decide +kernel
theorem dX5_remove_17 : decode cX5_remove 17 = .ok (.iload_n 3, 1) := by decide +kernel
theorem dX5_remove_18 : decode cX5_remove 18 = .ok (.iadd, 1) := by decide +kernel
theorem dX5_remove_19 : decode cX5_remove 19 = .ok (.aload_n 0, 1) := by decide +kernel
theorem dX5_remove_20 : decode cX5_remove 20 = .ok (.iload_n 1, 1) := by decide +kernel
theorem dX5_remove_21 : decode cX5_remove 21 = .ok (.iconst 3, 1) := by decide +kernel
theorem dX5_remove_22 : decode cX5_remove 22 = .ok (.iload_n 3, 1) := by decide +kernel
theorem dX5_remove_23 : decode cX5_remove 23 = .ok (.iadd, 1) := by decide +kernel
theorem dX5_remove_24 : decode cX5_remove 24 = .ok (.iconst 1, 1) := by decide +kernel
theorem dX5_remove_25 : decode cX5_remove 25 = .ok (.iadd, 1) := by decide +kernel
theorem dX5_remove_26 : decode cX5_remove 26 = .ok (.invokevirtual 52, 3) := by decide +kernel
theorem dX5_remove_29 : decode cX5_remove 29 = .ok (.invokevirtual 56, 3) := by decide +kernel
theorem dX5_remove_32 : decode cX5_remove 32 = .ok (.iinc 3 1, 3) := by decide +kernel
theorem dX5_remove_35 : decode cX5_remove 35 = .ok (.goto (-33), 3) := by decide +kernel
theorem dX5_remove_38 : decode cX5_remove 38 = .ok (.aload_n 0, 1) := by decide +kernel
theorem dX5_remove_39 : decode cX5_remove 39 = .ok (.iload_n 1, 1) := by decide +kernel
theorem dX5_remove_40 : decode cX5_remove 40 = .ok (.iconst 0, 1) := by decide +kernel
theorem dX5_remove_41 : decode cX5_remove 41 = .ok (.aload_n 0, 1) := by decide +kernel
theorem dX5_remove_42 : decode cX5_remove 42 = .ok (.iload_n 1, 1) := by decide +kernel
theorem dX5_remove_43 : decode cX5_remove 43 = .ok (.iconst 0, 1) := by decide +kernel
theorem dX5_remove_44 : decode cX5_remove 44 = .ok (.invokevirtual 52, 3) := by decide +kernel
theorem dX5_remove_47 : decode cX5_remove 47 = .ok (.iconst 1, 1) := by decide +kernel
theorem dX5_remove_48 : decode cX5_remove 48 = .ok (.isub, 1) := by decide +kernel
theorem dX5_remove_49 : decode cX5_remove 49 = .ok (.invokevirtual 56, 3) := by decide +kernel
theorem dX5_remove_52 : decode cX5_remove 52 = .ok (.aload_n 0, 1) := by decide +kernel
theorem dX5_remove_53 : decode cX5_remove 53 = .ok (.iload_n 1, 1) := by decide +kernel
theorem dX5_remove_54 : decode cX5_remove 54 = .ok (.iconst 3, 1) := by decide +kernel
theorem dX5_remove_55 : decode cX5_remove 55 = .ok (.aload_n 0, 1) := by decide +kernel
theorem dX5_remove_56 : decode cX5_remove 56 = .ok (.iload_n 1, 1) := by decide +kernel
theorem dX5_remove_57 : decode cX5_remove 57 = .ok (.iconst 0, 1) := by decide +kernel
theorem dX5_remove_58 : decode cX5_remove 58 = .ok (.invokevirtual 52, 3) := by decide +kernel
theorem dX5_remove_61 : decode cX5_remove 61 = .ok (.iadd, 1) := by decide +kernel
theorem dX5_remove_62 : decode cX5_remove 62 = .ok (.iconst 0, 1) := by decide +kernel
theorem dX5_remove_63 : decode cX5_remove 63 = .ok (.invokevirtual 56, 3) := by decide +kernel
theorem dX5_remove_66 : decode cX5_remove 66 = .ok (.return_, 1) := by decide +kernel
set_option maxRecDepth 20000 in
theorem ggX5_comes_X5_part : GoodIn wsX5_comes wsX5_part := goodIn_r _ [5, 6, 11, 12, 13, 14, 15, 16, 17, 18, 19, 20, 21, 22, 23] (by decide +kernel) (by decide +kernel)
set_option maxRecDepth 20000 in
theorem gX5_comes_X5_part : GoodIn wsX5_comes (wsV RX5 52 RX5 yX5_part wsX5_part) := goodIn_app (goodIn_of _ (by decide +kernel)) ggX5_comes_X5_part
set_option maxRecDepth 20000 in
theorem ggX5_comes_X5_setPart : GoodIn wsX5_comes wsX5_setPart := goodIn_r _ [10, 6, 11, 12, 13, 14, 15, 16, 17, 18, 19, 20, 21, 22, 23] (by decide +kernel) (by decide +kernel)
set_option maxRecDepth 20000 in
theorem gX5_comes_X5_setPart : GoodIn wsX5_comes (wsV RX5 56 RX5 yX5_setPart wsX5_setPart) := goodIn_app (goodIn_of _ (by decide +kernel)) ggX5_comes_X5_setPart
theorem dX5_comes_0 : decode cX5_comes 0 = .ok (.aload_n 0, 1) := by decide +kernel
theorem dX5_comes_1 : decode cX5_comes 1 = .ok (.iload_n 1, 1) := by decide +kernel
theorem dX5_comes_2 : decode cX5_comes 2 = .ok (.iconst 0, 1) := by decide +kernel
theorem dX5_comes_3 : decode cX5_comes 3 = .ok (.invokevirtual 52, 3) := by decide +kernel
theorem dX5_comes_6 : decode cX5_comes 6 = .ok (.bipush 60, 2) := by decide +kernel
theorem dX5_comes_8 : decode cX5_comes 8 = .ok (.if_icmp .ge 36, 3) := by decide +kernel
theorem dX5_comes_11 : decode cX5_comes 11 = .ok (.aload_n 0, 1) := by decide +kernel
theorem dX5_comes_12 : decode cX5_comes 12 = .ok (.iload_n 1, 1) := by decide +kernel
theorem dX5_comes_13 : decode cX5_comes 13 = .ok (.iconst 3, 1) := by decide +kernel
theorem dX5_comes_14 : decode cX5_comes 14 = .ok (.aload_n 0, 1) := by decide +kernel
theorem dX5_comes_15 : decode cX5_comes 15 = .ok (.iload_n 1, 1) := by decide +kernel
theorem dX5_comes_16 : decode cX5_comes 16 = .ok (.iconst 0, 1) := by decide +kernel
theorem dX5_comes_17 : decode cX5_comes 17 = .ok (.invokevirtual 52, 3) := by decide +kernel
theorem dX5_comes_20 : decode cX5_comes 20 = .ok (.iadd, 1) := by decide +kernel
theorem dX5_comes_21 : decode cX5_comes 21 = .ok (.bipush 16, 2) := by decide +kernel
theorem dX5_comes_23 : decode cX5_comes 23 = .ok (.iload_n 2, 1) := by decide +kernel
theorem dX5_comes_24 : decode cX5_comes 24 = .ok (.imul, 1) := by decide +kernel
theorem dX5_comes_25 : decode cX5_comes 25 = .ok (.iload_n 3, 1) := by decide +kernel
theorem dX5_comes_26 : decode cX5_comes 26 = .ok (.iadd, 1) := by decide +kernel
theorem dX5_comes_27 : decode cX5_comes 27 = .ok (.invokevirtual 56, 3) := by decide +kernel
theorem dX5_comes_30 : decode cX5_comes 30 = .ok (.aload_n 0, 1) := by decide +kernel
theorem dX5_comes_31 : decode cX5_comes 31 = .ok (.iload_n 1, 1) := by decide +kernel
theorem dX5_comes_32 : decode cX5_comes 32 = .ok (.iconst 0, 1) := by decide +kernel
theorem dX5_comes_33 : decode cX5_comes 33 = .ok (.aload_n 0, 1) := by decide +kernel
theorem dX5_comes_34 : decode cX5_comes 34 = .ok (.iload_n 1, 1) := by decide +kernel
theorem dX5_comes_35 : decode cX5_comes 35 = .ok (.iconst 0, 1) := by decide +kernel
theorem dX5_comes_36 : decode cX5_comes 36 = .ok (.invokevirtual 52, 3) := by decide +kernel
theorem dX5_comes_39 : decode cX5_comes 39 = .ok (.iconst 1, 1) := by decide +kernel
theorem dX5_comes_40 : decode cX5_comes 40 = .ok (.iadd, 1) := by decide +kernel
theorem dX5_comes_41 : decode cX5_comes 41 = .ok (.invokevirtual 56, 3) := by decide +kernel
theorem dX5_comes_44 : decode cX5_comes 44 = .ok (.return_, 1) := by decide +kernel
set_option maxRecDepth 20000 in
theorem ggX5_removeAll_X5_part : GoodIn wsX5_removeAll wsX5_part := goodIn_r _ [5, 6, 19, 20, 21, 22, 23, 24, 25, 26, 27, 28, 29, 30, 31] (by decide +kernel) (by decide +kernel)
set_option maxRecDepth 20000 in
theorem gX5_removeAll_X5_part : GoodIn wsX5_removeAll (wsV RX5 52 RX5 yX5_part wsX5_part) := goodIn_app (goodIn_of _ (by decide +kernel)) ggX5_removeAll_X5_part
set_option maxRecDepth 20000 in
theorem ggX5_removeAll_X5_numberOf : GoodIn wsX5_removeAll wsX5_numberOf := goodIn_r _ [10, 1, 2, 3, 4, 5, 6, 19, 20, 21, 22, 23, 24, 25, 26, 27, 28, 29, 30, 31] (by decide +kernel) (by decide +kernel)
set_option maxRecDepth 20000 in
theorem gX5_removeAll_X5_numberOf : GoodIn wsX5_removeAll (wsV RX5 60 RX5 yX5_numberOf wsX5_numberOf) := goodIn_app (goodIn_of _ (by decide +kernel)) ggX5_removeAll_X5_numberOf
set_option maxRecDepth 20000 in
theorem ggX5_removeAll_X5_remove : GoodIn wsX5_removeAll wsX5_remove := goodIn_r _ [14, 1, 2, 3, 4, 5, 6, 15, 16, 17, 18, 19, 20, 21, 22, 23, 24, 25, 26, 27, 28, 29, 30, 31] (by decide +kernel) (by decide +kernel)
set_option maxRecDepth 20000 in
theorem gX5_removeAll_X5_remove : GoodIn wsX5_removeAll (wsV RX5 63 RX5 yX5_remove wsX5_remove) := goodIn_app (goodIn_of _ (by decide +kernel)) ggX5_removeAll_X5_remove
theorem dX5_removeAll_0 : decode cX5_removeAll 0 = .ok (.aload_n 0, 1) := by decide +kernel
theorem dX5_removeAll_1 : decode cX5_removeAll 1 = .ok (.iload_n 1, 1) := by decide +kernel
theorem dX5_removeAll_2 : decode cX5_removeAll 2 = .ok (.iconst 0, 1) := by decide +kernel
theorem dX5_removeAll_3 : decode cX5_removeAll 3 = .ok (.invokevirtual 52, 3) := by decide +kernel
theorem dX5_removeAll_6 : decode cX5_removeAll 6 = .ok (.iconst 1, 1) := by decide +kernel
theorem dX5_removeAll_7 : decode cX5_removeAll 7 = .ok (.isub, 1) := by decide +kernel
theorem dX5_removeAll_8 : decode cX5_removeAll 8 = .ok (.istore_n 3, 1) := by decide +kernel
theorem dX5_removeAll_9 : decode cX5_removeAll 9 = .ok (.iload_n 3, 1) := by decide +kernel
theorem dX5_removeAll_10 : decode cX5_removeAll 10 = .ok (.ifCond .lt 25, 3) := by decide +kernel
theorem dX5_removeAll_13 : decode cX5_removeAll 13 = .ok (.aload_n 0, 1) := by decide +kernel
theorem dX5_removeAll_14 : decode cX5_removeAll 14 = .ok (.iload_n 1, 1) := by decide +kernel
theorem dX5_removeAll_15 : decode cX5_removeAll 15 = .ok (.iload_n 3, 1) := by decide +kernel
theorem dX5_removeAll_16 : decode cX5_removeAll 16 = .ok (.invokevirtual 60, 3) := by decide +kernel
theorem dX5_removeAll_19 : decode cX5_removeAll 19 = .ok (.iload_n 2, 1) := by decide +kernel
theorem dX5_removeAll_20 : decode cX5_removeAll 20 = .ok (.if_icmp .ne 9, 3) := by decide +kernel
theorem dX5_removeAll_23 : decode cX5_removeAll 23 = .ok (.aload_n 0, 1) := by decide +kernel
theorem dX5_removeAll_24 : decode cX5_removeAll 24 = .ok (.iload_n 1, 1) := by decide +kernel
theorem dX5_removeAll_25 : decode cX5_removeAll 25 = .ok (.iload_n 3, 1) := by decide +kernel
theorem dX5_removeAll_26 : decode cX5_removeAll 26 = .ok (.invokevirtual 63, 3) := by decide +kernel
theorem dX5_removeAll_29 : decode cX5_removeAll 29 = .ok (.iinc 3 (-1), 3) := by decide +kernel
theorem dX5_removeAll_32 : decode cX5_removeAll 32 = .ok (.goto (-23), 3) := by decide +kernel
theorem dX5_removeAll_35 : decode cX5_removeAll 35 = .ok (.return_, 1) := by decide +kernel
set_option maxRecDepth 20000 in
theorem ggX5_earliest_X5_part : GoodIn wsX5_earliest wsX5_part := goodIn_r _ [5, 6, 15, 16, 17, 18, 19, 20, 21, 22, 23, 24, 25, 26, 27] (by decide +kernel) (by decide +kernel)
set_option maxRecDepth 20000 in
theorem gX5_earliest_X5_part : GoodIn wsX5_earliest (wsV RX5 52 RX5 yX5_part wsX5_part) := goodIn_app (goodIn_of _ (by decide +kernel)) ggX5_earliest_X5_part
set_option maxRecDepth 20000 in
theorem ggX5_earliest_X5_numberOf : GoodIn wsX5_earliest wsX5_numberOf := goodIn_r _ [10, 1, 2, 3, 4, 5, 6, 15, 16, 17, 18, 19, 20, 21, 22, 23, 24, 25, 26, 27] (by decide +kernel) (by decide +kernel)
set_option maxRecDepth 20000 in
theorem gX5_earliest_X5_numberOf : GoodIn wsX5_earliest (wsV RX5 60 RX5 yX5_numberOf wsX5_numberOf) := goodIn_app (goodIn_of _ (by decide +kernel)) ggX5_earliest_X5_numberOf
set_option maxRecDepth 20000 in
theorem ggX5_earliest_X5_issueOf : GoodIn wsX5_earliest wsX5_issueOf := goodIn_r _ [14, 1, 2, 3, 4, 5, 6, 15, 16, 17, 18, 19, 20, 21, 22, 23, 24, 25, 26, 27] (by decide +kernel) (by decide +kernel)
set_option maxRecDepth 20000 in
theorem gX5_earliest_X5_issueOf : GoodIn wsX5_earliest (wsV RX5 67 RX5 yX5_issueOf wsX5_issueOf) := goodIn_app (goodIn_of _ (by decide +kernel)) ggX5_earliest_X5_issueOf
theorem dX5_earliest_0 : decode cX5_earliest 0 = .ok (.bipush (-6), 2) := by decide +kernel
theorem dX5_earliest_2 : decode cX5_earliest 2 = .ok (.istore_n 3, 1) := by decide +kernel
theorem dX5_earliest_3 : decode cX5_earliest 3 = .ok (.iconst 0, 1) := by decide +kernel
theorem dX5_earliest_4 : decode cX5_earliest 4 = .ok (.istore 4, 2) := by decide +kernel
theorem dX5_earliest_6 : decode cX5_earliest 6 = .ok (.iload 4, 2) := by decide +kernel
theorem dX5_earliest_8 : decode cX5_earliest 8 = .ok (.aload_n 0, 1) := by decide +kernel
theorem dX5_earliest_9 : decode cX5_earliest 9 = .ok (.iload_n 1, 1) := by decide +kernel
theorem dX5_earliest_10 : decode cX5_earliest 10 = .ok (.iconst 0, 1) := by decide +kernel
theorem dX5_earliest_11 : decode cX5_earliest 11 = .ok (.invokevirtual 52, 3) := by decide +kernel
theorem dX5_earliest_14 : decode cX5_earliest 14 = .ok (.if_icmp .ge 49, 3) := by decide +kernel
theorem dX5_earliest_17 : decode cX5_earliest 17 = .ok (.aload_n 0, 1) := by decide +kernel
theorem dX5_earliest_18 : decode cX5_earliest 18 = .ok (.iload_n 1, 1) := by decide +kernel
theorem dX5_earliest_19 : decode cX5_earliest 19 = .ok (.iload 4, 2) := by decide +kernel
